theorem df_7 : rx_df 7 = [.null, .null, .null, .null, .null, .null, .null, .null, .int 0, .int 0, .int 0] := rfl
/-- the class, newly made -/
def cN (h : rx_H) : Prop := rx_rd h 1 = some (bO 0 0 0) ∧ cPR h ∧ (∀ p, p < 4 → pW h (66 + 8 * p) 1 (fun _ => 0)) ∧ (∀ p, p < 4 → oF h (68 + 8 * p)) ∧ psI h (fun _ _ => 0) 0 ∧ tI h 0 (fun _ => 0) ∧ sN h.2.2 ∧ kI h ∧ pgI h ∧ pW h 64 1 (fun _ => 0)
theorem sN_sm {h h' : rx_H} (hs : Sm h h' 49 55) (hn : sN h.2.2) : sN h'.2.2 := by
  obtain ⟨a1, a2, a3, a4, a5, a6, a7⟩ := hn
  exact ⟨(hs 49 (by omega) (by omega)).trans a1, (hs 50 (by omega) (by omega)).trans a2, (hs 51 (by omega) (by omega)).trans a3, (hs 52 (by omega) (by omega)).trans a4, (hs 53 (by omega) (by omega)).trans a5, (hs 54 (by omega) (by omega)).trans a6, (hs 55 (by omega) (by omega)).trans a7⟩
theorem l_X7i {s0 : Nat} {m1 : Nat → Option rx_C} (g1 : m1 1 = some (bO 0 0 0)) (Q : Option Value → rx_H → Prop)
    (hq : ∀ m, (∀ i, i < 66 → ¬ i = 2 → ¬ i = 3 → m i = m1 i) → cPR (98, s0 + 3344, m) → (∀ p, p < 4 → pW (98, s0 + 3344, m) (66 + 8 * p) 1 (fun _ => 0)) → (∀ p, p < 4 → oF (98, s0 + 3344, m) (68 + 8 * p)) → Q none (98, s0 + 3344, m)) :
    ∀ j p m f2 f3, p + j = 4 → (∀ i, i < 66 → ¬ i = 2 → ¬ i = 3 → m i = m1 i) → m 2 = some (rwO 2 4 f2) → m 3 = some (rwO 3 4 f3) → (∀ k, k < p → f2 k = some (66 + 8 * k)) → (∀ k, k < p → f3 k = some (68 + 8 * k)) → (∀ k, k < p → pW (66 + 8 * p, s0 + 836 * p, m) (66 + 8 * k) 1 (fun _ => 0)) → (∀ k, k < p → oF (66 + 8 * p, s0 + 836 * p, m) (68 + 8 * k)) → rx_R 68 103 [.ref 1, .int (nI p)] [] (66 + 8 * p, s0 + 836 * p, m) Q
  | 0, p, m, f2, f3, e, h0, h2, h3, k2, k3, q1, q2 => by
    have e' : p = 4 := by omega
    subst e'
    apply rx_wp_sound 60 [103]
    simp (disch := first | decide | omega) only [rx_W, rx_wp_succ, rx_nx_stop, rx_nx_go, rx_lx_some, rx_fx_some, rx_ax_some, rx_qx_some, rx_ox_some, rx_vx_ref, rx_ix_ref, rx_ld_0, rx_ld_2, rx_ld_3, rx_cx_some, rx_nl, List.getElem?_cons_zero, List.getElem?_cons_succ, List.set_cons_zero, List.set_cons_succ, List.length_cons, List.length_nil, List.take_succ_cons, List.take_zero, List.drop_succ_cons, List.drop_zero, List.reverse_cons, List.reverse_nil, List.nil_append, List.cons_append, Option.toList_some, Option.toList_none, true_and, and_true, and_self, true_or, or_true, false_and, and_false, false_or, or_false, not_false_eq_true, Nat.reduceAdd, Nat.reduceLT, Nat.reduceLeDiff, Nat.reduceBEq, Nat.reduceEqDiff, Bool.or_false, Bool.false_or, if_true, if_false, Bool.false_eq_true, nq_eq, nq_lt, nq_le, nq_in_t, nq_bd, nq_ft, nq_clamp, nq_shl31, nq_shr31, nq_bitb, nq_add, nq_mul, fa_and, fa_or, nq_b0, nq_b1, nq_b01, ↓ni_lt_t, ↓ni_lt_f, ↓ni_le_t, ↓ni_le_f, ↓ni_eq_t, ↓ni_eq_f, ↓ni_beq_t, ↓ni_beq_f, it_X7_init, it_X7_init_1]
    exact hq m h0 ⟨⟨f2, h2, k2⟩, f3, h3, k3⟩ q1 q2
  | j + 1, p, m, f2, f3, e, h0, h2, h3, k2, k3, q1, q2 => by
    have b1 : m 1 = some (bO 0 0 0) := (h0 1 (by omega) (by omega) (by omega)).trans g1
    apply rx_wp_sound 60 [103]
    simp (disch := first | decide | omega) only [rx_W, rx_wp_succ, rx_nx_stop, rx_nx_go, rx_lx_some, rx_fx_some, rx_ax_some, rx_qx_some, rx_ox_some, rx_vx_ref, rx_ix_ref, rx_ld_0, rx_ld_2, rx_ld_3, rx_cx_some, rx_nl, List.getElem?_cons_zero, List.getElem?_cons_succ, List.set_cons_zero, List.set_cons_succ, List.length_cons, List.length_nil, List.take_succ_cons, List.take_zero, List.drop_succ_cons, List.drop_zero, List.reverse_cons, List.reverse_nil, List.nil_append, List.cons_append, Option.toList_some, Option.toList_none, true_and, and_true, and_self, true_or, or_true, false_and, and_false, false_or, or_false, not_false_eq_true, Nat.reduceAdd, Nat.reduceLT, Nat.reduceLeDiff, Nat.reduceBEq, Nat.reduceEqDiff, Bool.or_false, Bool.false_or, if_true, if_false, Bool.false_eq_true, nq_eq, nq_lt, nq_le, nq_in_t, nq_bd, nq_ft, nq_clamp, nq_shl31, nq_shr31, nq_bitb, nq_add, nq_mul, fa_and, fa_or, nq_b0, nq_b1, nq_b01, ↓ni_lt_t, ↓ni_lt_f, ↓ni_le_t, ↓ni_le_f, ↓ni_eq_t, ↓ni_eq_f, ↓ni_beq_t, ↓ni_beq_f, it_X7_init, it_X7_init_1, b1, bO, nw_t, up_t, rd_t, mu_eq, mu_ne]
    refine ⟨by omega, rx_Cl_imp (i_X4 (o := 66 + 8 * p) (sl := s0 + 836 * p + 3) (m := mu m (66 + 8 * p) (.inr (4, rx_df 4))) (by omega) (mu_eq _ _ _)) (fun r h' hh => ?_)⟩
    obtain ⟨e', m', e2, y1, y2⟩ := hh
    subst e'
    subst e2
    have ne : ¬ 66 + 8 * p = 0 := by omega
    have c1 : m' 1 = some (bO 0 0 0) := by rw [y1 1 (by omega), mu_ne (by omega)]; exact b1
    have c2 : m' 2 = some (rwO 2 4 f2) := by rw [y1 2 (by omega), mu_ne (by omega)]; exact h2
    have c3 : m' 3 = some (rwO 3 4 f3) := by rw [y1 3 (by omega), mu_ne (by omega)]; exact h3
    have g4 := y2.1
    rw [rd_t] at g4
    simp (disch := first | decide | omega) only [rx_W, rx_wp_succ, rx_nx_stop, rx_nx_go, rx_lx_some, rx_fx_some, rx_ax_some, rx_qx_some, rx_ox_some, rx_vx_ref, rx_ix_ref, rx_ld_0, rx_ld_2, rx_ld_3, rx_cx_some, rx_nl, List.getElem?_cons_zero, List.getElem?_cons_succ, List.set_cons_zero, List.set_cons_succ, List.length_cons, List.length_nil, List.take_succ_cons, List.take_zero, List.drop_succ_cons, List.drop_zero, List.reverse_cons, List.reverse_nil, List.nil_append, List.cons_append, Option.toList_some, Option.toList_none, true_and, and_true, and_self, true_or, or_true, false_and, and_false, false_or, or_false, not_false_eq_true, Nat.reduceAdd, Nat.reduceLT, Nat.reduceLeDiff, Nat.reduceBEq, Nat.reduceEqDiff, Bool.or_false, Bool.false_or, if_true, if_false, Bool.false_eq_true, nq_eq, nq_lt, nq_le, nq_in_t, nq_bd, nq_ft, nq_clamp, nq_shl31, nq_shr31, nq_bitb, nq_add, nq_mul, fa_and, fa_or, nq_b0, nq_b1, nq_b01, ↓ni_lt_t, ↓ni_lt_f, ↓ni_le_t, ↓ni_le_f, ↓ni_eq_t, ↓ni_eq_f, ↓ni_beq_t, ↓ni_beq_f, it_X7_init, it_X7_init_1, rd_t, c1, c2, c3, bO, rwO, g4, rx_tc, up_t, nw_t, mu_eq, mu_ne, ne]
    refine rx_Cl_imp (i_X1 (o := 66 + 8 * p + 2) (sl := s0 + 836 * p + 3 + 40 + 9) (m := mu (mu m' 2 (rwO 2 4 (va_up f2 p (some (66 + 8 * p))))) (66 + 8 * p + 2) (.inr (1, rx_df 1))) (by omega) (mu_eq _ _ _)) (fun r h' hh => ?_)
    obtain ⟨e', m2, e2, z1, z2⟩ := hh
    subst e'
    subst e2
    have d3 : m2 3 = some (rwO 3 4 f3) := by rw [z1 3 (by omega), mu_ne (by omega), mu_ne (by omega)]; exact c3
    have z2' := z2
    obtain ⟨sb, lo, n, O, R, N, F, A, ⟨d4, -⟩, -⟩ := z2'
    rw [rd_t] at d4
    simp (disch := first | decide | omega) only [rx_W, rx_wp_succ, rx_nx_stop, rx_nx_go, rx_lx_some, rx_fx_some, rx_ax_some, rx_qx_some, rx_ox_some, rx_vx_ref, rx_ix_ref, rx_ld_0, rx_ld_2, rx_ld_3, rx_cx_some, rx_nl, List.getElem?_cons_zero, List.getElem?_cons_succ, List.set_cons_zero, List.set_cons_succ, List.length_cons, List.length_nil, List.take_succ_cons, List.take_zero, List.drop_succ_cons, List.drop_zero, List.reverse_cons, List.reverse_nil, List.nil_append, List.cons_append, Option.toList_some, Option.toList_none, true_and, and_true, and_self, true_or, or_true, false_and, and_false, false_or, or_false, not_false_eq_true, Nat.reduceAdd, Nat.reduceLT, Nat.reduceLeDiff, Nat.reduceBEq, Nat.reduceEqDiff, Bool.or_false, Bool.false_or, if_true, if_false, Bool.false_eq_true, nq_eq, nq_lt, nq_le, nq_in_t, nq_bd, nq_ft, nq_clamp, nq_shl31, nq_shr31, nq_bitb, nq_add, nq_mul, fa_and, fa_or, nq_b0, nq_b1, nq_b01, ↓ni_lt_t, ↓ni_lt_f, ↓ni_le_t, ↓ni_le_f, ↓ni_eq_t, ↓ni_eq_f, ↓ni_beq_t, ↓ni_beq_f, it_X7_init, it_X7_init_1, rd_t, d3, rwO, d4, rx_tc, up_t]
    rw [show 66 + 8 * p + 2 + 6 = 66 + 8 * (p + 1) by omega, show s0 + 836 * p + 3 + 40 + 9 + 784 = s0 + 836 * (p + 1) by omega]
    have fr : ∀ x, x < 66 + 8 * p → ¬ x = 2 → ¬ x = 3 → ∀ c, mu m2 3 c x = m x := fun x a b d c => by
      rw [mu_ne d, z1 x (by omega), mu_ne (by omega), mu_ne b, y1 x (by omega), mu_ne (by omega)]
    refine l_X7i g1 Q hq j (p + 1) _ (va_up f2 p (some (66 + 8 * p))) (va_up f3 p (some (66 + 8 * p + 2))) (by omega) (fun i a b c => ?_) ?_ (mu_eq _ _ _) (fun k hk => ?_) (fun k hk => ?_) (fun k hk => ?_) (fun k hk => ?_)
    · rw [fr i (by omega) b c]
      exact h0 i a b c
    · rw [mu_ne (by omega), z1 2 (by omega), mu_ne (by omega), mu_eq]
    · by_cases c : k = p
      · rw [c, vo_eq]
      · rw [vo_ne c]
        exact k2 k (by omega)
    · by_cases c : k = p
      · rw [c, vo_eq, show 66 + 8 * p + 2 = 68 + 8 * p by omega]
      · rw [vo_ne c]
        exact k3 k (by omega)
    · by_cases c : k = p
      · subst c
        refine pW_sm (a := 66 + 8 * k) (b := 67 + 8 * k) (fun x a b => ?_) (by omega) (by omega) y2
        rw [rd_t, rd_t, mu_ne (by omega), z1 x (by omega), mu_ne (by omega), mu_ne (by omega)]
      · refine pW_sm (a := 66) (b := 65 + 8 * p) (fun x a b => ?_) (by omega) (by omega) (q1 k (by omega))
        rw [rd_t, rd_t]
        exact fr x (by omega) (by omega) (by omega) _
    · by_cases c : k = p
      · subst c
        rw [show 68 + 8 * k = 66 + 8 * k + 2 by omega]
        refine oF_sm (a := 66) (b := 66 + 8 * (k + 1)) (fun x a b => ?_) (by omega) (by omega) z2
        rw [rd_t, rd_t, mu_ne (by omega)]
      · refine oF_sm (a := 66) (b := 65 + 8 * p) (fun x a b => ?_) (by omega) (by omega) (q2 k (by omega))
        rw [rd_t, rd_t]
        exact fr x (by omega) (by omega) (by omega) _
theorem i_X7 {sl : Nat} {m : Nat → Option rx_C} (h1 : m 1 = some (.inr (7, rx_df 7))) : rx_Cl 68 [.ref 1] (2, sl, m) (fun r h' => r = none ∧ ∃ m', h' = (98, sl + 6925, m') ∧ m' 0 = m 0 ∧ cN h') := by
  apply en_X7_init _ 60 [103]
  simp (disch := first | decide | omega) only [rx_W, rx_wp_succ, rx_nx_stop, rx_nx_go, rx_lx_some, rx_fx_some, rx_ax_some, rx_qx_some, rx_ox_some, rx_vx_ref, rx_ix_ref, rx_ld_0, rx_ld_2, rx_ld_3, rx_cx_some, rx_nl, List.getElem?_cons_zero, List.getElem?_cons_succ, List.set_cons_zero, List.set_cons_succ, List.length_cons, List.length_nil, List.take_succ_cons, List.take_zero, List.drop_succ_cons, List.drop_zero, List.reverse_cons, List.reverse_nil, List.nil_append, List.cons_append, Option.toList_some, Option.toList_none, true_and, and_true, and_self, true_or, or_true, false_and, and_false, false_or, or_false, not_false_eq_true, Nat.reduceAdd, Nat.reduceLT, Nat.reduceLeDiff, Nat.reduceBEq, Nat.reduceEqDiff, Bool.or_false, Bool.false_or, if_true, if_false, Bool.false_eq_true, nq_eq, nq_lt, nq_le, nq_in_t, nq_bd, nq_ft, nq_clamp, nq_shl31, nq_shr31, nq_bitb, nq_add, nq_mul, fa_and, fa_or, nq_b0, nq_b1, nq_b01, ↓ni_lt_t, ↓ni_lt_f, ↓ni_le_t, ↓ni_le_f, ↓ni_eq_t, ↓ni_eq_f, ↓ni_beq_t, ↓ni_beq_f, it_X7_init, it_X7_init_1, h1, df_7, rx_ft, nw_t, up_t, rd_t, mu_eq, mu_ne, nq_nb]
  refine rx_Cl_imp (i_X3 (mu_eq _ _ _)) (fun r h' hh => ?_)
  obtain ⟨e', m3, e2, a1, a2⟩ := hh
  subst e'
  subst e2
  have u0 := a1 0 (by omega)
  have u1 := a1 1 (by omega)
  have u2 := a1 2 (by omega)
  have u3 := a1 3 (by omega)
  simp (disch := first | decide | omega) only [mu_eq, mu_ne] at u0 u1 u2 u3
  simp (disch := first | decide | omega) only [rx_W, rx_wp_succ, rx_nx_stop, rx_nx_go, rx_lx_some, rx_fx_some, rx_ax_some, rx_qx_some, rx_ox_some, rx_vx_ref, rx_ix_ref, rx_ld_0, rx_ld_2, rx_ld_3, rx_cx_some, rx_nl, List.getElem?_cons_zero, List.getElem?_cons_succ, List.set_cons_zero, List.set_cons_succ, List.length_cons, List.length_nil, List.take_succ_cons, List.take_zero, List.drop_succ_cons, List.drop_zero, List.reverse_cons, List.reverse_nil, List.nil_append, List.cons_append, Option.toList_some, Option.toList_none, true_and, and_true, and_self, true_or, or_true, false_and, and_false, false_or, or_false, not_false_eq_true, Nat.reduceAdd, Nat.reduceLT, Nat.reduceLeDiff, Nat.reduceBEq, Nat.reduceEqDiff, Bool.or_false, Bool.false_or, if_true, if_false, Bool.false_eq_true, nq_eq, nq_lt, nq_le, nq_in_t, nq_bd, nq_ft, nq_clamp, nq_shl31, nq_shr31, nq_bitb, nq_add, nq_mul, fa_and, fa_or, nq_b0, nq_b1, nq_b01, ↓ni_lt_t, ↓ni_lt_f, ↓ni_le_t, ↓ni_le_f, ↓ni_eq_t, ↓ni_eq_f, ↓ni_beq_t, ↓ni_beq_f, it_X7_init, it_X7_init_1, u1, rx_ft, nw_t, up_t, rd_t, mu_eq, mu_ne, nq_nb]
  refine rx_Cl_imp (i_X6 (mu_eq _ _ _)) (fun r h' hh => ?_)
  obtain ⟨e', m6, e2, bX6, cX6⟩ := hh
  subst e'
  subst e2
  have fX6 : ∀ x, x < 46 → ¬ x = 1 → m6 x = m3 x := fun x a b => by rw [bX6 x a, mu_ne (by omega), mu_ne b]
  have vX6 := bX6 1 (by omega)
  simp (disch := first | decide | omega) only [mu_eq, mu_ne] at vX6
  simp (disch := first | decide | omega) only [rx_W, rx_wp_succ, rx_nx_stop, rx_nx_go, rx_lx_some, rx_fx_some, rx_ax_some, rx_qx_some, rx_ox_some, rx_vx_ref, rx_ix_ref, rx_ld_0, rx_ld_2, rx_ld_3, rx_cx_some, rx_nl, List.getElem?_cons_zero, List.getElem?_cons_succ, List.set_cons_zero, List.set_cons_succ, List.length_cons, List.length_nil, List.take_succ_cons, List.take_zero, List.drop_succ_cons, List.drop_zero, List.reverse_cons, List.reverse_nil, List.nil_append, List.cons_append, Option.toList_some, Option.toList_none, true_and, and_true, and_self, true_or, or_true, false_and, and_false, false_or, or_false, not_false_eq_true, Nat.reduceAdd, Nat.reduceLT, Nat.reduceLeDiff, Nat.reduceBEq, Nat.reduceEqDiff, Bool.or_false, Bool.false_or, if_true, if_false, Bool.false_eq_true, nq_eq, nq_lt, nq_le, nq_in_t, nq_bd, nq_ft, nq_clamp, nq_shl31, nq_shr31, nq_bitb, nq_add, nq_mul, fa_and, fa_or, nq_b0, nq_b1, nq_b01, ↓ni_lt_t, ↓ni_lt_f, ↓ni_le_t, ↓ni_le_f, ↓ni_eq_t, ↓ni_eq_f, ↓ni_beq_t, ↓ni_beq_f, it_X7_init, it_X7_init_1, vX6, rx_ft, nw_t, up_t, rd_t, mu_eq, mu_ne, nq_nb]
  refine rx_Cl_imp (i_X5 (mu_eq _ _ _)) (fun r h' hh => ?_)
  obtain ⟨e', m5, e2, bX5, cX5⟩ := hh
  subst e'
  subst e2
  have fX5 : ∀ x, x < 49 → ¬ x = 1 → m5 x = m6 x := fun x a b => by rw [bX5 x a, mu_ne (by omega), mu_ne b]
  have vX5 := bX5 1 (by omega)
  simp (disch := first | decide | omega) only [mu_eq, mu_ne] at vX5
  simp (disch := first | decide | omega) only [rx_W, rx_wp_succ, rx_nx_stop, rx_nx_go, rx_lx_some, rx_fx_some, rx_ax_some, rx_qx_some, rx_ox_some, rx_vx_ref, rx_ix_ref, rx_ld_0, rx_ld_2, rx_ld_3, rx_cx_some, rx_nl, List.getElem?_cons_zero, List.getElem?_cons_succ, List.set_cons_zero, List.set_cons_succ, List.length_cons, List.length_nil, List.take_succ_cons, List.take_zero, List.drop_succ_cons, List.drop_zero, List.reverse_cons, List.reverse_nil, List.nil_append, List.cons_append, Option.toList_some, Option.toList_none, true_and, and_true, and_self, true_or, or_true, false_and, and_false, false_or, or_false, not_false_eq_true, Nat.reduceAdd, Nat.reduceLT, Nat.reduceLeDiff, Nat.reduceBEq, Nat.reduceEqDiff, Bool.or_false, Bool.false_or, if_true, if_false, Bool.false_eq_true, nq_eq, nq_lt, nq_le, nq_in_t, nq_bd, nq_ft, nq_clamp, nq_shl31, nq_shr31, nq_bitb, nq_add, nq_mul, fa_and, fa_or, nq_b0, nq_b1, nq_b01, ↓ni_lt_t, ↓ni_lt_f, ↓ni_le_t, ↓ni_le_f, ↓ni_eq_t, ↓ni_eq_f, ↓ni_beq_t, ↓ni_beq_f, it_X7_init, it_X7_init_1, vX5, rx_ft, nw_t, up_t, rd_t, mu_eq, mu_ne, nq_nb]
  refine rx_Cl_imp (i_X0 (mu_eq _ _ _)) (fun r h' hh => ?_)
  obtain ⟨e', m0, e2, bX0, cX0⟩ := hh
  subst e'
  subst e2
  have fX0 : ∀ x, x < 56 → ¬ x = 1 → m0 x = m5 x := fun x a b => by rw [bX0 x a, mu_ne (by omega), mu_ne b]
  have vX0 := bX0 1 (by omega)
  simp (disch := first | decide | omega) only [mu_eq, mu_ne] at vX0
  simp (disch := first | decide | omega) only [rx_W, rx_wp_succ, rx_nx_stop, rx_nx_go, rx_lx_some, rx_fx_some, rx_ax_some, rx_qx_some, rx_ox_some, rx_vx_ref, rx_ix_ref, rx_ld_0, rx_ld_2, rx_ld_3, rx_cx_some, rx_nl, List.getElem?_cons_zero, List.getElem?_cons_succ, List.set_cons_zero, List.set_cons_succ, List.length_cons, List.length_nil, List.take_succ_cons, List.take_zero, List.drop_succ_cons, List.drop_zero, List.reverse_cons, List.reverse_nil, List.nil_append, List.cons_append, Option.toList_some, Option.toList_none, true_and, and_true, and_self, true_or, or_true, false_and, and_false, false_or, or_false, not_false_eq_true, Nat.reduceAdd, Nat.reduceLT, Nat.reduceLeDiff, Nat.reduceBEq, Nat.reduceEqDiff, Bool.or_false, Bool.false_or, if_true, if_false, Bool.false_eq_true, nq_eq, nq_lt, nq_le, nq_in_t, nq_bd, nq_ft, nq_clamp, nq_shl31, nq_shr31, nq_bitb, nq_add, nq_mul, fa_and, fa_or, nq_b0, nq_b1, nq_b01, ↓ni_lt_t, ↓ni_lt_f, ↓ni_le_t, ↓ni_le_f, ↓ni_eq_t, ↓ni_eq_f, ↓ni_beq_t, ↓ni_beq_f, it_X7_init, it_X7_init_1, vX0, rx_ft, nw_t, up_t, rd_t, mu_eq, mu_ne, nq_nb]
  refine rx_Cl_imp (i_X2 (mu_eq _ _ _)) (fun r h' hh => ?_)
  obtain ⟨e', m2, e2, bX2, cX2⟩ := hh
  subst e'
  subst e2
  have fX2 : ∀ x, x < 61 → ¬ x = 1 → m2 x = m0 x := fun x a b => by rw [bX2 x a, mu_ne (by omega), mu_ne b]
  have vX2 := bX2 1 (by omega)
  simp (disch := first | decide | omega) only [mu_eq, mu_ne] at vX2
  simp (disch := first | decide | omega) only [rx_W, rx_wp_succ, rx_nx_stop, rx_nx_go, rx_lx_some, rx_fx_some, rx_ax_some, rx_qx_some, rx_ox_some, rx_vx_ref, rx_ix_ref, rx_ld_0, rx_ld_2, rx_ld_3, rx_cx_some, rx_nl, List.getElem?_cons_zero, List.getElem?_cons_succ, List.set_cons_zero, List.set_cons_succ, List.length_cons, List.length_nil, List.take_succ_cons, List.take_zero, List.drop_succ_cons, List.drop_zero, List.reverse_cons, List.reverse_nil, List.nil_append, List.cons_append, Option.toList_some, Option.toList_none, true_and, and_true, and_self, true_or, or_true, false_and, and_false, false_or, or_false, not_false_eq_true, Nat.reduceAdd, Nat.reduceLT, Nat.reduceLeDiff, Nat.reduceBEq, Nat.reduceEqDiff, Bool.or_false, Bool.false_or, if_true, if_false, Bool.false_eq_true, nq_eq, nq_lt, nq_le, nq_in_t, nq_bd, nq_ft, nq_clamp, nq_shl31, nq_shr31, nq_bitb, nq_add, nq_mul, fa_and, fa_or, nq_b0, nq_b1, nq_b01, ↓ni_lt_t, ↓ni_lt_f, ↓ni_le_t, ↓ni_le_f, ↓ni_eq_t, ↓ni_eq_f, ↓ni_beq_t, ↓ni_beq_f, it_X7_init, it_X7_init_1, vX2, rx_ft, nw_t, up_t, rd_t, mu_eq, mu_ne, nq_nb]
  refine rx_Cl_imp (i_X4 (by omega) (mu_eq _ _ _)) (fun r h' hh => ?_)
  obtain ⟨e', m4, e2, bX4, cX4⟩ := hh
  subst e'
  subst e2
  have fX4 : ∀ x, x < 64 → ¬ x = 1 → m4 x = m2 x := fun x a b => by rw [bX4 x a, mu_ne (by omega), mu_ne b]
  have vX4 := bX4 1 (by omega)
  simp (disch := first | decide | omega) only [mu_eq, mu_ne] at vX4
  simp (disch := first | decide | omega) only [rx_W, rx_wp_succ, rx_nx_stop, rx_nx_go, rx_lx_some, rx_fx_some, rx_ax_some, rx_qx_some, rx_ox_some, rx_vx_ref, rx_ix_ref, rx_ld_0, rx_ld_2, rx_ld_3, rx_cx_some, rx_nl, List.getElem?_cons_zero, List.getElem?_cons_succ, List.set_cons_zero, List.set_cons_succ, List.length_cons, List.length_nil, List.take_succ_cons, List.take_zero, List.drop_succ_cons, List.drop_zero, List.reverse_cons, List.reverse_nil, List.nil_append, List.cons_append, Option.toList_some, Option.toList_none, true_and, and_true, and_self, true_or, or_true, false_and, and_false, false_or, or_false, not_false_eq_true, Nat.reduceAdd, Nat.reduceLT, Nat.reduceLeDiff, Nat.reduceBEq, Nat.reduceEqDiff, Bool.or_false, Bool.false_or, if_true, if_false, Bool.false_eq_true, nq_eq, nq_lt, nq_le, nq_in_t, nq_bd, nq_ft, nq_clamp, nq_shl31, nq_shr31, nq_bitb, nq_add, nq_mul, fa_and, fa_or, nq_b0, nq_b1, nq_b01, ↓ni_lt_t, ↓ni_lt_f, ↓ni_le_t, ↓ni_le_f, ↓ni_eq_t, ↓ni_eq_f, ↓ni_beq_t, ↓ni_beq_f, it_X7_init, it_X7_init_1, vX4, rx_ft, nw_t, up_t, rd_t, mu_eq, mu_ne, nq_nb]
  simp only [Nat.add_assoc, Nat.reduceAdd]
  refine l_X7i (s0 := sl + 3581) ?g1 _ (fun m' y1 y2 y3 y4 => ⟨rfl, m', ?fs, ?f0, ?fin⟩) 4 0 _ (fun _ => none) (fun _ => none) (by omega) (fun i _ _ _ => rfl) ?c2 ?c3 (fun k hk => by omega) (fun k hk => by omega) (fun k hk => by omega) (fun k hk => by omega)
  case g1 =>
    simp (disch := first | decide | omega) only [mu_eq, mu_ne]
    rfl
  case fs => rw [Nat.add_assoc]
  case f0 =>
    rw [y1 0 (by omega) (by omega) (by omega)]
    simp (disch := first | decide | omega) only [mu_ne]
    rw [fX4 0 (by omega) (by omega), fX2 0 (by omega) (by omega), fX0 0 (by omega) (by omega), fX5 0 (by omega) (by omega), fX6 0 (by omega) (by omega), u0]
  case c2 =>
    simp (disch := first | decide | omega) only [mu_ne]
    rw [fX4 2 (by omega) (by omega), fX2 2 (by omega) (by omega), fX0 2 (by omega) (by omega), fX5 2 (by omega) (by omega), fX6 2 (by omega) (by omega), u2]
    rfl
  case c3 =>
    simp (disch := first | decide | omega) only [mu_ne]
    rw [fX4 3 (by omega) (by omega), fX2 3 (by omega) (by omega), fX0 3 (by omega) (by omega), fX5 3 (by omega) (by omega), fX6 3 (by omega) (by omega), u3]
    rfl
  case fin =>
    have k4 : ∀ x, 3 < x → x < 66 → m' x = m4 x := fun x a b => by
      rw [y1 x (by omega) (by omega) (by omega)]
      simp (disch := first | decide | omega) only [mu_ne]
    have k2 : ∀ x, 3 < x → x < 64 → m' x = m2 x := fun x a b => (k4 x a (by omega)).trans (fX4 x b (by omega))
    have k0 : ∀ x, 3 < x → x < 61 → m' x = m0 x := fun x a b => (k2 x a (by omega)).trans (fX2 x b (by omega))
    have k5 : ∀ x, 3 < x → x < 56 → m' x = m5 x := fun x a b => (k0 x a (by omega)).trans (fX0 x b (by omega))
    have k6 : ∀ x, 3 < x → x < 49 → m' x = m6 x := fun x a b => (k5 x a (by omega)).trans (fX5 x b (by omega))
    have k3 : ∀ x, 3 < x → x < 46 → m' x = m3 x := fun x a b => (k6 x a (by omega)).trans (fX6 x b (by omega))
    refine ⟨?_, y2, y3, y4, (by refine psI_sm ?_ a2; exact fun x a b => k3 x (by omega) (by omega)), (by refine tI_sm ?_ cX6; exact fun x a b => k6 x (by omega) (by omega)), ?_, (by refine kI_sm ?_ cX0; exact fun x a b => k0 x (by omega) (by omega)), (by refine pgI_sm ?_ cX2; exact fun x a b => k2 x (by omega) (by omega)), (by refine pW_sm (a := 64) (b := 65) ?_ (by omega) (by omega) cX4; exact fun x a b => k4 x (by omega) (by omega))⟩
    · rw [rd_t, y1 1 (by omega) (by omega) (by omega)]
      simp (disch := first | decide | omega) only [mu_eq]
      rfl
    · exact sN_sm (h := (56, 0, m5)) (fun x a b => k5 x (by omega) (by omega)) cX5
