/-! ===== the makers ===== -/
def mu (m : Nat → Option rx_C) (i : Nat) (c : rx_C) : Nat → Option rx_C := fun j => if j = i then some c else m j
theorem mu_eq (m : Nat → Option rx_C) (i : Nat) (c : rx_C) : mu m i c i = some c := if_pos rfl
theorem mu_ne {m : Nat → Option rx_C} {i j : Nat} {c : rx_C} (e : ¬ j = i) : mu m i c j = m j := if_neg e
theorem nw_t (a b : Nat) (m : Nat → Option rx_C) (k : Nat) (c : rx_C) : rx_nw (a, b, m) k c = (a + 1, b + k, mu m a c) := rfl
theorem up_t (a b : Nat) (m : Nat → Option rx_C) (i : Nat) (c : rx_C) : rx_up (a, b, m) i c = (a, b, mu m i c) := rfl
theorem rd_t (a b : Nat) (m : Nat → Option rx_C) (i : Nat) : rx_rd (a, b, m) i = m i := rfl
theorem vo_eq (w : Nat → Option Nat) (k : Nat) (a : Option Nat) : va_up w k a k = a := if_pos rfl
theorem vo_ne {w : Nat → Option Nat} {k j : Nat} {a : Option Nat} (h : ¬ j = k) : va_up w k a j = w j := if_neg h
theorem df_4 : rx_df 4 = [.int 0, .int 0, .null] := rfl
theorem i_X4 {o sl : Nat} {m : Nat → Option rx_C} (ho : ¬ o = 0) (h1 : m o = some (.inr (4, rx_df 4))) : rx_Cl 35 [.ref o] (o + 1, sl, m) (fun r h' => r = none ∧ ∃ m', h' = (o + 2, sl + 40, m') ∧ (∀ i, i < o → m' i = m i) ∧ pW h' o 1 (fun _ => 0)) := by
  apply en_X4_init _ 60 []
  simp (disch := first | decide | omega) only [rx_W, rx_wp_succ, rx_nx_stop, rx_nx_go, rx_lx_some, rx_fx_some, rx_ax_some, rx_qx_some, rx_ox_some, rx_vx_ref, rx_ix_ref, rx_ld_0, rx_ld_2, rx_ld_3, rx_cx_some, rx_nl, List.getElem?_cons_zero, List.getElem?_cons_succ, List.set_cons_zero, List.set_cons_succ, List.length_cons, List.length_nil, List.take_succ_cons, List.take_zero, List.drop_succ_cons, List.drop_zero, List.reverse_cons, List.reverse_nil, List.nil_append, List.cons_append, Option.toList_some, Option.toList_none, true_and, and_true, and_self, true_or, or_true, false_and, and_false, false_or, or_false, not_false_eq_true, Nat.reduceAdd, Nat.reduceLT, Nat.reduceLeDiff, Nat.reduceBEq, Nat.reduceEqDiff, Bool.or_false, Bool.false_or, if_true, if_false, Bool.false_eq_true, nq_eq, nq_lt, nq_le, nq_in_t, nq_bd, nq_ft, nq_clamp, nq_shl31, nq_shr31, nq_bitb, nq_add, nq_mul, fa_and, fa_or, nq_b0, nq_b1, nq_b01, ↓ni_lt_t, ↓ni_lt_f, ↓ni_le_t, ↓ni_le_f, ↓ni_eq_t, ↓ni_eq_f, ↓ni_beq_t, ↓ni_beq_f, it_X4_init, h1, df_4, rx_ft, nw_t, up_t, rd_t, mu_eq, mu_ne, nq_nb, ho]
  refine ⟨_, rfl, fun i hi => ?_, ?_⟩
  · simp (disch := first | decide | omega) only [mu_ne]
  · refine ⟨?_, ⟨fun _ => 0, ?_, fun j hj => rfl⟩, ho⟩
    · rw [rd_t, mu_eq, tot_0]
    · simp (disch := first | decide | omega) only [rd_t, mu_eq, mu_ne]
theorem df_1 : rx_df 1 = [.int 0, .int 0, .int 0, .int 0, .null, .null, .null, .null, .null] := rfl
theorem i_X1 {o sl : Nat} {m : Nat → Option rx_C} (ho : ¬ o = 0) (h1 : m o = some (.inr (1, rx_df 1))) : rx_Cl 12 [.ref o] (o + 1, sl, m) (fun r h' => r = none ∧ ∃ m', h' = (o + 6, sl + 784, m') ∧ (∀ i, i < o → m' i = m i) ∧ oF h' o) := by
  apply en_X1_init _ 60 []
  simp (disch := first | decide | omega) only [rx_W, rx_wp_succ, rx_nx_stop, rx_nx_go, rx_lx_some, rx_fx_some, rx_ax_some, rx_qx_some, rx_ox_some, rx_vx_ref, rx_ix_ref, rx_ld_0, rx_ld_2, rx_ld_3, rx_cx_some, rx_nl, List.getElem?_cons_zero, List.getElem?_cons_succ, List.set_cons_zero, List.set_cons_succ, List.length_cons, List.length_nil, List.take_succ_cons, List.take_zero, List.drop_succ_cons, List.drop_zero, List.reverse_cons, List.reverse_nil, List.nil_append, List.cons_append, Option.toList_some, Option.toList_none, true_and, and_true, and_self, true_or, or_true, false_and, and_false, false_or, or_false, not_false_eq_true, Nat.reduceAdd, Nat.reduceLT, Nat.reduceLeDiff, Nat.reduceBEq, Nat.reduceEqDiff, Bool.or_false, Bool.false_or, if_true, if_false, Bool.false_eq_true, nq_eq, nq_lt, nq_le, nq_in_t, nq_bd, nq_ft, nq_clamp, nq_shl31, nq_shr31, nq_bitb, nq_add, nq_mul, fa_and, fa_or, nq_b0, nq_b1, nq_b01, ↓ni_lt_t, ↓ni_lt_f, ↓ni_le_t, ↓ni_le_f, ↓ni_eq_t, ↓ni_eq_f, ↓ni_beq_t, ↓ni_beq_f, it_X1_init, h1, df_1, rx_ft, nw_t, up_t, rd_t, mu_eq, mu_ne, nq_nb, ho]
  refine ⟨_, rfl, fun i hi => ?_, ?_⟩
  · simp (disch := first | decide | omega) only [mu_ne]
  · refine ⟨0, 0, 1, fun _ => 0, fun _ => 0, fun _ => 0, fun _ => 0, fun _ => 0, ⟨?_, ho⟩, ⟨⟨fun _ => 0, ?_, fun j hj => rfl⟩, ⟨fun _ => 0, ?_, fun j hj => rfl⟩, ⟨fun _ => 0, ?_, fun j hj => rfl⟩, ⟨fun _ => 0, ?_, fun j hj => rfl⟩, ⟨fun _ => 0, ?_, fun j hj => rfl⟩⟩, rfl, rfl, rfl⟩
    all_goals simp (disch := first | decide | omega) only [rd_t, mu_eq, mu_ne]
theorem df_3 : rx_df 3 = [.int 0, .int 0, .null] := rfl
theorem l_X3 {s0 : Nat} {m0 : Nat → Option rx_C} (Q : Option Value → rx_H → Prop)
    (hq : ∀ m, (∀ i, i < 4 → m i = m0 i) → psI (46, s0 + 860, m) (fun _ _ => 0) 0 → Q none (46, s0 + 860, m)) :
    ∀ j i m f, i + j = 20 → (∀ i, i < 4 → m i = m0 i) → m 4 = some (psO 0 0) → m 5 = some (rwO 2 20 f) → (∀ k, k < i → f k = some (6 + 2 * k)) → (∀ k, k < i → pW (6 + 2 * i, s0 + 43 * i, m) (6 + 2 * k) 1 (fun _ => 0)) → rx_R 32 25 [.ref 4, .int (nI i)] [] (6 + 2 * i, s0 + 43 * i, m) Q
  | 0, i, m, f, e, h0, h1, h2, h3, h4 => by
    have e' : i = 20 := by omega
    subst e'
    apply rx_wp_sound 60 [25]
    simp (disch := first | decide | omega) only [rx_W, rx_wp_succ, rx_nx_stop, rx_nx_go, rx_lx_some, rx_fx_some, rx_ax_some, rx_qx_some, rx_ox_some, rx_vx_ref, rx_ix_ref, rx_ld_0, rx_ld_2, rx_ld_3, rx_cx_some, rx_nl, List.getElem?_cons_zero, List.getElem?_cons_succ, List.set_cons_zero, List.set_cons_succ, List.length_cons, List.length_nil, List.take_succ_cons, List.take_zero, List.drop_succ_cons, List.drop_zero, List.reverse_cons, List.reverse_nil, List.nil_append, List.cons_append, Option.toList_some, Option.toList_none, true_and, and_true, and_self, true_or, or_true, false_and, and_false, false_or, or_false, not_false_eq_true, Nat.reduceAdd, Nat.reduceLT, Nat.reduceLeDiff, Nat.reduceBEq, Nat.reduceEqDiff, Bool.or_false, Bool.false_or, if_true, if_false, Bool.false_eq_true, nq_eq, nq_lt, nq_le, nq_in_t, nq_bd, nq_ft, nq_clamp, nq_shl31, nq_shr31, nq_bitb, nq_add, nq_mul, fa_and, fa_or, nq_b0, nq_b1, nq_b01, ↓ni_lt_t, ↓ni_lt_f, ↓ni_le_t, ↓ni_le_f, ↓ni_eq_t, ↓ni_eq_f, ↓ni_beq_t, ↓ni_beq_f, it_X3_init]
    exact hq m h0 ⟨0, fun _ => 1, fun _ _ => 0, f, by omega, h1, h2, h3, h4, fun i hi => by omega⟩
  | j + 1, i, m, f, e, h0, h1, h2, h3, h4 => by
    apply rx_wp_sound 60 [25]
    simp (disch := first | decide | omega) only [rx_W, rx_wp_succ, rx_nx_stop, rx_nx_go, rx_lx_some, rx_fx_some, rx_ax_some, rx_qx_some, rx_ox_some, rx_vx_ref, rx_ix_ref, rx_ld_0, rx_ld_2, rx_ld_3, rx_cx_some, rx_nl, List.getElem?_cons_zero, List.getElem?_cons_succ, List.set_cons_zero, List.set_cons_succ, List.length_cons, List.length_nil, List.take_succ_cons, List.take_zero, List.drop_succ_cons, List.drop_zero, List.reverse_cons, List.reverse_nil, List.nil_append, List.cons_append, Option.toList_some, Option.toList_none, true_and, and_true, and_self, true_or, or_true, false_and, and_false, false_or, or_false, not_false_eq_true, Nat.reduceAdd, Nat.reduceLT, Nat.reduceLeDiff, Nat.reduceBEq, Nat.reduceEqDiff, Bool.or_false, Bool.false_or, if_true, if_false, Bool.false_eq_true, nq_eq, nq_lt, nq_le, nq_in_t, nq_bd, nq_ft, nq_clamp, nq_shl31, nq_shr31, nq_bitb, nq_add, nq_mul, fa_and, fa_or, nq_b0, nq_b1, nq_b01, ↓ni_lt_t, ↓ni_lt_f, ↓ni_le_t, ↓ni_le_f, ↓ni_eq_t, ↓ni_eq_f, ↓ni_beq_t, ↓ni_beq_f, it_X3_init, h1, psO, nw_t, up_t, rd_t, mu_eq, mu_ne]
    refine ⟨by omega, rx_Cl_imp (i_X4 (o := 6 + 2 * i) (sl := s0 + 43 * i + 3) (m := mu m (6 + 2 * i) (.inr (4, rx_df 4))) (by omega) (mu_eq _ _ _)) (fun r h' hh => ?_)⟩
    obtain ⟨e', m', e2, y1, y2⟩ := hh
    subst e'
    subst e2
    have ne : ¬ 6 + 2 * i = 0 := by omega
    have g2 : m' 5 = some (rwO 2 20 f) := by rw [y1 5 (by omega), mu_ne (by omega)]; exact h2
    have g4 := y2.1
    rw [rd_t] at g4
    simp (disch := first | decide | omega) only [rx_W, rx_wp_succ, rx_nx_stop, rx_nx_go, rx_lx_some, rx_fx_some, rx_ax_some, rx_qx_some, rx_ox_some, rx_vx_ref, rx_ix_ref, rx_ld_0, rx_ld_2, rx_ld_3, rx_cx_some, rx_nl, List.getElem?_cons_zero, List.getElem?_cons_succ, List.set_cons_zero, List.set_cons_succ, List.length_cons, List.length_nil, List.take_succ_cons, List.take_zero, List.drop_succ_cons, List.drop_zero, List.reverse_cons, List.reverse_nil, List.nil_append, List.cons_append, Option.toList_some, Option.toList_none, true_and, and_true, and_self, true_or, or_true, false_and, and_false, false_or, or_false, not_false_eq_true, Nat.reduceAdd, Nat.reduceLT, Nat.reduceLeDiff, Nat.reduceBEq, Nat.reduceEqDiff, Bool.or_false, Bool.false_or, if_true, if_false, Bool.false_eq_true, nq_eq, nq_lt, nq_le, nq_in_t, nq_bd, nq_ft, nq_clamp, nq_shl31, nq_shr31, nq_bitb, nq_add, nq_mul, fa_and, fa_or, nq_b0, nq_b1, nq_b01, ↓ni_lt_t, ↓ni_lt_f, ↓ni_le_t, ↓ni_le_f, ↓ni_eq_t, ↓ni_eq_f, ↓ni_beq_t, ↓ni_beq_f, it_X3_init, rd_t, g2, rwO, g4, rx_tc, up_t, ne]
    rw [show 6 + 2 * i + 2 = 6 + 2 * (i + 1) by omega, show s0 + 43 * i + 3 + 40 = s0 + 43 * (i + 1) by omega]
    refine l_X3 Q hq j (i + 1) _ (va_up f i (some (6 + 2 * i))) (by omega) (fun k hk => ?_) ?_ (mu_eq _ _ _) (fun k hk => ?_) (fun k hk => ?_)
    · rw [mu_ne (by omega), y1 k (by omega), mu_ne (by omega)]
      exact h0 k hk
    · rw [mu_ne (by omega), y1 4 (by omega), mu_ne (by omega)]
      exact h1
    · by_cases c : k = i
      · rw [c, vo_eq]
      · rw [vo_ne c]
        exact h3 k (by omega)
    · by_cases c : k = i
      · subst c
        refine pW_sm (a := 6) (b := 7 + 2 * k) (fun x a b => ?_) (by omega) (by omega) y2
        rw [rd_t, rd_t, mu_ne (by omega)]
      · refine pW_sm (a := 6) (b := 5 + 2 * i) (fun x a b => ?_) (by omega) (by omega) (h4 k (by omega))
        rw [rd_t, rd_t, mu_ne (by omega), y1 x (by omega), mu_ne (by omega)]
theorem i_X3 {sl : Nat} {m : Nat → Option rx_C} (h1 : m 4 = some (.inr (3, rx_df 3))) : rx_Cl 32 [.ref 4] (5, sl, m) (fun r h' => r = none ∧ ∃ m', h' = (46, sl + 880, m') ∧ (∀ i, i < 4 → m' i = m i) ∧ psI h' (fun _ _ => 0) 0) := by
  apply en_X3_init _ 60 [25]
  simp (disch := first | decide | omega) only [rx_W, rx_wp_succ, rx_nx_stop, rx_nx_go, rx_lx_some, rx_fx_some, rx_ax_some, rx_qx_some, rx_ox_some, rx_vx_ref, rx_ix_ref, rx_ld_0, rx_ld_2, rx_ld_3, rx_cx_some, rx_nl, List.getElem?_cons_zero, List.getElem?_cons_succ, List.set_cons_zero, List.set_cons_succ, List.length_cons, List.length_nil, List.take_succ_cons, List.take_zero, List.drop_succ_cons, List.drop_zero, List.reverse_cons, List.reverse_nil, List.nil_append, List.cons_append, Option.toList_some, Option.toList_none, true_and, and_true, and_self, true_or, or_true, false_and, and_false, false_or, or_false, not_false_eq_true, Nat.reduceAdd, Nat.reduceLT, Nat.reduceLeDiff, Nat.reduceBEq, Nat.reduceEqDiff, Bool.or_false, Bool.false_or, if_true, if_false, Bool.false_eq_true, nq_eq, nq_lt, nq_le, nq_in_t, nq_bd, nq_ft, nq_clamp, nq_shl31, nq_shr31, nq_bitb, nq_add, nq_mul, fa_and, fa_or, nq_b0, nq_b1, nq_b01, ↓ni_lt_t, ↓ni_lt_f, ↓ni_le_t, ↓ni_le_f, ↓ni_eq_t, ↓ni_eq_f, ↓ni_beq_t, ↓ni_beq_f, it_X3_init, h1, df_3, rx_ft, nw_t, up_t, rd_t, mu_eq, mu_ne, nq_nb]
  refine l_X3 (s0 := sl + 20) (m0 := m) _ (fun m' y1 y2 => ⟨rfl, m', rfl, y1, y2⟩) 20 0 _ (fun _ => none) (by omega) (fun k hk => ?_) ?_ ?_ (fun k hk => by omega) (fun k hk => by omega)
  · simp (disch := first | decide | omega) only [mu_ne]
  · simp (disch := first | decide | omega) only [mu_eq, mu_ne]
    rfl
  · simp (disch := first | decide | omega) only [mu_eq, mu_ne]
    rfl
theorem df_6 : rx_df 6 = [.int 0, .int 0, .null, .null, .int 0, .int 0, .int 0, .int 0] := rfl
theorem i_X6 {sl : Nat} {m : Nat → Option rx_C} (h1 : m 46 = some (.inr (6, rx_df 6))) : rx_Cl 59 [.ref 46] (47, sl, m) (fun r h' => r = none ∧ ∃ m', h' = (49, sl + 120, m') ∧ (∀ i, i < 46 → m' i = m i) ∧ tI h' 0 (fun _ => 0)) := by
  apply en_X6_init _ 60 []
  simp (disch := first | decide | omega) only [rx_W, rx_wp_succ, rx_nx_stop, rx_nx_go, rx_lx_some, rx_fx_some, rx_ax_some, rx_qx_some, rx_ox_some, rx_vx_ref, rx_ix_ref, rx_ld_0, rx_ld_2, rx_ld_3, rx_cx_some, rx_nl, List.getElem?_cons_zero, List.getElem?_cons_succ, List.set_cons_zero, List.set_cons_succ, List.length_cons, List.length_nil, List.take_succ_cons, List.take_zero, List.drop_succ_cons, List.drop_zero, List.reverse_cons, List.reverse_nil, List.nil_append, List.cons_append, Option.toList_some, Option.toList_none, true_and, and_true, and_self, true_or, or_true, false_and, and_false, false_or, or_false, not_false_eq_true, Nat.reduceAdd, Nat.reduceLT, Nat.reduceLeDiff, Nat.reduceBEq, Nat.reduceEqDiff, Bool.or_false, Bool.false_or, if_true, if_false, Bool.false_eq_true, nq_eq, nq_lt, nq_le, nq_in_t, nq_bd, nq_ft, nq_clamp, nq_shl31, nq_shr31, nq_bitb, nq_add, nq_mul, fa_and, fa_or, nq_b0, nq_b1, nq_b01, ↓ni_lt_t, ↓ni_lt_f, ↓ni_le_t, ↓ni_le_f, ↓ni_eq_t, ↓ni_eq_f, ↓ni_beq_t, ↓ni_beq_f, it_X6_init, h1, df_6, rx_ft, nw_t, up_t, rd_t, mu_eq, mu_ne, nq_nb]
  refine ⟨_, rfl, fun i hi => ?_, ⟨0, 0, 0, 0, 0, ?_⟩, ⟨fun _ => 0, ?_⟩, fun _ => 0, ?_, fun i hi => by omega⟩
  · simp (disch := first | decide | omega) only [mu_ne]
  all_goals simp (disch := first | decide | omega) only [rd_t, mu_eq, mu_ne]
  rfl
theorem df_5 : rx_df 5 = [.null, .null, .null, .null, .null, .null, .int 0] := rfl
/-- the search, newly made -/
def sN (m : Nat → Option rx_C) : Prop := m 49 = some (sO 53 54 55 0) ∧ m 50 = some (.inl (0, 3, .inl fun _ => 0)) ∧ m 51 = some (.inl (0, 3, .inl fun _ => 0)) ∧ m 52 = some (.inl (0, 2048, .inl fun _ => 0)) ∧ m 53 = some (.inl (0, 64, .inl fun _ => 0)) ∧ m 54 = some (.inl (0, 64, .inl fun _ => 0)) ∧ m 55 = some (.inl (1, 64, .inl fun _ => 0))
theorem i_X5 {sl : Nat} {m : Nat → Option rx_C} (h1 : m 49 = some (.inr (5, rx_df 5))) : rx_Cl 49 [.ref 49] (50, sl, m) (fun r h' => r = none ∧ ∃ m', h' = (56, sl + 2246, m') ∧ (∀ i, i < 49 → m' i = m i) ∧ sN m') := by
  apply en_X5_init _ 60 []
  simp (disch := first | decide | omega) only [rx_W, rx_wp_succ, rx_nx_stop, rx_nx_go, rx_lx_some, rx_fx_some, rx_ax_some, rx_qx_some, rx_ox_some, rx_vx_ref, rx_ix_ref, rx_ld_0, rx_ld_2, rx_ld_3, rx_cx_some, rx_nl, List.getElem?_cons_zero, List.getElem?_cons_succ, List.set_cons_zero, List.set_cons_succ, List.length_cons, List.length_nil, List.take_succ_cons, List.take_zero, List.drop_succ_cons, List.drop_zero, List.reverse_cons, List.reverse_nil, List.nil_append, List.cons_append, Option.toList_some, Option.toList_none, true_and, and_true, and_self, true_or, or_true, false_and, and_false, false_or, or_false, not_false_eq_true, Nat.reduceAdd, Nat.reduceLT, Nat.reduceLeDiff, Nat.reduceBEq, Nat.reduceEqDiff, Bool.or_false, Bool.false_or, if_true, if_false, Bool.false_eq_true, nq_eq, nq_lt, nq_le, nq_in_t, nq_bd, nq_ft, nq_clamp, nq_shl31, nq_shr31, nq_bitb, nq_add, nq_mul, fa_and, fa_or, nq_b0, nq_b1, nq_b01, ↓ni_lt_t, ↓ni_lt_f, ↓ni_le_t, ↓ni_le_f, ↓ni_eq_t, ↓ni_eq_f, ↓ni_beq_t, ↓ni_beq_f, it_X5_init, h1, df_5, rx_ft, nw_t, up_t, rd_t, mu_eq, mu_ne, nq_nb]
  refine ⟨_, rfl, fun i hi => ?_, ?_, ?_, ?_, ?_, ?_, ?_, ?_⟩
  · simp (disch := first | decide | omega) only [mu_ne]
  all_goals simp (disch := first | decide | omega) only [rd_t, mu_eq, mu_ne]
  rfl
theorem df_0 : rx_df 0 = [.null, .null, .null, .null, .int 0, .int 0] := rfl
theorem i_X0 {sl : Nat} {m : Nat → Option rx_C} (h1 : m 56 = some (.inr (0, rx_df 0))) : rx_Cl 0 [.ref 56] (57, sl, m) (fun r h' => r = none ∧ ∃ m', h' = (61, sl + 184, m') ∧ (∀ i, i < 56 → m' i = m i) ∧ kI h') := by
  apply en_X0_init _ 60 []
  simp (disch := first | decide | omega) only [rx_W, rx_wp_succ, rx_nx_stop, rx_nx_go, rx_lx_some, rx_fx_some, rx_ax_some, rx_qx_some, rx_ox_some, rx_vx_ref, rx_ix_ref, rx_ld_0, rx_ld_2, rx_ld_3, rx_cx_some, rx_nl, List.getElem?_cons_zero, List.getElem?_cons_succ, List.set_cons_zero, List.set_cons_succ, List.length_cons, List.length_nil, List.take_succ_cons, List.take_zero, List.drop_succ_cons, List.drop_zero, List.reverse_cons, List.reverse_nil, List.nil_append, List.cons_append, Option.toList_some, Option.toList_none, true_and, and_true, and_self, true_or, or_true, false_and, and_false, false_or, or_false, not_false_eq_true, Nat.reduceAdd, Nat.reduceLT, Nat.reduceLeDiff, Nat.reduceBEq, Nat.reduceEqDiff, Bool.or_false, Bool.false_or, if_true, if_false, Bool.false_eq_true, nq_eq, nq_lt, nq_le, nq_in_t, nq_bd, nq_ft, nq_clamp, nq_shl31, nq_shr31, nq_bitb, nq_add, nq_mul, fa_and, fa_or, nq_b0, nq_b1, nq_b01, ↓ni_lt_t, ↓ni_lt_f, ↓ni_le_t, ↓ni_le_f, ↓ni_eq_t, ↓ni_eq_f, ↓ni_beq_t, ↓ni_beq_f, it_X0_init, h1, df_0, rx_ft, nw_t, up_t, rd_t, mu_eq, mu_ne, nq_nb]
  refine ⟨_, rfl, fun i hi => ?_, 0, 0, fun _ => 0, fun _ => 0, fun _ => 0, fun _ => 0, ?_, ⟨fun _ => 0, ?_, fun _ _ => rfl⟩, ⟨fun _ => 0, ?_, fun _ _ => rfl⟩, ⟨fun _ => 0, ?_, fun _ _ => rfl⟩, ⟨fun _ => 0, ?_, fun _ _ => rfl⟩⟩
  · simp (disch := first | decide | omega) only [mu_ne]
  all_goals simp (disch := first | decide | omega) only [rd_t, mu_eq, mu_ne]
  rfl
theorem df_2 : rx_df 2 = [.null, .null, .int 0, .int 0] := rfl
theorem i_X2 {sl : Nat} {m : Nat → Option rx_C} (h1 : m 61 = some (.inr (2, rx_df 2))) : rx_Cl 26 [.ref 61] (62, sl, m) (fun r h' => r = none ∧ ∃ m', h' = (64, sl + 72, m') ∧ (∀ i, i < 61 → m' i = m i) ∧ pgI h') := by
  apply en_X2_init _ 60 []
  simp (disch := first | decide | omega) only [rx_W, rx_wp_succ, rx_nx_stop, rx_nx_go, rx_lx_some, rx_fx_some, rx_ax_some, rx_qx_some, rx_ox_some, rx_vx_ref, rx_ix_ref, rx_ld_0, rx_ld_2, rx_ld_3, rx_cx_some, rx_nl, List.getElem?_cons_zero, List.getElem?_cons_succ, List.set_cons_zero, List.set_cons_succ, List.length_cons, List.length_nil, List.take_succ_cons, List.take_zero, List.drop_succ_cons, List.drop_zero, List.reverse_cons, List.reverse_nil, List.nil_append, List.cons_append, Option.toList_some, Option.toList_none, true_and, and_true, and_self, true_or, or_true, false_and, and_false, false_or, or_false, not_false_eq_true, Nat.reduceAdd, Nat.reduceLT, Nat.reduceLeDiff, Nat.reduceBEq, Nat.reduceEqDiff, Bool.or_false, Bool.false_or, if_true, if_false, Bool.false_eq_true, nq_eq, nq_lt, nq_le, nq_in_t, nq_bd, nq_ft, nq_clamp, nq_shl31, nq_shr31, nq_bitb, nq_add, nq_mul, fa_and, fa_or, nq_b0, nq_b1, nq_b01, ↓ni_lt_t, ↓ni_lt_f, ↓ni_le_t, ↓ni_le_f, ↓ni_eq_t, ↓ni_eq_f, ↓ni_beq_t, ↓ni_beq_f, it_X2_init, h1, df_2, rx_ft, nw_t, up_t, rd_t, mu_eq, mu_ne, nq_nb]
  refine ⟨_, rfl, fun i hi => ?_, ⟨0, true, ?_⟩, ⟨fun _ => 0, ?_⟩, ⟨fun _ => 0, ?_⟩⟩
  · simp (disch := first | decide | omega) only [mu_ne]
  all_goals simp (disch := first | decide | omega) only [rd_t, mu_eq, mu_ne]
  rfl
