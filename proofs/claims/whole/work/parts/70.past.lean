abbrev psA : List Nat := [4, 6, 7, 8, 9, 10, 11, 12, 13, 14, 15, 16, 17, 18, 19, 20, 21, 22, 23, 24, 25, 26, 27, 28, 29, 30, 31, 32, 33, 34, 35, 36, 37, 38, 39, 40, 41, 42, 43, 44, 45]
theorem psA_in {i : Nat} (h : i = 4 ∨ (6 ≤ i ∧ i ≤ 45)) : i ∈ psA := by simp; omega
theorem psA_rg {i : Nat} (h : i ∈ psA) : i = 4 ∨ (6 ≤ i ∧ i ≤ 45) := by simp at h; omega
section PS
variable {h0 : rx_H} {v : Nat → Nat} {np nx : Nat} {rn : Nat → Nat} {rw : Nat → Nat → Nat} {fR fP : Nat → Option Nat}
theorem l_X3_keep (hnx : nx < 5) (h4 : rx_rd h0 4 = some (psO np nx)) (h5 : rx_rd h0 5 = some (rwO 2 20 fR)) (hR : ∀ j, j < 20 → fR j = some (6 + 2 * j)) (h2 : rx_rd h0 2 = some (rwO 2 4 fP)) (hP : ∀ p, p < 4 → fP p = some (66 + 8 * p)) (hpr : ∀ p, p < 4 → pW h0 (66 + 8 * p) (v (41 * p)) (wq v p)) (Q : Option Value → rx_H → Prop)
    (hq : ∀ h, Fr h0 h psA → rx_rd h 4 = some (psO np nx) → (∀ j, j < 20 → pW h (6 + 2 * j) (if j / 4 = nx then v (41 * (j % 4)) else rn j) (if j / 4 = nx then wq v (j % 4) else rw j)) → rx_R 33 32 [.ref 4, .ref 2, .int (nI 4)] [] h Q) :
    ∀ k p h, p + k = 4 → Fr h0 h psA → rx_rd h 4 = some (psO np nx) → (∀ j, j < 20 → pW h (6 + 2 * j) (if j / 4 = nx ∧ j % 4 < p then v (41 * (j % 4)) else rn j) (if j / 4 = nx ∧ j % 4 < p then wq v (j % 4) else rw j)) → rx_R 33 2 [.ref 4, .ref 2, .int (nI p)] [] h Q
  | 0, p, h, e, hf, h4', hr => by
    have e' : p = 4 := by omega
    subst e'
    apply rx_wp_sound 60 [2, 32]
    simp (disch := first | decide | omega) only [rx_W, rx_wp_succ, rx_nx_stop, rx_nx_go, rx_lx_some, rx_fx_some, rx_ax_some, rx_qx_some, rx_ox_some, rx_vx_ref, rx_ix_ref, rx_ld_0, rx_ld_2, rx_ld_3, rx_cx_some, rx_nl, List.getElem?_cons_zero, List.getElem?_cons_succ, List.set_cons_zero, List.set_cons_succ, List.length_cons, List.length_nil, List.take_succ_cons, List.take_zero, List.drop_succ_cons, List.drop_zero, List.reverse_cons, List.reverse_nil, List.nil_append, List.cons_append, Option.toList_some, Option.toList_none, true_and, and_true, and_self, true_or, or_true, false_and, and_false, false_or, or_false, not_false_eq_true, Nat.reduceAdd, Nat.reduceLT, Nat.reduceLeDiff, Nat.reduceBEq, Nat.reduceEqDiff, Bool.or_false, Bool.false_or, if_true, if_false, Bool.false_eq_true, nq_eq, nq_lt, nq_le, nq_in_t, nq_bd, nq_ft, nq_clamp, nq_shl31, nq_shr31, nq_bitb, nq_add, nq_mul, fa_and, fa_or, nq_b0, nq_b1, nq_b01, ↓ni_lt_t, ↓ni_lt_f, ↓ni_le_t, ↓ni_le_f, ↓ni_eq_t, ↓ni_eq_f, ↓ni_beq_t, ↓ni_beq_f, it_X3_keep]
    refine hq h hf h4' (fun j hj => ?_)
    have := hr j hj
    have e1 : (j / 4 = nx ∧ j % 4 < 4) = (j / 4 = nx) := by apply propext; omega
    simp only [e1] at this
    exact this
  | k + 1, p, h, e, hf, h4', hr => by
    have h5' := rd_fr hf (by simp) h5
    have h2' := rd_fr hf (by simp) h2
    have pp := pW_fr hf (fun z => by have := psA_rg z; omega) (fun z => by have := psA_rg z; omega) (hpr p (by omega))
    have r1 := hr (nx * 4 + p) (by omega)
    have q1 := hR (nx * 4 + p) (by omega)
    have q2 := hP p (by omega)
    apply rx_wp_sound 60 [2, 32]
    simp (disch := first | decide | omega) only [rx_W, rx_wp_succ, rx_nx_stop, rx_nx_go, rx_lx_some, rx_fx_some, rx_ax_some, rx_qx_some, rx_ox_some, rx_vx_ref, rx_ix_ref, rx_ld_0, rx_ld_2, rx_ld_3, rx_cx_some, rx_nl, List.getElem?_cons_zero, List.getElem?_cons_succ, List.set_cons_zero, List.set_cons_succ, List.length_cons, List.length_nil, List.take_succ_cons, List.take_zero, List.drop_succ_cons, List.drop_zero, List.reverse_cons, List.reverse_nil, List.nil_append, List.cons_append, Option.toList_some, Option.toList_none, true_and, and_true, and_self, true_or, or_true, false_and, and_false, false_or, or_false, not_false_eq_true, Nat.reduceAdd, Nat.reduceLT, Nat.reduceLeDiff, Nat.reduceBEq, Nat.reduceEqDiff, Bool.or_false, Bool.false_or, if_true, if_false, Bool.false_eq_true, nq_eq, nq_lt, nq_le, nq_in_t, nq_bd, nq_ft, nq_clamp, nq_shl31, nq_shr31, nq_bitb, nq_add, nq_mul, fa_and, fa_or, nq_b0, nq_b1, nq_b01, ↓ni_lt_t, ↓ni_lt_f, ↓ni_le_t, ↓ni_le_f, ↓ni_eq_t, ↓ni_eq_f, ↓ni_beq_t, ↓ni_beq_f, it_X3_keep, h4', psO, h5', h2', rwO, q1, q2, r1.1, r1.2.2]
    refine rx_Cl_imp (c_X4_become r1 pp (by omega)) (fun r h3 ⟨e2, y1, y2⟩ => ?_)
    subst e2
    simp (disch := first | decide | omega) only [rx_W, rx_wp_succ, rx_nx_stop, rx_nx_go, rx_lx_some, rx_fx_some, rx_ax_some, rx_qx_some, rx_ox_some, rx_vx_ref, rx_ix_ref, rx_ld_0, rx_ld_2, rx_ld_3, rx_cx_some, rx_nl, List.getElem?_cons_zero, List.getElem?_cons_succ, List.set_cons_zero, List.set_cons_succ, List.length_cons, List.length_nil, List.take_succ_cons, List.take_zero, List.drop_succ_cons, List.drop_zero, List.reverse_cons, List.reverse_nil, List.nil_append, List.cons_append, Option.toList_some, Option.toList_none, true_and, and_true, and_self, true_or, or_true, false_and, and_false, false_or, or_false, not_false_eq_true, Nat.reduceAdd, Nat.reduceLT, Nat.reduceLeDiff, Nat.reduceBEq, Nat.reduceEqDiff, Bool.or_false, Bool.false_or, if_true, if_false, Bool.false_eq_true, nq_eq, nq_lt, nq_le, nq_in_t, nq_bd, nq_ft, nq_clamp, nq_shl31, nq_shr31, nq_bitb, nq_add, nq_mul, fa_and, fa_or, nq_b0, nq_b1, nq_b01, ↓ni_lt_t, ↓ni_lt_f, ↓ni_le_t, ↓ni_le_f, ↓ni_eq_t, ↓ni_eq_f, ↓ni_beq_t, ↓ni_beq_f, it_X3_keep]
    refine l_X3_keep hnx h4 h5 hR h2 hP hpr Q hq k (p + 1) h3 (by omega) (Fr_trans hf y1 (fun _ z => z) (fun i hi => psA_in (by simp at hi; omega))) (rd_fr y1 (by simp; omega) h4') (fun j hj => ?_)
    by_cases c : j = nx * 4 + p
    · subst c
      rw [if_pos (by omega), if_pos (by omega), show (nx * 4 + p) % 4 = p by omega]
      exact y2
    · have e1 : (j / 4 = nx ∧ j % 4 < p + 1) = (j / 4 = nx ∧ j % 4 < p) := by apply propext; omega
      simp only [e1]
      exact pW_fr y1 (by simp; omega) (by simp; omega) (hr j hj)
theorem c_X3_keep {h : rx_H} {u : Nat → Nat → Nat} (hps : psI h u np) (hnp : np ≤ 5) (h2 : rx_rd h 2 = some (rwO 2 4 fP)) (hP : ∀ p, p < 4 → fP p = some (66 + 8 * p)) (hpr : ∀ p, p < 4 → pW h (66 + 8 * p) (v (41 * p)) (wq v p)) : rx_Cl 33 [.ref 4, .ref 2] h (fun r h' => r = none ∧ Fr h h' psA ∧ psI h' (pU u np v) (pN np)) := by
  obtain ⟨nx, rn, rw, fR, a1, a2, a3, a4, a5, a6⟩ := hps
  apply en_X3_keep _ _ 60 [2]
  simp (disch := first | decide | omega) only [rx_W, rx_wp_succ, rx_nx_stop, rx_nx_go, rx_lx_some, rx_fx_some, rx_ax_some, rx_qx_some, rx_ox_some, rx_vx_ref, rx_ix_ref, rx_ld_0, rx_ld_2, rx_ld_3, rx_cx_some, rx_nl, List.getElem?_cons_zero, List.getElem?_cons_succ, List.set_cons_zero, List.set_cons_succ, List.length_cons, List.length_nil, List.take_succ_cons, List.take_zero, List.drop_succ_cons, List.drop_zero, List.reverse_cons, List.reverse_nil, List.nil_append, List.cons_append, Option.toList_some, Option.toList_none, true_and, and_true, and_self, true_or, or_true, false_and, and_false, false_or, or_false, not_false_eq_true, Nat.reduceAdd, Nat.reduceLT, Nat.reduceLeDiff, Nat.reduceBEq, Nat.reduceEqDiff, Bool.or_false, Bool.false_or, if_true, if_false, Bool.false_eq_true, nq_eq, nq_lt, nq_le, nq_in_t, nq_bd, nq_ft, nq_clamp, nq_shl31, nq_shr31, nq_bitb, nq_add, nq_mul, fa_and, fa_or, nq_b0, nq_b1, nq_b01, ↓ni_lt_t, ↓ni_lt_f, ↓ni_le_t, ↓ni_le_f, ↓ni_eq_t, ↓ni_eq_f, ↓ni_beq_t, ↓ni_beq_f, it_X3_keep]
  refine l_X3_keep (h0 := h) (rn := rn) (rw := rw) a1 a2 a3 a4 h2 hP hpr _ (fun h' y1 y2 y3 => ?_) 4 0 h (by omega) (Fr_rfl _ _) a2 (fun j hj => ?_)
  · have em : nx + 1 - (nx + 1) / 5 * 5 = (nx + 1) % 5 := by omega
    have f2 : ∀ c1 c2, Fr h' (rx_up (rx_up h' 4 c1) 4 c2) [4] := fun _ _ => Fr_up (Fr_up (Fr_rfl _ _) (by simp)) (by simp)
    have fin : ∀ c1 c2, c2 = psO (pN np) ((nx + 1) % 5) → Fr h (rx_up (rx_up h' 4 c1) 4 c2) psA ∧ psI (rx_up (rx_up h' 4 c1) 4 c2) (pU u np v) (pN np) := by
      intro c1 c2 hc
      refine ⟨Fr_trans y1 (f2 _ _) (fun _ z => z) (by simp), (nx + 1) % 5, _, _, fR, by omega, by rw [rd_eq, hc], rd_fr (f2 _ _) (by simp) (rd_fr y1 (by simp) a3), a4, fun j hj => pW_fr (f2 _ _) (by simp; omega) (by simp; omega) (y3 j hj), fun i hi p hp => ?_⟩
      unfold pN at hi
      unfold pU pN
      by_cases c : np = 5
      · subst c
        simp only [if_true] at hi ⊢
        by_cases d : i < 4
        · have e1 : ((nx + 1) % 5 + 5 - 5 + i) % 5 = (nx + 5 - 5 + (i + 1)) % 5 := by omega
          have e2 : ¬ ((nx + 5 - 5 + (i + 1)) % 5 * 4 + p) / 4 = nx := by omega
          rw [e1, if_neg e2, if_neg e2, if_pos d]
          exact a6 (i + 1) (by omega) p hp
        · have e1 : ((nx + 1) % 5 + 5 - 5 + i) % 5 = nx := by omega
          have e2 : (nx * 4 + p) / 4 = nx := by omega
          have e3 : (nx * 4 + p) % 4 = p := by omega
          rw [e1, if_pos e2, if_pos e2, if_neg d, e3]
          exact ⟨rfl, fun k _ => rfl⟩
      · rw [if_neg c] at hi
        simp only [if_neg c]
        by_cases d : i = np
        · have e1 : ((nx + 1) % 5 + 5 - (np + 1) + i) % 5 = nx := by omega
          have e2 : (nx * 4 + p) / 4 = nx := by omega
          have e3 : (nx * 4 + p) % 4 = p := by omega
          rw [e1, if_pos e2, if_pos e2, if_pos d, e3]
          exact ⟨rfl, fun k _ => rfl⟩
        · have e1 : ((nx + 1) % 5 + 5 - (np + 1) + i) % 5 = (nx + 5 - np + i) % 5 := by omega
          have e2 : ¬ ((nx + 5 - np + i) % 5 * 4 + p) / 4 = nx := by omega
          rw [e1, if_neg e2, if_neg e2, if_neg d]
          exact a6 i (by omega) p hp
    apply rx_wp_sound 60 []
    by_cases c : np = 5
    · subst c
      have e6 : (5 : Nat) < 5 + 1 := by omega
      simp (disch := first | decide | omega) only [rx_W, rx_wp_succ, rx_nx_stop, rx_nx_go, rx_lx_some, rx_fx_some, rx_ax_some, rx_qx_some, rx_ox_some, rx_vx_ref, rx_ix_ref, rx_ld_0, rx_ld_2, rx_ld_3, rx_cx_some, rx_nl, List.getElem?_cons_zero, List.getElem?_cons_succ, List.set_cons_zero, List.set_cons_succ, List.length_cons, List.length_nil, List.take_succ_cons, List.take_zero, List.drop_succ_cons, List.drop_zero, List.reverse_cons, List.reverse_nil, List.nil_append, List.cons_append, Option.toList_some, Option.toList_none, true_and, and_true, and_self, true_or, or_true, false_and, and_false, false_or, or_false, not_false_eq_true, Nat.reduceAdd, Nat.reduceLT, Nat.reduceLeDiff, Nat.reduceBEq, Nat.reduceEqDiff, Bool.or_false, Bool.false_or, if_true, if_false, Bool.false_eq_true, nq_eq, nq_lt, nq_le, nq_in_t, nq_bd, nq_ft, nq_clamp, nq_shl31, nq_shr31, nq_bitb, nq_add, nq_mul, fa_and, fa_or, nq_b0, nq_b1, nq_b01, ↓ni_lt_t, ↓ni_lt_f, ↓ni_le_t, ↓ni_le_f, ↓ni_eq_t, ↓ni_eq_f, ↓ni_beq_t, ↓ni_beq_f, it_X3_keep, y2, psO, rx_ft, rd_eq, nq_div, nq_sub, em, e6]
      exact fin _ _ rfl
    · have e6 : ¬ 5 < np + 1 := by omega
      simp (disch := first | decide | omega) only [rx_W, rx_wp_succ, rx_nx_stop, rx_nx_go, rx_lx_some, rx_fx_some, rx_ax_some, rx_qx_some, rx_ox_some, rx_vx_ref, rx_ix_ref, rx_ld_0, rx_ld_2, rx_ld_3, rx_cx_some, rx_nl, List.getElem?_cons_zero, List.getElem?_cons_succ, List.set_cons_zero, List.set_cons_succ, List.length_cons, List.length_nil, List.take_succ_cons, List.take_zero, List.drop_succ_cons, List.drop_zero, List.reverse_cons, List.reverse_nil, List.nil_append, List.cons_append, Option.toList_some, Option.toList_none, true_and, and_true, and_self, true_or, or_true, false_and, and_false, false_or, or_false, not_false_eq_true, Nat.reduceAdd, Nat.reduceLT, Nat.reduceLeDiff, Nat.reduceBEq, Nat.reduceEqDiff, Bool.or_false, Bool.false_or, if_true, if_false, Bool.false_eq_true, nq_eq, nq_lt, nq_le, nq_in_t, nq_bd, nq_ft, nq_clamp, nq_shl31, nq_shr31, nq_bitb, nq_add, nq_mul, fa_and, fa_or, nq_b0, nq_b1, nq_b01, ↓ni_lt_t, ↓ni_lt_f, ↓ni_le_t, ↓ni_le_f, ↓ni_eq_t, ↓ni_eq_f, ↓ni_beq_t, ↓ni_beq_f, it_X3_keep, y2, psO, rx_ft, rd_eq, nq_div, nq_sub, em, e6]
      exact fin _ _ (by unfold psO pN; rw [if_neg c])
  · rw [if_neg (by omega), if_neg (by omega)]
    exact a5 j hj
theorem l_X3_rest {w : Nat → Nat} (hnx : nx < 5) (h4 : rx_rd h0 4 = some (psO np nx)) (h5 : rx_rd h0 5 = some (rwO 2 20 fR)) (hR : ∀ j, j < 20 → fR j = some (6 + 2 * j)) (h2 : rx_rd h0 2 = some (rwO 2 4 fP)) (hP : ∀ p, p < 4 → fP p = some (66 + 8 * p)) (hrr : ∀ p, p < 4 → pW h0 (6 + 2 * (nx * 4 + p)) (w (41 * p)) (wq w p)) (Q : Option Value → rx_H → Prop)
    (hq : ∀ h, Fr h0 h [66, 67, 74, 75, 82, 83, 90, 91] → (∀ p, p < 4 → pW h (66 + 8 * p) (w (41 * p)) (wq w p)) → Q none h) :
    ∀ k p h, p + k = 4 → Fr h0 h [66, 67, 74, 75, 82, 83, 90, 91] → (∀ p', p' < p → pW h (66 + 8 * p') (w (41 * p')) (wq w p')) → (∀ p', p' < 4 → ∃ n x, pW h (66 + 8 * p') n x) → rx_R 34 26 [.ref 4, .ref 2, .int (nI p)] [] h Q
  | 0, p, h, e, hf, hd, ha => by
    have e' : p = 4 := by omega
    subst e'
    apply rx_wp_sound 60 [26]
    simp (disch := first | decide | omega) only [rx_W, rx_wp_succ, rx_nx_stop, rx_nx_go, rx_lx_some, rx_fx_some, rx_ax_some, rx_qx_some, rx_ox_some, rx_vx_ref, rx_ix_ref, rx_ld_0, rx_ld_2, rx_ld_3, rx_cx_some, rx_nl, List.getElem?_cons_zero, List.getElem?_cons_succ, List.set_cons_zero, List.set_cons_succ, List.length_cons, List.length_nil, List.take_succ_cons, List.take_zero, List.drop_succ_cons, List.drop_zero, List.reverse_cons, List.reverse_nil, List.nil_append, List.cons_append, Option.toList_some, Option.toList_none, true_and, and_true, and_self, true_or, or_true, false_and, and_false, false_or, or_false, not_false_eq_true, Nat.reduceAdd, Nat.reduceLT, Nat.reduceLeDiff, Nat.reduceBEq, Nat.reduceEqDiff, Bool.or_false, Bool.false_or, if_true, if_false, Bool.false_eq_true, nq_eq, nq_lt, nq_le, nq_in_t, nq_bd, nq_ft, nq_clamp, nq_shl31, nq_shr31, nq_bitb, nq_add, nq_mul, fa_and, fa_or, nq_b0, nq_b1, nq_b01, ↓ni_lt_t, ↓ni_lt_f, ↓ni_le_t, ↓ni_le_f, ↓ni_eq_t, ↓ni_eq_f, ↓ni_beq_t, ↓ni_beq_f, it_X3_restore]
    exact hq h hf hd
  | k + 1, p, h, e, hf, hd, ha => by
    have h4' := rd_fr hf (by simp) h4
    have h5' := rd_fr hf (by simp) h5
    have h2' := rd_fr hf (by simp) h2
    have pp := pW_fr hf (by simp; omega) (by simp; omega) (hrr p (by omega))
    obtain ⟨n1, x1, r1⟩ := ha p (by omega)
    have q1 := hR (nx * 4 + p) (by omega)
    have q2 := hP p (by omega)
    apply rx_wp_sound 60 [26]
    simp (disch := first | decide | omega) only [rx_W, rx_wp_succ, rx_nx_stop, rx_nx_go, rx_lx_some, rx_fx_some, rx_ax_some, rx_qx_some, rx_ox_some, rx_vx_ref, rx_ix_ref, rx_ld_0, rx_ld_2, rx_ld_3, rx_cx_some, rx_nl, List.getElem?_cons_zero, List.getElem?_cons_succ, List.set_cons_zero, List.set_cons_succ, List.length_cons, List.length_nil, List.take_succ_cons, List.take_zero, List.drop_succ_cons, List.drop_zero, List.reverse_cons, List.reverse_nil, List.nil_append, List.cons_append, Option.toList_some, Option.toList_none, true_and, and_true, and_self, true_or, or_true, false_and, and_false, false_or, or_false, not_false_eq_true, Nat.reduceAdd, Nat.reduceLT, Nat.reduceLeDiff, Nat.reduceBEq, Nat.reduceEqDiff, Bool.or_false, Bool.false_or, if_true, if_false, Bool.false_eq_true, nq_eq, nq_lt, nq_le, nq_in_t, nq_bd, nq_ft, nq_clamp, nq_shl31, nq_shr31, nq_bitb, nq_add, nq_mul, fa_and, fa_or, nq_b0, nq_b1, nq_b01, ↓ni_lt_t, ↓ni_lt_f, ↓ni_le_t, ↓ni_le_f, ↓ni_eq_t, ↓ni_eq_f, ↓ni_beq_t, ↓ni_beq_f, it_X3_restore, h4', psO, h5', h2', rwO, q1, q2, r1.1, r1.2.2]
    refine rx_Cl_imp (c_X4_become r1 pp (by omega)) (fun r h3 ⟨e2, y1, y2⟩ => ?_)
    subst e2
    simp (disch := first | decide | omega) only [rx_W, rx_wp_succ, rx_nx_stop, rx_nx_go, rx_lx_some, rx_fx_some, rx_ax_some, rx_qx_some, rx_ox_some, rx_vx_ref, rx_ix_ref, rx_ld_0, rx_ld_2, rx_ld_3, rx_cx_some, rx_nl, List.getElem?_cons_zero, List.getElem?_cons_succ, List.set_cons_zero, List.set_cons_succ, List.length_cons, List.length_nil, List.take_succ_cons, List.take_zero, List.drop_succ_cons, List.drop_zero, List.reverse_cons, List.reverse_nil, List.nil_append, List.cons_append, Option.toList_some, Option.toList_none, true_and, and_true, and_self, true_or, or_true, false_and, and_false, false_or, or_false, not_false_eq_true, Nat.reduceAdd, Nat.reduceLT, Nat.reduceLeDiff, Nat.reduceBEq, Nat.reduceEqDiff, Bool.or_false, Bool.false_or, if_true, if_false, Bool.false_eq_true, nq_eq, nq_lt, nq_le, nq_in_t, nq_bd, nq_ft, nq_clamp, nq_shl31, nq_shr31, nq_bitb, nq_add, nq_mul, fa_and, fa_or, nq_b0, nq_b1, nq_b01, ↓ni_lt_t, ↓ni_lt_f, ↓ni_le_t, ↓ni_le_f, ↓ni_eq_t, ↓ni_eq_f, ↓ni_beq_t, ↓ni_beq_f, it_X3_restore]
    refine l_X3_rest hnx h4 h5 hR h2 hP hrr Q hq k (p + 1) h3 (by omega) (Fr_trans hf y1 (fun _ z => z) (fun i hi => by simp at hi ⊢; omega)) (fun p' hp' => ?_) (fun p' hp' => ?_)
    · by_cases c : p' = p
      · subst c; exact y2
      · exact pW_fr y1 (by simp; omega) (by simp; omega) (hd p' (by omega))
    · by_cases c : p' = p
      · subst c; exact ⟨_, _, y2⟩
      · obtain ⟨n2, x2, r2⟩ := ha p' hp'
        exact ⟨n2, x2, pW_fr y1 (by simp; omega) (by simp; omega) r2⟩
theorem c_X3_restore {h : rx_H} {u : Nat → Nat → Nat} (hps : psI h u (np + 1)) (hnp : np < 5) (h2 : rx_rd h 2 = some (rwO 2 4 fP)) (hP : ∀ p, p < 4 → fP p = some (66 + 8 * p)) (hpr : ∀ p, p < 4 → pW h (66 + 8 * p) (v (41 * p)) (wq v p)) : rx_Cl 34 [.ref 4, .ref 2] h (fun r h' => r = none ∧ Fr h h' [4, 66, 67, 74, 75, 82, 83, 90, 91] ∧ psI h' u np ∧ ∀ p, p < 4 → pW h' (66 + 8 * p) (u np (41 * p)) (wq (u np) p)) := by
  obtain ⟨nx, rn, rw, fR, a1, a2, a3, a4, a5, a6⟩ := hps
  have em : nx + 5 - 1 - (nx + 5 - 1) / 5 * 5 = (nx + 4) % 5 := by omega
  have f2 : ∀ c1 c2, Fr h (rx_up (rx_up h 4 c1) 4 c2) [4] := fun _ _ => Fr_up (Fr_up (Fr_rfl _ _) (by simp)) (by simp)
  apply en_X3_restore _ _ 60 [26]
  simp (disch := first | decide | omega) only [rx_W, rx_wp_succ, rx_nx_stop, rx_nx_go, rx_lx_some, rx_fx_some, rx_ax_some, rx_qx_some, rx_ox_some, rx_vx_ref, rx_ix_ref, rx_ld_0, rx_ld_2, rx_ld_3, rx_cx_some, rx_nl, List.getElem?_cons_zero, List.getElem?_cons_succ, List.set_cons_zero, List.set_cons_succ, List.length_cons, List.length_nil, List.take_succ_cons, List.take_zero, List.drop_succ_cons, List.drop_zero, List.reverse_cons, List.reverse_nil, List.nil_append, List.cons_append, Option.toList_some, Option.toList_none, true_and, and_true, and_self, true_or, or_true, false_and, and_false, false_or, or_false, not_false_eq_true, Nat.reduceAdd, Nat.reduceLT, Nat.reduceLeDiff, Nat.reduceBEq, Nat.reduceEqDiff, Bool.or_false, Bool.false_or, if_true, if_false, Bool.false_eq_true, nq_eq, nq_lt, nq_le, nq_in_t, nq_bd, nq_ft, nq_clamp, nq_shl31, nq_shr31, nq_bitb, nq_add, nq_mul, fa_and, fa_or, nq_b0, nq_b1, nq_b01, ↓ni_lt_t, ↓ni_lt_f, ↓ni_le_t, ↓ni_le_f, ↓ni_eq_t, ↓ni_eq_f, ↓ni_beq_t, ↓ni_beq_f, it_X3_restore, a2, psO, rx_ft, rd_eq, nq_div, nq_sub, em, Nat.add_sub_cancel]
  refine l_X3_rest (h0 := rx_up (rx_up h 4 (psO (np + 1) ((nx + 4) % 5))) 4 (psO np ((nx + 4) % 5))) (nx := (nx + 4) % 5) (np := np) (w := u np) (by omega) (rd_eq _ _ _) (rd_fr (f2 _ _) (by simp) a3) a4 (rd_fr (f2 _ _) (by simp) h2) hP (fun p hp => ?_) _ (fun h' y1 y2 => ?_) 4 0 _ (by omega) (Fr_rfl _ _) (fun p' hp' => by omega) (fun p' hp' => ⟨_, _, pW_fr (f2 _ _) (by simp; omega) (by simp; omega) (hpr p' hp')⟩)
  · obtain ⟨b1, b2⟩ := a6 np (by omega) p hp
    have e1 : (nx + 5 - (np + 1) + np) % 5 = (nx + 4) % 5 := by omega
    rw [e1] at b1 b2
    have := pW_fr (f2 (psO (np + 1) ((nx + 4) % 5)) (psO np ((nx + 4) % 5))) (by simp; omega) (by simp; omega) (a5 ((nx + 4) % 5 * 4 + p) (by omega))
    rw [b1] at this
    exact pW_cong this b2
  · refine ⟨rfl, Fr_trans (f2 _ _) y1 (by simp) (by simp), ⟨(nx + 4) % 5, rn, rw, fR, by omega, rd_fr y1 (by simp) (rd_eq _ _ _), rd_fr y1 (by simp) (rd_fr (f2 _ _) (by simp) a3), a4, fun j hj => pW_fr y1 (by simp; omega) (by simp; omega) (pW_fr (f2 _ _) (by simp; omega) (by simp; omega) (a5 j hj)), fun i hi p hp => ?_⟩, y2⟩
    have e1 : ((nx + 4) % 5 + 5 - np + i) % 5 = (nx + 5 - (np + 1) + i) % 5 := by omega
    rw [e1]
    exact a6 i (by omega) p hp
end PS
