/-! ===== the law's loop ===== -/
theorem and31 (x : Int32) : ∃ k, k < 32 ∧ x &&& nI 31 = nI k := by
  have e : (x &&& nI 31).toBitVec = BitVec.ofNat 32 (x.toBitVec.toNat % 32) := by
    rw [Int32.toBitVec_and]
    apply BitVec.eq_of_toNat_eq
    rw [BitVec.toNat_and]
    show x.toBitVec.toNat &&& (2 ^ 5 - 1) = _
    rw [Nat.and_two_pow_sub_one_eq_mod, BitVec.toNat_ofNat]
    omega
  exact ⟨x.toBitVec.toNat % 32, Nat.mod_lt _ (by omega), Int32.toBitVec_inj.mp e⟩
theorem sub5 : ∀ N, N < 5 → ∀ i, i < 11 → nI N - nI 5 < nI i := by decide +kernel
def swT (k : Nat) : Nat := if k < 20 then [128, 161, 214, 267, 300, 343, 396, 419, 452, 495, 548, 571, 584, 607, 640, 683, 736, 779, 792, 815].getD k 829 else 829
theorem sw_eq : ∀ k, k < 32 → rx_sw 32 797 0 19 #[96, 129, 182, 235, 268, 311, 364, 387, 420, 463, 516, 539, 552, 575, 608, 651, 704, 747, 760, 783] (nI k) = swT k := by decide +kernel
theorem law_sw {h : rx_H} {N i : Nat} {f : Nat → Int32} {S : St} (hI : lI h N f S) (hi : i + 5 ≤ N) (hN : N ≤ 2560) (Q : Option Value → rx_H → Prop) (hq : ∀ h' S', lI h' N f S' → rx_R 172 829 [.ref 0, .ref 1, .ref 98, .int (nI i)] [] h' Q) (k : Nat) (hk : k < 32) : rx_R 172 (swT k) [.ref 0, .ref 1, .ref 98, .int (nI i)] [] h Q := by
  by_cases c : k < 20
  · have hcc : k = 0 ∨ k = 1 ∨ k = 2 ∨ k = 3 ∨ k = 4 ∨ k = 5 ∨ k = 6 ∨ k = 7 ∨ k = 8 ∨ k = 9 ∨ k = 10 ∨ k = 11 ∨ k = 12 ∨ k = 13 ∨ k = 14 ∨ k = 15 ∨ k = 16 ∨ k = 17 ∨ k = 18 ∨ k = 19 := by omega
    rcases hcc with rfl | rfl | rfl | rfl | rfl | rfl | rfl | rfl | rfl | rfl | rfl | rfl | rfl | rfl | rfl | rfl | rfl | rfl | rfl | rfl
    · exact lw_process hI hi hN Q hq
    · exact lw_move hI hi hN Q hq
    · exact lw_unmove hI hi hN Q hq
    · exact lw_hides hI hi hN Q hq
    · exact lw_renames hI hi hN Q hq
    · exact lw_together hI hi hN Q hq
    · exact lw_presses hI hi hN Q hq
    · exact lw_of hI hi hN Q hq
    · exact lw_leads hI hi hN Q hq
    · exact lw_alike hI hi hN Q hq
    · exact lw_type hI hi hN Q hq
    · exact lw_clear hI hi hN Q hq
    · exact lw_moves hI hi hN Q hq
    · exact lw_behind hI hi hN Q hq
    · exact lw_holds hI hi hN Q hq
    · exact lw_fault hI hi hN Q hq
    · exact lw_reason hI hi hN Q hq
    · exact lw_back hI hi hN Q hq
    · exact lw_told hI hi hN Q hq
    · exact lw_digest hI hi hN Q hq
  · have e : swT k = 829 := by unfold swT; rw [if_neg c]
    rw [e]
    exact hq h S hI
theorem l_law {N : Nat} {f : Nat → Int32} (hN : N ≤ 2560) (Q : Option Value → rx_H → Prop) (hq : ∀ h S, lI h N f S → Q (some (.int (nI 1))) h) :
    ∀ j i h S, N ≤ i + j → i < N + 5 → lI h N f S → rx_R 172 18 [.ref 0, .ref 1, .ref 98, .int (nI i)] [] h Q
  | 0, i, h, S, e, e2, hI => by
    have h0 := hI.1
    apply rx_wp_sound 60 [18]
    by_cases c : N < 5
    · have c2 := sub5 N c i (by omega)
      simp (disch := first | decide | omega) only [rx_W, rx_wp_succ, rx_nx_stop, rx_nx_go, rx_lx_some, rx_fx_some, rx_ax_some, rx_qx_some, rx_ox_some, rx_vx_ref, rx_ix_ref, rx_ld_0, rx_ld_2, rx_ld_3, rx_cx_some, rx_nl, List.getElem?_cons_zero, List.getElem?_cons_succ, List.set_cons_zero, List.set_cons_succ, List.length_cons, List.length_nil, List.take_succ_cons, List.take_zero, List.drop_succ_cons, List.drop_zero, List.reverse_cons, List.reverse_nil, List.nil_append, List.cons_append, Option.toList_some, Option.toList_none, true_and, and_true, and_self, true_or, or_true, false_and, and_false, false_or, or_false, not_false_eq_true, Nat.reduceAdd, Nat.reduceLT, Nat.reduceLeDiff, Nat.reduceBEq, Nat.reduceEqDiff, Bool.or_false, Bool.false_or, if_true, if_false, Bool.false_eq_true, nq_eq, nq_lt, nq_le, nq_in_t, nq_bd, nq_ft, nq_clamp, nq_shl31, nq_shr31, nq_bitb, nq_add, nq_mul, fa_and, fa_or, nq_b0, nq_b1, nq_b01, ↓ni_lt_t, ↓ni_lt_f, ↓ni_le_t, ↓ni_le_f, ↓ni_eq_t, ↓ni_eq_f, ↓ni_beq_t, ↓ni_beq_f, it_L_law, it_L_law_1, it_L_law_2, it_L_law_3, it_L_law_4, it_L_law_5, it_L_law_6, it_L_law_7, it_L_law_8, it_L_law_9, h0, io_nI, c2]
      exact hq h S hI
    · have c2 : nI N - nI 5 = nI (N - 5) := nq_sub (by omega)
      simp (disch := first | decide | omega) only [rx_W, rx_wp_succ, rx_nx_stop, rx_nx_go, rx_lx_some, rx_fx_some, rx_ax_some, rx_qx_some, rx_ox_some, rx_vx_ref, rx_ix_ref, rx_ld_0, rx_ld_2, rx_ld_3, rx_cx_some, rx_nl, List.getElem?_cons_zero, List.getElem?_cons_succ, List.set_cons_zero, List.set_cons_succ, List.length_cons, List.length_nil, List.take_succ_cons, List.take_zero, List.drop_succ_cons, List.drop_zero, List.reverse_cons, List.reverse_nil, List.nil_append, List.cons_append, Option.toList_some, Option.toList_none, true_and, and_true, and_self, true_or, or_true, false_and, and_false, false_or, or_false, not_false_eq_true, Nat.reduceAdd, Nat.reduceLT, Nat.reduceLeDiff, Nat.reduceBEq, Nat.reduceEqDiff, Bool.or_false, Bool.false_or, if_true, if_false, Bool.false_eq_true, nq_eq, nq_lt, nq_le, nq_in_t, nq_bd, nq_ft, nq_clamp, nq_shl31, nq_shr31, nq_bitb, nq_add, nq_mul, fa_and, fa_or, nq_b0, nq_b1, nq_b01, ↓ni_lt_t, ↓ni_lt_f, ↓ni_le_t, ↓ni_le_f, ↓ni_eq_t, ↓ni_eq_f, ↓ni_beq_t, ↓ni_beq_f, it_L_law, it_L_law_1, it_L_law_2, it_L_law_3, it_L_law_4, it_L_law_5, it_L_law_6, it_L_law_7, it_L_law_8, it_L_law_9, h0, io_nI, c2]
      exact hq h S hI
  | j + 1, i, h, S, e, e2, hI => by
    have h0 := hI.1
    by_cases c : N < 5
    · have c2 := sub5 N c i (by omega)
      apply rx_wp_sound 60 [18]
      simp (disch := first | decide | omega) only [rx_W, rx_wp_succ, rx_nx_stop, rx_nx_go, rx_lx_some, rx_fx_some, rx_ax_some, rx_qx_some, rx_ox_some, rx_vx_ref, rx_ix_ref, rx_ld_0, rx_ld_2, rx_ld_3, rx_cx_some, rx_nl, List.getElem?_cons_zero, List.getElem?_cons_succ, List.set_cons_zero, List.set_cons_succ, List.length_cons, List.length_nil, List.take_succ_cons, List.take_zero, List.drop_succ_cons, List.drop_zero, List.reverse_cons, List.reverse_nil, List.nil_append, List.cons_append, Option.toList_some, Option.toList_none, true_and, and_true, and_self, true_or, or_true, false_and, and_false, false_or, or_false, not_false_eq_true, Nat.reduceAdd, Nat.reduceLT, Nat.reduceLeDiff, Nat.reduceBEq, Nat.reduceEqDiff, Bool.or_false, Bool.false_or, if_true, if_false, Bool.false_eq_true, nq_eq, nq_lt, nq_le, nq_in_t, nq_bd, nq_ft, nq_clamp, nq_shl31, nq_shr31, nq_bitb, nq_add, nq_mul, fa_and, fa_or, nq_b0, nq_b1, nq_b01, ↓ni_lt_t, ↓ni_lt_f, ↓ni_le_t, ↓ni_le_f, ↓ni_eq_t, ↓ni_eq_f, ↓ni_beq_t, ↓ni_beq_f, it_L_law, it_L_law_1, it_L_law_2, it_L_law_3, it_L_law_4, it_L_law_5, it_L_law_6, it_L_law_7, it_L_law_8, it_L_law_9, h0, io_nI, c2]
      exact hq h S hI
    · have c2 : nI N - nI 5 = nI (N - 5) := nq_sub (by omega)
      by_cases d : N - 5 < i
      · apply rx_wp_sound 60 [18]
        simp (disch := first | decide | omega) only [rx_W, rx_wp_succ, rx_nx_stop, rx_nx_go, rx_lx_some, rx_fx_some, rx_ax_some, rx_qx_some, rx_ox_some, rx_vx_ref, rx_ix_ref, rx_ld_0, rx_ld_2, rx_ld_3, rx_cx_some, rx_nl, List.getElem?_cons_zero, List.getElem?_cons_succ, List.set_cons_zero, List.set_cons_succ, List.length_cons, List.length_nil, List.take_succ_cons, List.take_zero, List.drop_succ_cons, List.drop_zero, List.reverse_cons, List.reverse_nil, List.nil_append, List.cons_append, Option.toList_some, Option.toList_none, true_and, and_true, and_self, true_or, or_true, false_and, and_false, false_or, or_false, not_false_eq_true, Nat.reduceAdd, Nat.reduceLT, Nat.reduceLeDiff, Nat.reduceBEq, Nat.reduceEqDiff, Bool.or_false, Bool.false_or, if_true, if_false, Bool.false_eq_true, nq_eq, nq_lt, nq_le, nq_in_t, nq_bd, nq_ft, nq_clamp, nq_shl31, nq_shr31, nq_bitb, nq_add, nq_mul, fa_and, fa_or, nq_b0, nq_b1, nq_b01, ↓ni_lt_t, ↓ni_lt_f, ↓ni_le_t, ↓ni_le_f, ↓ni_eq_t, ↓ni_eq_f, ↓ni_beq_t, ↓ni_beq_f, it_L_law, it_L_law_1, it_L_law_2, it_L_law_3, it_L_law_4, it_L_law_5, it_L_law_6, it_L_law_7, it_L_law_8, it_L_law_9, h0, io_nI, c2]
        exact hq h S hI
      · obtain ⟨k, hk, ek⟩ := and31 (f i)
        have es := sw_eq k hk
        apply rx_wp_sound 60 [18, 32]
        simp (disch := first | decide | omega) only [rx_W, rx_wp_succ, rx_nx_stop, rx_nx_go, rx_lx_some, rx_fx_some, rx_ax_some, rx_qx_some, rx_ox_some, rx_vx_ref, rx_ix_ref, rx_ld_0, rx_ld_2, rx_ld_3, rx_cx_some, rx_nl, List.getElem?_cons_zero, List.getElem?_cons_succ, List.set_cons_zero, List.set_cons_succ, List.length_cons, List.length_nil, List.take_succ_cons, List.take_zero, List.drop_succ_cons, List.drop_zero, List.reverse_cons, List.reverse_nil, List.nil_append, List.cons_append, Option.toList_some, Option.toList_none, true_and, and_true, and_self, true_or, or_true, false_and, and_false, false_or, or_false, not_false_eq_true, Nat.reduceAdd, Nat.reduceLT, Nat.reduceLeDiff, Nat.reduceBEq, Nat.reduceEqDiff, Bool.or_false, Bool.false_or, if_true, if_false, Bool.false_eq_true, nq_eq, nq_lt, nq_le, nq_in_t, nq_bd, nq_ft, nq_clamp, nq_shl31, nq_shr31, nq_bitb, nq_add, nq_mul, fa_and, fa_or, nq_b0, nq_b1, nq_b01, ↓ni_lt_t, ↓ni_lt_f, ↓ni_le_t, ↓ni_le_f, ↓ni_eq_t, ↓ni_eq_f, ↓ni_beq_t, ↓ni_beq_f, it_L_law, it_L_law_1, it_L_law_2, it_L_law_3, it_L_law_4, it_L_law_5, it_L_law_6, it_L_law_7, it_L_law_8, it_L_law_9, h0, io_nI, c2, ek]
        apply rx_wp_sound 1 []
        simp (disch := first | decide | omega) only [rx_W, rx_wp_succ, rx_nx_stop, rx_nx_go, rx_lx_some, rx_fx_some, rx_ax_some, rx_qx_some, rx_ox_some, rx_vx_ref, rx_ix_ref, rx_ld_0, rx_ld_2, rx_ld_3, rx_cx_some, rx_nl, List.getElem?_cons_zero, List.getElem?_cons_succ, List.set_cons_zero, List.set_cons_succ, List.length_cons, List.length_nil, List.take_succ_cons, List.take_zero, List.drop_succ_cons, List.drop_zero, List.reverse_cons, List.reverse_nil, List.nil_append, List.cons_append, Option.toList_some, Option.toList_none, true_and, and_true, and_self, true_or, or_true, false_and, and_false, false_or, or_false, not_false_eq_true, Nat.reduceAdd, Nat.reduceLT, Nat.reduceLeDiff, Nat.reduceBEq, Nat.reduceEqDiff, Bool.or_false, Bool.false_or, if_true, if_false, Bool.false_eq_true, nq_eq, nq_lt, nq_le, nq_in_t, nq_bd, nq_ft, nq_clamp, nq_shl31, nq_shr31, nq_bitb, nq_add, nq_mul, fa_and, fa_or, nq_b0, nq_b1, nq_b01, ↓ni_lt_t, ↓ni_lt_f, ↓ni_le_t, ↓ni_le_f, ↓ni_eq_t, ↓ni_eq_f, ↓ni_beq_t, ↓ni_beq_f, it_L_law, it_L_law_1, it_L_law_2, it_L_law_3, it_L_law_4, it_L_law_5, it_L_law_6, it_L_law_7, it_L_law_8, it_L_law_9, es]
        refine law_sw hI (by omega) hN Q (fun h' S' hI' => ?_) k hk
        apply rx_wp_sound 60 [18]
        simp (disch := first | decide | omega) only [rx_W, rx_wp_succ, rx_nx_stop, rx_nx_go, rx_lx_some, rx_fx_some, rx_ax_some, rx_qx_some, rx_ox_some, rx_vx_ref, rx_ix_ref, rx_ld_0, rx_ld_2, rx_ld_3, rx_cx_some, rx_nl, List.getElem?_cons_zero, List.getElem?_cons_succ, List.set_cons_zero, List.set_cons_succ, List.length_cons, List.length_nil, List.take_succ_cons, List.take_zero, List.drop_succ_cons, List.drop_zero, List.reverse_cons, List.reverse_nil, List.nil_append, List.cons_append, Option.toList_some, Option.toList_none, true_and, and_true, and_self, true_or, or_true, false_and, and_false, false_or, or_false, not_false_eq_true, Nat.reduceAdd, Nat.reduceLT, Nat.reduceLeDiff, Nat.reduceBEq, Nat.reduceEqDiff, Bool.or_false, Bool.false_or, if_true, if_false, Bool.false_eq_true, nq_eq, nq_lt, nq_le, nq_in_t, nq_bd, nq_ft, nq_clamp, nq_shl31, nq_shr31, nq_bitb, nq_add, nq_mul, fa_and, fa_or, nq_b0, nq_b1, nq_b01, ↓ni_lt_t, ↓ni_lt_f, ↓ni_le_t, ↓ni_le_f, ↓ni_eq_t, ↓ni_eq_f, ↓ni_beq_t, ↓ni_beq_f, it_L_law, it_L_law_1, it_L_law_2, it_L_law_3, it_L_law_4, it_L_law_5, it_L_law_6, it_L_law_7, it_L_law_8, it_L_law_9]
        exact l_law hN Q hq j (i + 5) h' S' (by omega) (by omega) hI'
