section MP
variable {h : rx_H} {v : Nat → Nat} {u : Nat → Nat → Nat} {np L : Nat} {t : Nat → Nat} {cs : Nat → Int32}
/-! move, unmove -/
theorem m_move_bad (hi : mIv h v u np L t cs) (hv : wfV v) {p f b s : Int32} (hb : isM v p f b s = false) : rx_Cl 119 [.ref 98, .int p, .int f, .int b, .int s] h (mP h (v, u, np, L, t, rfs 0 cs) (.int (rcode 0))) := by
  obtain ⟨pl, fo, z, h1⟩ := hi.1
  apply en_X8_move _ _ _ _ _ 60 []
  simp (disch := first | decide | omega) only [rx_W, rx_wp_succ, rx_nx_stop, rx_nx_go, rx_lx_some, rx_fx_some, rx_ax_some, rx_qx_some, rx_ox_some, rx_vx_ref, rx_ix_ref, rx_ld_0, rx_ld_2, rx_ld_3, rx_cx_some, rx_nl, List.getElem?_cons_zero, List.getElem?_cons_succ, List.set_cons_zero, List.set_cons_succ, List.length_cons, List.length_nil, List.take_succ_cons, List.take_zero, List.drop_succ_cons, List.drop_zero, List.reverse_cons, List.reverse_nil, List.nil_append, List.cons_append, Option.toList_some, Option.toList_none, true_and, and_true, and_self, true_or, or_true, false_and, and_false, false_or, or_false, not_false_eq_true, Nat.reduceAdd, Nat.reduceLT, Nat.reduceLeDiff, Nat.reduceBEq, Nat.reduceEqDiff, Bool.or_false, Bool.false_or, if_true, if_false, Bool.false_eq_true, nq_eq, nq_lt, nq_le, nq_in_t, nq_bd, nq_ft, nq_clamp, nq_shl31, nq_shr31, nq_bitb, nq_add, nq_mul, fa_and, fa_or, nq_b0, nq_b1, nq_b01, ↓ni_lt_t, ↓ni_lt_f, ↓ni_le_t, ↓ni_le_f, ↓ni_eq_t, ↓ni_eq_f, ↓ni_beq_t, ↓ni_beq_f, it_X8_move, q_X8_isMove (mIv_mN hi) hv, hb, h1, mO]
  refine m_cnt hi (c := 0) (by omega) rfl (fun h' y1 y2 => ?_)
  simp (disch := first | decide | omega) only [rx_W, rx_wp_succ, rx_nx_stop, rx_nx_go, rx_lx_some, rx_fx_some, rx_ax_some, rx_qx_some, rx_ox_some, rx_vx_ref, rx_ix_ref, rx_ld_0, rx_ld_2, rx_ld_3, rx_cx_some, rx_nl, List.getElem?_cons_zero, List.getElem?_cons_succ, List.set_cons_zero, List.set_cons_succ, List.length_cons, List.length_nil, List.take_succ_cons, List.take_zero, List.drop_succ_cons, List.drop_zero, List.reverse_cons, List.reverse_nil, List.nil_append, List.cons_append, Option.toList_some, Option.toList_none, true_and, and_true, and_self, true_or, or_true, false_and, and_false, false_or, or_false, not_false_eq_true, Nat.reduceAdd, Nat.reduceLT, Nat.reduceLeDiff, Nat.reduceBEq, Nat.reduceEqDiff, Bool.or_false, Bool.false_or, if_true, if_false, Bool.false_eq_true, it_X8_move]
  exact ⟨rfl, y1, y2⟩
theorem m_unmove_bad (hi : mIv h v u np L t cs) (hv : wfV v) {p f b s : Int32} (hb : isM v p f b s = false) : rx_Cl 120 [.ref 98, .int p, .int f, .int b, .int s] h (mP h (v, u, np, L, t, rfs 0 cs) (.int (rcode 0))) := by
  obtain ⟨pl, fo, z, h1⟩ := hi.1
  apply en_X8_unmove _ _ _ _ _ 60 []
  simp (disch := first | decide | omega) only [rx_W, rx_wp_succ, rx_nx_stop, rx_nx_go, rx_lx_some, rx_fx_some, rx_ax_some, rx_qx_some, rx_ox_some, rx_vx_ref, rx_ix_ref, rx_ld_0, rx_ld_2, rx_ld_3, rx_cx_some, rx_nl, List.getElem?_cons_zero, List.getElem?_cons_succ, List.set_cons_zero, List.set_cons_succ, List.length_cons, List.length_nil, List.take_succ_cons, List.take_zero, List.drop_succ_cons, List.drop_zero, List.reverse_cons, List.reverse_nil, List.nil_append, List.cons_append, Option.toList_some, Option.toList_none, true_and, and_true, and_self, true_or, or_true, false_and, and_false, false_or, or_false, not_false_eq_true, Nat.reduceAdd, Nat.reduceLT, Nat.reduceLeDiff, Nat.reduceBEq, Nat.reduceEqDiff, Bool.or_false, Bool.false_or, if_true, if_false, Bool.false_eq_true, nq_eq, nq_lt, nq_le, nq_in_t, nq_bd, nq_ft, nq_clamp, nq_shl31, nq_shr31, nq_bitb, nq_add, nq_mul, fa_and, fa_or, nq_b0, nq_b1, nq_b01, ↓ni_lt_t, ↓ni_lt_f, ↓ni_le_t, ↓ni_le_f, ↓ni_eq_t, ↓ni_eq_f, ↓ni_beq_t, ↓ni_beq_f, it_X8_unmove, q_X8_isMove (mIv_mN hi) hv, hb, h1, mO]
  refine m_cnt hi (c := 0) (by omega) rfl (fun h' y1 y2 => ?_)
  simp (disch := first | decide | omega) only [rx_W, rx_wp_succ, rx_nx_stop, rx_nx_go, rx_lx_some, rx_fx_some, rx_ax_some, rx_qx_some, rx_ox_some, rx_vx_ref, rx_ix_ref, rx_ld_0, rx_ld_2, rx_ld_3, rx_cx_some, rx_nl, List.getElem?_cons_zero, List.getElem?_cons_succ, List.set_cons_zero, List.set_cons_succ, List.length_cons, List.length_nil, List.take_succ_cons, List.take_zero, List.drop_succ_cons, List.drop_zero, List.reverse_cons, List.reverse_nil, List.nil_append, List.cons_append, Option.toList_some, Option.toList_none, true_and, and_true, and_self, true_or, or_true, false_and, and_false, false_or, or_false, not_false_eq_true, Nat.reduceAdd, Nat.reduceLT, Nat.reduceLeDiff, Nat.reduceBEq, Nat.reduceEqDiff, Bool.or_false, Bool.false_or, if_true, if_false, Bool.false_eq_true, it_X8_unmove]
  exact ⟨rfl, y1, y2⟩
variable {p f b s : Nat}
theorem m_move_no (hi : mIv h v u np L t cs) (hv : wfV v) (hp : p < 4) (hf : f < v (41 * p)) (hb : b < 5) (hs : s < v (41 * p)) (hbit : (wq v p (f * 5 + b)).testBit s = true) : rx_Cl 119 [.ref 98, .int (nI p), .int (nI f), .int (nI b), .int (nI s)] h (mP h (v, u, np, L, t, rfs 1 cs) (.int (rcode 1))) := by
  obtain ⟨pl, fo, z, h1⟩ := hi.1
  have hw := wfP_256 (hv p hp)
  have n8 := (hv p hp).2.1
  have w1 := hw (f * 5 + b) (by omega)
  apply en_X8_move _ _ _ _ _ 60 []
  simp (disch := first | decide | omega) only [rx_W, rx_wp_succ, rx_nx_stop, rx_nx_go, rx_lx_some, rx_fx_some, rx_ax_some, rx_qx_some, rx_ox_some, rx_vx_ref, rx_ix_ref, rx_ld_0, rx_ld_2, rx_ld_3, rx_cx_some, rx_nl, List.getElem?_cons_zero, List.getElem?_cons_succ, List.set_cons_zero, List.set_cons_succ, List.length_cons, List.length_nil, List.take_succ_cons, List.take_zero, List.drop_succ_cons, List.drop_zero, List.reverse_cons, List.reverse_nil, List.nil_append, List.cons_append, Option.toList_some, Option.toList_none, true_and, and_true, and_self, true_or, or_true, false_and, and_false, false_or, or_false, not_false_eq_true, Nat.reduceAdd, Nat.reduceLT, Nat.reduceLeDiff, Nat.reduceBEq, Nat.reduceEqDiff, Bool.or_false, Bool.false_or, if_true, if_false, Bool.false_eq_true, nq_eq, nq_lt, nq_le, nq_in_t, nq_bd, nq_ft, nq_clamp, nq_shl31, nq_shr31, nq_bitb, nq_add, nq_mul, fa_and, fa_or, nq_b0, nq_b1, nq_b01, ↓ni_lt_t, ↓ni_lt_f, ↓ni_le_t, ↓ni_le_f, ↓ni_eq_t, ↓ni_eq_f, ↓ni_beq_t, ↓ni_beq_f, it_X8_move, q_X8_isMove (mIv_mN hi) hv, isM_of hv hp hf hb hs, h1, mO, q_X8_leadsOf (mIv_mN hi) hp, q_X8_has, hbit]
  refine m_cnt hi (c := 1) (by omega) rfl (fun h' y1 y2 => ?_)
  simp (disch := first | decide | omega) only [rx_W, rx_wp_succ, rx_nx_stop, rx_nx_go, rx_lx_some, rx_fx_some, rx_ax_some, rx_qx_some, rx_ox_some, rx_vx_ref, rx_ix_ref, rx_ld_0, rx_ld_2, rx_ld_3, rx_cx_some, rx_nl, List.getElem?_cons_zero, List.getElem?_cons_succ, List.set_cons_zero, List.set_cons_succ, List.length_cons, List.length_nil, List.take_succ_cons, List.take_zero, List.drop_succ_cons, List.drop_zero, List.reverse_cons, List.reverse_nil, List.nil_append, List.cons_append, Option.toList_some, Option.toList_none, true_and, and_true, and_self, true_or, or_true, false_and, and_false, false_or, or_false, not_false_eq_true, Nat.reduceAdd, Nat.reduceLT, Nat.reduceLeDiff, Nat.reduceBEq, Nat.reduceEqDiff, Bool.or_false, Bool.false_or, if_true, if_false, Bool.false_eq_true, it_X8_move]
  exact ⟨rfl, y1, y2⟩
theorem m_move_full (hi : mIv h v u np L t cs) (hv : wfV v) (hp : p < 4) (hf : f < v (41 * p)) (hb : b < 5) (hs : s < v (41 * p)) (hbit : (wq v p (f * 5 + b)).testBit s = false) (ht : tot (wq v p) = 24) : rx_Cl 119 [.ref 98, .int (nI p), .int (nI f), .int (nI b), .int (nI s)] h (mP h (v, u, np, L, t, rfs 2 cs) (.int (rcode 2))) := by
  obtain ⟨pl, fo, z, h1⟩ := hi.1
  have hw := wfP_256 (hv p hp)
  have n8 := (hv p hp).2.1
  have w1 := hw (f * 5 + b) (by omega)
  apply en_X8_move _ _ _ _ _ 60 []
  simp (disch := first | decide | omega) only [rx_W, rx_wp_succ, rx_nx_stop, rx_nx_go, rx_lx_some, rx_fx_some, rx_ax_some, rx_qx_some, rx_ox_some, rx_vx_ref, rx_ix_ref, rx_ld_0, rx_ld_2, rx_ld_3, rx_cx_some, rx_nl, List.getElem?_cons_zero, List.getElem?_cons_succ, List.set_cons_zero, List.set_cons_succ, List.length_cons, List.length_nil, List.take_succ_cons, List.take_zero, List.drop_succ_cons, List.drop_zero, List.reverse_cons, List.reverse_nil, List.nil_append, List.cons_append, Option.toList_some, Option.toList_none, true_and, and_true, and_self, true_or, or_true, false_and, and_false, false_or, or_false, not_false_eq_true, Nat.reduceAdd, Nat.reduceLT, Nat.reduceLeDiff, Nat.reduceBEq, Nat.reduceEqDiff, Bool.or_false, Bool.false_or, if_true, if_false, Bool.false_eq_true, nq_eq, nq_lt, nq_le, nq_in_t, nq_bd, nq_ft, nq_clamp, nq_shl31, nq_shr31, nq_bitb, nq_add, nq_mul, fa_and, fa_or, nq_b0, nq_b1, nq_b01, ↓ni_lt_t, ↓ni_lt_f, ↓ni_le_t, ↓ni_le_f, ↓ni_eq_t, ↓ni_eq_f, ↓ni_beq_t, ↓ni_beq_f, it_X8_move, q_X8_isMove (mIv_mN hi) hv, isM_of hv hp hf hb hs, h1, mO, q_X8_leadsOf (mIv_mN hi) hp, q_X8_has, hbit, q_X8_movesOf (mIv_mN hi) hp hw, ht]
  refine m_cnt hi (c := 2) (by omega) rfl (fun h' y1 y2 => ?_)
  simp (disch := first | decide | omega) only [rx_W, rx_wp_succ, rx_nx_stop, rx_nx_go, rx_lx_some, rx_fx_some, rx_ax_some, rx_qx_some, rx_ox_some, rx_vx_ref, rx_ix_ref, rx_ld_0, rx_ld_2, rx_ld_3, rx_cx_some, rx_nl, List.getElem?_cons_zero, List.getElem?_cons_succ, List.set_cons_zero, List.set_cons_succ, List.length_cons, List.length_nil, List.take_succ_cons, List.take_zero, List.drop_succ_cons, List.drop_zero, List.reverse_cons, List.reverse_nil, List.nil_append, List.cons_append, Option.toList_some, Option.toList_none, true_and, and_true, and_self, true_or, or_true, false_and, and_false, false_or, or_false, not_false_eq_true, Nat.reduceAdd, Nat.reduceLT, Nat.reduceLeDiff, Nat.reduceBEq, Nat.reduceEqDiff, Bool.or_false, Bool.false_or, if_true, if_false, Bool.false_eq_true, it_X8_move]
  exact ⟨rfl, y1, y2⟩
theorem m_move_ok (hi : mIv h v u np L t cs) (hv : wfV v) (hn : np ≤ 5) (hp : p < 4) (hf : f < v (41 * p)) (hb : b < 5) (hs : s < v (41 * p)) (hbit : (wq v p (f * 5 + b)).testBit s = false) (ht : ¬ tot (wq v p) = 24) : rx_Cl 119 [.ref 98, .int (nI p), .int (nI f), .int (nI b), .int (nI s)] h (mP h (setP v p (v (41 * p)) (va_up (wq v p) (f * 5 + b) (wq v p (f * 5 + b) ||| 2 ^ s)), pU u np v, pN np, L, t, cs) (.int (nI (tot (va_up (wq v p) (f * 5 + b) (wq v p (f * 5 + b) ||| 2 ^ s)))))) := by
  obtain ⟨pl, fo, z, h1⟩ := hi.1
  have hw := wfP_256 (hv p hp)
  have n8 := (hv p hp).2.1
  have w1 := hw (f * 5 + b) (by omega)
  have tl := tot_le (wq v p)
  apply en_X8_move _ _ _ _ _ 60 []
  simp (disch := first | decide | omega) only [rx_W, rx_wp_succ, rx_nx_stop, rx_nx_go, rx_lx_some, rx_fx_some, rx_ax_some, rx_qx_some, rx_ox_some, rx_vx_ref, rx_ix_ref, rx_ld_0, rx_ld_2, rx_ld_3, rx_cx_some, rx_nl, List.getElem?_cons_zero, List.getElem?_cons_succ, List.set_cons_zero, List.set_cons_succ, List.length_cons, List.length_nil, List.take_succ_cons, List.take_zero, List.drop_succ_cons, List.drop_zero, List.reverse_cons, List.reverse_nil, List.nil_append, List.cons_append, Option.toList_some, Option.toList_none, true_and, and_true, and_self, true_or, or_true, false_and, and_false, false_or, or_false, not_false_eq_true, Nat.reduceAdd, Nat.reduceLT, Nat.reduceLeDiff, Nat.reduceBEq, Nat.reduceEqDiff, Bool.or_false, Bool.false_or, if_true, if_false, Bool.false_eq_true, nq_eq, nq_lt, nq_le, nq_in_t, nq_bd, nq_ft, nq_clamp, nq_shl31, nq_shr31, nq_bitb, nq_add, nq_mul, fa_and, fa_or, nq_b0, nq_b1, nq_b01, ↓ni_lt_t, ↓ni_lt_f, ↓ni_le_t, ↓ni_le_f, ↓ni_eq_t, ↓ni_eq_f, ↓ni_beq_t, ↓ni_beq_f, it_X8_move, q_X8_isMove (mIv_mN hi) hv, isM_of hv hp hf hb hs, h1, mO, q_X8_leadsOf (mIv_mN hi) hp, q_X8_has, hbit, q_X8_movesOf (mIv_mN hi) hp hw, ht]
  refine rx_Cl_imp (m_leaves hi hn) (fun r h' ⟨e, y1, y2⟩ => ?_)
  subst e
  obtain ⟨pl', fo', z', h1'⟩ := y2.1
  have y2' := y2
  obtain ⟨-, ⟨g, a1, a2⟩, -⟩ := y2'
  have e1 : v (41 * p + 1 + 5 * f + b) = wq v p (f * 5 + b) := by unfold wq; congr 1; omega
  have e2 : 41 * p + 1 + 5 * f + b = 41 * p + 1 + (f * 5 + b) := by omega
  have p2 : 2 ^ s < 2 ^ 8 := Nat.pow_lt_pow_right (by omega) (by omega)
  simp (disch := first | decide | omega) only [rx_W, rx_wp_succ, rx_nx_stop, rx_nx_go, rx_lx_some, rx_fx_some, rx_ax_some, rx_qx_some, rx_ox_some, rx_vx_ref, rx_ix_ref, rx_ld_0, rx_ld_2, rx_ld_3, rx_cx_some, rx_nl, List.getElem?_cons_zero, List.getElem?_cons_succ, List.set_cons_zero, List.set_cons_succ, List.length_cons, List.length_nil, List.take_succ_cons, List.take_zero, List.drop_succ_cons, List.drop_zero, List.reverse_cons, List.reverse_nil, List.nil_append, List.cons_append, Option.toList_some, Option.toList_none, true_and, and_true, and_self, true_or, or_true, false_and, and_false, false_or, or_false, not_false_eq_true, Nat.reduceAdd, Nat.reduceLT, Nat.reduceLeDiff, Nat.reduceBEq, Nat.reduceEqDiff, Bool.or_false, Bool.false_or, if_true, if_false, Bool.false_eq_true, nq_eq, nq_lt, nq_le, nq_in_t, nq_bd, nq_ft, nq_clamp, nq_shl31, nq_shr31, nq_bitb, nq_add, nq_mul, fa_and, fa_or, nq_b0, nq_b1, nq_b01, ↓ni_lt_t, ↓ni_lt_f, ↓ni_le_t, ↓ni_le_f, ↓ni_eq_t, ↓ni_eq_f, ↓ni_beq_t, ↓ni_beq_f, it_X8_move, h1', mO, q_X8_at, a1, a2, e1, rd_eq, rd_ne, Nat.one_mul]
  rw [e2]
  generalize hx : wq v p (f * 5 + b) ||| 2 ^ s = x
  have hx8 : x < 256 := by rw [← hx]; exact or_256 w1 p2
  have hf2 : Fr h' (rx_up h' 99 (.inl (0, 164, .inl (upd g (41 * p + 1 + (f * 5 + b)) (nI x))))) [99] := Fr_up (Fr_rfl _ _) (by simp)
  have y3 : mIv (rx_up h' 99 (.inl (0, 164, .inl (upd g (41 * p + 1 + (f * 5 + b)) (nI x))))) (setP v p (v (41 * p)) (va_up (wq v p) (f * 5 + b) x)) (pU u np v) (pN np) L t cs := mIv_v hf2 y2 ⟨_, rd_eq _ _ _, by rw [setP_up v p (by omega)]; exact aN_upd a2 _ _⟩
  have hw3 : ∀ j, j < 40 → wq (setP v p (v (41 * p)) (va_up (wq v p) (f * 5 + b) x)) p j < 256 := fun j hj => by
    rw [setP_w _ _ _ _ hj]
    unfold va_up
    split
    · exact hx8
    · exact hw j hj
  simp (disch := first | decide | omega) only [rx_W, rx_wp_succ, rx_nx_stop, rx_nx_go, rx_lx_some, rx_fx_some, rx_ax_some, rx_qx_some, rx_ox_some, rx_vx_ref, rx_ix_ref, rx_ld_0, rx_ld_2, rx_ld_3, rx_cx_some, rx_nl, List.getElem?_cons_zero, List.getElem?_cons_succ, List.set_cons_zero, List.set_cons_succ, List.length_cons, List.length_nil, List.take_succ_cons, List.take_zero, List.drop_succ_cons, List.drop_zero, List.reverse_cons, List.reverse_nil, List.nil_append, List.cons_append, Option.toList_some, Option.toList_none, true_and, and_true, and_self, true_or, or_true, false_and, and_false, false_or, or_false, not_false_eq_true, Nat.reduceAdd, Nat.reduceLT, Nat.reduceLeDiff, Nat.reduceBEq, Nat.reduceEqDiff, Bool.or_false, Bool.false_or, if_true, if_false, Bool.false_eq_true, nq_eq, nq_lt, nq_le, nq_in_t, nq_bd, nq_ft, nq_clamp, nq_shl31, nq_shr31, nq_bitb, nq_add, nq_mul, fa_and, fa_or, nq_b0, nq_b1, nq_b01, ↓ni_lt_t, ↓ni_lt_f, ↓ni_le_t, ↓ni_le_f, ↓ni_eq_t, ↓ni_eq_f, ↓ni_beq_t, ↓ni_beq_f, it_X8_move, q_X8_movesOf (mIv_mN y3) hp hw3]
  rw [tot_cong (fun j hj => setP_w v p (v (41 * p)) (va_up (wq v p) (f * 5 + b) x) hj)]
  exact ⟨rfl, Fr_mm (Fr_mA y1 (by simp)) (Fr_mA hf2 (by simp)), y3⟩
theorem m_unmove_no (hi : mIv h v u np L t cs) (hv : wfV v) (hp : p < 4) (hf : f < v (41 * p)) (hb : b < 5) (hs : s < v (41 * p)) (hbit : (wq v p (f * 5 + b)).testBit s = false) : rx_Cl 120 [.ref 98, .int (nI p), .int (nI f), .int (nI b), .int (nI s)] h (mP h (v, u, np, L, t, rfs 1 cs) (.int (rcode 1))) := by
  obtain ⟨pl, fo, z, h1⟩ := hi.1
  have hw := wfP_256 (hv p hp)
  have n8 := (hv p hp).2.1
  have w1 := hw (f * 5 + b) (by omega)
  apply en_X8_unmove _ _ _ _ _ 60 []
  simp (disch := first | decide | omega) only [rx_W, rx_wp_succ, rx_nx_stop, rx_nx_go, rx_lx_some, rx_fx_some, rx_ax_some, rx_qx_some, rx_ox_some, rx_vx_ref, rx_ix_ref, rx_ld_0, rx_ld_2, rx_ld_3, rx_cx_some, rx_nl, List.getElem?_cons_zero, List.getElem?_cons_succ, List.set_cons_zero, List.set_cons_succ, List.length_cons, List.length_nil, List.take_succ_cons, List.take_zero, List.drop_succ_cons, List.drop_zero, List.reverse_cons, List.reverse_nil, List.nil_append, List.cons_append, Option.toList_some, Option.toList_none, true_and, and_true, and_self, true_or, or_true, false_and, and_false, false_or, or_false, not_false_eq_true, Nat.reduceAdd, Nat.reduceLT, Nat.reduceLeDiff, Nat.reduceBEq, Nat.reduceEqDiff, Bool.or_false, Bool.false_or, if_true, if_false, Bool.false_eq_true, nq_eq, nq_lt, nq_le, nq_in_t, nq_bd, nq_ft, nq_clamp, nq_shl31, nq_shr31, nq_bitb, nq_add, nq_mul, fa_and, fa_or, nq_b0, nq_b1, nq_b01, ↓ni_lt_t, ↓ni_lt_f, ↓ni_le_t, ↓ni_le_f, ↓ni_eq_t, ↓ni_eq_f, ↓ni_beq_t, ↓ni_beq_f, it_X8_unmove, q_X8_isMove (mIv_mN hi) hv, isM_of hv hp hf hb hs, h1, mO, q_X8_leadsOf (mIv_mN hi) hp, q_X8_has, hbit]
  refine m_cnt hi (c := 1) (by omega) rfl (fun h' y1 y2 => ?_)
  simp (disch := first | decide | omega) only [rx_W, rx_wp_succ, rx_nx_stop, rx_nx_go, rx_lx_some, rx_fx_some, rx_ax_some, rx_qx_some, rx_ox_some, rx_vx_ref, rx_ix_ref, rx_ld_0, rx_ld_2, rx_ld_3, rx_cx_some, rx_nl, List.getElem?_cons_zero, List.getElem?_cons_succ, List.set_cons_zero, List.set_cons_succ, List.length_cons, List.length_nil, List.take_succ_cons, List.take_zero, List.drop_succ_cons, List.drop_zero, List.reverse_cons, List.reverse_nil, List.nil_append, List.cons_append, Option.toList_some, Option.toList_none, true_and, and_true, and_self, true_or, or_true, false_and, and_false, false_or, or_false, not_false_eq_true, Nat.reduceAdd, Nat.reduceLT, Nat.reduceLeDiff, Nat.reduceBEq, Nat.reduceEqDiff, Bool.or_false, Bool.false_or, if_true, if_false, Bool.false_eq_true, it_X8_unmove]
  exact ⟨rfl, y1, y2⟩
theorem m_unmove_ok (hi : mIv h v u np L t cs) (hv : wfV v) (hn : np ≤ 5) (hp : p < 4) (hf : f < v (41 * p)) (hb : b < 5) (hs : s < v (41 * p)) (hbit : (wq v p (f * 5 + b)).testBit s = true) : rx_Cl 120 [.ref 98, .int (nI p), .int (nI f), .int (nI b), .int (nI s)] h (mP h (setP v p (v (41 * p)) (va_up (wq v p) (f * 5 + b) (wq v p (f * 5 + b) ^^^ (wq v p (f * 5 + b) &&& 2 ^ s))), pU u np v, pN np, L, t, cs) (.int (nI (tot (va_up (wq v p) (f * 5 + b) (wq v p (f * 5 + b) ^^^ (wq v p (f * 5 + b) &&& 2 ^ s))))))) := by
  obtain ⟨pl, fo, z, h1⟩ := hi.1
  have hw := wfP_256 (hv p hp)
  have n8 := (hv p hp).2.1
  have w1 := hw (f * 5 + b) (by omega)
  have p2 : 2 ^ s < 2 ^ 8 := Nat.pow_lt_pow_right (by omega) (by omega)
  apply en_X8_unmove _ _ _ _ _ 60 []
  simp (disch := first | decide | omega) only [rx_W, rx_wp_succ, rx_nx_stop, rx_nx_go, rx_lx_some, rx_fx_some, rx_ax_some, rx_qx_some, rx_ox_some, rx_vx_ref, rx_ix_ref, rx_ld_0, rx_ld_2, rx_ld_3, rx_cx_some, rx_nl, List.getElem?_cons_zero, List.getElem?_cons_succ, List.set_cons_zero, List.set_cons_succ, List.length_cons, List.length_nil, List.take_succ_cons, List.take_zero, List.drop_succ_cons, List.drop_zero, List.reverse_cons, List.reverse_nil, List.nil_append, List.cons_append, Option.toList_some, Option.toList_none, true_and, and_true, and_self, true_or, or_true, false_and, and_false, false_or, or_false, not_false_eq_true, Nat.reduceAdd, Nat.reduceLT, Nat.reduceLeDiff, Nat.reduceBEq, Nat.reduceEqDiff, Bool.or_false, Bool.false_or, if_true, if_false, Bool.false_eq_true, nq_eq, nq_lt, nq_le, nq_in_t, nq_bd, nq_ft, nq_clamp, nq_shl31, nq_shr31, nq_bitb, nq_add, nq_mul, fa_and, fa_or, nq_b0, nq_b1, nq_b01, ↓ni_lt_t, ↓ni_lt_f, ↓ni_le_t, ↓ni_le_f, ↓ni_eq_t, ↓ni_eq_f, ↓ni_beq_t, ↓ni_beq_f, it_X8_unmove, q_X8_isMove (mIv_mN hi) hv, isM_of hv hp hf hb hs, h1, mO, q_X8_leadsOf (mIv_mN hi) hp, q_X8_has, hbit]
  refine rx_Cl_imp (m_leaves hi hn) (fun r h' ⟨e, y1, y2⟩ => ?_)
  subst e
  obtain ⟨pl', fo', z', h1'⟩ := y2.1
  have y2' := y2
  obtain ⟨-, ⟨g, a1, a2⟩, -⟩ := y2'
  have e1 : v (41 * p + 1 + 5 * f + b) = wq v p (f * 5 + b) := by unfold wq; congr 1; omega
  have e2 : 41 * p + 1 + 5 * f + b = 41 * p + 1 + (f * 5 + b) := by omega
  simp (disch := first | decide | omega) only [rx_W, rx_wp_succ, rx_nx_stop, rx_nx_go, rx_lx_some, rx_fx_some, rx_ax_some, rx_qx_some, rx_ox_some, rx_vx_ref, rx_ix_ref, rx_ld_0, rx_ld_2, rx_ld_3, rx_cx_some, rx_nl, List.getElem?_cons_zero, List.getElem?_cons_succ, List.set_cons_zero, List.set_cons_succ, List.length_cons, List.length_nil, List.take_succ_cons, List.take_zero, List.drop_succ_cons, List.drop_zero, List.reverse_cons, List.reverse_nil, List.nil_append, List.cons_append, Option.toList_some, Option.toList_none, true_and, and_true, and_self, true_or, or_true, false_and, and_false, false_or, or_false, not_false_eq_true, Nat.reduceAdd, Nat.reduceLT, Nat.reduceLeDiff, Nat.reduceBEq, Nat.reduceEqDiff, Bool.or_false, Bool.false_or, if_true, if_false, Bool.false_eq_true, nq_eq, nq_lt, nq_le, nq_in_t, nq_bd, nq_ft, nq_clamp, nq_shl31, nq_shr31, nq_bitb, nq_add, nq_mul, fa_and, fa_or, nq_b0, nq_b1, nq_b01, ↓ni_lt_t, ↓ni_lt_f, ↓ni_le_t, ↓ni_le_f, ↓ni_eq_t, ↓ni_eq_f, ↓ni_beq_t, ↓ni_beq_f, it_X8_unmove, h1', mO, q_X8_at, a1, a2, e1, rd_eq, rd_ne, Nat.one_mul, nq_andn]
  rw [e2]
  generalize hx : wq v p (f * 5 + b) ^^^ (wq v p (f * 5 + b) &&& 2 ^ s) = x
  have hx8 : x < 256 := by rw [← hx]; exact Nat.xor_lt_two_pow (n := 8) w1 (Nat.and_lt_two_pow (n := 8) _ p2)
  have hf2 : Fr h' (rx_up h' 99 (.inl (0, 164, .inl (upd g (41 * p + 1 + (f * 5 + b)) (nI x))))) [99] := Fr_up (Fr_rfl _ _) (by simp)
  have y3 : mIv (rx_up h' 99 (.inl (0, 164, .inl (upd g (41 * p + 1 + (f * 5 + b)) (nI x))))) (setP v p (v (41 * p)) (va_up (wq v p) (f * 5 + b) x)) (pU u np v) (pN np) L t cs := mIv_v hf2 y2 ⟨_, rd_eq _ _ _, by rw [setP_up v p (by omega)]; exact aN_upd a2 _ _⟩
  have hw3 : ∀ j, j < 40 → wq (setP v p (v (41 * p)) (va_up (wq v p) (f * 5 + b) x)) p j < 256 := fun j hj => by
    rw [setP_w _ _ _ _ hj]
    unfold va_up
    split
    · exact hx8
    · exact hw j hj
  simp (disch := first | decide | omega) only [rx_W, rx_wp_succ, rx_nx_stop, rx_nx_go, rx_lx_some, rx_fx_some, rx_ax_some, rx_qx_some, rx_ox_some, rx_vx_ref, rx_ix_ref, rx_ld_0, rx_ld_2, rx_ld_3, rx_cx_some, rx_nl, List.getElem?_cons_zero, List.getElem?_cons_succ, List.set_cons_zero, List.set_cons_succ, List.length_cons, List.length_nil, List.take_succ_cons, List.take_zero, List.drop_succ_cons, List.drop_zero, List.reverse_cons, List.reverse_nil, List.nil_append, List.cons_append, Option.toList_some, Option.toList_none, true_and, and_true, and_self, true_or, or_true, false_and, and_false, false_or, or_false, not_false_eq_true, Nat.reduceAdd, Nat.reduceLT, Nat.reduceLeDiff, Nat.reduceBEq, Nat.reduceEqDiff, Bool.or_false, Bool.false_or, if_true, if_false, Bool.false_eq_true, nq_eq, nq_lt, nq_le, nq_in_t, nq_bd, nq_ft, nq_clamp, nq_shl31, nq_shr31, nq_bitb, nq_add, nq_mul, fa_and, fa_or, nq_b0, nq_b1, nq_b01, ↓ni_lt_t, ↓ni_lt_f, ↓ni_le_t, ↓ni_le_f, ↓ni_eq_t, ↓ni_eq_f, ↓ni_beq_t, ↓ni_beq_f, it_X8_unmove, q_X8_movesOf (mIv_mN y3) hp hw3]
  rw [tot_cong (fun j hj => setP_w v p (v (41 * p)) (va_up (wq v p) (f * 5 + b) x) hj)]
  exact ⟨rfl, Fr_mm (Fr_mA y1 (by simp)) (Fr_mA hf2 (by simp)), y3⟩
/-! shifts, hides, renames -/
theorem l_X8_sh {h0 : rx_H} {n a c : Nat} {w : Nat → Nat} {pa le pl fo : Int32} {z : Int64} (h1 : rx_rd h0 98 = some (mO pa le pl fo z)) (hp : p < 4) (hn : n ≤ 8) (hw : ∀ j, j < 40 → w j < 256) (ha : a < 5) (hc : c < 5) (hac : ¬ a = c) (Q : Option Value → rx_H → Prop)
    (hq : ∀ h, Fr h0 h [99] → aN h 99 164 (setP v p n (turnW a c n w)) → Q none h) :
    ∀ j s h, s + j = n → Fr h0 h [99] → aN h 99 164 (setP v p n (turnW a c s w)) → rx_R 121 3 [.ref 98, .int (nI p), .int (nI a), .int (nI c), .int (nI s)] [] h Q
  | 0, s, h, e, hf, hA => by
    have e' : s = n := by omega
    subst e'
    have h1' := rd_fr hf (by simp) h1
    have hm : mN h (setP v p s (turnW a c s w)) := ⟨⟨_, _, _, _, _, h1'⟩, hA⟩
    have en := setP_n v p s (turnW a c s w)
    apply rx_wp_sound 60 [3]
    simp (disch := first | decide | omega) only [rx_W, rx_wp_succ, rx_nx_stop, rx_nx_go, rx_lx_some, rx_fx_some, rx_ax_some, rx_qx_some, rx_ox_some, rx_vx_ref, rx_ix_ref, rx_ld_0, rx_ld_2, rx_ld_3, rx_cx_some, rx_nl, List.getElem?_cons_zero, List.getElem?_cons_succ, List.set_cons_zero, List.set_cons_succ, List.length_cons, List.length_nil, List.take_succ_cons, List.take_zero, List.drop_succ_cons, List.drop_zero, List.reverse_cons, List.reverse_nil, List.nil_append, List.cons_append, Option.toList_some, Option.toList_none, true_and, and_true, and_self, true_or, or_true, false_and, and_false, false_or, or_false, not_false_eq_true, Nat.reduceAdd, Nat.reduceLT, Nat.reduceLeDiff, Nat.reduceBEq, Nat.reduceEqDiff, Bool.or_false, Bool.false_or, if_true, if_false, Bool.false_eq_true, nq_eq, nq_lt, nq_le, nq_in_t, nq_bd, nq_ft, nq_clamp, nq_shl31, nq_shr31, nq_bitb, nq_add, nq_mul, fa_and, fa_or, nq_b0, nq_b1, nq_b01, ↓ni_lt_t, ↓ni_lt_f, ↓ni_le_t, ↓ni_le_f, ↓ni_eq_t, ↓ni_eq_f, ↓ni_beq_t, ↓ni_beq_f, it_X8_shifts, h1', mO, q_X8_many hm, en]
    exact hq h hf hA
  | j + 1, s, h, e, hf, hA => by
    have h1' := rd_fr hf (by simp) h1
    have hm : mN h (setP v p n (turnW a c s w)) := ⟨⟨_, _, _, _, _, h1'⟩, hA⟩
    have en := setP_n v p n (turnW a c s w)
    obtain ⟨g, a1, a2⟩ := hA
    have e1 : ∀ i, i < 40 → setP v p n (turnW a c s w) (41 * p + 1 + i) = turnW a c s w i := fun i hi => setP_w v p n (turnW a c s w) hi
    have ec : setP v p n (turnW a c s w) (41 * p + 1 + 5 * s + c) = w (s * 5 + c) := by
      rw [show 41 * p + 1 + 5 * s + c = 41 * p + 1 + (s * 5 + c) by omega, e1 _ (by omega), turnW_at w hc (Nat.le_refl s)]
    have ea : wq (setP v p n (turnW a c s w)) p (s * 5 + a) = w (s * 5 + a) := by
      rw [setP_w v p n _ (by omega), turnW_at w ha (Nat.le_refl s)]
    have a3 := a2 (41 * p + 1 + 5 * s + c) (by omega)
    rw [ec] at a3
    have stp : setP v p n (turnW a c (s + 1) w) = va_up (va_up (setP v p n (turnW a c s w)) (41 * p + 1 + (s * 5 + c)) (w (s * 5 + c) ||| w (s * 5 + a))) (41 * p + 1 + (s * 5 + a)) 0 := by
      rw [setP_up2 _ _ _ _ (by omega), setP_up2 _ _ _ _ (by omega), turnW_succ ha hc hac w]
    have ih := fun h => l_X8_sh h1 hp hn hw ha hc hac Q hq j (s + 1) h (by omega)
    rw [stp] at ih
    have o8 := or_256 (hw (s * 5 + c) (by omega)) (hw (s * 5 + a) (by omega))
    have k1 : 41 * p + 1 + 5 * s + c = 41 * p + 1 + (s * 5 + c) := by omega
    have k2 : 41 * p + 1 + 5 * s + a = 41 * p + 1 + (s * 5 + a) := by omega
    apply rx_wp_sound 60 [3]
    simp (disch := first | decide | omega) only [rx_W, rx_wp_succ, rx_nx_stop, rx_nx_go, rx_lx_some, rx_fx_some, rx_ax_some, rx_qx_some, rx_ox_some, rx_vx_ref, rx_ix_ref, rx_ld_0, rx_ld_2, rx_ld_3, rx_cx_some, rx_nl, List.getElem?_cons_zero, List.getElem?_cons_succ, List.set_cons_zero, List.set_cons_succ, List.length_cons, List.length_nil, List.take_succ_cons, List.take_zero, List.drop_succ_cons, List.drop_zero, List.reverse_cons, List.reverse_nil, List.nil_append, List.cons_append, Option.toList_some, Option.toList_none, true_and, and_true, and_self, true_or, or_true, false_and, and_false, false_or, or_false, not_false_eq_true, Nat.reduceAdd, Nat.reduceLT, Nat.reduceLeDiff, Nat.reduceBEq, Nat.reduceEqDiff, Bool.or_false, Bool.false_or, if_true, if_false, Bool.false_eq_true, nq_eq, nq_lt, nq_le, nq_in_t, nq_bd, nq_ft, nq_clamp, nq_shl31, nq_shr31, nq_bitb, nq_add, nq_mul, fa_and, fa_or, nq_b0, nq_b1, nq_b01, ↓ni_lt_t, ↓ni_lt_f, ↓ni_le_t, ↓ni_le_f, ↓ni_eq_t, ↓ni_eq_f, ↓ni_beq_t, ↓ni_beq_f, it_X8_shifts, h1', mO, q_X8_many hm, en, q_X8_at, q_X8_leadsOf hm hp, ea, a1, a3, rd_eq, rd_ne]
    rw [k1, k2]
    exact ih _ (Fr_up (Fr_up hf (by simp)) (by simp)) ⟨_, rd_eq _ _ _, aN_upd (aN_upd a2 _ _) _ _⟩
theorem c_X8_shifts {h0 : rx_H} {n a c : Nat} {w : Nat → Nat} {pa le pl fo : Int32} {z : Int64} (h1 : rx_rd h0 98 = some (mO pa le pl fo z)) (hp : p < 4) (hn0 : 1 ≤ n) (hn : n ≤ 8) (hw : ∀ j, j < 40 → w j < 256) (ha : a < 5) (hc : c < 5) (hA : aN h0 99 164 (setP v p n w)) : rx_Cl 121 [.ref 98, .int (nI p), .int (nI a), .int (nI c)] h0 (fun r h' => r = none ∧ Fr h0 h' [99] ∧ aN h' 99 164 (setP v p n (if a = c then w else turnW a c n w))) := by
  by_cases hac : a = c
  · have hm : mN h0 (setP v p n w) := ⟨⟨_, _, _, _, _, h1⟩, hA⟩
    have en := setP_n v p n w
    apply en_X8_shifts _ _ _ _ 60 []
    simp (disch := first | decide | omega) only [rx_W, rx_wp_succ, rx_nx_stop, rx_nx_go, rx_lx_some, rx_fx_some, rx_ax_some, rx_qx_some, rx_ox_some, rx_vx_ref, rx_ix_ref, rx_ld_0, rx_ld_2, rx_ld_3, rx_cx_some, rx_nl, List.getElem?_cons_zero, List.getElem?_cons_succ, List.set_cons_zero, List.set_cons_succ, List.length_cons, List.length_nil, List.take_succ_cons, List.take_zero, List.drop_succ_cons, List.drop_zero, List.reverse_cons, List.reverse_nil, List.nil_append, List.cons_append, Option.toList_some, Option.toList_none, true_and, and_true, and_self, true_or, or_true, false_and, and_false, false_or, or_false, not_false_eq_true, Nat.reduceAdd, Nat.reduceLT, Nat.reduceLeDiff, Nat.reduceBEq, Nat.reduceEqDiff, Bool.or_false, Bool.false_or, if_true, if_false, Bool.false_eq_true, nq_eq, nq_lt, nq_le, nq_in_t, nq_bd, nq_ft, nq_clamp, nq_shl31, nq_shr31, nq_bitb, nq_add, nq_mul, fa_and, fa_or, nq_b0, nq_b1, nq_b01, ↓ni_lt_t, ↓ni_lt_f, ↓ni_le_t, ↓ni_le_f, ↓ni_eq_t, ↓ni_eq_f, ↓ni_beq_t, ↓ni_beq_f, it_X8_shifts, h1, mO, q_X8_many hm, en, hac]
    exact ⟨Fr_rfl _ _, hA⟩
  · rw [if_neg hac]
    apply en_X8_shifts _ _ _ _ 60 [3]
    simp (disch := first | decide | omega) only [rx_W, rx_wp_succ, rx_nx_stop, rx_nx_go, rx_lx_some, rx_fx_some, rx_ax_some, rx_qx_some, rx_ox_some, rx_vx_ref, rx_ix_ref, rx_ld_0, rx_ld_2, rx_ld_3, rx_cx_some, rx_nl, List.getElem?_cons_zero, List.getElem?_cons_succ, List.set_cons_zero, List.set_cons_succ, List.length_cons, List.length_nil, List.take_succ_cons, List.take_zero, List.drop_succ_cons, List.drop_zero, List.reverse_cons, List.reverse_nil, List.nil_append, List.cons_append, Option.toList_some, Option.toList_none, true_and, and_true, and_self, true_or, or_true, false_and, and_false, false_or, or_false, not_false_eq_true, Nat.reduceAdd, Nat.reduceLT, Nat.reduceLeDiff, Nat.reduceBEq, Nat.reduceEqDiff, Bool.or_false, Bool.false_or, if_true, if_false, Bool.false_eq_true, nq_eq, nq_lt, nq_le, nq_in_t, nq_bd, nq_ft, nq_clamp, nq_shl31, nq_shr31, nq_bitb, nq_add, nq_mul, fa_and, fa_or, nq_b0, nq_b1, nq_b01, ↓ni_lt_t, ↓ni_lt_f, ↓ni_le_t, ↓ni_le_f, ↓ni_eq_t, ↓ni_eq_f, ↓ni_beq_t, ↓ni_beq_f, it_X8_shifts]
    exact l_X8_sh h1 hp hn hw ha hc hac _ (fun h y1 y2 => ⟨rfl, y1, y2⟩) n 0 h0 (by omega) (Fr_rfl _ _) (by rw [turnW_0]; exact hA)
/-- letters of a set become silent, the first a letters looked at -/
def hdW (n set : Nat) (w : Nat → Nat) : Nat → Nat → Nat
  | 0 => w
  | a + 1 => if set.testBit a then turnW a 4 n (hdW n set w a) else hdW n set w a
theorem hdW_lt {n set N : Nat} {w : Nat → Nat} (hw : ∀ j, j < 40 → w j < 2 ^ N) : ∀ a, a ≤ 4 → ∀ j, j < 40 → hdW n set w a j < 2 ^ N
  | 0, _ => hw
  | a + 1, ha => fun j hj => by
    show (if set.testBit a then turnW a 4 n (hdW n set w a) else hdW n set w a) j < _
    split
    · exact turnW_lt (by omega) (hdW_lt hw a (by omega)) j hj
    · exact hdW_lt hw a (by omega) j hj
theorem l_X8_hd {h0 : rx_H} {n set : Nat} {w : Nat → Nat} {pa le pl fo : Int32} {z : Int64} (h1 : rx_rd h0 98 = some (mO pa le pl fo z)) (hp : p < 4) (hn0 : 1 ≤ n) (hn : n ≤ 8) (hw : ∀ j, j < 40 → w j < 256) (hset : set < 16) (Q : Option Value → rx_H → Prop)
    (hq : ∀ h, Fr h0 h [99] → aN h 99 164 (setP v p n (hdW n set w 4)) → rx_R 122 56 [.ref 98, .int (nI p), .int (nI set), .int (nI 4)] [] h Q) :
    ∀ j a h, a + j = 4 → Fr h0 h [99] → aN h 99 164 (setP v p n (hdW n set w a)) → rx_R 122 30 [.ref 98, .int (nI p), .int (nI set), .int (nI a)] [] h Q
  | 0, a, h, e, hf, hA => by
    have e' : a = 4 := by omega
    subst e'
    apply rx_wp_sound 60 [30, 56]
    simp (disch := first | decide | omega) only [rx_W, rx_wp_succ, rx_nx_stop, rx_nx_go, rx_lx_some, rx_fx_some, rx_ax_some, rx_qx_some, rx_ox_some, rx_vx_ref, rx_ix_ref, rx_ld_0, rx_ld_2, rx_ld_3, rx_cx_some, rx_nl, List.getElem?_cons_zero, List.getElem?_cons_succ, List.set_cons_zero, List.set_cons_succ, List.length_cons, List.length_nil, List.take_succ_cons, List.take_zero, List.drop_succ_cons, List.drop_zero, List.reverse_cons, List.reverse_nil, List.nil_append, List.cons_append, Option.toList_some, Option.toList_none, true_and, and_true, and_self, true_or, or_true, false_and, and_false, false_or, or_false, not_false_eq_true, Nat.reduceAdd, Nat.reduceLT, Nat.reduceLeDiff, Nat.reduceBEq, Nat.reduceEqDiff, Bool.or_false, Bool.false_or, if_true, if_false, Bool.false_eq_true, nq_eq, nq_lt, nq_le, nq_in_t, nq_bd, nq_ft, nq_clamp, nq_shl31, nq_shr31, nq_bitb, nq_add, nq_mul, fa_and, fa_or, nq_b0, nq_b1, nq_b01, ↓ni_lt_t, ↓ni_lt_f, ↓ni_le_t, ↓ni_le_f, ↓ni_eq_t, ↓ni_eq_f, ↓ni_beq_t, ↓ni_beq_f, it_X8_hides]
    exact hq h hf hA
  | j + 1, a, h, e, hf, hA => by
    have h1' := rd_fr hf (by simp) h1
    have ih := fun h => l_X8_hd h1 hp hn0 hn hw hset Q hq j (a + 1) h (by omega)
    have e1 : hdW n set w (a + 1) = if set.testBit a then turnW a 4 n (hdW n set w a) else hdW n set w a := rfl
    rw [e1] at ih
    apply rx_wp_sound 60 [30, 56]
    cases c : set.testBit a with
    | false =>
      rw [c, if_neg (by simp)] at ih
      simp (disch := first | decide | omega) only [rx_W, rx_wp_succ, rx_nx_stop, rx_nx_go, rx_lx_some, rx_fx_some, rx_ax_some, rx_qx_some, rx_ox_some, rx_vx_ref, rx_ix_ref, rx_ld_0, rx_ld_2, rx_ld_3, rx_cx_some, rx_nl, List.getElem?_cons_zero, List.getElem?_cons_succ, List.set_cons_zero, List.set_cons_succ, List.length_cons, List.length_nil, List.take_succ_cons, List.take_zero, List.drop_succ_cons, List.drop_zero, List.reverse_cons, List.reverse_nil, List.nil_append, List.cons_append, Option.toList_some, Option.toList_none, true_and, and_true, and_self, true_or, or_true, false_and, and_false, false_or, or_false, not_false_eq_true, Nat.reduceAdd, Nat.reduceLT, Nat.reduceLeDiff, Nat.reduceBEq, Nat.reduceEqDiff, Bool.or_false, Bool.false_or, if_true, if_false, Bool.false_eq_true, nq_eq, nq_lt, nq_le, nq_in_t, nq_bd, nq_ft, nq_clamp, nq_shl31, nq_shr31, nq_bitb, nq_add, nq_mul, fa_and, fa_or, nq_b0, nq_b1, nq_b01, ↓ni_lt_t, ↓ni_lt_f, ↓ni_le_t, ↓ni_le_f, ↓ni_eq_t, ↓ni_eq_f, ↓ni_beq_t, ↓ni_beq_f, it_X8_hides, q_X8_has, c]
      exact ih h hf hA
    | true =>
      rw [c, if_pos rfl] at ih
      simp (disch := first | decide | omega) only [rx_W, rx_wp_succ, rx_nx_stop, rx_nx_go, rx_lx_some, rx_fx_some, rx_ax_some, rx_qx_some, rx_ox_some, rx_vx_ref, rx_ix_ref, rx_ld_0, rx_ld_2, rx_ld_3, rx_cx_some, rx_nl, List.getElem?_cons_zero, List.getElem?_cons_succ, List.set_cons_zero, List.set_cons_succ, List.length_cons, List.length_nil, List.take_succ_cons, List.take_zero, List.drop_succ_cons, List.drop_zero, List.reverse_cons, List.reverse_nil, List.nil_append, List.cons_append, Option.toList_some, Option.toList_none, true_and, and_true, and_self, true_or, or_true, false_and, and_false, false_or, or_false, not_false_eq_true, Nat.reduceAdd, Nat.reduceLT, Nat.reduceLeDiff, Nat.reduceBEq, Nat.reduceEqDiff, Bool.or_false, Bool.false_or, if_true, if_false, Bool.false_eq_true, nq_eq, nq_lt, nq_le, nq_in_t, nq_bd, nq_ft, nq_clamp, nq_shl31, nq_shr31, nq_bitb, nq_add, nq_mul, fa_and, fa_or, nq_b0, nq_b1, nq_b01, ↓ni_lt_t, ↓ni_lt_f, ↓ni_le_t, ↓ni_le_f, ↓ni_eq_t, ↓ni_eq_f, ↓ni_beq_t, ↓ni_beq_f, it_X8_hides, q_X8_has, c, h1', mO]
      refine rx_Cl_imp (c_X8_shifts h1' hp hn0 hn (hdW_lt (N := 8) hw a (by omega)) (by omega) (by omega) hA) (fun r h2 ⟨e2, y1, y2⟩ => ?_)
      subst e2
      rw [if_neg (by omega)] at y2
      simp (disch := first | decide | omega) only [rx_W, rx_wp_succ, rx_nx_stop, rx_nx_go, rx_lx_some, rx_fx_some, rx_ax_some, rx_qx_some, rx_ox_some, rx_vx_ref, rx_ix_ref, rx_ld_0, rx_ld_2, rx_ld_3, rx_cx_some, rx_nl, List.getElem?_cons_zero, List.getElem?_cons_succ, List.set_cons_zero, List.set_cons_succ, List.length_cons, List.length_nil, List.take_succ_cons, List.take_zero, List.drop_succ_cons, List.drop_zero, List.reverse_cons, List.reverse_nil, List.nil_append, List.cons_append, Option.toList_some, Option.toList_none, true_and, and_true, and_self, true_or, or_true, false_and, and_false, false_or, or_false, not_false_eq_true, Nat.reduceAdd, Nat.reduceLT, Nat.reduceLeDiff, Nat.reduceBEq, Nat.reduceEqDiff, Bool.or_false, Bool.false_or, if_true, if_false, Bool.false_eq_true, nq_eq, nq_lt, nq_le, nq_in_t, nq_bd, nq_ft, nq_clamp, nq_shl31, nq_shr31, nq_bitb, nq_add, nq_mul, fa_and, fa_or, nq_b0, nq_b1, nq_b01, ↓ni_lt_t, ↓ni_lt_f, ↓ni_le_t, ↓ni_le_f, ↓ni_eq_t, ↓ni_eq_f, ↓ni_beq_t, ↓ni_beq_f, it_X8_hides]
      exact ih h2 (Fr_trans hf y1 (fun _ z => z) (fun _ z => z)) y2
theorem m_hides_bad (hi : mIv h v u np L t cs) {p n : Int32} (hb : (inR p 4 && inR n 16) = false) : rx_Cl 122 [.ref 98, .int p, .int n] h (mP h (v, u, np, L, t, rfs 0 cs) (.int (rcode 0))) := by
  obtain ⟨pl, fo, z, h1⟩ := hi.1
  apply en_X8_hides _ _ _ 60 []
  cases c : inR p 4 with
  | false =>
    simp (disch := first | decide | omega) only [rx_W, rx_wp_succ, rx_nx_stop, rx_nx_go, rx_lx_some, rx_fx_some, rx_ax_some, rx_qx_some, rx_ox_some, rx_vx_ref, rx_ix_ref, rx_ld_0, rx_ld_2, rx_ld_3, rx_cx_some, rx_nl, List.getElem?_cons_zero, List.getElem?_cons_succ, List.set_cons_zero, List.set_cons_succ, List.length_cons, List.length_nil, List.take_succ_cons, List.take_zero, List.drop_succ_cons, List.drop_zero, List.reverse_cons, List.reverse_nil, List.nil_append, List.cons_append, Option.toList_some, Option.toList_none, true_and, and_true, and_self, true_or, or_true, false_and, and_false, false_or, or_false, not_false_eq_true, Nat.reduceAdd, Nat.reduceLT, Nat.reduceLeDiff, Nat.reduceBEq, Nat.reduceEqDiff, Bool.or_false, Bool.false_or, if_true, if_false, Bool.false_eq_true, nq_eq, nq_lt, nq_le, nq_in_t, nq_bd, nq_ft, nq_clamp, nq_shl31, nq_shr31, nq_bitb, nq_add, nq_mul, fa_and, fa_or, nq_b0, nq_b1, nq_b01, ↓ni_lt_t, ↓ni_lt_f, ↓ni_le_t, ↓ni_le_f, ↓ni_eq_t, ↓ni_eq_f, ↓ni_beq_t, ↓ni_beq_f, it_X8_hides, q_X8_isProcess, c, h1, mO]
    refine m_cnt hi (c := 0) (by omega) rfl (fun h' y1 y2 => ?_)
    simp (disch := first | decide | omega) only [rx_W, rx_wp_succ, rx_nx_stop, rx_nx_go, rx_lx_some, rx_fx_some, rx_ax_some, rx_qx_some, rx_ox_some, rx_vx_ref, rx_ix_ref, rx_ld_0, rx_ld_2, rx_ld_3, rx_cx_some, rx_nl, List.getElem?_cons_zero, List.getElem?_cons_succ, List.set_cons_zero, List.set_cons_succ, List.length_cons, List.length_nil, List.take_succ_cons, List.take_zero, List.drop_succ_cons, List.drop_zero, List.reverse_cons, List.reverse_nil, List.nil_append, List.cons_append, Option.toList_some, Option.toList_none, true_and, and_true, and_self, true_or, or_true, false_and, and_false, false_or, or_false, not_false_eq_true, Nat.reduceAdd, Nat.reduceLT, Nat.reduceLeDiff, Nat.reduceBEq, Nat.reduceEqDiff, Bool.or_false, Bool.false_or, if_true, if_false, Bool.false_eq_true, it_X8_hides]
    exact ⟨rfl, y1, y2⟩
  | true =>
    rw [c, Bool.true_and] at hb
    simp (disch := first | decide | omega) only [rx_W, rx_wp_succ, rx_nx_stop, rx_nx_go, rx_lx_some, rx_fx_some, rx_ax_some, rx_qx_some, rx_ox_some, rx_vx_ref, rx_ix_ref, rx_ld_0, rx_ld_2, rx_ld_3, rx_cx_some, rx_nl, List.getElem?_cons_zero, List.getElem?_cons_succ, List.set_cons_zero, List.set_cons_succ, List.length_cons, List.length_nil, List.take_succ_cons, List.take_zero, List.drop_succ_cons, List.drop_zero, List.reverse_cons, List.reverse_nil, List.nil_append, List.cons_append, Option.toList_some, Option.toList_none, true_and, and_true, and_self, true_or, or_true, false_and, and_false, false_or, or_false, not_false_eq_true, Nat.reduceAdd, Nat.reduceLT, Nat.reduceLeDiff, Nat.reduceBEq, Nat.reduceEqDiff, Bool.or_false, Bool.false_or, if_true, if_false, Bool.false_eq_true, nq_eq, nq_lt, nq_le, nq_in_t, nq_bd, nq_ft, nq_clamp, nq_shl31, nq_shr31, nq_bitb, nq_add, nq_mul, fa_and, fa_or, nq_b0, nq_b1, nq_b01, ↓ni_lt_t, ↓ni_lt_f, ↓ni_le_t, ↓ni_le_f, ↓ni_eq_t, ↓ni_eq_f, ↓ni_beq_t, ↓ni_beq_f, it_X8_hides, q_X8_isProcess, q_X8_within, c, hb, h1, mO]
    refine m_cnt hi (c := 0) (by omega) rfl (fun h' y1 y2 => ?_)
    simp (disch := first | decide | omega) only [rx_W, rx_wp_succ, rx_nx_stop, rx_nx_go, rx_lx_some, rx_fx_some, rx_ax_some, rx_qx_some, rx_ox_some, rx_vx_ref, rx_ix_ref, rx_ld_0, rx_ld_2, rx_ld_3, rx_cx_some, rx_nl, List.getElem?_cons_zero, List.getElem?_cons_succ, List.set_cons_zero, List.set_cons_succ, List.length_cons, List.length_nil, List.take_succ_cons, List.take_zero, List.drop_succ_cons, List.drop_zero, List.reverse_cons, List.reverse_nil, List.nil_append, List.cons_append, Option.toList_some, Option.toList_none, true_and, and_true, and_self, true_or, or_true, false_and, and_false, false_or, or_false, not_false_eq_true, Nat.reduceAdd, Nat.reduceLT, Nat.reduceLeDiff, Nat.reduceBEq, Nat.reduceEqDiff, Bool.or_false, Bool.false_or, if_true, if_false, Bool.false_eq_true, it_X8_hides]
    exact ⟨rfl, y1, y2⟩
theorem m_hides_ok (hi : mIv h v u np L t cs) (hv : wfV v) (hn : np ≤ 5) {set : Nat} (hp : p < 4) (hset : set < 16) : rx_Cl 122 [.ref 98, .int (nI p), .int (nI set)] h (mP h (setP v p (v (41 * p)) (hdW (v (41 * p)) set (wq v p) 4), pU u np v, pN np, L, t, cs) (.int (nI (tot (hdW (v (41 * p)) set (wq v p) 4))))) := by
  obtain ⟨pl, fo, z, h1⟩ := hi.1
  have hw := wfP_256 (hv p hp)
  obtain ⟨n0, n8, -⟩ := hv p hp
  apply en_X8_hides _ _ _ 60 [30]
  simp (disch := first | decide | omega) only [rx_W, rx_wp_succ, rx_nx_stop, rx_nx_go, rx_lx_some, rx_fx_some, rx_ax_some, rx_qx_some, rx_ox_some, rx_vx_ref, rx_ix_ref, rx_ld_0, rx_ld_2, rx_ld_3, rx_cx_some, rx_nl, List.getElem?_cons_zero, List.getElem?_cons_succ, List.set_cons_zero, List.set_cons_succ, List.length_cons, List.length_nil, List.take_succ_cons, List.take_zero, List.drop_succ_cons, List.drop_zero, List.reverse_cons, List.reverse_nil, List.nil_append, List.cons_append, Option.toList_some, Option.toList_none, true_and, and_true, and_self, true_or, or_true, false_and, and_false, false_or, or_false, not_false_eq_true, Nat.reduceAdd, Nat.reduceLT, Nat.reduceLeDiff, Nat.reduceBEq, Nat.reduceEqDiff, Bool.or_false, Bool.false_or, if_true, if_false, Bool.false_eq_true, nq_eq, nq_lt, nq_le, nq_in_t, nq_bd, nq_ft, nq_clamp, nq_shl31, nq_shr31, nq_bitb, nq_add, nq_mul, fa_and, fa_or, nq_b0, nq_b1, nq_b01, ↓ni_lt_t, ↓ni_lt_f, ↓ni_le_t, ↓ni_le_f, ↓ni_eq_t, ↓ni_eq_f, ↓ni_beq_t, ↓ni_beq_f, it_X8_hides, q_X8_isProcess, q_X8_within, inR_of hp, inR_of hset, h1, mO]
  refine rx_Cl_imp (m_leaves hi hn) (fun r h' ⟨e, y1, y2⟩ => ?_)
  subst e
  obtain ⟨pl', fo', z', h1'⟩ := y2.1
  simp (disch := first | decide | omega) only [rx_W, rx_wp_succ, rx_nx_stop, rx_nx_go, rx_lx_some, rx_fx_some, rx_ax_some, rx_qx_some, rx_ox_some, rx_vx_ref, rx_ix_ref, rx_ld_0, rx_ld_2, rx_ld_3, rx_cx_some, rx_nl, List.getElem?_cons_zero, List.getElem?_cons_succ, List.set_cons_zero, List.set_cons_succ, List.length_cons, List.length_nil, List.take_succ_cons, List.take_zero, List.drop_succ_cons, List.drop_zero, List.reverse_cons, List.reverse_nil, List.nil_append, List.cons_append, Option.toList_some, Option.toList_none, true_and, and_true, and_self, true_or, or_true, false_and, and_false, false_or, or_false, not_false_eq_true, Nat.reduceAdd, Nat.reduceLT, Nat.reduceLeDiff, Nat.reduceBEq, Nat.reduceEqDiff, Bool.or_false, Bool.false_or, if_true, if_false, Bool.false_eq_true, nq_eq, nq_lt, nq_le, nq_in_t, nq_bd, nq_ft, nq_clamp, nq_shl31, nq_shr31, nq_bitb, nq_add, nq_mul, fa_and, fa_or, nq_b0, nq_b1, nq_b01, ↓ni_lt_t, ↓ni_lt_f, ↓ni_le_t, ↓ni_le_f, ↓ni_eq_t, ↓ni_eq_f, ↓ni_beq_t, ↓ni_beq_f, it_X8_hides]
  refine l_X8_hd (h0 := h') (v := v) (n := v (41 * p)) (w := wq v p) h1' hp n0 n8 hw hset _ (fun h2 z1 z2 => ?_) 4 0 h' (by omega) (Fr_rfl _ _) (by rw [show hdW (v (41 * p)) set (wq v p) 0 = wq v p from rfl, setP_id]; exact y2.2.1)
  have h2' := rd_fr z1 (by simp) h1'
  have y3 := mIv_v z1 y2 z2
  have hw3 : ∀ j, j < 40 → wq (setP v p (v (41 * p)) (hdW (v (41 * p)) set (wq v p) 4)) p j < 256 := fun j hj => by
    rw [setP_w _ _ _ _ hj]
    exact hdW_lt (N := 8) hw 4 (by omega) j hj
  apply rx_wp_sound 60 []
  simp (disch := first | decide | omega) only [rx_W, rx_wp_succ, rx_nx_stop, rx_nx_go, rx_lx_some, rx_fx_some, rx_ax_some, rx_qx_some, rx_ox_some, rx_vx_ref, rx_ix_ref, rx_ld_0, rx_ld_2, rx_ld_3, rx_cx_some, rx_nl, List.getElem?_cons_zero, List.getElem?_cons_succ, List.set_cons_zero, List.set_cons_succ, List.length_cons, List.length_nil, List.take_succ_cons, List.take_zero, List.drop_succ_cons, List.drop_zero, List.reverse_cons, List.reverse_nil, List.nil_append, List.cons_append, Option.toList_some, Option.toList_none, true_and, and_true, and_self, true_or, or_true, false_and, and_false, false_or, or_false, not_false_eq_true, Nat.reduceAdd, Nat.reduceLT, Nat.reduceLeDiff, Nat.reduceBEq, Nat.reduceEqDiff, Bool.or_false, Bool.false_or, if_true, if_false, Bool.false_eq_true, nq_eq, nq_lt, nq_le, nq_in_t, nq_bd, nq_ft, nq_clamp, nq_shl31, nq_shr31, nq_bitb, nq_add, nq_mul, fa_and, fa_or, nq_b0, nq_b1, nq_b01, ↓ni_lt_t, ↓ni_lt_f, ↓ni_le_t, ↓ni_le_f, ↓ni_eq_t, ↓ni_eq_f, ↓ni_beq_t, ↓ni_beq_f, it_X8_hides, h2', mO, q_X8_movesOf (mIv_mN y3) hp hw3]
  rw [tot_cong (fun j hj => setP_w v p (v (41 * p)) (hdW (v (41 * p)) set (wq v p) 4) hj)]
  exact ⟨rfl, Fr_mm (Fr_mA y1 (by simp)) (Fr_mA z1 (by simp)), y3⟩
theorem m_renames_bad (hi : mIv h v u np L t cs) {p a c : Int32} (hb : (inR p 4 && (inR a 4 && inR c 4)) = false) : rx_Cl 123 [.ref 98, .int p, .int a, .int c] h (mP h (v, u, np, L, t, rfs 0 cs) (.int (rcode 0))) := by
  obtain ⟨pl, fo, z, h1⟩ := hi.1
  apply en_X8_renames _ _ _ _ 60 []
  cases c1 : inR p 4 with
  | false =>
    simp (disch := first | decide | omega) only [rx_W, rx_wp_succ, rx_nx_stop, rx_nx_go, rx_lx_some, rx_fx_some, rx_ax_some, rx_qx_some, rx_ox_some, rx_vx_ref, rx_ix_ref, rx_ld_0, rx_ld_2, rx_ld_3, rx_cx_some, rx_nl, List.getElem?_cons_zero, List.getElem?_cons_succ, List.set_cons_zero, List.set_cons_succ, List.length_cons, List.length_nil, List.take_succ_cons, List.take_zero, List.drop_succ_cons, List.drop_zero, List.reverse_cons, List.reverse_nil, List.nil_append, List.cons_append, Option.toList_some, Option.toList_none, true_and, and_true, and_self, true_or, or_true, false_and, and_false, false_or, or_false, not_false_eq_true, Nat.reduceAdd, Nat.reduceLT, Nat.reduceLeDiff, Nat.reduceBEq, Nat.reduceEqDiff, Bool.or_false, Bool.false_or, if_true, if_false, Bool.false_eq_true, nq_eq, nq_lt, nq_le, nq_in_t, nq_bd, nq_ft, nq_clamp, nq_shl31, nq_shr31, nq_bitb, nq_add, nq_mul, fa_and, fa_or, nq_b0, nq_b1, nq_b01, ↓ni_lt_t, ↓ni_lt_f, ↓ni_le_t, ↓ni_le_f, ↓ni_eq_t, ↓ni_eq_f, ↓ni_beq_t, ↓ni_beq_f, it_X8_renames, q_X8_isProcess, c1, h1, mO]
    refine m_cnt hi (c := 0) (by omega) rfl (fun h' y1 y2 => ?_)
    simp (disch := first | decide | omega) only [rx_W, rx_wp_succ, rx_nx_stop, rx_nx_go, rx_lx_some, rx_fx_some, rx_ax_some, rx_qx_some, rx_ox_some, rx_vx_ref, rx_ix_ref, rx_ld_0, rx_ld_2, rx_ld_3, rx_cx_some, rx_nl, List.getElem?_cons_zero, List.getElem?_cons_succ, List.set_cons_zero, List.set_cons_succ, List.length_cons, List.length_nil, List.take_succ_cons, List.take_zero, List.drop_succ_cons, List.drop_zero, List.reverse_cons, List.reverse_nil, List.nil_append, List.cons_append, Option.toList_some, Option.toList_none, true_and, and_true, and_self, true_or, or_true, false_and, and_false, false_or, or_false, not_false_eq_true, Nat.reduceAdd, Nat.reduceLT, Nat.reduceLeDiff, Nat.reduceBEq, Nat.reduceEqDiff, Bool.or_false, Bool.false_or, if_true, if_false, Bool.false_eq_true, it_X8_renames]
    exact ⟨rfl, y1, y2⟩
  | true =>
    rw [c1, Bool.true_and] at hb
    cases c2 : inR a 4 with
    | false =>
      simp (disch := first | decide | omega) only [rx_W, rx_wp_succ, rx_nx_stop, rx_nx_go, rx_lx_some, rx_fx_some, rx_ax_some, rx_qx_some, rx_ox_some, rx_vx_ref, rx_ix_ref, rx_ld_0, rx_ld_2, rx_ld_3, rx_cx_some, rx_nl, List.getElem?_cons_zero, List.getElem?_cons_succ, List.set_cons_zero, List.set_cons_succ, List.length_cons, List.length_nil, List.take_succ_cons, List.take_zero, List.drop_succ_cons, List.drop_zero, List.reverse_cons, List.reverse_nil, List.nil_append, List.cons_append, Option.toList_some, Option.toList_none, true_and, and_true, and_self, true_or, or_true, false_and, and_false, false_or, or_false, not_false_eq_true, Nat.reduceAdd, Nat.reduceLT, Nat.reduceLeDiff, Nat.reduceBEq, Nat.reduceEqDiff, Bool.or_false, Bool.false_or, if_true, if_false, Bool.false_eq_true, nq_eq, nq_lt, nq_le, nq_in_t, nq_bd, nq_ft, nq_clamp, nq_shl31, nq_shr31, nq_bitb, nq_add, nq_mul, fa_and, fa_or, nq_b0, nq_b1, nq_b01, ↓ni_lt_t, ↓ni_lt_f, ↓ni_le_t, ↓ni_le_f, ↓ni_eq_t, ↓ni_eq_f, ↓ni_beq_t, ↓ni_beq_f, it_X8_renames, q_X8_isProcess, q_X8_within, c1, c2, h1, mO]
      refine m_cnt hi (c := 0) (by omega) rfl (fun h' y1 y2 => ?_)
      simp (disch := first | decide | omega) only [rx_W, rx_wp_succ, rx_nx_stop, rx_nx_go, rx_lx_some, rx_fx_some, rx_ax_some, rx_qx_some, rx_ox_some, rx_vx_ref, rx_ix_ref, rx_ld_0, rx_ld_2, rx_ld_3, rx_cx_some, rx_nl, List.getElem?_cons_zero, List.getElem?_cons_succ, List.set_cons_zero, List.set_cons_succ, List.length_cons, List.length_nil, List.take_succ_cons, List.take_zero, List.drop_succ_cons, List.drop_zero, List.reverse_cons, List.reverse_nil, List.nil_append, List.cons_append, Option.toList_some, Option.toList_none, true_and, and_true, and_self, true_or, or_true, false_and, and_false, false_or, or_false, not_false_eq_true, Nat.reduceAdd, Nat.reduceLT, Nat.reduceLeDiff, Nat.reduceBEq, Nat.reduceEqDiff, Bool.or_false, Bool.false_or, if_true, if_false, Bool.false_eq_true, it_X8_renames]
      exact ⟨rfl, y1, y2⟩
    | true =>
      rw [c2, Bool.true_and] at hb
      simp (disch := first | decide | omega) only [rx_W, rx_wp_succ, rx_nx_stop, rx_nx_go, rx_lx_some, rx_fx_some, rx_ax_some, rx_qx_some, rx_ox_some, rx_vx_ref, rx_ix_ref, rx_ld_0, rx_ld_2, rx_ld_3, rx_cx_some, rx_nl, List.getElem?_cons_zero, List.getElem?_cons_succ, List.set_cons_zero, List.set_cons_succ, List.length_cons, List.length_nil, List.take_succ_cons, List.take_zero, List.drop_succ_cons, List.drop_zero, List.reverse_cons, List.reverse_nil, List.nil_append, List.cons_append, Option.toList_some, Option.toList_none, true_and, and_true, and_self, true_or, or_true, false_and, and_false, false_or, or_false, not_false_eq_true, Nat.reduceAdd, Nat.reduceLT, Nat.reduceLeDiff, Nat.reduceBEq, Nat.reduceEqDiff, Bool.or_false, Bool.false_or, if_true, if_false, Bool.false_eq_true, nq_eq, nq_lt, nq_le, nq_in_t, nq_bd, nq_ft, nq_clamp, nq_shl31, nq_shr31, nq_bitb, nq_add, nq_mul, fa_and, fa_or, nq_b0, nq_b1, nq_b01, ↓ni_lt_t, ↓ni_lt_f, ↓ni_le_t, ↓ni_le_f, ↓ni_eq_t, ↓ni_eq_f, ↓ni_beq_t, ↓ni_beq_f, it_X8_renames, q_X8_isProcess, q_X8_within, c1, c2, hb, h1, mO]
      refine m_cnt hi (c := 0) (by omega) rfl (fun h' y1 y2 => ?_)
      simp (disch := first | decide | omega) only [rx_W, rx_wp_succ, rx_nx_stop, rx_nx_go, rx_lx_some, rx_fx_some, rx_ax_some, rx_qx_some, rx_ox_some, rx_vx_ref, rx_ix_ref, rx_ld_0, rx_ld_2, rx_ld_3, rx_cx_some, rx_nl, List.getElem?_cons_zero, List.getElem?_cons_succ, List.set_cons_zero, List.set_cons_succ, List.length_cons, List.length_nil, List.take_succ_cons, List.take_zero, List.drop_succ_cons, List.drop_zero, List.reverse_cons, List.reverse_nil, List.nil_append, List.cons_append, Option.toList_some, Option.toList_none, true_and, and_true, and_self, true_or, or_true, false_and, and_false, false_or, or_false, not_false_eq_true, Nat.reduceAdd, Nat.reduceLT, Nat.reduceLeDiff, Nat.reduceBEq, Nat.reduceEqDiff, Bool.or_false, Bool.false_or, if_true, if_false, Bool.false_eq_true, it_X8_renames]
      exact ⟨rfl, y1, y2⟩
theorem m_renames_ok (hi : mIv h v u np L t cs) (hv : wfV v) (hn : np ≤ 5) {a c : Nat} (hp : p < 4) (ha : a < 4) (hc : c < 4) : rx_Cl 123 [.ref 98, .int (nI p), .int (nI a), .int (nI c)] h (mP h (setP v p (v (41 * p)) (if a = c then wq v p else turnW a c (v (41 * p)) (wq v p)), pU u np v, pN np, L, t, cs) (.int (nI (tot (if a = c then wq v p else turnW a c (v (41 * p)) (wq v p)))))) := by
  obtain ⟨pl, fo, z, h1⟩ := hi.1
  have hw := wfP_256 (hv p hp)
  obtain ⟨n0, n8, -⟩ := hv p hp
  apply en_X8_renames _ _ _ _ 60 []
  simp (disch := first | decide | omega) only [rx_W, rx_wp_succ, rx_nx_stop, rx_nx_go, rx_lx_some, rx_fx_some, rx_ax_some, rx_qx_some, rx_ox_some, rx_vx_ref, rx_ix_ref, rx_ld_0, rx_ld_2, rx_ld_3, rx_cx_some, rx_nl, List.getElem?_cons_zero, List.getElem?_cons_succ, List.set_cons_zero, List.set_cons_succ, List.length_cons, List.length_nil, List.take_succ_cons, List.take_zero, List.drop_succ_cons, List.drop_zero, List.reverse_cons, List.reverse_nil, List.nil_append, List.cons_append, Option.toList_some, Option.toList_none, true_and, and_true, and_self, true_or, or_true, false_and, and_false, false_or, or_false, not_false_eq_true, Nat.reduceAdd, Nat.reduceLT, Nat.reduceLeDiff, Nat.reduceBEq, Nat.reduceEqDiff, Bool.or_false, Bool.false_or, if_true, if_false, Bool.false_eq_true, nq_eq, nq_lt, nq_le, nq_in_t, nq_bd, nq_ft, nq_clamp, nq_shl31, nq_shr31, nq_bitb, nq_add, nq_mul, fa_and, fa_or, nq_b0, nq_b1, nq_b01, ↓ni_lt_t, ↓ni_lt_f, ↓ni_le_t, ↓ni_le_f, ↓ni_eq_t, ↓ni_eq_f, ↓ni_beq_t, ↓ni_beq_f, it_X8_renames, q_X8_isProcess, q_X8_within, inR_of hp, inR_of ha, inR_of hc, h1, mO]
  refine rx_Cl_imp (m_leaves hi hn) (fun r h' ⟨e, y1, y2⟩ => ?_)
  subst e
  obtain ⟨pl', fo', z', h1'⟩ := y2.1
  simp (disch := first | decide | omega) only [rx_W, rx_wp_succ, rx_nx_stop, rx_nx_go, rx_lx_some, rx_fx_some, rx_ax_some, rx_qx_some, rx_ox_some, rx_vx_ref, rx_ix_ref, rx_ld_0, rx_ld_2, rx_ld_3, rx_cx_some, rx_nl, List.getElem?_cons_zero, List.getElem?_cons_succ, List.set_cons_zero, List.set_cons_succ, List.length_cons, List.length_nil, List.take_succ_cons, List.take_zero, List.drop_succ_cons, List.drop_zero, List.reverse_cons, List.reverse_nil, List.nil_append, List.cons_append, Option.toList_some, Option.toList_none, true_and, and_true, and_self, true_or, or_true, false_and, and_false, false_or, or_false, not_false_eq_true, Nat.reduceAdd, Nat.reduceLT, Nat.reduceLeDiff, Nat.reduceBEq, Nat.reduceEqDiff, Bool.or_false, Bool.false_or, if_true, if_false, Bool.false_eq_true, nq_eq, nq_lt, nq_le, nq_in_t, nq_bd, nq_ft, nq_clamp, nq_shl31, nq_shr31, nq_bitb, nq_add, nq_mul, fa_and, fa_or, nq_b0, nq_b1, nq_b01, ↓ni_lt_t, ↓ni_lt_f, ↓ni_le_t, ↓ni_le_f, ↓ni_eq_t, ↓ni_eq_f, ↓ni_beq_t, ↓ni_beq_f, it_X8_renames, h1', mO]
  refine rx_Cl_imp (c_X8_shifts (v := v) (n := v (41 * p)) (w := wq v p) h1' hp n0 n8 hw (by omega : a < 5) (by omega : c < 5) (by rw [setP_id]; exact y2.2.1)) (fun r h2 ⟨e2, z1, z2⟩ => ?_)
  subst e2
  have h2' := rd_fr z1 (by simp) h1'
  have y3 := mIv_v z1 y2 z2
  have hwx : ∀ j, j < 40 → (if a = c then wq v p else turnW a c (v (41 * p)) (wq v p)) j < 256 := fun j hj => by
    split
    · exact hw j hj
    · exact turnW_lt (N := 8) (by omega) hw j hj
  generalize (if a = c then wq v p else turnW a c (v (41 * p)) (wq v p)) = W at *
  have hw3 : ∀ j, j < 40 → wq (setP v p (v (41 * p)) W) p j < 256 := fun j hj => by
    rw [setP_w _ _ _ _ hj]
    exact hwx j hj
  simp (disch := first | decide | omega) only [rx_W, rx_wp_succ, rx_nx_stop, rx_nx_go, rx_lx_some, rx_fx_some, rx_ax_some, rx_qx_some, rx_ox_some, rx_vx_ref, rx_ix_ref, rx_ld_0, rx_ld_2, rx_ld_3, rx_cx_some, rx_nl, List.getElem?_cons_zero, List.getElem?_cons_succ, List.set_cons_zero, List.set_cons_succ, List.length_cons, List.length_nil, List.take_succ_cons, List.take_zero, List.drop_succ_cons, List.drop_zero, List.reverse_cons, List.reverse_nil, List.nil_append, List.cons_append, Option.toList_some, Option.toList_none, true_and, and_true, and_self, true_or, or_true, false_and, and_false, false_or, or_false, not_false_eq_true, Nat.reduceAdd, Nat.reduceLT, Nat.reduceLeDiff, Nat.reduceBEq, Nat.reduceEqDiff, Bool.or_false, Bool.false_or, if_true, if_false, Bool.false_eq_true, nq_eq, nq_lt, nq_le, nq_in_t, nq_bd, nq_ft, nq_clamp, nq_shl31, nq_shr31, nq_bitb, nq_add, nq_mul, fa_and, fa_or, nq_b0, nq_b1, nq_b01, ↓ni_lt_t, ↓ni_lt_f, ↓ni_le_t, ↓ni_le_f, ↓ni_eq_t, ↓ni_eq_f, ↓ni_beq_t, ↓ni_beq_f, it_X8_renames, h2', mO, q_X8_movesOf (mIv_mN y3) hp hw3]
  rw [tot_cong (fun j hj => setP_w v p (v (41 * p)) W hj)]
  exact ⟨rfl, Fr_mm (Fr_mA y1 (by simp)) (Fr_mA z1 (by simp)), y3⟩
end MP
