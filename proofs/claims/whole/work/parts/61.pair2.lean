section PB
variable {h0 : rx_H} {o1 o2 n1 n2 : Nat} {wp wr : Nat → Nat}
/-- number(s, t), then add -/
theorem cS_add {h : rx_H} {σ : Sg} {a b s t : Nat} (hs : cS h σ) (hI : sgI σ) (hs8 : s < 8) (ht8 : t < 8) (hab : a * 5 + b < 40) {K : Option Value → rx_H → Prop}
    (hK : ∀ (kx : Int32) h1, Fr h h1 pgA → rx_rd h1 61 ≠ none → (∃ f ft, rx_rd h1 61 = some (pgO f ft)) → (∃ n w, pW h1 64 n w) → rx_Cl 31 [.ref 61, .int (nI a), .int (nI b), .int kx, .ref 64] h1 (fun r h2 => r = none ∧ Fr h h2 pgA ∧ cS h2 (add1 (a * 5 + b) (s * 8 + t) σ)) → K (some (.int kx)) h1) : rx_Cl 30 [.ref 61, .int (nI s), .int (nI t)] h K := by
  refine rx_Cl_imp (c_X2_number hs hI hs8 ht8) (fun r h1 ⟨y1, kx, e, y2⟩ => ?_)
  subst e
  have y2' := y2
  obtain ⟨f', P', -, y3⟩ := y2'
  refine hK kx h1 y1 (by rw [y3.1]; simp) ⟨_, _, y3.1⟩ ⟨_, _, y3.2.2.2⟩ (rx_Cl_imp (c_X2_add y2 hI hab) (fun r h2 ⟨e2, z1, z2⟩ => ⟨e2, Fr_trans y1 z1 (fun _ z => z) (fun _ z => z), z2⟩))
theorem l_X2_b1 {σ : Sg} {a b left right s : Nat} (hI : sgI σ) (ha : a < σ.1) (hb : b < 5) (hs : s < 8) (hl : left < 256) (hr : right < 256) (Q : Option Value → rx_H → Prop)
    (hq : ∀ h, Fr h0 h pgA → cS h (pu2 (a * 5 + b) left right s 8 (pu (a * 5 + b) left right s σ)) → rx_R 28 97 [.ref 61, .ref o1, .ref o2, .int (nI a), .int (nI b), .ref 64, .int (nI left), .int (nI right), .int (nI s), .int (nI 8)] [] h Q) :
    ∀ j t h, t + j = 8 → Fr h0 h pgA → cS h (pu2 (a * 5 + b) left right s t (pu (a * 5 + b) left right s σ)) → rx_R 28 47 [.ref 61, .ref o1, .ref o2, .int (nI a), .int (nI b), .ref 64, .int (nI left), .int (nI right), .int (nI s), .int (nI t)] [] h Q
  | 0, t, h, e, hf, hc => by
    have e' : t = 8 := by omega
    subst e'
    apply rx_wp_sound 60 [47, 97]
    simp (disch := first | decide | omega) only [rx_W, rx_wp_succ, rx_nx_stop, rx_nx_go, rx_lx_some, rx_fx_some, rx_ax_some, rx_qx_some, rx_ox_some, rx_vx_ref, rx_ix_ref, rx_ld_0, rx_ld_2, rx_ld_3, rx_cx_some, rx_nl, List.getElem?_cons_zero, List.getElem?_cons_succ, List.set_cons_zero, List.set_cons_succ, List.length_cons, List.length_nil, List.take_succ_cons, List.take_zero, List.drop_succ_cons, List.drop_zero, List.reverse_cons, List.reverse_nil, List.nil_append, List.cons_append, Option.toList_some, Option.toList_none, true_and, and_true, and_self, true_or, or_true, false_and, and_false, false_or, or_false, not_false_eq_true, Nat.reduceAdd, Nat.reduceLT, Nat.reduceLeDiff, Nat.reduceBEq, Nat.reduceEqDiff, Bool.or_false, Bool.false_or, if_true, if_false, Bool.false_eq_true, nq_eq, nq_lt, nq_le, nq_in_t, nq_bd, nq_ft, nq_clamp, nq_shl31, nq_shr31, nq_bitb, nq_add, nq_mul, fa_and, fa_or, nq_b0, nq_b1, nq_b01, ↓ni_lt_t, ↓ni_lt_f, ↓ni_le_t, ↓ni_le_f, ↓ni_eq_t, ↓ni_eq_f, ↓ni_beq_t, ↓ni_beq_f, it_X2_both]
    exact hq h hf hc
  | j + 1, t, h, e, hf, hc => by
    have ih := fun h => l_X2_b1 hI ha hb hs hl hr Q hq j (t + 1) h (by omega)
    have e1 : pu2 (a * 5 + b) left right s (t + 1) (pu (a * 5 + b) left right s σ) = if left.testBit s && right.testBit t then add1 (a * 5 + b) (s * 8 + t) (pu2 (a * 5 + b) left right s t (pu (a * 5 + b) left right s σ)) else pu2 (a * 5 + b) left right s t (pu (a * 5 + b) left right s σ) := rfl
    rw [e1] at ih
    have i2 := hI.2.1
    have hab : a * 5 + b < 40 := by omega
    obtain ⟨k1, k2⟩ := pu_LI (mine := left) (others := right) hab s σ (by omega)
    obtain ⟨k3, k4⟩ := pu2_LI (mine := left) (others := right) hs hab t (pu (a * 5 + b) left right s σ) (by omega)
    have hI2 := k4 (k2 hI (by omega)) (by have := k1.1; omega)
    apply rx_wp_sound 60 [47, 97]
    cases c1 : left.testBit s with
    | false =>
      rw [c1, Bool.false_and, if_neg (by simp)] at ih
      simp (disch := first | decide | omega) only [rx_W, rx_wp_succ, rx_nx_stop, rx_nx_go, rx_lx_some, rx_fx_some, rx_ax_some, rx_qx_some, rx_ox_some, rx_vx_ref, rx_ix_ref, rx_ld_0, rx_ld_2, rx_ld_3, rx_cx_some, rx_nl, List.getElem?_cons_zero, List.getElem?_cons_succ, List.set_cons_zero, List.set_cons_succ, List.length_cons, List.length_nil, List.take_succ_cons, List.take_zero, List.drop_succ_cons, List.drop_zero, List.reverse_cons, List.reverse_nil, List.nil_append, List.cons_append, Option.toList_some, Option.toList_none, true_and, and_true, and_self, true_or, or_true, false_and, and_false, false_or, or_false, not_false_eq_true, Nat.reduceAdd, Nat.reduceLT, Nat.reduceLeDiff, Nat.reduceBEq, Nat.reduceEqDiff, Bool.or_false, Bool.false_or, if_true, if_false, Bool.false_eq_true, nq_eq, nq_lt, nq_le, nq_in_t, nq_bd, nq_ft, nq_clamp, nq_shl31, nq_shr31, nq_bitb, nq_add, nq_mul, fa_and, fa_or, nq_b0, nq_b1, nq_b01, ↓ni_lt_t, ↓ni_lt_f, ↓ni_le_t, ↓ni_le_f, ↓ni_eq_t, ↓ni_eq_f, ↓ni_beq_t, ↓ni_beq_f, it_X2_both, q_X7_has, c1]
      exact ih h hf hc
    | true =>
      cases c2 : right.testBit t with
      | false =>
        rw [c1, c2, Bool.and_false, if_neg (by simp)] at ih
        simp (disch := first | decide | omega) only [rx_W, rx_wp_succ, rx_nx_stop, rx_nx_go, rx_lx_some, rx_fx_some, rx_ax_some, rx_qx_some, rx_ox_some, rx_vx_ref, rx_ix_ref, rx_ld_0, rx_ld_2, rx_ld_3, rx_cx_some, rx_nl, List.getElem?_cons_zero, List.getElem?_cons_succ, List.set_cons_zero, List.set_cons_succ, List.length_cons, List.length_nil, List.take_succ_cons, List.take_zero, List.drop_succ_cons, List.drop_zero, List.reverse_cons, List.reverse_nil, List.nil_append, List.cons_append, Option.toList_some, Option.toList_none, true_and, and_true, and_self, true_or, or_true, false_and, and_false, false_or, or_false, not_false_eq_true, Nat.reduceAdd, Nat.reduceLT, Nat.reduceLeDiff, Nat.reduceBEq, Nat.reduceEqDiff, Bool.or_false, Bool.false_or, if_true, if_false, Bool.false_eq_true, nq_eq, nq_lt, nq_le, nq_in_t, nq_bd, nq_ft, nq_clamp, nq_shl31, nq_shr31, nq_bitb, nq_add, nq_mul, fa_and, fa_or, nq_b0, nq_b1, nq_b01, ↓ni_lt_t, ↓ni_lt_f, ↓ni_le_t, ↓ni_le_f, ↓ni_eq_t, ↓ni_eq_f, ↓ni_beq_t, ↓ni_beq_f, it_X2_both, q_X7_has, c1, c2]
        exact ih h hf hc
      | true =>
        rw [c1, c2, Bool.and_true, if_pos rfl] at ih
        simp (disch := first | decide | omega) only [rx_W, rx_wp_succ, rx_nx_stop, rx_nx_go, rx_lx_some, rx_fx_some, rx_ax_some, rx_qx_some, rx_ox_some, rx_vx_ref, rx_ix_ref, rx_ld_0, rx_ld_2, rx_ld_3, rx_cx_some, rx_nl, List.getElem?_cons_zero, List.getElem?_cons_succ, List.set_cons_zero, List.set_cons_succ, List.length_cons, List.length_nil, List.take_succ_cons, List.take_zero, List.drop_succ_cons, List.drop_zero, List.reverse_cons, List.reverse_nil, List.nil_append, List.cons_append, Option.toList_some, Option.toList_none, true_and, and_true, and_self, true_or, or_true, false_and, and_false, false_or, or_false, not_false_eq_true, Nat.reduceAdd, Nat.reduceLT, Nat.reduceLeDiff, Nat.reduceBEq, Nat.reduceEqDiff, Bool.or_false, Bool.false_or, if_true, if_false, Bool.false_eq_true, nq_eq, nq_lt, nq_le, nq_in_t, nq_bd, nq_ft, nq_clamp, nq_shl31, nq_shr31, nq_bitb, nq_add, nq_mul, fa_and, fa_or, nq_b0, nq_b1, nq_b01, ↓ni_lt_t, ↓ni_lt_f, ↓ni_le_t, ↓ni_le_f, ↓ni_eq_t, ↓ni_eq_f, ↓ni_beq_t, ↓ni_beq_f, it_X2_both, q_X7_has, c1, c2, hc.1, pgO]
        refine cS_add hc hI2 hs (by omega) hab (fun kx h1 y1 _ y2 y3 y4 => ?_)
        obtain ⟨f1, ft1, y2⟩ := y2
        simp (disch := first | decide | omega) only [rx_W, rx_wp_succ, rx_nx_stop, rx_nx_go, rx_lx_some, rx_fx_some, rx_ax_some, rx_qx_some, rx_ox_some, rx_vx_ref, rx_ix_ref, rx_ld_0, rx_ld_2, rx_ld_3, rx_cx_some, rx_nl, List.getElem?_cons_zero, List.getElem?_cons_succ, List.set_cons_zero, List.set_cons_succ, List.length_cons, List.length_nil, List.take_succ_cons, List.take_zero, List.drop_succ_cons, List.drop_zero, List.reverse_cons, List.reverse_nil, List.nil_append, List.cons_append, Option.toList_some, Option.toList_none, true_and, and_true, and_self, true_or, or_true, false_and, and_false, false_or, or_false, not_false_eq_true, Nat.reduceAdd, Nat.reduceLT, Nat.reduceLeDiff, Nat.reduceBEq, Nat.reduceEqDiff, Bool.or_false, Bool.false_or, if_true, if_false, Bool.false_eq_true, nq_eq, nq_lt, nq_le, nq_in_t, nq_bd, nq_ft, nq_clamp, nq_shl31, nq_shr31, nq_bitb, nq_add, nq_mul, fa_and, fa_or, nq_b0, nq_b1, nq_b01, ↓ni_lt_t, ↓ni_lt_f, ↓ni_le_t, ↓ni_le_f, ↓ni_eq_t, ↓ni_eq_f, ↓ni_beq_t, ↓ni_beq_f, it_X2_both, y2, pgO]
        refine rx_Cl_imp y4 (fun r h2 ⟨e2, z1, z2⟩ => ?_)
        subst e2
        simp (disch := first | decide | omega) only [rx_W, rx_wp_succ, rx_nx_stop, rx_nx_go, rx_lx_some, rx_fx_some, rx_ax_some, rx_qx_some, rx_ox_some, rx_vx_ref, rx_ix_ref, rx_ld_0, rx_ld_2, rx_ld_3, rx_cx_some, rx_nl, List.getElem?_cons_zero, List.getElem?_cons_succ, List.set_cons_zero, List.set_cons_succ, List.length_cons, List.length_nil, List.take_succ_cons, List.take_zero, List.drop_succ_cons, List.drop_zero, List.reverse_cons, List.reverse_nil, List.nil_append, List.cons_append, Option.toList_some, Option.toList_none, true_and, and_true, and_self, true_or, or_true, false_and, and_false, false_or, or_false, not_false_eq_true, Nat.reduceAdd, Nat.reduceLT, Nat.reduceLeDiff, Nat.reduceBEq, Nat.reduceEqDiff, Bool.or_false, Bool.false_or, if_true, if_false, Bool.false_eq_true, nq_eq, nq_lt, nq_le, nq_in_t, nq_bd, nq_ft, nq_clamp, nq_shl31, nq_shr31, nq_bitb, nq_add, nq_mul, fa_and, fa_or, nq_b0, nq_b1, nq_b01, ↓ni_lt_t, ↓ni_lt_f, ↓ni_le_t, ↓ni_le_f, ↓ni_eq_t, ↓ni_eq_f, ↓ni_beq_t, ↓ni_beq_f, it_X2_both]
        exact ih h2 (Fr_trans hf z1 (fun _ z => z) (fun _ z => z)) z2
theorem l_X2_b {σ : Sg} {a b left right : Nat} (hI : sgI σ) (ha : a < σ.1) (hb : b < 5) (hl : left < 256) (hr : right < 256) (Q : Option Value → rx_H → Prop)
    (hq : ∀ h, Fr h0 h pgA → cS h (pu (a * 5 + b) left right 8 σ) → Q none h) :
    ∀ j s h x, s + j = 8 → Fr h0 h pgA → cS h (pu (a * 5 + b) left right s σ) → rx_R 28 37 [.ref 61, .ref o1, .ref o2, .int (nI a), .int (nI b), .ref 64, .int (nI left), .int (nI right), .int (nI s), x] [] h Q
  | 0, s, h, x, e, hf, hc => by
    have e' : s = 8 := by omega
    subst e'
    apply rx_wp_sound 60 [37, 47]
    simp (disch := first | decide | omega) only [rx_W, rx_wp_succ, rx_nx_stop, rx_nx_go, rx_lx_some, rx_fx_some, rx_ax_some, rx_qx_some, rx_ox_some, rx_vx_ref, rx_ix_ref, rx_ld_0, rx_ld_2, rx_ld_3, rx_cx_some, rx_nl, List.getElem?_cons_zero, List.getElem?_cons_succ, List.set_cons_zero, List.set_cons_succ, List.length_cons, List.length_nil, List.take_succ_cons, List.take_zero, List.drop_succ_cons, List.drop_zero, List.reverse_cons, List.reverse_nil, List.nil_append, List.cons_append, Option.toList_some, Option.toList_none, true_and, and_true, and_self, true_or, or_true, false_and, and_false, false_or, or_false, not_false_eq_true, Nat.reduceAdd, Nat.reduceLT, Nat.reduceLeDiff, Nat.reduceBEq, Nat.reduceEqDiff, Bool.or_false, Bool.false_or, if_true, if_false, Bool.false_eq_true, nq_eq, nq_lt, nq_le, nq_in_t, nq_bd, nq_ft, nq_clamp, nq_shl31, nq_shr31, nq_bitb, nq_add, nq_mul, fa_and, fa_or, nq_b0, nq_b1, nq_b01, ↓ni_lt_t, ↓ni_lt_f, ↓ni_le_t, ↓ni_le_f, ↓ni_eq_t, ↓ni_eq_f, ↓ni_beq_t, ↓ni_beq_f, it_X2_both]
    exact hq h hf hc
  | j + 1, s, h, x, e, hf, hc => by
    apply rx_wp_sound 60 [37, 47]
    simp (disch := first | decide | omega) only [rx_W, rx_wp_succ, rx_nx_stop, rx_nx_go, rx_lx_some, rx_fx_some, rx_ax_some, rx_qx_some, rx_ox_some, rx_vx_ref, rx_ix_ref, rx_ld_0, rx_ld_2, rx_ld_3, rx_cx_some, rx_nl, List.getElem?_cons_zero, List.getElem?_cons_succ, List.set_cons_zero, List.set_cons_succ, List.length_cons, List.length_nil, List.take_succ_cons, List.take_zero, List.drop_succ_cons, List.drop_zero, List.reverse_cons, List.reverse_nil, List.nil_append, List.cons_append, Option.toList_some, Option.toList_none, true_and, and_true, and_self, true_or, or_true, false_and, and_false, false_or, or_false, not_false_eq_true, Nat.reduceAdd, Nat.reduceLT, Nat.reduceLeDiff, Nat.reduceBEq, Nat.reduceEqDiff, Bool.or_false, Bool.false_or, if_true, if_false, Bool.false_eq_true, nq_eq, nq_lt, nq_le, nq_in_t, nq_bd, nq_ft, nq_clamp, nq_shl31, nq_shr31, nq_bitb, nq_add, nq_mul, fa_and, fa_or, nq_b0, nq_b1, nq_b01, ↓ni_lt_t, ↓ni_lt_f, ↓ni_le_t, ↓ni_le_f, ↓ni_eq_t, ↓ni_eq_f, ↓ni_beq_t, ↓ni_beq_f, it_X2_both]
    refine l_X2_b1 (h0 := h0) hI ha hb (s := s) (by omega) hl hr Q (fun h2 y1 y2 => ?_) 8 0 h (by omega) hf hc
    apply rx_wp_sound 60 [37]
    simp (disch := first | decide | omega) only [rx_W, rx_wp_succ, rx_nx_stop, rx_nx_go, rx_lx_some, rx_fx_some, rx_ax_some, rx_qx_some, rx_ox_some, rx_vx_ref, rx_ix_ref, rx_ld_0, rx_ld_2, rx_ld_3, rx_cx_some, rx_nl, List.getElem?_cons_zero, List.getElem?_cons_succ, List.set_cons_zero, List.set_cons_succ, List.length_cons, List.length_nil, List.take_succ_cons, List.take_zero, List.drop_succ_cons, List.drop_zero, List.reverse_cons, List.reverse_nil, List.nil_append, List.cons_append, Option.toList_some, Option.toList_none, true_and, and_true, and_self, true_or, or_true, false_and, and_false, false_or, or_false, not_false_eq_true, Nat.reduceAdd, Nat.reduceLT, Nat.reduceLeDiff, Nat.reduceBEq, Nat.reduceEqDiff, Bool.or_false, Bool.false_or, if_true, if_false, Bool.false_eq_true, nq_eq, nq_lt, nq_le, nq_in_t, nq_bd, nq_ft, nq_clamp, nq_shl31, nq_shr31, nq_bitb, nq_add, nq_mul, fa_and, fa_or, nq_b0, nq_b1, nq_b01, ↓ni_lt_t, ↓ni_lt_f, ↓ni_le_t, ↓ni_le_f, ↓ni_eq_t, ↓ni_eq_f, ↓ni_beq_t, ↓ni_beq_f, it_X2_both]
    exact l_X2_b hI ha hb hl hr Q hq j (s + 1) h2 _ (by omega) y1 y2
theorem c_X2_both {h : rx_H} {σ : Sg} {a b : Nat} (hs : cS h σ) (hI : sgI σ) (ha : a < σ.1) (hb : b < 5) (hp1 : pW h o1 n1 wp) (hp2 : pW h o2 n2 wr) (hw1 : ∀ j, j < 40 → wp j < 256) (hw2 : ∀ j, j < 40 → wr j < 256) : rx_Cl 28 [.ref 61, .ref o1, .ref o2, .int (nI a), .int (nI b), .ref 64] h (fun r h' => r = none ∧ Fr h h' pgA ∧ cS h' (pu (a * 5 + b) (wp (σ.2.1 a / 8 * 5 + b)) (wr (σ.2.1 a % 8 * 5 + b)) 8 σ)) := by
  have hs' := hs
  obtain ⟨h1, -, ⟨g, g1, g2⟩, -⟩ := hs'
  have g3 := g2 a ha
  have i3 := hI.2.2.1 a ha
  have i2 := hI.2.1
  generalize hx : σ.2.1 a = x at *
  have em : x - x / 8 * 8 = x % 8 := by omega
  have l1 := hw1 (x / 8 * 5 + b) (by omega)
  have l2 := hw2 (x % 8 * 5 + b) (by omega)
  apply en_X2_both _ _ _ _ _ _ 80 [37]
  simp (disch := first | decide | omega) only [rx_W, rx_wp_succ, rx_nx_stop, rx_nx_go, rx_lx_some, rx_fx_some, rx_ax_some, rx_qx_some, rx_ox_some, rx_vx_ref, rx_ix_ref, rx_ld_0, rx_ld_2, rx_ld_3, rx_cx_some, rx_nl, List.getElem?_cons_zero, List.getElem?_cons_succ, List.set_cons_zero, List.set_cons_succ, List.length_cons, List.length_nil, List.take_succ_cons, List.take_zero, List.drop_succ_cons, List.drop_zero, List.reverse_cons, List.reverse_nil, List.nil_append, List.cons_append, Option.toList_some, Option.toList_none, true_and, and_true, and_self, true_or, or_true, false_and, and_false, false_or, or_false, not_false_eq_true, Nat.reduceAdd, Nat.reduceLT, Nat.reduceLeDiff, Nat.reduceBEq, Nat.reduceEqDiff, Bool.or_false, Bool.false_or, if_true, if_false, Bool.false_eq_true, nq_eq, nq_lt, nq_le, nq_in_t, nq_bd, nq_ft, nq_clamp, nq_shl31, nq_shr31, nq_bitb, nq_add, nq_mul, fa_and, fa_or, nq_b0, nq_b1, nq_b01, ↓ni_lt_t, ↓ni_lt_f, ↓ni_le_t, ↓ni_le_f, ↓ni_eq_t, ↓ni_eq_f, ↓ni_beq_t, ↓ni_beq_f, it_X2_both, h1, pgO, g1, g3, nq_div, nq_sub, em, q_X4_targets hp1, q_X4_targets hp2, hp1.1, hp1.2.2, hp2.1, hp2.2.2]
  exact l_X2_b hI ha hb l1 l2 _ (fun h' y1 y2 => ⟨rfl, y1, y2⟩) 8 0 h _ (by omega) (Fr_rfl _ _) hs
theorem pL_LI {i row q : Nat} (hq : q < 8) (hi : i < 40) (σ : Sg) (s : Nat) (hs : s ≤ 8) : sgL σ (pL i row q s σ) ∧ (sgI σ → i < 5 * σ.1 → sgI (pL i row q s σ)) := by
  rw [← pu_L hq σ s]
  exact pu_LI hi s σ hs
theorem pR1_LI {i row p : Nat} (hp : p < 8) (hi : i < 40) (σ : Sg) (t : Nat) (ht : t ≤ 8) : sgL σ (pR1 i row p t σ) ∧ (sgI σ → i < 5 * σ.1 → sgI (pR1 i row p t σ)) := by
  rw [← pu2_R σ t]
  exact pu2_LI hp hi t σ ht
theorem l_X2_o1 {σ : Sg} {a b sp tq : Nat} (hp0 : pW h0 o1 n1 wp) (ho1 : 65 < o1) (hw1 : ∀ j, j < 40 → wp j < 256) (hI : sgI σ) (ha : a < σ.1) (hb : b < 5) (hsp : sp < 8) (htq : tq < 8) (Q : Option Value → rx_H → Prop)
    (hq : ∀ h, Fr h0 h pgA → cS h (pL (a * 5 + b) (wp (sp * 5 + b)) tq 8 σ) → rx_R 29 68 [.ref 61, .ref o1, .ref o2, .int (nI a), .int (nI b), .ref 64, .int (nI sp), .int (nI tq), .int (nI 8)] [] h Q) :
    ∀ j s h, s + j = 8 → Fr h0 h pgA → cS h (pL (a * 5 + b) (wp (sp * 5 + b)) tq s σ) → rx_R 29 25 [.ref 61, .ref o1, .ref o2, .int (nI a), .int (nI b), .ref 64, .int (nI sp), .int (nI tq), .int (nI s)] [] h Q
  | 0, s, h, e, hf, hc => by
    have e' : s = 8 := by omega
    subst e'
    apply rx_wp_sound 60 [25, 68]
    simp (disch := first | decide | omega) only [rx_W, rx_wp_succ, rx_nx_stop, rx_nx_go, rx_lx_some, rx_fx_some, rx_ax_some, rx_qx_some, rx_ox_some, rx_vx_ref, rx_ix_ref, rx_ld_0, rx_ld_2, rx_ld_3, rx_cx_some, rx_nl, List.getElem?_cons_zero, List.getElem?_cons_succ, List.set_cons_zero, List.set_cons_succ, List.length_cons, List.length_nil, List.take_succ_cons, List.take_zero, List.drop_succ_cons, List.drop_zero, List.reverse_cons, List.reverse_nil, List.nil_append, List.cons_append, Option.toList_some, Option.toList_none, true_and, and_true, and_self, true_or, or_true, false_and, and_false, false_or, or_false, not_false_eq_true, Nat.reduceAdd, Nat.reduceLT, Nat.reduceLeDiff, Nat.reduceBEq, Nat.reduceEqDiff, Bool.or_false, Bool.false_or, if_true, if_false, Bool.false_eq_true, nq_eq, nq_lt, nq_le, nq_in_t, nq_bd, nq_ft, nq_clamp, nq_shl31, nq_shr31, nq_bitb, nq_add, nq_mul, fa_and, fa_or, nq_b0, nq_b1, nq_b01, ↓ni_lt_t, ↓ni_lt_f, ↓ni_le_t, ↓ni_le_f, ↓ni_eq_t, ↓ni_eq_f, ↓ni_beq_t, ↓ni_beq_f, it_X2_oneAlone]
    exact hq h hf hc
  | j + 1, s, h, e, hf, hc => by
    have ih := fun h => l_X2_o1 hp0 ho1 hw1 hI ha hb hsp htq Q hq j (s + 1) h (by omega)
    have e1 : pL (a * 5 + b) (wp (sp * 5 + b)) tq (s + 1) σ = if (wp (sp * 5 + b)).testBit s then add1 (a * 5 + b) (s * 8 + tq) (pL (a * 5 + b) (wp (sp * 5 + b)) tq s σ) else pL (a * 5 + b) (wp (sp * 5 + b)) tq s σ := rfl
    rw [e1] at ih
    have i2 := hI.2.1
    have hab : a * 5 + b < 40 := by omega
    have hp := pW_fr hf (by simp; omega) (by simp; omega) hp0
    have l1 := hw1 (sp * 5 + b) (by omega)
    have hI2 := (pL_LI (row := wp (sp * 5 + b)) htq hab σ s (by omega)).2 hI (by omega)
    apply rx_wp_sound 60 [25, 68]
    cases c1 : (wp (sp * 5 + b)).testBit s with
    | false =>
      rw [c1, if_neg (by simp)] at ih
      simp (disch := first | decide | omega) only [rx_W, rx_wp_succ, rx_nx_stop, rx_nx_go, rx_lx_some, rx_fx_some, rx_ax_some, rx_qx_some, rx_ox_some, rx_vx_ref, rx_ix_ref, rx_ld_0, rx_ld_2, rx_ld_3, rx_cx_some, rx_nl, List.getElem?_cons_zero, List.getElem?_cons_succ, List.set_cons_zero, List.set_cons_succ, List.length_cons, List.length_nil, List.take_succ_cons, List.take_zero, List.drop_succ_cons, List.drop_zero, List.reverse_cons, List.reverse_nil, List.nil_append, List.cons_append, Option.toList_some, Option.toList_none, true_and, and_true, and_self, true_or, or_true, false_and, and_false, false_or, or_false, not_false_eq_true, Nat.reduceAdd, Nat.reduceLT, Nat.reduceLeDiff, Nat.reduceBEq, Nat.reduceEqDiff, Bool.or_false, Bool.false_or, if_true, if_false, Bool.false_eq_true, nq_eq, nq_lt, nq_le, nq_in_t, nq_bd, nq_ft, nq_clamp, nq_shl31, nq_shr31, nq_bitb, nq_add, nq_mul, fa_and, fa_or, nq_b0, nq_b1, nq_b01, ↓ni_lt_t, ↓ni_lt_f, ↓ni_le_t, ↓ni_le_f, ↓ni_eq_t, ↓ni_eq_f, ↓ni_beq_t, ↓ni_beq_f, it_X2_oneAlone, q_X4_stands hp, hp.1, hp.2.2, c1]
      exact ih h hf hc
    | true =>
      rw [c1, if_pos rfl] at ih
      simp (disch := first | decide | omega) only [rx_W, rx_wp_succ, rx_nx_stop, rx_nx_go, rx_lx_some, rx_fx_some, rx_ax_some, rx_qx_some, rx_ox_some, rx_vx_ref, rx_ix_ref, rx_ld_0, rx_ld_2, rx_ld_3, rx_cx_some, rx_nl, List.getElem?_cons_zero, List.getElem?_cons_succ, List.set_cons_zero, List.set_cons_succ, List.length_cons, List.length_nil, List.take_succ_cons, List.take_zero, List.drop_succ_cons, List.drop_zero, List.reverse_cons, List.reverse_nil, List.nil_append, List.cons_append, Option.toList_some, Option.toList_none, true_and, and_true, and_self, true_or, or_true, false_and, and_false, false_or, or_false, not_false_eq_true, Nat.reduceAdd, Nat.reduceLT, Nat.reduceLeDiff, Nat.reduceBEq, Nat.reduceEqDiff, Bool.or_false, Bool.false_or, if_true, if_false, Bool.false_eq_true, nq_eq, nq_lt, nq_le, nq_in_t, nq_bd, nq_ft, nq_clamp, nq_shl31, nq_shr31, nq_bitb, nq_add, nq_mul, fa_and, fa_or, nq_b0, nq_b1, nq_b01, ↓ni_lt_t, ↓ni_lt_f, ↓ni_le_t, ↓ni_le_f, ↓ni_eq_t, ↓ni_eq_f, ↓ni_beq_t, ↓ni_beq_f, it_X2_oneAlone, q_X4_stands hp, hp.1, hp.2.2, c1, hc.1, pgO]
      refine cS_add hc hI2 (by omega) htq hab (fun kx h1 y1 _ y2 y3 y4 => ?_)
      obtain ⟨f1, ft1, y2⟩ := y2
      simp (disch := first | decide | omega) only [rx_W, rx_wp_succ, rx_nx_stop, rx_nx_go, rx_lx_some, rx_fx_some, rx_ax_some, rx_qx_some, rx_ox_some, rx_vx_ref, rx_ix_ref, rx_ld_0, rx_ld_2, rx_ld_3, rx_cx_some, rx_nl, List.getElem?_cons_zero, List.getElem?_cons_succ, List.set_cons_zero, List.set_cons_succ, List.length_cons, List.length_nil, List.take_succ_cons, List.take_zero, List.drop_succ_cons, List.drop_zero, List.reverse_cons, List.reverse_nil, List.nil_append, List.cons_append, Option.toList_some, Option.toList_none, true_and, and_true, and_self, true_or, or_true, false_and, and_false, false_or, or_false, not_false_eq_true, Nat.reduceAdd, Nat.reduceLT, Nat.reduceLeDiff, Nat.reduceBEq, Nat.reduceEqDiff, Bool.or_false, Bool.false_or, if_true, if_false, Bool.false_eq_true, nq_eq, nq_lt, nq_le, nq_in_t, nq_bd, nq_ft, nq_clamp, nq_shl31, nq_shr31, nq_bitb, nq_add, nq_mul, fa_and, fa_or, nq_b0, nq_b1, nq_b01, ↓ni_lt_t, ↓ni_lt_f, ↓ni_le_t, ↓ni_le_f, ↓ni_eq_t, ↓ni_eq_f, ↓ni_beq_t, ↓ni_beq_f, it_X2_oneAlone, y2, pgO]
      refine rx_Cl_imp y4 (fun r h2 ⟨e2, z1, z2⟩ => ?_)
      subst e2
      simp (disch := first | decide | omega) only [rx_W, rx_wp_succ, rx_nx_stop, rx_nx_go, rx_lx_some, rx_fx_some, rx_ax_some, rx_qx_some, rx_ox_some, rx_vx_ref, rx_ix_ref, rx_ld_0, rx_ld_2, rx_ld_3, rx_cx_some, rx_nl, List.getElem?_cons_zero, List.getElem?_cons_succ, List.set_cons_zero, List.set_cons_succ, List.length_cons, List.length_nil, List.take_succ_cons, List.take_zero, List.drop_succ_cons, List.drop_zero, List.reverse_cons, List.reverse_nil, List.nil_append, List.cons_append, Option.toList_some, Option.toList_none, true_and, and_true, and_self, true_or, or_true, false_and, and_false, false_or, or_false, not_false_eq_true, Nat.reduceAdd, Nat.reduceLT, Nat.reduceLeDiff, Nat.reduceBEq, Nat.reduceEqDiff, Bool.or_false, Bool.false_or, if_true, if_false, Bool.false_eq_true, nq_eq, nq_lt, nq_le, nq_in_t, nq_bd, nq_ft, nq_clamp, nq_shl31, nq_shr31, nq_bitb, nq_add, nq_mul, fa_and, fa_or, nq_b0, nq_b1, nq_b01, ↓ni_lt_t, ↓ni_lt_f, ↓ni_le_t, ↓ni_le_f, ↓ni_eq_t, ↓ni_eq_f, ↓ni_beq_t, ↓ni_beq_f, it_X2_oneAlone]
      exact ih h2 (Fr_trans hf z1 (fun _ z => z) (fun _ z => z)) z2
theorem l_X2_o2 {σ : Sg} {a b sp tq : Nat} (hp0 : pW h0 o2 n2 wr) (ho2 : 65 < o2) (hw2 : ∀ j, j < 40 → wr j < 256) (hI : sgI σ) (ha : a < σ.1) (hb : b < 5) (hsp : sp < 8) (htq : tq < 8) (Q : Option Value → rx_H → Prop)
    (hq : ∀ h, Fr h0 h pgA → cS h (pR1 (a * 5 + b) (wr (tq * 5 + b)) sp 8 σ) → Q none h) :
    ∀ j s h, s + j = 8 → Fr h0 h pgA → cS h (pR1 (a * 5 + b) (wr (tq * 5 + b)) sp s σ) → rx_R 29 71 [.ref 61, .ref o1, .ref o2, .int (nI a), .int (nI b), .ref 64, .int (nI sp), .int (nI tq), .int (nI s)] [] h Q
  | 0, s, h, e, hf, hc => by
    have e' : s = 8 := by omega
    subst e'
    apply rx_wp_sound 60 [71]
    simp (disch := first | decide | omega) only [rx_W, rx_wp_succ, rx_nx_stop, rx_nx_go, rx_lx_some, rx_fx_some, rx_ax_some, rx_qx_some, rx_ox_some, rx_vx_ref, rx_ix_ref, rx_ld_0, rx_ld_2, rx_ld_3, rx_cx_some, rx_nl, List.getElem?_cons_zero, List.getElem?_cons_succ, List.set_cons_zero, List.set_cons_succ, List.length_cons, List.length_nil, List.take_succ_cons, List.take_zero, List.drop_succ_cons, List.drop_zero, List.reverse_cons, List.reverse_nil, List.nil_append, List.cons_append, Option.toList_some, Option.toList_none, true_and, and_true, and_self, true_or, or_true, false_and, and_false, false_or, or_false, not_false_eq_true, Nat.reduceAdd, Nat.reduceLT, Nat.reduceLeDiff, Nat.reduceBEq, Nat.reduceEqDiff, Bool.or_false, Bool.false_or, if_true, if_false, Bool.false_eq_true, nq_eq, nq_lt, nq_le, nq_in_t, nq_bd, nq_ft, nq_clamp, nq_shl31, nq_shr31, nq_bitb, nq_add, nq_mul, fa_and, fa_or, nq_b0, nq_b1, nq_b01, ↓ni_lt_t, ↓ni_lt_f, ↓ni_le_t, ↓ni_le_f, ↓ni_eq_t, ↓ni_eq_f, ↓ni_beq_t, ↓ni_beq_f, it_X2_oneAlone]
    exact hq h hf hc
  | j + 1, s, h, e, hf, hc => by
    have ih := fun h => l_X2_o2 hp0 ho2 hw2 hI ha hb hsp htq Q hq j (s + 1) h (by omega)
    have e1 : pR1 (a * 5 + b) (wr (tq * 5 + b)) sp (s + 1) σ = if (wr (tq * 5 + b)).testBit s then add1 (a * 5 + b) (sp * 8 + s) (pR1 (a * 5 + b) (wr (tq * 5 + b)) sp s σ) else pR1 (a * 5 + b) (wr (tq * 5 + b)) sp s σ := rfl
    rw [e1] at ih
    have i2 := hI.2.1
    have hab : a * 5 + b < 40 := by omega
    have hp := pW_fr hf (by simp; omega) (by simp; omega) hp0
    have l1 := hw2 (tq * 5 + b) (by omega)
    have hI2 := (pR1_LI (row := wr (tq * 5 + b)) hsp hab σ s (by omega)).2 hI (by omega)
    apply rx_wp_sound 60 [71]
    cases c1 : (wr (tq * 5 + b)).testBit s with
    | false =>
      rw [c1, if_neg (by simp)] at ih
      simp (disch := first | decide | omega) only [rx_W, rx_wp_succ, rx_nx_stop, rx_nx_go, rx_lx_some, rx_fx_some, rx_ax_some, rx_qx_some, rx_ox_some, rx_vx_ref, rx_ix_ref, rx_ld_0, rx_ld_2, rx_ld_3, rx_cx_some, rx_nl, List.getElem?_cons_zero, List.getElem?_cons_succ, List.set_cons_zero, List.set_cons_succ, List.length_cons, List.length_nil, List.take_succ_cons, List.take_zero, List.drop_succ_cons, List.drop_zero, List.reverse_cons, List.reverse_nil, List.nil_append, List.cons_append, Option.toList_some, Option.toList_none, true_and, and_true, and_self, true_or, or_true, false_and, and_false, false_or, or_false, not_false_eq_true, Nat.reduceAdd, Nat.reduceLT, Nat.reduceLeDiff, Nat.reduceBEq, Nat.reduceEqDiff, Bool.or_false, Bool.false_or, if_true, if_false, Bool.false_eq_true, nq_eq, nq_lt, nq_le, nq_in_t, nq_bd, nq_ft, nq_clamp, nq_shl31, nq_shr31, nq_bitb, nq_add, nq_mul, fa_and, fa_or, nq_b0, nq_b1, nq_b01, ↓ni_lt_t, ↓ni_lt_f, ↓ni_le_t, ↓ni_le_f, ↓ni_eq_t, ↓ni_eq_f, ↓ni_beq_t, ↓ni_beq_f, it_X2_oneAlone, q_X4_stands hp, hp.1, hp.2.2, c1]
      exact ih h hf hc
    | true =>
      rw [c1, if_pos rfl] at ih
      simp (disch := first | decide | omega) only [rx_W, rx_wp_succ, rx_nx_stop, rx_nx_go, rx_lx_some, rx_fx_some, rx_ax_some, rx_qx_some, rx_ox_some, rx_vx_ref, rx_ix_ref, rx_ld_0, rx_ld_2, rx_ld_3, rx_cx_some, rx_nl, List.getElem?_cons_zero, List.getElem?_cons_succ, List.set_cons_zero, List.set_cons_succ, List.length_cons, List.length_nil, List.take_succ_cons, List.take_zero, List.drop_succ_cons, List.drop_zero, List.reverse_cons, List.reverse_nil, List.nil_append, List.cons_append, Option.toList_some, Option.toList_none, true_and, and_true, and_self, true_or, or_true, false_and, and_false, false_or, or_false, not_false_eq_true, Nat.reduceAdd, Nat.reduceLT, Nat.reduceLeDiff, Nat.reduceBEq, Nat.reduceEqDiff, Bool.or_false, Bool.false_or, if_true, if_false, Bool.false_eq_true, nq_eq, nq_lt, nq_le, nq_in_t, nq_bd, nq_ft, nq_clamp, nq_shl31, nq_shr31, nq_bitb, nq_add, nq_mul, fa_and, fa_or, nq_b0, nq_b1, nq_b01, ↓ni_lt_t, ↓ni_lt_f, ↓ni_le_t, ↓ni_le_f, ↓ni_eq_t, ↓ni_eq_f, ↓ni_beq_t, ↓ni_beq_f, it_X2_oneAlone, q_X4_stands hp, hp.1, hp.2.2, c1, hc.1, pgO]
      refine cS_add hc hI2 hsp (by omega) hab (fun kx h1 y1 _ y2 y3 y4 => ?_)
      obtain ⟨f1, ft1, y2⟩ := y2
      simp (disch := first | decide | omega) only [rx_W, rx_wp_succ, rx_nx_stop, rx_nx_go, rx_lx_some, rx_fx_some, rx_ax_some, rx_qx_some, rx_ox_some, rx_vx_ref, rx_ix_ref, rx_ld_0, rx_ld_2, rx_ld_3, rx_cx_some, rx_nl, List.getElem?_cons_zero, List.getElem?_cons_succ, List.set_cons_zero, List.set_cons_succ, List.length_cons, List.length_nil, List.take_succ_cons, List.take_zero, List.drop_succ_cons, List.drop_zero, List.reverse_cons, List.reverse_nil, List.nil_append, List.cons_append, Option.toList_some, Option.toList_none, true_and, and_true, and_self, true_or, or_true, false_and, and_false, false_or, or_false, not_false_eq_true, Nat.reduceAdd, Nat.reduceLT, Nat.reduceLeDiff, Nat.reduceBEq, Nat.reduceEqDiff, Bool.or_false, Bool.false_or, if_true, if_false, Bool.false_eq_true, nq_eq, nq_lt, nq_le, nq_in_t, nq_bd, nq_ft, nq_clamp, nq_shl31, nq_shr31, nq_bitb, nq_add, nq_mul, fa_and, fa_or, nq_b0, nq_b1, nq_b01, ↓ni_lt_t, ↓ni_lt_f, ↓ni_le_t, ↓ni_le_f, ↓ni_eq_t, ↓ni_eq_f, ↓ni_beq_t, ↓ni_beq_f, it_X2_oneAlone, y2, pgO]
      refine rx_Cl_imp y4 (fun r h2 ⟨e2, z1, z2⟩ => ?_)
      subst e2
      simp (disch := first | decide | omega) only [rx_W, rx_wp_succ, rx_nx_stop, rx_nx_go, rx_lx_some, rx_fx_some, rx_ax_some, rx_qx_some, rx_ox_some, rx_vx_ref, rx_ix_ref, rx_ld_0, rx_ld_2, rx_ld_3, rx_cx_some, rx_nl, List.getElem?_cons_zero, List.getElem?_cons_succ, List.set_cons_zero, List.set_cons_succ, List.length_cons, List.length_nil, List.take_succ_cons, List.take_zero, List.drop_succ_cons, List.drop_zero, List.reverse_cons, List.reverse_nil, List.nil_append, List.cons_append, Option.toList_some, Option.toList_none, true_and, and_true, and_self, true_or, or_true, false_and, and_false, false_or, or_false, not_false_eq_true, Nat.reduceAdd, Nat.reduceLT, Nat.reduceLeDiff, Nat.reduceBEq, Nat.reduceEqDiff, Bool.or_false, Bool.false_or, if_true, if_false, Bool.false_eq_true, nq_eq, nq_lt, nq_le, nq_in_t, nq_bd, nq_ft, nq_clamp, nq_shl31, nq_shr31, nq_bitb, nq_add, nq_mul, fa_and, fa_or, nq_b0, nq_b1, nq_b01, ↓ni_lt_t, ↓ni_lt_f, ↓ni_le_t, ↓ni_le_f, ↓ni_eq_t, ↓ni_eq_f, ↓ni_beq_t, ↓ni_beq_f, it_X2_oneAlone]
      exact ih h2 (Fr_trans hf z1 (fun _ z => z) (fun _ z => z)) z2
theorem c_X2_oneAlone {h : rx_H} {σ : Sg} {a b : Nat} (hs : cS h σ) (hI : sgI σ) (ha : a < σ.1) (hb : b < 5) (hp1 : pW h o1 n1 wp) (hp2 : pW h o2 n2 wr) (ho1 : 65 < o1) (ho2 : 65 < o2) (hw1 : ∀ j, j < 40 → wp j < 256) (hw2 : ∀ j, j < 40 → wr j < 256) : rx_Cl 29 [.ref 61, .ref o1, .ref o2, .int (nI a), .int (nI b), .ref 64] h (fun r h' => r = none ∧ Fr h h' pgA ∧ cS h' (pu (a * 5 + b) (2 ^ (σ.2.1 a / 8)) (wr (σ.2.1 a % 8 * 5 + b)) 8 (pu (a * 5 + b) (wp (σ.2.1 a / 8 * 5 + b)) (2 ^ (σ.2.1 a % 8)) 8 σ))) := by
  have hs' := hs
  obtain ⟨h1, -, ⟨g, g1, g2⟩, -⟩ := hs'
  have g3 := g2 a ha
  have i3 := hI.2.2.1 a ha
  have i2 := hI.2.1
  generalize hx : σ.2.1 a = x at *
  have em : x - x / 8 * 8 = x % 8 := by omega
  have x1 : x / 8 < 8 := by omega
  have x2 : x % 8 < 8 := by omega
  rw [pu_L x2, pu_R, if_pos x1]
  apply en_X2_oneAlone _ _ _ _ _ _ 80 [25]
  simp (disch := first | decide | omega) only [rx_W, rx_wp_succ, rx_nx_stop, rx_nx_go, rx_lx_some, rx_fx_some, rx_ax_some, rx_qx_some, rx_ox_some, rx_vx_ref, rx_ix_ref, rx_ld_0, rx_ld_2, rx_ld_3, rx_cx_some, rx_nl, List.getElem?_cons_zero, List.getElem?_cons_succ, List.set_cons_zero, List.set_cons_succ, List.length_cons, List.length_nil, List.take_succ_cons, List.take_zero, List.drop_succ_cons, List.drop_zero, List.reverse_cons, List.reverse_nil, List.nil_append, List.cons_append, Option.toList_some, Option.toList_none, true_and, and_true, and_self, true_or, or_true, false_and, and_false, false_or, or_false, not_false_eq_true, Nat.reduceAdd, Nat.reduceLT, Nat.reduceLeDiff, Nat.reduceBEq, Nat.reduceEqDiff, Bool.or_false, Bool.false_or, if_true, if_false, Bool.false_eq_true, nq_eq, nq_lt, nq_le, nq_in_t, nq_bd, nq_ft, nq_clamp, nq_shl31, nq_shr31, nq_bitb, nq_add, nq_mul, fa_and, fa_or, nq_b0, nq_b1, nq_b01, ↓ni_lt_t, ↓ni_lt_f, ↓ni_le_t, ↓ni_le_f, ↓ni_eq_t, ↓ni_eq_f, ↓ni_beq_t, ↓ni_beq_f, it_X2_oneAlone, h1, pgO, g1, g3, nq_div, nq_sub, em]
  refine l_X2_o1 (h0 := h) hp1 ho1 hw1 hI ha hb x1 x2 _ (fun h2 y1 y2 => ?_) 8 0 h (by omega) (Fr_rfl _ _) hs
  obtain ⟨k1, k2⟩ := pL_LI (i := a * 5 + b) (row := wp (x / 8 * 5 + b)) x2 (by omega) σ 8 (by omega)
  apply rx_wp_sound 60 [71]
  simp (disch := first | decide | omega) only [rx_W, rx_wp_succ, rx_nx_stop, rx_nx_go, rx_lx_some, rx_fx_some, rx_ax_some, rx_qx_some, rx_ox_some, rx_vx_ref, rx_ix_ref, rx_ld_0, rx_ld_2, rx_ld_3, rx_cx_some, rx_nl, List.getElem?_cons_zero, List.getElem?_cons_succ, List.set_cons_zero, List.set_cons_succ, List.length_cons, List.length_nil, List.take_succ_cons, List.take_zero, List.drop_succ_cons, List.drop_zero, List.reverse_cons, List.reverse_nil, List.nil_append, List.cons_append, Option.toList_some, Option.toList_none, true_and, and_true, and_self, true_or, or_true, false_and, and_false, false_or, or_false, not_false_eq_true, Nat.reduceAdd, Nat.reduceLT, Nat.reduceLeDiff, Nat.reduceBEq, Nat.reduceEqDiff, Bool.or_false, Bool.false_or, if_true, if_false, Bool.false_eq_true, nq_eq, nq_lt, nq_le, nq_in_t, nq_bd, nq_ft, nq_clamp, nq_shl31, nq_shr31, nq_bitb, nq_add, nq_mul, fa_and, fa_or, nq_b0, nq_b1, nq_b01, ↓ni_lt_t, ↓ni_lt_f, ↓ni_le_t, ↓ni_le_f, ↓ni_eq_t, ↓ni_eq_f, ↓ni_beq_t, ↓ni_beq_f, it_X2_oneAlone]
  exact l_X2_o2 (h0 := h2) (pW_fr y1 (by simp; omega) (by simp; omega) hp2) ho2 hw2 (k2 hI (by omega)) (Nat.lt_of_lt_of_le ha k1.1) hb x1 x2 _ (fun h3 z1 z2 => ⟨rfl, Fr_trans y1 z1 (fun _ z => z) (fun _ z => z), z2⟩) 8 0 h2 (by omega) (Fr_rfl _ _) y2
end PB
/-! ===== builds ===== -/
def pgI (h : rx_H) : Prop := (∃ f ft, rx_rd h 61 = some (pgO f ft)) ∧ (∃ g, rx_rd h 62 = some (.inl (0, 64, .inl g))) ∧ ∃ g, rx_rd h 63 = some (.inl (0, 8, .inl g))
section BU
variable {h0 : rx_H} {o1 o2 n1 n2 set : Nat} {wp wr : Nat → Nat}
theorem l_X2_end {h : rx_H} {σ : Sg} {x5 x6 : Value} (hI : sgI σ) (hc : cS h σ) (Q : Option Value → rx_H → Prop)
    (hq : ∀ h', Fr h h' pgA → pgI h' → pW h' 64 σ.1 σ.2.2.1 → Q (some (.int (nI (gd σ).toNat))) h') : rx_R 27 128 [.ref 61, .ref o1, .ref o2, .int (nI set), .ref 64, x5, x6] [] h Q := by
  obtain ⟨h1, ⟨g, g1, g2⟩, ⟨p, p1, p2⟩, h4⟩ := hc
  have i2 := hI.2.1
  apply rx_wp_sound 60 []
  simp (disch := first | decide | omega) only [rx_W, rx_wp_succ, rx_nx_stop, rx_nx_go, rx_lx_some, rx_fx_some, rx_ax_some, rx_qx_some, rx_ox_some, rx_vx_ref, rx_ix_ref, rx_ld_0, rx_ld_2, rx_ld_3, rx_cx_some, rx_nl, List.getElem?_cons_zero, List.getElem?_cons_succ, List.set_cons_zero, List.set_cons_succ, List.length_cons, List.length_nil, List.take_succ_cons, List.take_zero, List.drop_succ_cons, List.drop_zero, List.reverse_cons, List.reverse_nil, List.nil_append, List.cons_append, Option.toList_some, Option.toList_none, true_and, and_true, and_self, true_or, or_true, false_and, and_false, false_or, or_false, not_false_eq_true, Nat.reduceAdd, Nat.reduceLT, Nat.reduceLeDiff, Nat.reduceBEq, Nat.reduceEqDiff, Bool.or_false, Bool.false_or, if_true, if_false, Bool.false_eq_true, nq_eq, nq_lt, nq_le, nq_in_t, nq_bd, nq_ft, nq_clamp, nq_shl31, nq_shr31, nq_bitb, nq_add, nq_mul, fa_and, fa_or, nq_b0, nq_b1, nq_b01, ↓ni_lt_t, ↓ni_lt_f, ↓ni_le_t, ↓ni_le_f, ↓ni_eq_t, ↓ni_eq_f, ↓ni_beq_t, ↓ni_beq_f, it_X2_builds, it_X2_builds_1, h1, pgO, h4.1, h4.2.2, rd_eq, rd_ne, rx_ft]
  have f1 : ∀ c, Fr h (rx_up h 64 c) [64] := fun c => Fr_up (Fr_rfl _ _) (by simp)
  exact hq _ (Fr_sub (f1 _) (by simp)) ⟨⟨_, _, rd_fr (f1 _) (by simp) h1⟩, ⟨g, rd_fr (f1 _) (by simp) g1⟩, ⟨p, rd_fr (f1 _) (by simp) p1⟩⟩ ⟨rd_eq _ _ _, aN_fr (f1 _) (by simp) h4.2.1, by omega⟩
theorem l_X2_bad {h : rx_H} {σ : Sg} {a : Nat} {x6 : Value} (ha : a < 100) (hI : sgI σ) (hc : cS h σ) (hg : gd σ = false) (Q : Option Value → rx_H → Prop)
    (hq : ∀ h', Fr h h' pgA → pgI h' → pW h' 64 σ.1 σ.2.2.1 → Q (some (.int (nI 0))) h') : rx_R 27 35 [.ref 61, .ref o1, .ref o2, .int (nI set), .ref 64, .int (nI a), x6] [] h Q := by
  have hc' := hc
  obtain ⟨h1, -⟩ := hc'
  rw [hg] at h1
  have i2 := hI.2.1
  have fin := fun x5 x6 => l_X2_end (o1 := o1) (o2 := o2) (set := set) (x5 := x5) (x6 := x6) hI hc Q (fun h' y1 y2 y3 => by rw [hg]; exact hq h' y1 y2 y3)
  apply rx_wp_sound 60 [128]
  simp (disch := first | decide | omega) only [rx_W, rx_wp_succ, rx_nx_stop, rx_nx_go, rx_lx_some, rx_fx_some, rx_ax_some, rx_qx_some, rx_ox_some, rx_vx_ref, rx_ix_ref, rx_ld_0, rx_ld_2, rx_ld_3, rx_cx_some, rx_nl, List.getElem?_cons_zero, List.getElem?_cons_succ, List.set_cons_zero, List.set_cons_succ, List.length_cons, List.length_nil, List.take_succ_cons, List.take_zero, List.drop_succ_cons, List.drop_zero, List.reverse_cons, List.reverse_nil, List.nil_append, List.cons_append, Option.toList_some, Option.toList_none, true_and, and_true, and_self, true_or, or_true, false_and, and_false, false_or, or_false, not_false_eq_true, Nat.reduceAdd, Nat.reduceLT, Nat.reduceLeDiff, Nat.reduceBEq, Nat.reduceEqDiff, Bool.or_false, Bool.false_or, if_true, if_false, Bool.false_eq_true, nq_eq, nq_lt, nq_le, nq_in_t, nq_bd, nq_ft, nq_clamp, nq_shl31, nq_shr31, nq_bitb, nq_add, nq_mul, fa_and, fa_or, nq_b0, nq_b1, nq_b01, ↓ni_lt_t, ↓ni_lt_f, ↓ni_le_t, ↓ni_le_f, ↓ni_eq_t, ↓ni_eq_f, ↓ni_beq_t, ↓ni_beq_f, it_X2_builds, it_X2_builds_1, h1, pgO]
  split
  · exact fin _ _
  · exact fin _ _
variable (hp1 : pW h0 o1 n1 wp) (hp2 : pW h0 o2 n2 wr) (ho1 : 65 < o1) (ho2 : 65 < o2) (hw1 : ∀ j, j < 40 → wp j < 256) (hw2 : ∀ j, j < 40 → wr j < 256) (hset : set < 16)
theorem l_X2_bu1 (hp1 : pW h0 o1 n1 wp) (hp2 : pW h0 o2 n2 wr) (ho1 : 65 < o1) (ho2 : 65 < o2) (hw1 : ∀ j, j < 40 → wp j < 256) (hw2 : ∀ j, j < 40 → wr j < 256) (hset : set < 16) {a : Nat} (ha8 : a < 8) (ha : a < (GG wp wr set (5 * a)).1) (Q : Option Value → rx_H → Prop)
    (hq : ∀ h x, Fr h0 h pgA → (cS h (GG wp wr set (5 * a + 5)) ∨ ∃ b, b ≤ 5 ∧ cS h (GG wp wr set (5 * a + b)) ∧ gd (GG wp wr set (5 * a + b)) = false) → rx_R 27 122 [.ref 61, .ref o1, .ref o2, .int (nI set), .ref 64, .int (nI a), x] [] h Q) :
    ∀ j b h, b + j = 5 → Fr h0 h pgA → cS h (GG wp wr set (5 * a + b)) → rx_R 27 61 [.ref 61, .ref o1, .ref o2, .int (nI set), .ref 64, .int (nI a), .int (nI b)] [] h Q
  | 0, b, h, e, hf, hc => by
    have e' : b = 5 := by omega
    subst e'
    apply rx_wp_sound 60 [61, 122]
    simp (disch := first | decide | omega) only [rx_W, rx_wp_succ, rx_nx_stop, rx_nx_go, rx_lx_some, rx_fx_some, rx_ax_some, rx_qx_some, rx_ox_some, rx_vx_ref, rx_ix_ref, rx_ld_0, rx_ld_2, rx_ld_3, rx_cx_some, rx_nl, List.getElem?_cons_zero, List.getElem?_cons_succ, List.set_cons_zero, List.set_cons_succ, List.length_cons, List.length_nil, List.take_succ_cons, List.take_zero, List.drop_succ_cons, List.drop_zero, List.reverse_cons, List.reverse_nil, List.nil_append, List.cons_append, Option.toList_some, Option.toList_none, true_and, and_true, and_self, true_or, or_true, false_and, and_false, false_or, or_false, not_false_eq_true, Nat.reduceAdd, Nat.reduceLT, Nat.reduceLeDiff, Nat.reduceBEq, Nat.reduceEqDiff, Bool.or_false, Bool.false_or, if_true, if_false, Bool.false_eq_true, nq_eq, nq_lt, nq_le, nq_in_t, nq_bd, nq_ft, nq_clamp, nq_shl31, nq_shr31, nq_bitb, nq_add, nq_mul, fa_and, fa_or, nq_b0, nq_b1, nq_b01, ↓ni_lt_t, ↓ni_lt_f, ↓ni_le_t, ↓ni_le_f, ↓ni_eq_t, ↓ni_eq_f, ↓ni_beq_t, ↓ni_beq_f, it_X2_builds, it_X2_builds_1]
    exact hq h _ hf (Or.inl hc)
  | j + 1, b, h, e, hf, hc => by
    have hc' := hc
    obtain ⟨h1, -⟩ := hc'
    have hI := GG_I wp wr set (5 * a + b) (by omega)
    have hL := GG_L wp wr set (5 * a) b (by omega)
    have ha2 : a < (GG wp wr set (5 * a + b)).1 := Nat.lt_of_lt_of_le ha hL.1
    have p1 := pW_fr hf (by simp; omega) (by simp; omega) hp1
    have p2 := pW_fr hf (by simp; omega) (by simp; omega) hp2
    have nx : GG wp wr set (5 * a + (b + 1)) = stp wp wr set (5 * a + b) (GG wp wr set (5 * a + b)) := by
      show GG wp wr set (5 * a + b + 1) = _
      rw [GG_succ, if_pos (by rw [show (5 * a + b) / 5 = a by omega]; exact ha2)]
    have ih := fun h => l_X2_bu1 hp1 hp2 ho1 ho2 hw1 hw2 hset ha8 ha Q hq j (b + 1) h (by omega)
    rw [nx] at ih
    unfold stp at ih
    rw [show (5 * a + b) / 5 = a by omega, show (5 * a + b) % 5 = b by omega] at ih
    have ei : 5 * a + b = a * 5 + b := by omega
    cases cg : gd (GG wp wr set (5 * a + b)) with
    | false =>
      rw [cg] at h1
      apply rx_wp_sound 60 [61, 122]
      simp (disch := first | decide | omega) only [rx_W, rx_wp_succ, rx_nx_stop, rx_nx_go, rx_lx_some, rx_fx_some, rx_ax_some, rx_qx_some, rx_ox_some, rx_vx_ref, rx_ix_ref, rx_ld_0, rx_ld_2, rx_ld_3, rx_cx_some, rx_nl, List.getElem?_cons_zero, List.getElem?_cons_succ, List.set_cons_zero, List.set_cons_succ, List.length_cons, List.length_nil, List.take_succ_cons, List.take_zero, List.drop_succ_cons, List.drop_zero, List.reverse_cons, List.reverse_nil, List.nil_append, List.cons_append, Option.toList_some, Option.toList_none, true_and, and_true, and_self, true_or, or_true, false_and, and_false, false_or, or_false, not_false_eq_true, Nat.reduceAdd, Nat.reduceLT, Nat.reduceLeDiff, Nat.reduceBEq, Nat.reduceEqDiff, Bool.or_false, Bool.false_or, if_true, if_false, Bool.false_eq_true, nq_eq, nq_lt, nq_le, nq_in_t, nq_bd, nq_ft, nq_clamp, nq_shl31, nq_shr31, nq_bitb, nq_add, nq_mul, fa_and, fa_or, nq_b0, nq_b1, nq_b01, ↓ni_lt_t, ↓ni_lt_f, ↓ni_le_t, ↓ni_le_f, ↓ni_eq_t, ↓ni_eq_f, ↓ni_beq_t, ↓ni_beq_f, it_X2_builds, it_X2_builds_1, h1, pgO, Bool.toNat_false]
      exact hq h _ hf (Or.inr ⟨b, by omega, hc, cg⟩)
    | true =>
      rw [cg] at h1
      have one : (¬ (b < 4 ∧ set.testBit b = true)) → rx_Cl 29 [.ref 61, .ref o1, .ref o2, .int (nI a), .int (nI b), .ref 64] h (fun r h' => r = none ∧ rx_R 27 61 [.ref 61, .ref o1, .ref o2, .int (nI set), .ref 64, .int (nI a), .int (nI (b + 1))] [] h' Q) := by
        intro cn
        refine rx_Cl_imp (c_X2_oneAlone hc hI ha2 (by omega) p1 p2 ho1 ho2 hw1 hw2) (fun r h2 ⟨e2, y1, y2⟩ => ⟨e2, ?_⟩)
        refine ih h2 (Fr_trans hf y1 (fun _ z => z) (fun _ z => z)) ?_
        rw [if_neg cn, ei]
        rw [ei] at y2
        exact y2
      by_cases c4 : b < 4
      · cases cb : set.testBit b with
        | true =>
          apply rx_wp_sound 60 [61, 122]
          simp (disch := first | decide | omega) only [rx_W, rx_wp_succ, rx_nx_stop, rx_nx_go, rx_lx_some, rx_fx_some, rx_ax_some, rx_qx_some, rx_ox_some, rx_vx_ref, rx_ix_ref, rx_ld_0, rx_ld_2, rx_ld_3, rx_cx_some, rx_nl, List.getElem?_cons_zero, List.getElem?_cons_succ, List.set_cons_zero, List.set_cons_succ, List.length_cons, List.length_nil, List.take_succ_cons, List.take_zero, List.drop_succ_cons, List.drop_zero, List.reverse_cons, List.reverse_nil, List.nil_append, List.cons_append, Option.toList_some, Option.toList_none, true_and, and_true, and_self, true_or, or_true, false_and, and_false, false_or, or_false, not_false_eq_true, Nat.reduceAdd, Nat.reduceLT, Nat.reduceLeDiff, Nat.reduceBEq, Nat.reduceEqDiff, Bool.or_false, Bool.false_or, if_true, if_false, Bool.false_eq_true, nq_eq, nq_lt, nq_le, nq_in_t, nq_bd, nq_ft, nq_clamp, nq_shl31, nq_shr31, nq_bitb, nq_add, nq_mul, fa_and, fa_or, nq_b0, nq_b1, nq_b01, ↓ni_lt_t, ↓ni_lt_f, ↓ni_le_t, ↓ni_le_f, ↓ni_eq_t, ↓ni_eq_f, ↓ni_beq_t, ↓ni_beq_f, it_X2_builds, it_X2_builds_1, h1, pgO, Bool.toNat_true, q_X7_has, cb]
          refine rx_Cl_imp (c_X2_both hc hI ha2 (by omega) p1 p2 hw1 hw2) (fun r h2 ⟨e2, y1, y2⟩ => ?_)
          subst e2
          simp (disch := first | decide | omega) only [rx_W, rx_wp_succ, rx_nx_stop, rx_nx_go, rx_lx_some, rx_fx_some, rx_ax_some, rx_qx_some, rx_ox_some, rx_vx_ref, rx_ix_ref, rx_ld_0, rx_ld_2, rx_ld_3, rx_cx_some, rx_nl, List.getElem?_cons_zero, List.getElem?_cons_succ, List.set_cons_zero, List.set_cons_succ, List.length_cons, List.length_nil, List.take_succ_cons, List.take_zero, List.drop_succ_cons, List.drop_zero, List.reverse_cons, List.reverse_nil, List.nil_append, List.cons_append, Option.toList_some, Option.toList_none, true_and, and_true, and_self, true_or, or_true, false_and, and_false, false_or, or_false, not_false_eq_true, Nat.reduceAdd, Nat.reduceLT, Nat.reduceLeDiff, Nat.reduceBEq, Nat.reduceEqDiff, Bool.or_false, Bool.false_or, if_true, if_false, Bool.false_eq_true, nq_eq, nq_lt, nq_le, nq_in_t, nq_bd, nq_ft, nq_clamp, nq_shl31, nq_shr31, nq_bitb, nq_add, nq_mul, fa_and, fa_or, nq_b0, nq_b1, nq_b01, ↓ni_lt_t, ↓ni_lt_f, ↓ni_le_t, ↓ni_le_f, ↓ni_eq_t, ↓ni_eq_f, ↓ni_beq_t, ↓ni_beq_f, it_X2_builds, it_X2_builds_1]
          refine ih h2 (Fr_trans hf y1 (fun _ z => z) (fun _ z => z)) ?_
          rw [if_pos ⟨c4, cb⟩, ei]
          rw [ei] at y2
          exact y2
        | false =>
          apply rx_wp_sound 60 [61, 122]
          simp (disch := first | decide | omega) only [rx_W, rx_wp_succ, rx_nx_stop, rx_nx_go, rx_lx_some, rx_fx_some, rx_ax_some, rx_qx_some, rx_ox_some, rx_vx_ref, rx_ix_ref, rx_ld_0, rx_ld_2, rx_ld_3, rx_cx_some, rx_nl, List.getElem?_cons_zero, List.getElem?_cons_succ, List.set_cons_zero, List.set_cons_succ, List.length_cons, List.length_nil, List.take_succ_cons, List.take_zero, List.drop_succ_cons, List.drop_zero, List.reverse_cons, List.reverse_nil, List.nil_append, List.cons_append, Option.toList_some, Option.toList_none, true_and, and_true, and_self, true_or, or_true, false_and, and_false, false_or, or_false, not_false_eq_true, Nat.reduceAdd, Nat.reduceLT, Nat.reduceLeDiff, Nat.reduceBEq, Nat.reduceEqDiff, Bool.or_false, Bool.false_or, if_true, if_false, Bool.false_eq_true, nq_eq, nq_lt, nq_le, nq_in_t, nq_bd, nq_ft, nq_clamp, nq_shl31, nq_shr31, nq_bitb, nq_add, nq_mul, fa_and, fa_or, nq_b0, nq_b1, nq_b01, ↓ni_lt_t, ↓ni_lt_f, ↓ni_le_t, ↓ni_le_f, ↓ni_eq_t, ↓ni_eq_f, ↓ni_beq_t, ↓ni_beq_f, it_X2_builds, it_X2_builds_1, h1, pgO, Bool.toNat_true, q_X7_has, cb]
          refine rx_Cl_imp (one (fun z => by rw [cb] at z; cases z.2)) (fun r h2 ⟨e2, y1⟩ => ?_)
          subst e2
          simp (disch := first | decide | omega) only [rx_W, rx_wp_succ, rx_nx_stop, rx_nx_go, rx_lx_some, rx_fx_some, rx_ax_some, rx_qx_some, rx_ox_some, rx_vx_ref, rx_ix_ref, rx_ld_0, rx_ld_2, rx_ld_3, rx_cx_some, rx_nl, List.getElem?_cons_zero, List.getElem?_cons_succ, List.set_cons_zero, List.set_cons_succ, List.length_cons, List.length_nil, List.take_succ_cons, List.take_zero, List.drop_succ_cons, List.drop_zero, List.reverse_cons, List.reverse_nil, List.nil_append, List.cons_append, Option.toList_some, Option.toList_none, true_and, and_true, and_self, true_or, or_true, false_and, and_false, false_or, or_false, not_false_eq_true, Nat.reduceAdd, Nat.reduceLT, Nat.reduceLeDiff, Nat.reduceBEq, Nat.reduceEqDiff, Bool.or_false, Bool.false_or, if_true, if_false, Bool.false_eq_true, nq_eq, nq_lt, nq_le, nq_in_t, nq_bd, nq_ft, nq_clamp, nq_shl31, nq_shr31, nq_bitb, nq_add, nq_mul, fa_and, fa_or, nq_b0, nq_b1, nq_b01, ↓ni_lt_t, ↓ni_lt_f, ↓ni_le_t, ↓ni_le_f, ↓ni_eq_t, ↓ni_eq_f, ↓ni_beq_t, ↓ni_beq_f, it_X2_builds, it_X2_builds_1]
          exact y1
      · apply rx_wp_sound 60 [61, 122]
        simp (disch := first | decide | omega) only [rx_W, rx_wp_succ, rx_nx_stop, rx_nx_go, rx_lx_some, rx_fx_some, rx_ax_some, rx_qx_some, rx_ox_some, rx_vx_ref, rx_ix_ref, rx_ld_0, rx_ld_2, rx_ld_3, rx_cx_some, rx_nl, List.getElem?_cons_zero, List.getElem?_cons_succ, List.set_cons_zero, List.set_cons_succ, List.length_cons, List.length_nil, List.take_succ_cons, List.take_zero, List.drop_succ_cons, List.drop_zero, List.reverse_cons, List.reverse_nil, List.nil_append, List.cons_append, Option.toList_some, Option.toList_none, true_and, and_true, and_self, true_or, or_true, false_and, and_false, false_or, or_false, not_false_eq_true, Nat.reduceAdd, Nat.reduceLT, Nat.reduceLeDiff, Nat.reduceBEq, Nat.reduceEqDiff, Bool.or_false, Bool.false_or, if_true, if_false, Bool.false_eq_true, nq_eq, nq_lt, nq_le, nq_in_t, nq_bd, nq_ft, nq_clamp, nq_shl31, nq_shr31, nq_bitb, nq_add, nq_mul, fa_and, fa_or, nq_b0, nq_b1, nq_b01, ↓ni_lt_t, ↓ni_lt_f, ↓ni_le_t, ↓ni_le_f, ↓ni_eq_t, ↓ni_eq_f, ↓ni_beq_t, ↓ni_beq_f, it_X2_builds, it_X2_builds_1, h1, pgO, Bool.toNat_true]
        refine rx_Cl_imp (one (fun z => c4 z.1)) (fun r h2 ⟨e2, y1⟩ => ?_)
        subst e2
        simp (disch := first | decide | omega) only [rx_W, rx_wp_succ, rx_nx_stop, rx_nx_go, rx_lx_some, rx_fx_some, rx_ax_some, rx_qx_some, rx_ox_some, rx_vx_ref, rx_ix_ref, rx_ld_0, rx_ld_2, rx_ld_3, rx_cx_some, rx_nl, List.getElem?_cons_zero, List.getElem?_cons_succ, List.set_cons_zero, List.set_cons_succ, List.length_cons, List.length_nil, List.take_succ_cons, List.take_zero, List.drop_succ_cons, List.drop_zero, List.reverse_cons, List.reverse_nil, List.nil_append, List.cons_append, Option.toList_some, Option.toList_none, true_and, and_true, and_self, true_or, or_true, false_and, and_false, false_or, or_false, not_false_eq_true, Nat.reduceAdd, Nat.reduceLT, Nat.reduceLeDiff, Nat.reduceBEq, Nat.reduceEqDiff, Bool.or_false, Bool.false_or, if_true, if_false, Bool.false_eq_true, nq_eq, nq_lt, nq_le, nq_in_t, nq_bd, nq_ft, nq_clamp, nq_shl31, nq_shr31, nq_bitb, nq_add, nq_mul, fa_and, fa_or, nq_b0, nq_b1, nq_b01, ↓ni_lt_t, ↓ni_lt_f, ↓ni_le_t, ↓ni_le_f, ↓ni_eq_t, ↓ni_eq_f, ↓ni_beq_t, ↓ni_beq_f, it_X2_builds, it_X2_builds_1]
        exact y1
theorem l_X2_bu (hp1 : pW h0 o1 n1 wp) (hp2 : pW h0 o2 n2 wr) (ho1 : 65 < o1) (ho2 : 65 < o2) (hw1 : ∀ j, j < 40 → wp j < 256) (hw2 : ∀ j, j < 40 → wr j < 256) (hset : set < 16) (Q : Option Value → rx_H → Prop)
    (hq : ∀ h, Fr h0 h pgA → pgI h → (∃ n w, pW h 64 n w ∧ (gd (GG wp wr set 40) = true → n = (GG wp wr set 40).1 ∧ w = (GG wp wr set 40).2.2.1)) → Q (some (.int (nI (gd (GG wp wr set 40)).toNat))) h) :
    ∀ j a h x, a + j = 8 → Fr h0 h pgA → cS h (GG wp wr set (5 * a)) → rx_R 27 35 [.ref 61, .ref o1, .ref o2, .int (nI set), .ref 64, .int (nI a), x] [] h Q
  | 0, a, h, x, e, hf, hc => by
    have e' : a = 8 := by omega
    subst e'
    have hI := GG_I wp wr set 40 (by omega)
    have i2 := hI.2.1
    have h1 : rx_rd h 61 = some (pgO (GG wp wr set 40).1 (gd (GG wp wr set 40))) := hc.1
    have fin := fun x5 x6 => l_X2_end (o1 := o1) (o2 := o2) (set := set) (x5 := x5) (x6 := x6) hI hc Q (fun h' y1 y2 y3 => hq h' (Fr_trans hf y1 (fun _ z => z) (fun _ z => z)) y2 ⟨_, _, y3, fun _ => ⟨rfl, rfl⟩⟩)
    apply rx_wp_sound 60 [128]
    simp (disch := first | decide | omega) only [rx_W, rx_wp_succ, rx_nx_stop, rx_nx_go, rx_lx_some, rx_fx_some, rx_ax_some, rx_qx_some, rx_ox_some, rx_vx_ref, rx_ix_ref, rx_ld_0, rx_ld_2, rx_ld_3, rx_cx_some, rx_nl, List.getElem?_cons_zero, List.getElem?_cons_succ, List.set_cons_zero, List.set_cons_succ, List.length_cons, List.length_nil, List.take_succ_cons, List.take_zero, List.drop_succ_cons, List.drop_zero, List.reverse_cons, List.reverse_nil, List.nil_append, List.cons_append, Option.toList_some, Option.toList_none, true_and, and_true, and_self, true_or, or_true, false_and, and_false, false_or, or_false, not_false_eq_true, Nat.reduceAdd, Nat.reduceLT, Nat.reduceLeDiff, Nat.reduceBEq, Nat.reduceEqDiff, Bool.or_false, Bool.false_or, if_true, if_false, Bool.false_eq_true, nq_eq, nq_lt, nq_le, nq_in_t, nq_bd, nq_ft, nq_clamp, nq_shl31, nq_shr31, nq_bitb, nq_add, nq_mul, fa_and, fa_or, nq_b0, nq_b1, nq_b01, ↓ni_lt_t, ↓ni_lt_f, ↓ni_le_t, ↓ni_le_f, ↓ni_eq_t, ↓ni_eq_f, ↓ni_beq_t, ↓ni_beq_f, it_X2_builds, it_X2_builds_1, h1, pgO]
    exact fin _ _
  | j + 1, a, h, x, e, hf, hc => by
    have hI := GG_I wp wr set (5 * a) (by omega)
    have i2 := hI.2.1
    have h1 := hc.1
    have bad : ∀ i h x6 a', a' < 100 → i ≤ 40 → Fr h0 h pgA → cS h (GG wp wr set i) → gd (GG wp wr set i) = false → rx_R 27 35 [.ref 61, .ref o1, .ref o2, .int (nI set), .ref 64, .int (nI a'), x6] [] h Q := by
      intro i h x6 a' ha' hi hf hc hg
      have g40 := gd_no wp wr set hi hg
      refine l_X2_bad ha' (GG_I wp wr set i hi) hc hg Q (fun h' y1 y2 y3 => ?_)
      have := hq h' (Fr_trans hf y1 (fun _ z => z) (fun _ z => z)) y2 ⟨_, _, y3, fun z => by rw [g40] at z; cases z⟩
      rw [g40] at this
      exact this
    cases cg : gd (GG wp wr set (5 * a)) with
    | false => exact bad _ h _ _ (by omega) (by omega) hf hc cg
    | true =>
      rw [cg] at h1
      by_cases ca : a < (GG wp wr set (5 * a)).1
      · apply rx_wp_sound 60 [35, 61]
        simp (disch := first | decide | omega) only [rx_W, rx_wp_succ, rx_nx_stop, rx_nx_go, rx_lx_some, rx_fx_some, rx_ax_some, rx_qx_some, rx_ox_some, rx_vx_ref, rx_ix_ref, rx_ld_0, rx_ld_2, rx_ld_3, rx_cx_some, rx_nl, List.getElem?_cons_zero, List.getElem?_cons_succ, List.set_cons_zero, List.set_cons_succ, List.length_cons, List.length_nil, List.take_succ_cons, List.take_zero, List.drop_succ_cons, List.drop_zero, List.reverse_cons, List.reverse_nil, List.nil_append, List.cons_append, Option.toList_some, Option.toList_none, true_and, and_true, and_self, true_or, or_true, false_and, and_false, false_or, or_false, not_false_eq_true, Nat.reduceAdd, Nat.reduceLT, Nat.reduceLeDiff, Nat.reduceBEq, Nat.reduceEqDiff, Bool.or_false, Bool.false_or, if_true, if_false, Bool.false_eq_true, nq_eq, nq_lt, nq_le, nq_in_t, nq_bd, nq_ft, nq_clamp, nq_shl31, nq_shr31, nq_bitb, nq_add, nq_mul, fa_and, fa_or, nq_b0, nq_b1, nq_b01, ↓ni_lt_t, ↓ni_lt_f, ↓ni_le_t, ↓ni_le_f, ↓ni_eq_t, ↓ni_eq_f, ↓ni_beq_t, ↓ni_beq_f, it_X2_builds, it_X2_builds_1, h1, pgO, Bool.toNat_true]
        refine l_X2_bu1 (h0 := h0) hp1 hp2 ho1 ho2 hw1 hw2 hset (by omega) ca Q (fun h2 y z1 z2 => ?_) 5 0 h (by omega) hf hc
        rcases z2 with z2 | ⟨b, b1, b2, b3⟩
        · apply rx_wp_sound 60 [35]
          simp (disch := first | decide | omega) only [rx_W, rx_wp_succ, rx_nx_stop, rx_nx_go, rx_lx_some, rx_fx_some, rx_ax_some, rx_qx_some, rx_ox_some, rx_vx_ref, rx_ix_ref, rx_ld_0, rx_ld_2, rx_ld_3, rx_cx_some, rx_nl, List.getElem?_cons_zero, List.getElem?_cons_succ, List.set_cons_zero, List.set_cons_succ, List.length_cons, List.length_nil, List.take_succ_cons, List.take_zero, List.drop_succ_cons, List.drop_zero, List.reverse_cons, List.reverse_nil, List.nil_append, List.cons_append, Option.toList_some, Option.toList_none, true_and, and_true, and_self, true_or, or_true, false_and, and_false, false_or, or_false, not_false_eq_true, Nat.reduceAdd, Nat.reduceLT, Nat.reduceLeDiff, Nat.reduceBEq, Nat.reduceEqDiff, Bool.or_false, Bool.false_or, if_true, if_false, Bool.false_eq_true, nq_eq, nq_lt, nq_le, nq_in_t, nq_bd, nq_ft, nq_clamp, nq_shl31, nq_shr31, nq_bitb, nq_add, nq_mul, fa_and, fa_or, nq_b0, nq_b1, nq_b01, ↓ni_lt_t, ↓ni_lt_f, ↓ni_le_t, ↓ni_le_f, ↓ni_eq_t, ↓ni_eq_f, ↓ni_beq_t, ↓ni_beq_f, it_X2_builds, it_X2_builds_1]
          exact l_X2_bu hp1 hp2 ho1 ho2 hw1 hw2 hset Q hq j (a + 1) h2 _ (by omega) z1 (by rw [show 5 * (a + 1) = 5 * a + 5 by omega]; exact z2)
        · apply rx_wp_sound 60 [35]
          simp (disch := first | decide | omega) only [rx_W, rx_wp_succ, rx_nx_stop, rx_nx_go, rx_lx_some, rx_fx_some, rx_ax_some, rx_qx_some, rx_ox_some, rx_vx_ref, rx_ix_ref, rx_ld_0, rx_ld_2, rx_ld_3, rx_cx_some, rx_nl, List.getElem?_cons_zero, List.getElem?_cons_succ, List.set_cons_zero, List.set_cons_succ, List.length_cons, List.length_nil, List.take_succ_cons, List.take_zero, List.drop_succ_cons, List.drop_zero, List.reverse_cons, List.reverse_nil, List.nil_append, List.cons_append, Option.toList_some, Option.toList_none, true_and, and_true, and_self, true_or, or_true, false_and, and_false, false_or, or_false, not_false_eq_true, Nat.reduceAdd, Nat.reduceLT, Nat.reduceLeDiff, Nat.reduceBEq, Nat.reduceEqDiff, Bool.or_false, Bool.false_or, if_true, if_false, Bool.false_eq_true, nq_eq, nq_lt, nq_le, nq_in_t, nq_bd, nq_ft, nq_clamp, nq_shl31, nq_shr31, nq_bitb, nq_add, nq_mul, fa_and, fa_or, nq_b0, nq_b1, nq_b01, ↓ni_lt_t, ↓ni_lt_f, ↓ni_le_t, ↓ni_le_f, ↓ni_eq_t, ↓ni_eq_f, ↓ni_beq_t, ↓ni_beq_f, it_X2_builds, it_X2_builds_1]
          exact bad _ h2 _ _ (by omega) (by omega) z1 b2 b3
      · have eG : GG wp wr set 40 = GG wp wr set (5 * a) := by
          have := GG_end wp wr set (k := a) (by omega) (40 - 5 * a)
          rw [show 5 * a + (40 - 5 * a) = 40 by omega] at this
          exact this
        have fin := fun x5 x6 => l_X2_end (o1 := o1) (o2 := o2) (set := set) (x5 := x5) (x6 := x6) hI hc Q (fun h' y1 y2 y3 => by
          have := hq h' (Fr_trans hf y1 (fun _ z => z) (fun _ z => z)) y2 ⟨_, _, y3, fun _ => by rw [eG]; exact ⟨rfl, rfl⟩⟩
          rw [eG] at this
          exact this)
        apply rx_wp_sound 60 [128]
        simp (disch := first | decide | omega) only [rx_W, rx_wp_succ, rx_nx_stop, rx_nx_go, rx_lx_some, rx_fx_some, rx_ax_some, rx_qx_some, rx_ox_some, rx_vx_ref, rx_ix_ref, rx_ld_0, rx_ld_2, rx_ld_3, rx_cx_some, rx_nl, List.getElem?_cons_zero, List.getElem?_cons_succ, List.set_cons_zero, List.set_cons_succ, List.length_cons, List.length_nil, List.take_succ_cons, List.take_zero, List.drop_succ_cons, List.drop_zero, List.reverse_cons, List.reverse_nil, List.nil_append, List.cons_append, Option.toList_some, Option.toList_none, true_and, and_true, and_self, true_or, or_true, false_and, and_false, false_or, or_false, not_false_eq_true, Nat.reduceAdd, Nat.reduceLT, Nat.reduceLeDiff, Nat.reduceBEq, Nat.reduceEqDiff, Bool.or_false, Bool.false_or, if_true, if_false, Bool.false_eq_true, nq_eq, nq_lt, nq_le, nq_in_t, nq_bd, nq_ft, nq_clamp, nq_shl31, nq_shr31, nq_bitb, nq_add, nq_mul, fa_and, fa_or, nq_b0, nq_b1, nq_b01, ↓ni_lt_t, ↓ni_lt_f, ↓ni_le_t, ↓ni_le_f, ↓ni_eq_t, ↓ni_eq_f, ↓ni_beq_t, ↓ni_beq_f, it_X2_builds, it_X2_builds_1, h1, pgO]
        exact fin _ _
theorem c_X2_builds {h : rx_H} {n9 : Nat} {w9 : Nat → Nat} (hg : pgI h) (hd : pW h 64 n9 w9) (hp1 : pW h o1 n1 wp) (hp2 : pW h o2 n2 wr) (ho1 : 65 < o1) (ho2 : 65 < o2) (hw1 : ∀ j, j < 40 → wp j < 256) (hw2 : ∀ j, j < 40 → wr j < 256) (hset : set < 16) : rx_Cl 27 [.ref 61, .ref o1, .ref o2, .int (nI set), .ref 64] h (fun r h' => r = some (.int (nI (gd (GG wp wr set 40)).toNat)) ∧ Fr h h' pgA ∧ pgI h' ∧ ∃ n w, pW h' 64 n w ∧ (gd (GG wp wr set 40) = true → n = (GG wp wr set 40).1 ∧ w = (GG wp wr set 40).2.2.1)) := by
  obtain ⟨⟨f0, ft0, h1⟩, ⟨g0, h2⟩, ⟨p0, h3⟩⟩ := hg
  apply en_X2_builds _ _ _ _ _ 80 [35]
  simp (disch := first | decide | omega) only [rx_W, rx_wp_succ, rx_nx_stop, rx_nx_go, rx_lx_some, rx_fx_some, rx_ax_some, rx_qx_some, rx_ox_some, rx_vx_ref, rx_ix_ref, rx_ld_0, rx_ld_2, rx_ld_3, rx_cx_some, rx_nl, List.getElem?_cons_zero, List.getElem?_cons_succ, List.set_cons_zero, List.set_cons_succ, List.length_cons, List.length_nil, List.take_succ_cons, List.take_zero, List.drop_succ_cons, List.drop_zero, List.reverse_cons, List.reverse_nil, List.nil_append, List.cons_append, Option.toList_some, Option.toList_none, true_and, and_true, and_self, true_or, or_true, false_and, and_false, false_or, or_false, not_false_eq_true, Nat.reduceAdd, Nat.reduceLT, Nat.reduceLeDiff, Nat.reduceBEq, Nat.reduceEqDiff, Bool.or_false, Bool.false_or, if_true, if_false, Bool.false_eq_true, nq_eq, nq_lt, nq_le, nq_in_t, nq_bd, nq_ft, nq_clamp, nq_shl31, nq_shr31, nq_bitb, nq_add, nq_mul, fa_and, fa_or, nq_b0, nq_b1, nq_b01, ↓ni_lt_t, ↓ni_lt_f, ↓ni_le_t, ↓ni_le_f, ↓ni_eq_t, ↓ni_eq_f, ↓ni_beq_t, ↓ni_beq_f, it_X2_builds, it_X2_builds_1, h1, pgO, nI_neg1]
  refine rx_Cl_imp (c_fill (a := 62) (k := 64) (v := 4294967295) (f := g0) (by omega) (by omega) h2) (fun r ha ⟨ea, y1, y2⟩ => ?_)
  subst ea
  have h1a := rd_fr y1 (by simp) h1
  have hda := pW_fr y1 (by simp) (by simp) hd
  simp (disch := first | decide | omega) only [rx_W, rx_wp_succ, rx_nx_stop, rx_nx_go, rx_lx_some, rx_fx_some, rx_ax_some, rx_qx_some, rx_ox_some, rx_vx_ref, rx_ix_ref, rx_ld_0, rx_ld_2, rx_ld_3, rx_cx_some, rx_nl, List.getElem?_cons_zero, List.getElem?_cons_succ, List.set_cons_zero, List.set_cons_succ, List.length_cons, List.length_nil, List.take_succ_cons, List.take_zero, List.drop_succ_cons, List.drop_zero, List.reverse_cons, List.reverse_nil, List.nil_append, List.cons_append, Option.toList_some, Option.toList_none, true_and, and_true, and_self, true_or, or_true, false_and, and_false, false_or, or_false, not_false_eq_true, Nat.reduceAdd, Nat.reduceLT, Nat.reduceLeDiff, Nat.reduceBEq, Nat.reduceEqDiff, Bool.or_false, Bool.false_or, if_true, if_false, Bool.false_eq_true, nq_eq, nq_lt, nq_le, nq_in_t, nq_bd, nq_ft, nq_clamp, nq_shl31, nq_shr31, nq_bitb, nq_add, nq_mul, fa_and, fa_or, nq_b0, nq_b1, nq_b01, ↓ni_lt_t, ↓ni_lt_f, ↓ni_le_t, ↓ni_le_f, ↓ni_eq_t, ↓ni_eq_f, ↓ni_beq_t, ↓ni_beq_f, it_X2_builds, it_X2_builds_1, h1a, pgO, rd_eq, rd_ne, rx_ft, hda.1, hda.2.2]
  have fb : ∀ c1 c2, Fr ha (rx_up (rx_up ha 61 c1) 61 c2) [61] := fun c1 c2 => Fr_up (Fr_up (Fr_rfl _ _) (by simp)) (by simp)
  refine rx_Cl_imp (c_X4_begin (m := 8) (pW_fr (fb _ _) (by simp) (by simp) hda)) (fun r hb ⟨eb, z1, z2⟩ => ?_)
  subst eb
  obtain ⟨g1, y3, y4⟩ := y2
  have fab := fun c1 c2 => Fr_trans y1 (fb c1 c2) (C := [61, 62]) (by simp) (by simp)
  have h1b := rd_fr z1 (by simp) (rd_eq (rx_up ha 61 (.inr (2, [.ref 62, .ref 63, .int (nI 0), .int (nI ft0.toNat)]))) 61 (.inr (2, [.ref 62, .ref 63, .int (nI 0), .int (nI 1)])))
  have h2b := rd_fr z1 (by simp) (rd_fr (fb (.inr (2, [.ref 62, .ref 63, .int (nI 0), .int (nI ft0.toNat)])) (.inr (2, [.ref 62, .ref 63, .int (nI 0), .int (nI 1)]))) (by simp) y3)
  have h3b := rd_fr z1 (by simp) (rd_fr (fab (.inr (2, [.ref 62, .ref 63, .int (nI 0), .int (nI ft0.toNat)])) (.inr (2, [.ref 62, .ref 63, .int (nI 0), .int (nI 1)]))) (by simp) h3)
  have fabz := Fr_trans (fab (.inr (2, [.ref 62, .ref 63, .int (nI 0), .int (nI ft0.toNat)])) (.inr (2, [.ref 62, .ref 63, .int (nI 0), .int (nI 1)]))) z1 (C := pgA) (by simp) (by simp)
  simp (disch := first | decide | omega) only [rx_W, rx_wp_succ, rx_nx_stop, rx_nx_go, rx_lx_some, rx_fx_some, rx_ax_some, rx_qx_some, rx_ox_some, rx_vx_ref, rx_ix_ref, rx_ld_0, rx_ld_2, rx_ld_3, rx_cx_some, rx_nl, List.getElem?_cons_zero, List.getElem?_cons_succ, List.set_cons_zero, List.set_cons_succ, List.length_cons, List.length_nil, List.take_succ_cons, List.take_zero, List.drop_succ_cons, List.drop_zero, List.reverse_cons, List.reverse_nil, List.nil_append, List.cons_append, Option.toList_some, Option.toList_none, true_and, and_true, and_self, true_or, or_true, false_and, and_false, false_or, or_false, not_false_eq_true, Nat.reduceAdd, Nat.reduceLT, Nat.reduceLeDiff, Nat.reduceBEq, Nat.reduceEqDiff, Bool.or_false, Bool.false_or, if_true, if_false, Bool.false_eq_true, nq_eq, nq_lt, nq_le, nq_in_t, nq_bd, nq_ft, nq_clamp, nq_shl31, nq_shr31, nq_bitb, nq_add, nq_mul, fa_and, fa_or, nq_b0, nq_b1, nq_b01, ↓ni_lt_t, ↓ni_lt_f, ↓ni_le_t, ↓ni_le_f, ↓ni_eq_t, ↓ni_eq_f, ↓ni_beq_t, ↓ni_beq_f, it_X2_builds, it_X2_builds_1, h1b]
  have q0 : rx_Cl 30 [.ref 61, .int (nI 0), .int (nI 0)] hb (fun r h' => Fr hb h' pgA ∧ (∃ k, r = some (.int k)) ∧ cS h' (GG wp wr set 0)) := by
    have y40 := y4 0 (by omega)
    rw [← nI_neg1] at y40
    apply en_X2_number _ _ _ 60 []
    simp (disch := first | decide | omega) only [rx_W, rx_wp_succ, rx_nx_stop, rx_nx_go, rx_lx_some, rx_fx_some, rx_ax_some, rx_qx_some, rx_ox_some, rx_vx_ref, rx_ix_ref, rx_ld_0, rx_ld_2, rx_ld_3, rx_cx_some, rx_nl, List.getElem?_cons_zero, List.getElem?_cons_succ, List.set_cons_zero, List.set_cons_succ, List.length_cons, List.length_nil, List.take_succ_cons, List.take_zero, List.drop_succ_cons, List.drop_zero, List.reverse_cons, List.reverse_nil, List.nil_append, List.cons_append, Option.toList_some, Option.toList_none, true_and, and_true, and_self, true_or, or_true, false_and, and_false, false_or, or_false, not_false_eq_true, Nat.reduceAdd, Nat.reduceLT, Nat.reduceLeDiff, Nat.reduceBEq, Nat.reduceEqDiff, Bool.or_false, Bool.false_or, if_true, if_false, Bool.false_eq_true, nq_eq, nq_lt, nq_le, nq_in_t, nq_bd, nq_ft, nq_clamp, nq_shl31, nq_shr31, nq_bitb, nq_add, nq_mul, fa_and, fa_or, nq_b0, nq_b1, nq_b01, ↓ni_lt_t, ↓ni_lt_f, ↓ni_le_t, ↓ni_le_f, ↓ni_eq_t, ↓ni_eq_f, ↓ni_beq_t, ↓ni_beq_f, it_X2_number, h1b, h2b, h3b, y40, rd_eq, rd_ne, rx_ft, upd, if_true]
    have fc : ∀ c1 c2 c3, Fr hb (rx_up (rx_up (rx_up hb 62 c1) 63 c2) 61 c3) [61, 62, 63] := fun c1 c2 c3 => Fr_up (Fr_up (Fr_up (Fr_rfl _ _) (by simp)) (by simp)) (by simp)
    refine ⟨Fr_sub (fc _ _ _) (by simp), ⟨_, rfl⟩, ?_, ⟨upd g1 0 (nI 0), ?_, fun x hx => ?_⟩, ⟨upd p0 0 (nI 0), ?_, fun k hk => ?_⟩, pW_fr (fc _ _ _) (by simp) (by simp) z2⟩
    · rw [rd_eq]
      have : gd (GG wp wr set 0) = true := by
        show (true && decide (tot (fun _ => 0) ≤ 24)) = true
        rw [tot_0]
        rfl
      rw [this]
      rfl
    · rw [rd_ne (by omega), rd_ne (by omega), rd_eq]
    · show upd g1 0 (nI 0) x = if fdI 1 (fun _ => 0) x < 1 then nI (fdI 1 (fun _ => 0) x) else -1
      unfold upd
      by_cases c : x = 0
      · have : fdI 1 (fun _ => 0) x = 0 := fdI_eq (by omega) c.symm (fun j hj => by omega)
        rw [if_pos c, this, if_pos (by omega)]
      · have : fdI 1 (fun _ => 0) x = 1 := fdI_none (fun j _ z => c z.symm)
        rw [if_neg c, this, if_neg (by omega), y4 x hx, nI_neg1]
    · rw [rd_ne (by omega), rd_eq]
    · have hk : k < 1 := hk
      show upd p0 0 (nI 0) k = nI 0
      unfold upd
      rw [if_pos (by omega)]
  refine rx_Cl_imp q0 (fun r hc ⟨x1, ⟨k, x2⟩, x3⟩ => ?_)
  subst x2
  simp (disch := first | decide | omega) only [rx_W, rx_wp_succ, rx_nx_stop, rx_nx_go, rx_lx_some, rx_fx_some, rx_ax_some, rx_qx_some, rx_ox_some, rx_vx_ref, rx_ix_ref, rx_ld_0, rx_ld_2, rx_ld_3, rx_cx_some, rx_nl, List.getElem?_cons_zero, List.getElem?_cons_succ, List.set_cons_zero, List.set_cons_succ, List.length_cons, List.length_nil, List.take_succ_cons, List.take_zero, List.drop_succ_cons, List.drop_zero, List.reverse_cons, List.reverse_nil, List.nil_append, List.cons_append, Option.toList_some, Option.toList_none, true_and, and_true, and_self, true_or, or_true, false_and, and_false, false_or, or_false, not_false_eq_true, Nat.reduceAdd, Nat.reduceLT, Nat.reduceLeDiff, Nat.reduceBEq, Nat.reduceEqDiff, Bool.or_false, Bool.false_or, if_true, if_false, Bool.false_eq_true, nq_eq, nq_lt, nq_le, nq_in_t, nq_bd, nq_ft, nq_clamp, nq_shl31, nq_shr31, nq_bitb, nq_add, nq_mul, fa_and, fa_or, nq_b0, nq_b1, nq_b01, ↓ni_lt_t, ↓ni_lt_f, ↓ni_le_t, ↓ni_le_f, ↓ni_eq_t, ↓ni_eq_f, ↓ni_beq_t, ↓ni_beq_f, it_X2_builds, it_X2_builds_1]
  have fc := Fr_trans fabz x1 (C := pgA) (fun _ z => z) (fun _ z => z)
  refine l_X2_bu (h0 := h) hp1 hp2 ho1 ho2 hw1 hw2 hset _ (fun h' w1 w2 w3 => ⟨rfl, w1, w2, w3⟩) 8 0 hc _ (by omega) fc x3
end BU
