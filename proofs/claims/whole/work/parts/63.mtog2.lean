section PA
variable {h0 : rx_H} {pa le pl fo : Int32} {z : Int64}
abbrev mGs (h : rx_H) (σ : Sg) : Prop := mG h σ.1 σ.2.1 σ.2.2.1
theorem l_X8_pu {σ : Sg} {a b mine others : Nat} (h1 : rx_rd h0 98 = some (mO pa le pl fo z)) (hI : sgI σ) (ha : a < σ.1) (hb : b < 5) (hl : mine < 256) (hr : others < 256) (Q : Option Value → rx_H → Prop)
    (hq : ∀ h, Fr h0 h [104, 105] → mGs h (pu (a * 5 + b) mine others 8 σ) → Q (some (.int (nI (pu (a * 5 + b) mine others 8 σ).2.2.2.toNat))) h) :
    ∀ j s h x y, s + j = 8 → Fr h0 h [104, 105] → mGs h (pu (a * 5 + b) mine others s σ) → rx_R 125 6 [.ref 98, .int (nI a), .int (nI b), .int (nI mine), .int (nI others), .int (nI (pu (a * 5 + b) mine others s σ).2.2.2.toNat), .int (nI s), x, y] [] h Q
  | 0, s, h, x, y, e, hf, hc => by
    have e' : s = 8 := by omega
    subst e'
    apply rx_wp_sound 60 [6, 16]
    simp (disch := first | decide | omega) only [rx_W, rx_wp_succ, rx_nx_stop, rx_nx_go, rx_lx_some, rx_fx_some, rx_ax_some, rx_qx_some, rx_ox_some, rx_vx_ref, rx_ix_ref, rx_ld_0, rx_ld_2, rx_ld_3, rx_cx_some, rx_nl, List.getElem?_cons_zero, List.getElem?_cons_succ, List.set_cons_zero, List.set_cons_succ, List.length_cons, List.length_nil, List.take_succ_cons, List.take_zero, List.drop_succ_cons, List.drop_zero, List.reverse_cons, List.reverse_nil, List.nil_append, List.cons_append, Option.toList_some, Option.toList_none, true_and, and_true, and_self, true_or, or_true, false_and, and_false, false_or, or_false, not_false_eq_true, Nat.reduceAdd, Nat.reduceLT, Nat.reduceLeDiff, Nat.reduceBEq, Nat.reduceEqDiff, Bool.or_false, Bool.false_or, if_true, if_false, Bool.false_eq_true, nq_eq, nq_lt, nq_le, nq_in_t, nq_bd, nq_ft, nq_clamp, nq_shl31, nq_shr31, nq_bitb, nq_add, nq_mul, fa_and, fa_or, nq_b0, nq_b1, nq_b01, ↓ni_lt_t, ↓ni_lt_f, ↓ni_le_t, ↓ni_le_f, ↓ni_eq_t, ↓ni_eq_f, ↓ni_beq_t, ↓ni_beq_f, it_X8_pairsUp]
    exact hq h hf hc
  | j + 1, s, h, x, y, e, hf, hc => by
    have ih := fun h x y => l_X8_pu h1 hI ha hb hl hr Q hq j (s + 1) h x y (by omega)
    have e1 : pu (a * 5 + b) mine others (s + 1) σ = pu2 (a * 5 + b) mine others s 8 (pu (a * 5 + b) mine others s σ) := rfl
    rw [e1] at ih
    have i2 := hI.2.1
    have hab : a * 5 + b < 40 := by omega
    obtain ⟨k1, k2⟩ := pu_LI (mine := mine) (others := others) hab s σ (by omega)
    apply rx_wp_sound 60 [6, 16]
    simp (disch := first | decide | omega) only [rx_W, rx_wp_succ, rx_nx_stop, rx_nx_go, rx_lx_some, rx_fx_some, rx_ax_some, rx_qx_some, rx_ox_some, rx_vx_ref, rx_ix_ref, rx_ld_0, rx_ld_2, rx_ld_3, rx_cx_some, rx_nl, List.getElem?_cons_zero, List.getElem?_cons_succ, List.set_cons_zero, List.set_cons_succ, List.length_cons, List.length_nil, List.take_succ_cons, List.take_zero, List.drop_succ_cons, List.drop_zero, List.reverse_cons, List.reverse_nil, List.nil_append, List.cons_append, Option.toList_some, Option.toList_none, true_and, and_true, and_self, true_or, or_true, false_and, and_false, false_or, or_false, not_false_eq_true, Nat.reduceAdd, Nat.reduceLT, Nat.reduceLeDiff, Nat.reduceBEq, Nat.reduceEqDiff, Bool.or_false, Bool.false_or, if_true, if_false, Bool.false_eq_true, nq_eq, nq_lt, nq_le, nq_in_t, nq_bd, nq_ft, nq_clamp, nq_shl31, nq_shr31, nq_bitb, nq_add, nq_mul, fa_and, fa_or, nq_b0, nq_b1, nq_b01, ↓ni_lt_t, ↓ni_lt_f, ↓ni_le_t, ↓ni_le_f, ↓ni_eq_t, ↓ni_eq_f, ↓ni_beq_t, ↓ni_beq_f, it_X8_pairsUp]
    cases c : mine.testBit s with
    | false =>
      rw [pu2_r others c 8] at ih
      apply rx_wp_sound 60 [6]
      simp (disch := first | decide | omega) only [rx_W, rx_wp_succ, rx_nx_stop, rx_nx_go, rx_lx_some, rx_fx_some, rx_ax_some, rx_qx_some, rx_ox_some, rx_vx_ref, rx_ix_ref, rx_ld_0, rx_ld_2, rx_ld_3, rx_cx_some, rx_nl, List.getElem?_cons_zero, List.getElem?_cons_succ, List.set_cons_zero, List.set_cons_succ, List.length_cons, List.length_nil, List.take_succ_cons, List.take_zero, List.drop_succ_cons, List.drop_zero, List.reverse_cons, List.reverse_nil, List.nil_append, List.cons_append, Option.toList_some, Option.toList_none, true_and, and_true, and_self, true_or, or_true, false_and, and_false, false_or, or_false, not_false_eq_true, Nat.reduceAdd, Nat.reduceLT, Nat.reduceLeDiff, Nat.reduceBEq, Nat.reduceEqDiff, Bool.or_false, Bool.false_or, if_true, if_false, Bool.false_eq_true, nq_eq, nq_lt, nq_le, nq_in_t, nq_bd, nq_ft, nq_clamp, nq_shl31, nq_shr31, nq_bitb, nq_add, nq_mul, fa_and, fa_or, nq_b0, nq_b1, nq_b01, ↓ni_lt_t, ↓ni_lt_f, ↓ni_le_t, ↓ni_le_f, ↓ni_eq_t, ↓ni_eq_f, ↓ni_beq_t, ↓ni_beq_f, it_X8_pairsUp, q_X8_has, c]
      exact ih h _ _ hf hc
    | true =>
      refine l_X8_pu1 (h0 := h0) h1 (k2 hI (by omega)) (Nat.lt_of_lt_of_le ha k1.1) hb (by omega) hl hr c Q (fun h2 x2 y2 z1 z2 => ?_) 8 0 h y (by omega) hf hc
      apply rx_wp_sound 60 [6]
      simp (disch := first | decide | omega) only [rx_W, rx_wp_succ, rx_nx_stop, rx_nx_go, rx_lx_some, rx_fx_some, rx_ax_some, rx_qx_some, rx_ox_some, rx_vx_ref, rx_ix_ref, rx_ld_0, rx_ld_2, rx_ld_3, rx_cx_some, rx_nl, List.getElem?_cons_zero, List.getElem?_cons_succ, List.set_cons_zero, List.set_cons_succ, List.length_cons, List.length_nil, List.take_succ_cons, List.take_zero, List.drop_succ_cons, List.drop_zero, List.reverse_cons, List.reverse_nil, List.nil_append, List.cons_append, Option.toList_some, Option.toList_none, true_and, and_true, and_self, true_or, or_true, false_and, and_false, false_or, or_false, not_false_eq_true, Nat.reduceAdd, Nat.reduceLT, Nat.reduceLeDiff, Nat.reduceBEq, Nat.reduceEqDiff, Bool.or_false, Bool.false_or, if_true, if_false, Bool.false_eq_true, nq_eq, nq_lt, nq_le, nq_in_t, nq_bd, nq_ft, nq_clamp, nq_shl31, nq_shr31, nq_bitb, nq_add, nq_mul, fa_and, fa_or, nq_b0, nq_b1, nq_b01, ↓ni_lt_t, ↓ni_lt_f, ↓ni_le_t, ↓ni_le_f, ↓ni_eq_t, ↓ni_eq_f, ↓ni_beq_t, ↓ni_beq_f, it_X8_pairsUp]
      exact ih h2 _ _ z1 z2
theorem c_X8_pairsUp {h : rx_H} {σ : Sg} {a b mine others : Nat} (h1 : rx_rd h 98 = some (mO pa le pl fo z)) (hc : mGs h σ) (hok : σ.2.2.2 = true) (hI : sgI σ) (ha : a < σ.1) (hb : b < 5) (hl : mine < 256) (hr : others < 256) : rx_Cl 125 [.ref 98, .int (nI a), .int (nI b), .int (nI mine), .int (nI others)] h (fun r h' => r = some (.int (nI (pu (a * 5 + b) mine others 8 σ).2.2.2.toNat)) ∧ Fr h h' [104, 105] ∧ mGs h' (pu (a * 5 + b) mine others 8 σ)) := by
  apply en_X8_pairsUp _ _ _ _ _ 60 [6]
  simp (disch := first | decide | omega) only [rx_W, rx_wp_succ, rx_nx_stop, rx_nx_go, rx_lx_some, rx_fx_some, rx_ax_some, rx_qx_some, rx_ox_some, rx_vx_ref, rx_ix_ref, rx_ld_0, rx_ld_2, rx_ld_3, rx_cx_some, rx_nl, List.getElem?_cons_zero, List.getElem?_cons_succ, List.set_cons_zero, List.set_cons_succ, List.length_cons, List.length_nil, List.take_succ_cons, List.take_zero, List.drop_succ_cons, List.drop_zero, List.reverse_cons, List.reverse_nil, List.nil_append, List.cons_append, Option.toList_some, Option.toList_none, true_and, and_true, and_self, true_or, or_true, false_and, and_false, false_or, or_false, not_false_eq_true, Nat.reduceAdd, Nat.reduceLT, Nat.reduceLeDiff, Nat.reduceBEq, Nat.reduceEqDiff, Bool.or_false, Bool.false_or, if_true, if_false, Bool.false_eq_true, nq_eq, nq_lt, nq_le, nq_in_t, nq_bd, nq_ft, nq_clamp, nq_shl31, nq_shr31, nq_bitb, nq_add, nq_mul, fa_and, fa_or, nq_b0, nq_b1, nq_b01, ↓ni_lt_t, ↓ni_lt_f, ↓ni_le_t, ↓ni_le_f, ↓ni_eq_t, ↓ni_eq_f, ↓ni_beq_t, ↓ni_beq_f, it_X8_pairsUp]
  have := l_X8_pu (h0 := h) h1 hI ha hb hl hr (fun r h' => r = some (.int (nI (pu (a * 5 + b) mine others 8 σ).2.2.2.toNat)) ∧ Fr h h' [104, 105] ∧ mGs h' (pu (a * 5 + b) mine others 8 σ)) (fun h' y1 y2 => ⟨rfl, y1, y2⟩) 8 0 h .null .null (by omega) (Fr_rfl _ _) hc
  have e0 : pu (a * 5 + b) mine others 0 σ = σ := rfl
  rw [e0, hok] at this
  exact this
/-! isMade -/
variable {v : Nat → Nat} {p q set : Nat}
theorem l_X8_im0 (h1 : rx_rd h0 98 = some (mO pa le pl fo z)) {x5 x6 x7 x8 : Value} (Q : Option Value → rx_H → Prop)
    (hq : ∀ h, Fr h0 h [104] → aN h 104 41 (mdW 0 (fun _ => 0)) → rx_R 126 24 [.ref 98, .int (nI p), .int (nI q), .int (nI set), .int (nI 41), x5, x6, x7, x8] [] h Q) :
    ∀ j k h M, k + j = 41 → Fr h0 h [104] → aN h 104 41 M → (∀ i, i < k → M i = 0) → rx_R 126 3 [.ref 98, .int (nI p), .int (nI q), .int (nI set), .int (nI k), x5, x6, x7, x8] [] h Q
  | 0, k, h, M, e, hf, ha, hM => by
    have e' : k = 41 := by omega
    subst e'
    apply rx_wp_sound 60 [3, 24]
    simp (disch := first | decide | omega) only [rx_W, rx_wp_succ, rx_nx_stop, rx_nx_go, rx_lx_some, rx_fx_some, rx_ax_some, rx_qx_some, rx_ox_some, rx_vx_ref, rx_ix_ref, rx_ld_0, rx_ld_2, rx_ld_3, rx_cx_some, rx_nl, List.getElem?_cons_zero, List.getElem?_cons_succ, List.set_cons_zero, List.set_cons_succ, List.length_cons, List.length_nil, List.take_succ_cons, List.take_zero, List.drop_succ_cons, List.drop_zero, List.reverse_cons, List.reverse_nil, List.nil_append, List.cons_append, Option.toList_some, Option.toList_none, true_and, and_true, and_self, true_or, or_true, false_and, and_false, false_or, or_false, not_false_eq_true, Nat.reduceAdd, Nat.reduceLT, Nat.reduceLeDiff, Nat.reduceBEq, Nat.reduceEqDiff, Bool.or_false, Bool.false_or, if_true, if_false, Bool.false_eq_true, nq_eq, nq_lt, nq_le, nq_in_t, nq_bd, nq_ft, nq_clamp, nq_shl31, nq_shr31, nq_bitb, nq_add, nq_mul, fa_and, fa_or, nq_b0, nq_b1, nq_b01, ↓ni_lt_t, ↓ni_lt_f, ↓ni_le_t, ↓ni_le_f, ↓ni_eq_t, ↓ni_eq_f, ↓ni_beq_t, ↓ni_beq_f, it_X8_isMade, it_X8_isMade_1]
    refine hq h hf (aN_cong ha (fun i hi => ?_))
    rw [hM i hi]
    unfold mdW
    split <;> rfl
  | j + 1, k, h, M, e, hf, ha, hM => by
    have h1' := rd_fr hf (by simp) h1
    obtain ⟨f, a1, a2⟩ := ha
    apply rx_wp_sound 60 [3, 24]
    simp (disch := first | decide | omega) only [rx_W, rx_wp_succ, rx_nx_stop, rx_nx_go, rx_lx_some, rx_fx_some, rx_ax_some, rx_qx_some, rx_ox_some, rx_vx_ref, rx_ix_ref, rx_ld_0, rx_ld_2, rx_ld_3, rx_cx_some, rx_nl, List.getElem?_cons_zero, List.getElem?_cons_succ, List.set_cons_zero, List.set_cons_succ, List.length_cons, List.length_nil, List.take_succ_cons, List.take_zero, List.drop_succ_cons, List.drop_zero, List.reverse_cons, List.reverse_nil, List.nil_append, List.cons_append, Option.toList_some, Option.toList_none, true_and, and_true, and_self, true_or, or_true, false_and, and_false, false_or, or_false, not_false_eq_true, Nat.reduceAdd, Nat.reduceLT, Nat.reduceLeDiff, Nat.reduceBEq, Nat.reduceEqDiff, Bool.or_false, Bool.false_or, if_true, if_false, Bool.false_eq_true, nq_eq, nq_lt, nq_le, nq_in_t, nq_bd, nq_ft, nq_clamp, nq_shl31, nq_shr31, nq_bitb, nq_add, nq_mul, fa_and, fa_or, nq_b0, nq_b1, nq_b01, ↓ni_lt_t, ↓ni_lt_f, ↓ni_le_t, ↓ni_le_f, ↓ni_eq_t, ↓ni_eq_f, ↓ni_beq_t, ↓ni_beq_f, it_X8_isMade, it_X8_isMade_1, h1', mO, a1]
    refine l_X8_im0 h1 Q hq j (k + 1) _ (va_up M k 0) (by omega) (Fr_up hf (by simp)) ⟨_, rd_eq _ _ _, aN_upd a2 _ _⟩ (fun i hi => ?_)
    by_cases c : i = k
    · rw [c, vu_eq]
    · rw [vu_ne c]; exact hM i (by omega)
/-- the end: how many moves there are -/
theorem l_X8_im9 {h : rx_H} {σ : Sg} {is : Bool} (h1 : rx_rd h 98 = some (mO pa le pl fo z)) (hI : sgI σ) (hc : mGs h σ) {x7 x8 : Value} (Q : Option Value → rx_H → Prop) (hq : Q (some (.int (nI (is && decide (tot σ.2.2.1 ≤ 24)).toNat))) h) :
    ∀ j k, k + j = 40 → rx_R 126 210 [.ref 98, .int (nI p), .int (nI q), .int (nI set), .int (nI is.toNat), .int (nI (fb_sm (fun j => bc (σ.2.2.1 j)) k)), .int (nI (k + 1)), x7, x8] [] h Q
  | 0, k, e => by
    have e' : k = 40 := by omega
    subst e'
    have tl := tot_le σ.2.2.1
    have hq : Q (some (.int (nI (is && decide (tot σ.2.2.1 ≤ 24)).toNat))) h := hq
    have et : fb_sm (fun j => bc (σ.2.2.1 j)) 40 = tot σ.2.2.1 := rfl
    rw [et]
    apply rx_wp_sound 60 [210]
    cases is with
    | false =>
      simp (disch := first | decide | omega) only [rx_W, rx_wp_succ, rx_nx_stop, rx_nx_go, rx_lx_some, rx_fx_some, rx_ax_some, rx_qx_some, rx_ox_some, rx_vx_ref, rx_ix_ref, rx_ld_0, rx_ld_2, rx_ld_3, rx_cx_some, rx_nl, List.getElem?_cons_zero, List.getElem?_cons_succ, List.set_cons_zero, List.set_cons_succ, List.length_cons, List.length_nil, List.take_succ_cons, List.take_zero, List.drop_succ_cons, List.drop_zero, List.reverse_cons, List.reverse_nil, List.nil_append, List.cons_append, Option.toList_some, Option.toList_none, true_and, and_true, and_self, true_or, or_true, false_and, and_false, false_or, or_false, not_false_eq_true, Nat.reduceAdd, Nat.reduceLT, Nat.reduceLeDiff, Nat.reduceBEq, Nat.reduceEqDiff, Bool.or_false, Bool.false_or, if_true, if_false, Bool.false_eq_true, nq_eq, nq_lt, nq_le, nq_in_t, nq_bd, nq_ft, nq_clamp, nq_shl31, nq_shr31, nq_bitb, nq_add, nq_mul, fa_and, fa_or, nq_b0, nq_b1, nq_b01, ↓ni_lt_t, ↓ni_lt_f, ↓ni_le_t, ↓ni_le_f, ↓ni_eq_t, ↓ni_eq_f, ↓ni_beq_t, ↓ni_beq_f, it_X8_isMade, it_X8_isMade_1, Bool.toNat_false]
      exact hq
    | true =>
      by_cases c : tot σ.2.2.1 ≤ 24
      · rw [decide_eq_true c] at hq
        simp (disch := first | decide | omega) only [rx_W, rx_wp_succ, rx_nx_stop, rx_nx_go, rx_lx_some, rx_fx_some, rx_ax_some, rx_qx_some, rx_ox_some, rx_vx_ref, rx_ix_ref, rx_ld_0, rx_ld_2, rx_ld_3, rx_cx_some, rx_nl, List.getElem?_cons_zero, List.getElem?_cons_succ, List.set_cons_zero, List.set_cons_succ, List.length_cons, List.length_nil, List.take_succ_cons, List.take_zero, List.drop_succ_cons, List.drop_zero, List.reverse_cons, List.reverse_nil, List.nil_append, List.cons_append, Option.toList_some, Option.toList_none, true_and, and_true, and_self, true_or, or_true, false_and, and_false, false_or, or_false, not_false_eq_true, Nat.reduceAdd, Nat.reduceLT, Nat.reduceLeDiff, Nat.reduceBEq, Nat.reduceEqDiff, Bool.or_false, Bool.false_or, if_true, if_false, Bool.false_eq_true, nq_eq, nq_lt, nq_le, nq_in_t, nq_bd, nq_ft, nq_clamp, nq_shl31, nq_shr31, nq_bitb, nq_add, nq_mul, fa_and, fa_or, nq_b0, nq_b1, nq_b01, ↓ni_lt_t, ↓ni_lt_f, ↓ni_le_t, ↓ni_le_f, ↓ni_eq_t, ↓ni_eq_f, ↓ni_beq_t, ↓ni_beq_f, it_X8_isMade, it_X8_isMade_1, Bool.toNat_true]
        exact hq
      · rw [decide_eq_false c] at hq
        simp (disch := first | decide | omega) only [rx_W, rx_wp_succ, rx_nx_stop, rx_nx_go, rx_lx_some, rx_fx_some, rx_ax_some, rx_qx_some, rx_ox_some, rx_vx_ref, rx_ix_ref, rx_ld_0, rx_ld_2, rx_ld_3, rx_cx_some, rx_nl, List.getElem?_cons_zero, List.getElem?_cons_succ, List.set_cons_zero, List.set_cons_succ, List.length_cons, List.length_nil, List.take_succ_cons, List.take_zero, List.drop_succ_cons, List.drop_zero, List.reverse_cons, List.reverse_nil, List.nil_append, List.cons_append, Option.toList_some, Option.toList_none, true_and, and_true, and_self, true_or, or_true, false_and, and_false, false_or, or_false, not_false_eq_true, Nat.reduceAdd, Nat.reduceLT, Nat.reduceLeDiff, Nat.reduceBEq, Nat.reduceEqDiff, Bool.or_false, Bool.false_or, if_true, if_false, Bool.false_eq_true, nq_eq, nq_lt, nq_le, nq_in_t, nq_bd, nq_ft, nq_clamp, nq_shl31, nq_shr31, nq_bitb, nq_add, nq_mul, fa_and, fa_or, nq_b0, nq_b1, nq_b01, ↓ni_lt_t, ↓ni_lt_f, ↓ni_le_t, ↓ni_le_f, ↓ni_eq_t, ↓ni_eq_f, ↓ni_beq_t, ↓ni_beq_f, it_X8_isMade, it_X8_isMade_1, Bool.toNat_true]
        exact hq
  | j + 1, k, e => by
    have ih := l_X8_im9 (x7 := x7) (x8 := x8) h1 hI hc Q hq j (k + 1) (by omega)
    have hc' := hc
    obtain ⟨⟨g, g1, g2⟩, -⟩ := hc'
    have g3 := g2 (k + 1) (by omega)
    have em : mdW σ.1 σ.2.2.1 (k + 1) = σ.2.2.1 k := by
      unfold mdW
      rw [if_neg (by omega)]
      rfl
    rw [em] at g3
    have p8 : 2 ^ σ.1 ≤ 2 ^ 8 := pow_up hI.2.1
    have w1 := hI.2.2.2.1 k
    apply rx_wp_sound 60 [210]
    simp (disch := first | decide | omega) only [rx_W, rx_wp_succ, rx_nx_stop, rx_nx_go, rx_lx_some, rx_fx_some, rx_ax_some, rx_qx_some, rx_ox_some, rx_vx_ref, rx_ix_ref, rx_ld_0, rx_ld_2, rx_ld_3, rx_cx_some, rx_nl, List.getElem?_cons_zero, List.getElem?_cons_succ, List.set_cons_zero, List.set_cons_succ, List.length_cons, List.length_nil, List.take_succ_cons, List.take_zero, List.drop_succ_cons, List.drop_zero, List.reverse_cons, List.reverse_nil, List.nil_append, List.cons_append, Option.toList_some, Option.toList_none, true_and, and_true, and_self, true_or, or_true, false_and, and_false, false_or, or_false, not_false_eq_true, Nat.reduceAdd, Nat.reduceLT, Nat.reduceLeDiff, Nat.reduceBEq, Nat.reduceEqDiff, Bool.or_false, Bool.false_or, if_true, if_false, Bool.false_eq_true, nq_eq, nq_lt, nq_le, nq_in_t, nq_bd, nq_ft, nq_clamp, nq_shl31, nq_shr31, nq_bitb, nq_add, nq_mul, fa_and, fa_or, nq_b0, nq_b1, nq_b01, ↓ni_lt_t, ↓ni_lt_f, ↓ni_le_t, ↓ni_le_f, ↓ni_eq_t, ↓ni_eq_f, ↓ni_beq_t, ↓ni_beq_f, it_X8_isMade, it_X8_isMade_1, h1, mO, g1, g3, q_X8_ones]
    exact ⟨by omega, ih⟩
theorem GG_ok {wp wr : Nat → Nat} {i : Nat} (hi : i ≤ 40) (h : (GG wp wr set i).2.2.2 = false) : (GG wp wr set 40).2.2.2 = false := by
  cases c : (GG wp wr set 40).2.2.2
  · rfl
  · have := (GG_L wp wr set i (40 - i) (by omega)).2.2.1 (by rw [show i + (40 - i) = 40 by omega]; exact c)
    rw [this] at h
    cases h
/-- behind the kinds of one pair -/
def imE (v : Nat → Nat) (p q set : Nat) (h : rx_H) (i : Nat) (is : Bool) : Prop := (is = true ∧ mGs h (GG (wq v p) (wq v q) set i) ∧ (GG (wq v p) (wq v q) set i).2.2.2 = true) ∨ (is = false ∧ (GG (wq v p) (wq v q) set 40).2.2.2 = false ∧ ∃ σ, sgI σ ∧ mGs h σ)
theorem l_X8_im1 (hm0 : mN h0 v) (hp : p < 4) (hq0 : q < 4) (hw1 : ∀ j, j < 40 → wq v p j < 256) (hw2 : ∀ j, j < 40 → wq v q j < 256) (hset : set < 16) {a : Nat} (ha8 : a < 8) (ha : a < (GG (wq v p) (wq v q) set (5 * a)).1) (Q : Option Value → rx_H → Prop)
    (hq : ∀ h (is : Bool) x, Fr h0 h [104, 105] → imE v p q set h (5 * a + 5) is → rx_R 126 198 [.ref 98, .int (nI p), .int (nI q), .int (nI set), .int (nI is.toNat), .int (nI a), .int (nI ((GG (wq v p) (wq v q) set (5 * a)).2.1 a / 8)), .int (nI ((GG (wq v p) (wq v q) set (5 * a)).2.1 a % 8)), x] [] h Q) :
    ∀ j b h (is : Bool), b + j = 5 → Fr h0 h [104, 105] → imE v p q set h (5 * a + b) is → rx_R 126 80 [.ref 98, .int (nI p), .int (nI q), .int (nI set), .int (nI is.toNat), .int (nI a), .int (nI ((GG (wq v p) (wq v q) set (5 * a)).2.1 a / 8)), .int (nI ((GG (wq v p) (wq v q) set (5 * a)).2.1 a % 8)), .int (nI b)] [] h Q
  | 0, b, h, is, e, hf, hc => by
    have e' : b = 5 := by omega
    subst e'
    apply rx_wp_sound 60 [80, 198]
    simp (disch := first | decide | omega) only [rx_W, rx_wp_succ, rx_nx_stop, rx_nx_go, rx_lx_some, rx_fx_some, rx_ax_some, rx_qx_some, rx_ox_some, rx_vx_ref, rx_ix_ref, rx_ld_0, rx_ld_2, rx_ld_3, rx_cx_some, rx_nl, List.getElem?_cons_zero, List.getElem?_cons_succ, List.set_cons_zero, List.set_cons_succ, List.length_cons, List.length_nil, List.take_succ_cons, List.take_zero, List.drop_succ_cons, List.drop_zero, List.reverse_cons, List.reverse_nil, List.nil_append, List.cons_append, Option.toList_some, Option.toList_none, true_and, and_true, and_self, true_or, or_true, false_and, and_false, false_or, or_false, not_false_eq_true, Nat.reduceAdd, Nat.reduceLT, Nat.reduceLeDiff, Nat.reduceBEq, Nat.reduceEqDiff, Bool.or_false, Bool.false_or, if_true, if_false, Bool.false_eq_true, nq_eq, nq_lt, nq_le, nq_in_t, nq_bd, nq_ft, nq_clamp, nq_shl31, nq_shr31, nq_bitb, nq_add, nq_mul, fa_and, fa_or, nq_b0, nq_b1, nq_b01, ↓ni_lt_t, ↓ni_lt_f, ↓ni_le_t, ↓ni_le_f, ↓ni_eq_t, ↓ni_eq_f, ↓ni_beq_t, ↓ni_beq_f, it_X8_isMade, it_X8_isMade_1]
    exact hq h is _ hf hc
  | j + 1, b, h, is, e, hf, hc => by
    rcases hc with ⟨rfl, hc, hok⟩ | ⟨rfl, hno, hx⟩
    · have hm := mN_fr hf (by simp) (by simp) hm0
      obtain ⟨pa, le, pl, fo, z, h1⟩ := hm.1
      have hI := GG_I (wq v p) (wq v q) set (5 * a + b) (by omega)
      have hL := GG_L (wq v p) (wq v q) set (5 * a) b (by omega)
      have ha2 : a < (GG (wq v p) (wq v q) set (5 * a + b)).1 := Nat.lt_of_lt_of_le ha hL.1
      have eP := hL.2.1 a ha
      have nx : GG (wq v p) (wq v q) set (5 * a + (b + 1)) = stp (wq v p) (wq v q) set (5 * a + b) (GG (wq v p) (wq v q) set (5 * a + b)) := by
        show GG (wq v p) (wq v q) set (5 * a + b + 1) = _
        rw [GG_succ, if_pos (by rw [show (5 * a + b) / 5 = a by omega]; exact ha2)]
      have ih := fun h is => l_X8_im1 hm0 hp hq0 hw1 hw2 hset ha8 ha Q hq j (b + 1) h is (by omega)
      unfold stp at nx
      rw [show (5 * a + b) / 5 = a by omega, show (5 * a + b) % 5 = b by omega, eP] at nx
      have ei : 5 * a + b = a * 5 + b := by omega
      have i3 := (GG_I (wq v p) (wq v q) set (5 * a) (by omega)).2.2.1 a ha
      generalize hX : (GG (wq v p) (wq v q) set (5 * a)).2.1 a = X at *
      have x1 : X / 8 < 8 := by omega
      have x2 : X % 8 < 8 := by omega
      have l1 := hw1 (X / 8 * 5 + b) (by omega)
      have l2 := hw2 (X % 8 * 5 + b) (by omega)
      have q1 : 2 ^ (X / 8) < 256 := Nat.pow_lt_pow_right (n := 8) (by omega) x1
      have q2 : 2 ^ (X % 8) < 256 := Nat.pow_lt_pow_right (n := 8) (by omega) x2
      have i2 := hI.2.1
      -- the state behind this kind
      have fin : ∀ h2, Fr h h2 [104, 105] → mGs h2 (GG (wq v p) (wq v q) set (5 * a + (b + 1))) → imE v p q set h2 (5 * a + (b + 1)) (GG (wq v p) (wq v q) set (5 * a + (b + 1))).2.2.2 := by
        intro h2 y1 y2
        cases c : (GG (wq v p) (wq v q) set (5 * a + (b + 1))).2.2.2
        · exact Or.inr ⟨rfl, GG_ok (by omega) c, _, GG_I _ _ _ _ (by omega), y2⟩
        · exact Or.inl ⟨rfl, y2, c⟩
      have both : b < 4 → set.testBit b = true → rx_Cl 125 [.ref 98, .int (nI a), .int (nI b), .int (nI (wq v p (X / 8 * 5 + b))), .int (nI (wq v q (X % 8 * 5 + b)))] h (fun r h' => ∃ is : Bool, r = some (.int (nI is.toNat)) ∧ Fr h h' [104, 105] ∧ imE v p q set h' (5 * a + (b + 1)) is) := by
        intro c4 cb
        rw [if_pos ⟨c4, cb⟩] at nx
        refine rx_Cl_imp (c_X8_pairsUp h1 hc hok hI ha2 (by omega) l1 l2) (fun r h2 ⟨e2, y1, y2⟩ => ?_)
        rw [← ei, ← nx] at e2 y2
        exact ⟨_, e2, y1, fin h2 y1 y2⟩
      have one : ¬ (b < 4 ∧ set.testBit b = true) → rx_Cl 125 [.ref 98, .int (nI a), .int (nI b), .int (nI (wq v p (X / 8 * 5 + b))), .int (nI (2 ^ (X % 8)))] h (fun r h' => ∃ is : Bool, r = some (.int (nI is.toNat)) ∧ Fr h h' [104, 105] ∧ (is = false → imE v p q set h' (5 * a + (b + 1)) false) ∧ (is = true → rx_Cl 125 [.ref 98, .int (nI a), .int (nI b), .int (nI (2 ^ (X / 8))), .int (nI (wq v q (X % 8 * 5 + b)))] h' (fun r h2 => ∃ is : Bool, r = some (.int (nI is.toNat)) ∧ Fr h h2 [104, 105] ∧ imE v p q set h2 (5 * a + (b + 1)) is))) := by
        intro cn
        rw [if_neg cn] at nx
        refine rx_Cl_imp (c_X8_pairsUp h1 hc hok hI ha2 (by omega) l1 q2) (fun r h2 ⟨e2, y1, y2⟩ => ?_)
        rw [← ei] at e2 y2
        obtain ⟨k1, k2⟩ := pu_LI (i := 5 * a + b) (mine := wq v p (X / 8 * 5 + b)) (others := 2 ^ (X % 8)) (by omega) 8 (GG (wq v p) (wq v q) set (5 * a + b)) (by omega)
        have hI2 := k2 hI (by omega)
        generalize hτ : pu (5 * a + b) (wq v p (X / 8 * 5 + b)) (2 ^ (X % 8)) 8 (GG (wq v p) (wq v q) set (5 * a + b)) = τ at *
        refine ⟨τ.2.2.2, e2, y1, fun hf0 => ?_, fun ht0 => ?_⟩
        · have k3 := (pu_LI (i := 5 * a + b) (mine := 2 ^ (X / 8)) (others := wq v q (X % 8 * 5 + b)) (by omega) 8 τ (by omega)).1
          have : (GG (wq v p) (wq v q) set (5 * a + (b + 1))).2.2.2 = false := by
            rw [nx]
            cases c : (pu (5 * a + b) (2 ^ (X / 8)) (wq v q (X % 8 * 5 + b)) 8 τ).2.2.2
            · rfl
            · rw [k3.2.2.1 c] at hf0; cases hf0
          exact Or.inr ⟨rfl, GG_ok (by omega) this, τ, hI2, y2⟩
        · have h1' := rd_fr y1 (by simp) h1
          refine rx_Cl_imp (c_X8_pairsUp h1' y2 ht0 hI2 (Nat.lt_of_lt_of_le ha2 k1.1) (by omega) q1 l2) (fun r h3 ⟨e3, z1, z2⟩ => ?_)
          rw [← ei, ← nx] at e3 z2
          exact ⟨_, e3, Fr_trans y1 z1 (fun _ z => z) (fun _ z => z), fin h3 (Fr_trans y1 z1 (fun _ z => z) (fun _ z => z)) z2⟩
      have alone : ¬ (b < 4 ∧ set.testBit b = true) → rx_R 126 137 [.ref 98, .int (nI p), .int (nI q), .int (nI set), .int (nI 1), .int (nI a), .int (nI (X / 8)), .int (nI (X % 8)), .int (nI b)] [] h Q := by
        intro cn
        apply rx_wp_sound 60 [80, 198]
        simp (disch := first | decide | omega) only [rx_W, rx_wp_succ, rx_nx_stop, rx_nx_go, rx_lx_some, rx_fx_some, rx_ax_some, rx_qx_some, rx_ox_some, rx_vx_ref, rx_ix_ref, rx_ld_0, rx_ld_2, rx_ld_3, rx_cx_some, rx_nl, List.getElem?_cons_zero, List.getElem?_cons_succ, List.set_cons_zero, List.set_cons_succ, List.length_cons, List.length_nil, List.take_succ_cons, List.take_zero, List.drop_succ_cons, List.drop_zero, List.reverse_cons, List.reverse_nil, List.nil_append, List.cons_append, Option.toList_some, Option.toList_none, true_and, and_true, and_self, true_or, or_true, false_and, and_false, false_or, or_false, not_false_eq_true, Nat.reduceAdd, Nat.reduceLT, Nat.reduceLeDiff, Nat.reduceBEq, Nat.reduceEqDiff, Bool.or_false, Bool.false_or, if_true, if_false, Bool.false_eq_true, nq_eq, nq_lt, nq_le, nq_in_t, nq_bd, nq_ft, nq_clamp, nq_shl31, nq_shr31, nq_bitb, nq_add, nq_mul, fa_and, fa_or, nq_b0, nq_b1, nq_b01, ↓ni_lt_t, ↓ni_lt_f, ↓ni_le_t, ↓ni_le_f, ↓ni_eq_t, ↓ni_eq_f, ↓ni_beq_t, ↓ni_beq_f, it_X8_isMade, it_X8_isMade_1, h1, mO, q_X8_leadsOf hm hp, Nat.one_mul]
        refine rx_Cl_imp (one cn) (fun r h2 ⟨is, e2, y1, y2, y3⟩ => ?_)
        subst e2
        have h1' := rd_fr y1 (by simp) h1
        have hm' := mN_fr y1 (by simp) (by simp) hm
        cases is with
        | false =>
          simp (disch := first | decide | omega) only [rx_W, rx_wp_succ, rx_nx_stop, rx_nx_go, rx_lx_some, rx_fx_some, rx_ax_some, rx_qx_some, rx_ox_some, rx_vx_ref, rx_ix_ref, rx_ld_0, rx_ld_2, rx_ld_3, rx_cx_some, rx_nl, List.getElem?_cons_zero, List.getElem?_cons_succ, List.set_cons_zero, List.set_cons_succ, List.length_cons, List.length_nil, List.take_succ_cons, List.take_zero, List.drop_succ_cons, List.drop_zero, List.reverse_cons, List.reverse_nil, List.nil_append, List.cons_append, Option.toList_some, Option.toList_none, true_and, and_true, and_self, true_or, or_true, false_and, and_false, false_or, or_false, not_false_eq_true, Nat.reduceAdd, Nat.reduceLT, Nat.reduceLeDiff, Nat.reduceBEq, Nat.reduceEqDiff, Bool.or_false, Bool.false_or, if_true, if_false, Bool.false_eq_true, nq_eq, nq_lt, nq_le, nq_in_t, nq_bd, nq_ft, nq_clamp, nq_shl31, nq_shr31, nq_bitb, nq_add, nq_mul, fa_and, fa_or, nq_b0, nq_b1, nq_b01, ↓ni_lt_t, ↓ni_lt_f, ↓ni_le_t, ↓ni_le_f, ↓ni_eq_t, ↓ni_eq_f, ↓ni_beq_t, ↓ni_beq_f, it_X8_isMade, it_X8_isMade_1, Bool.toNat_false]
          exact ih h2 false (Fr_trans hf y1 (fun _ z => z) (fun _ z => z)) (y2 rfl)
        | true =>
          simp (disch := first | decide | omega) only [rx_W, rx_wp_succ, rx_nx_stop, rx_nx_go, rx_lx_some, rx_fx_some, rx_ax_some, rx_qx_some, rx_ox_some, rx_vx_ref, rx_ix_ref, rx_ld_0, rx_ld_2, rx_ld_3, rx_cx_some, rx_nl, List.getElem?_cons_zero, List.getElem?_cons_succ, List.set_cons_zero, List.set_cons_succ, List.length_cons, List.length_nil, List.take_succ_cons, List.take_zero, List.drop_succ_cons, List.drop_zero, List.reverse_cons, List.reverse_nil, List.nil_append, List.cons_append, Option.toList_some, Option.toList_none, true_and, and_true, and_self, true_or, or_true, false_and, and_false, false_or, or_false, not_false_eq_true, Nat.reduceAdd, Nat.reduceLT, Nat.reduceLeDiff, Nat.reduceBEq, Nat.reduceEqDiff, Bool.or_false, Bool.false_or, if_true, if_false, Bool.false_eq_true, nq_eq, nq_lt, nq_le, nq_in_t, nq_bd, nq_ft, nq_clamp, nq_shl31, nq_shr31, nq_bitb, nq_add, nq_mul, fa_and, fa_or, nq_b0, nq_b1, nq_b01, ↓ni_lt_t, ↓ni_lt_f, ↓ni_le_t, ↓ni_le_f, ↓ni_eq_t, ↓ni_eq_f, ↓ni_beq_t, ↓ni_beq_f, it_X8_isMade, it_X8_isMade_1, h1', mO, q_X8_leadsOf hm' hq0, Nat.one_mul, Bool.toNat_true]
          refine rx_Cl_imp (y3 rfl) (fun r h3 ⟨is, e3, z1, z2⟩ => ?_)
          subst e3
          cases is with
          | false =>
            simp (disch := first | decide | omega) only [rx_W, rx_wp_succ, rx_nx_stop, rx_nx_go, rx_lx_some, rx_fx_some, rx_ax_some, rx_qx_some, rx_ox_some, rx_vx_ref, rx_ix_ref, rx_ld_0, rx_ld_2, rx_ld_3, rx_cx_some, rx_nl, List.getElem?_cons_zero, List.getElem?_cons_succ, List.set_cons_zero, List.set_cons_succ, List.length_cons, List.length_nil, List.take_succ_cons, List.take_zero, List.drop_succ_cons, List.drop_zero, List.reverse_cons, List.reverse_nil, List.nil_append, List.cons_append, Option.toList_some, Option.toList_none, true_and, and_true, and_self, true_or, or_true, false_and, and_false, false_or, or_false, not_false_eq_true, Nat.reduceAdd, Nat.reduceLT, Nat.reduceLeDiff, Nat.reduceBEq, Nat.reduceEqDiff, Bool.or_false, Bool.false_or, if_true, if_false, Bool.false_eq_true, nq_eq, nq_lt, nq_le, nq_in_t, nq_bd, nq_ft, nq_clamp, nq_shl31, nq_shr31, nq_bitb, nq_add, nq_mul, fa_and, fa_or, nq_b0, nq_b1, nq_b01, ↓ni_lt_t, ↓ni_lt_f, ↓ni_le_t, ↓ni_le_f, ↓ni_eq_t, ↓ni_eq_f, ↓ni_beq_t, ↓ni_beq_f, it_X8_isMade, it_X8_isMade_1, Bool.toNat_false]
            exact ih h3 false (Fr_trans hf z1 (fun _ z => z) (fun _ z => z)) z2
          | true =>
            simp (disch := first | decide | omega) only [rx_W, rx_wp_succ, rx_nx_stop, rx_nx_go, rx_lx_some, rx_fx_some, rx_ax_some, rx_qx_some, rx_ox_some, rx_vx_ref, rx_ix_ref, rx_ld_0, rx_ld_2, rx_ld_3, rx_cx_some, rx_nl, List.getElem?_cons_zero, List.getElem?_cons_succ, List.set_cons_zero, List.set_cons_succ, List.length_cons, List.length_nil, List.take_succ_cons, List.take_zero, List.drop_succ_cons, List.drop_zero, List.reverse_cons, List.reverse_nil, List.nil_append, List.cons_append, Option.toList_some, Option.toList_none, true_and, and_true, and_self, true_or, or_true, false_and, and_false, false_or, or_false, not_false_eq_true, Nat.reduceAdd, Nat.reduceLT, Nat.reduceLeDiff, Nat.reduceBEq, Nat.reduceEqDiff, Bool.or_false, Bool.false_or, if_true, if_false, Bool.false_eq_true, nq_eq, nq_lt, nq_le, nq_in_t, nq_bd, nq_ft, nq_clamp, nq_shl31, nq_shr31, nq_bitb, nq_add, nq_mul, fa_and, fa_or, nq_b0, nq_b1, nq_b01, ↓ni_lt_t, ↓ni_lt_f, ↓ni_le_t, ↓ni_le_f, ↓ni_eq_t, ↓ni_eq_f, ↓ni_beq_t, ↓ni_beq_f, it_X8_isMade, it_X8_isMade_1, Bool.toNat_true]
            exact ih h3 true (Fr_trans hf z1 (fun _ z => z) (fun _ z => z)) z2
      by_cases c4 : b < 4
      · cases cb : set.testBit b with
        | true =>
          apply rx_wp_sound 60 [80, 137, 198]
          simp (disch := first | decide | omega) only [rx_W, rx_wp_succ, rx_nx_stop, rx_nx_go, rx_lx_some, rx_fx_some, rx_ax_some, rx_qx_some, rx_ox_some, rx_vx_ref, rx_ix_ref, rx_ld_0, rx_ld_2, rx_ld_3, rx_cx_some, rx_nl, List.getElem?_cons_zero, List.getElem?_cons_succ, List.set_cons_zero, List.set_cons_succ, List.length_cons, List.length_nil, List.take_succ_cons, List.take_zero, List.drop_succ_cons, List.drop_zero, List.reverse_cons, List.reverse_nil, List.nil_append, List.cons_append, Option.toList_some, Option.toList_none, true_and, and_true, and_self, true_or, or_true, false_and, and_false, false_or, or_false, not_false_eq_true, Nat.reduceAdd, Nat.reduceLT, Nat.reduceLeDiff, Nat.reduceBEq, Nat.reduceEqDiff, Bool.or_false, Bool.false_or, if_true, if_false, Bool.false_eq_true, nq_eq, nq_lt, nq_le, nq_in_t, nq_bd, nq_ft, nq_clamp, nq_shl31, nq_shr31, nq_bitb, nq_add, nq_mul, fa_and, fa_or, nq_b0, nq_b1, nq_b01, ↓ni_lt_t, ↓ni_lt_f, ↓ni_le_t, ↓ni_le_f, ↓ni_eq_t, ↓ni_eq_f, ↓ni_beq_t, ↓ni_beq_f, it_X8_isMade, it_X8_isMade_1, h1, mO, q_X8_leadsOf hm hp, q_X8_leadsOf hm hq0, q_X8_has, cb, Bool.toNat_true]
          refine rx_Cl_imp (both c4 cb) (fun r h2 ⟨is, e2, y1, y2⟩ => ?_)
          subst e2
          simp (disch := first | decide | omega) only [rx_W, rx_wp_succ, rx_nx_stop, rx_nx_go, rx_lx_some, rx_fx_some, rx_ax_some, rx_qx_some, rx_ox_some, rx_vx_ref, rx_ix_ref, rx_ld_0, rx_ld_2, rx_ld_3, rx_cx_some, rx_nl, List.getElem?_cons_zero, List.getElem?_cons_succ, List.set_cons_zero, List.set_cons_succ, List.length_cons, List.length_nil, List.take_succ_cons, List.take_zero, List.drop_succ_cons, List.drop_zero, List.reverse_cons, List.reverse_nil, List.nil_append, List.cons_append, Option.toList_some, Option.toList_none, true_and, and_true, and_self, true_or, or_true, false_and, and_false, false_or, or_false, not_false_eq_true, Nat.reduceAdd, Nat.reduceLT, Nat.reduceLeDiff, Nat.reduceBEq, Nat.reduceEqDiff, Bool.or_false, Bool.false_or, if_true, if_false, Bool.false_eq_true, nq_eq, nq_lt, nq_le, nq_in_t, nq_bd, nq_ft, nq_clamp, nq_shl31, nq_shr31, nq_bitb, nq_add, nq_mul, fa_and, fa_or, nq_b0, nq_b1, nq_b01, ↓ni_lt_t, ↓ni_lt_f, ↓ni_le_t, ↓ni_le_f, ↓ni_eq_t, ↓ni_eq_f, ↓ni_beq_t, ↓ni_beq_f, it_X8_isMade, it_X8_isMade_1]
          exact ih h2 is (Fr_trans hf y1 (fun _ z => z) (fun _ z => z)) y2
        | false =>
          apply rx_wp_sound 60 [80, 137, 198]
          simp (disch := first | decide | omega) only [rx_W, rx_wp_succ, rx_nx_stop, rx_nx_go, rx_lx_some, rx_fx_some, rx_ax_some, rx_qx_some, rx_ox_some, rx_vx_ref, rx_ix_ref, rx_ld_0, rx_ld_2, rx_ld_3, rx_cx_some, rx_nl, List.getElem?_cons_zero, List.getElem?_cons_succ, List.set_cons_zero, List.set_cons_succ, List.length_cons, List.length_nil, List.take_succ_cons, List.take_zero, List.drop_succ_cons, List.drop_zero, List.reverse_cons, List.reverse_nil, List.nil_append, List.cons_append, Option.toList_some, Option.toList_none, true_and, and_true, and_self, true_or, or_true, false_and, and_false, false_or, or_false, not_false_eq_true, Nat.reduceAdd, Nat.reduceLT, Nat.reduceLeDiff, Nat.reduceBEq, Nat.reduceEqDiff, Bool.or_false, Bool.false_or, if_true, if_false, Bool.false_eq_true, nq_eq, nq_lt, nq_le, nq_in_t, nq_bd, nq_ft, nq_clamp, nq_shl31, nq_shr31, nq_bitb, nq_add, nq_mul, fa_and, fa_or, nq_b0, nq_b1, nq_b01, ↓ni_lt_t, ↓ni_lt_f, ↓ni_le_t, ↓ni_le_f, ↓ni_eq_t, ↓ni_eq_f, ↓ni_beq_t, ↓ni_beq_f, it_X8_isMade, it_X8_isMade_1, q_X8_has, cb, Bool.toNat_true]
          exact alone (fun z => by rw [cb] at z; cases z.2)
      · apply rx_wp_sound 60 [80, 137, 198]
        simp (disch := first | decide | omega) only [rx_W, rx_wp_succ, rx_nx_stop, rx_nx_go, rx_lx_some, rx_fx_some, rx_ax_some, rx_qx_some, rx_ox_some, rx_vx_ref, rx_ix_ref, rx_ld_0, rx_ld_2, rx_ld_3, rx_cx_some, rx_nl, List.getElem?_cons_zero, List.getElem?_cons_succ, List.set_cons_zero, List.set_cons_succ, List.length_cons, List.length_nil, List.take_succ_cons, List.take_zero, List.drop_succ_cons, List.drop_zero, List.reverse_cons, List.reverse_nil, List.nil_append, List.cons_append, Option.toList_some, Option.toList_none, true_and, and_true, and_self, true_or, or_true, false_and, and_false, false_or, or_false, not_false_eq_true, Nat.reduceAdd, Nat.reduceLT, Nat.reduceLeDiff, Nat.reduceBEq, Nat.reduceEqDiff, Bool.or_false, Bool.false_or, if_true, if_false, Bool.false_eq_true, nq_eq, nq_lt, nq_le, nq_in_t, nq_bd, nq_ft, nq_clamp, nq_shl31, nq_shr31, nq_bitb, nq_add, nq_mul, fa_and, fa_or, nq_b0, nq_b1, nq_b01, ↓ni_lt_t, ↓ni_lt_f, ↓ni_le_t, ↓ni_le_f, ↓ni_eq_t, ↓ni_eq_f, ↓ni_beq_t, ↓ni_beq_f, it_X8_isMade, it_X8_isMade_1, Bool.toNat_true]
        exact alone (fun z => c4 z.1)
    · apply rx_wp_sound 60 [80, 198]
      simp (disch := first | decide | omega) only [rx_W, rx_wp_succ, rx_nx_stop, rx_nx_go, rx_lx_some, rx_fx_some, rx_ax_some, rx_qx_some, rx_ox_some, rx_vx_ref, rx_ix_ref, rx_ld_0, rx_ld_2, rx_ld_3, rx_cx_some, rx_nl, List.getElem?_cons_zero, List.getElem?_cons_succ, List.set_cons_zero, List.set_cons_succ, List.length_cons, List.length_nil, List.take_succ_cons, List.take_zero, List.drop_succ_cons, List.drop_zero, List.reverse_cons, List.reverse_nil, List.nil_append, List.cons_append, Option.toList_some, Option.toList_none, true_and, and_true, and_self, true_or, or_true, false_and, and_false, false_or, or_false, not_false_eq_true, Nat.reduceAdd, Nat.reduceLT, Nat.reduceLeDiff, Nat.reduceBEq, Nat.reduceEqDiff, Bool.or_false, Bool.false_or, if_true, if_false, Bool.false_eq_true, nq_eq, nq_lt, nq_le, nq_in_t, nq_bd, nq_ft, nq_clamp, nq_shl31, nq_shr31, nq_bitb, nq_add, nq_mul, fa_and, fa_or, nq_b0, nq_b1, nq_b01, ↓ni_lt_t, ↓ni_lt_f, ↓ni_le_t, ↓ni_le_f, ↓ni_eq_t, ↓ni_eq_f, ↓ni_beq_t, ↓ni_beq_f, it_X8_isMade, it_X8_isMade_1, Bool.toNat_false]
      exact hq h false _ hf (Or.inr ⟨rfl, hno, hx⟩)
theorem l_X8_im2 (hm0 : mN h0 v) (hp : p < 4) (hq0 : q < 4) (hw1 : ∀ j, j < 40 → wq v p j < 256) (hw2 : ∀ j, j < 40 → wq v q j < 256) (hset : set < 16) (Q : Option Value → rx_H → Prop)
    (hq : ∀ h (is : Bool) x5 x6 x7 x8, Fr h0 h [104, 105] → imE v p q set h 40 is → rx_R 126 204 [.ref 98, .int (nI p), .int (nI q), .int (nI set), .int (nI is.toNat), x5, x6, x7, x8] [] h Q) :
    ∀ j a h (is : Bool) x6 x7 x8, a + j = 8 → Fr h0 h [104, 105] → imE v p q set h (5 * a) is → rx_R 126 37 [.ref 98, .int (nI p), .int (nI q), .int (nI set), .int (nI is.toNat), .int (nI a), x6, x7, x8] [] h Q := by
  have badc : ∀ a h x6 x7 x8, a < 100 → Fr h0 h [104, 105] → (GG (wq v p) (wq v q) set 40).2.2.2 = false → (∃ σ, sgI σ ∧ mGs h σ) → rx_R 126 37 [.ref 98, .int (nI p), .int (nI q), .int (nI set), .int (nI 0), .int (nI a), x6, x7, x8] [] h Q := by
    intro a h x6 x7 x8 ha hf hno hx
    have hx' := hx
    obtain ⟨σ, s1, ⟨g, g1, g2⟩, -⟩ := hx'
    have hm := mN_fr hf (by simp) (by simp) hm0
    obtain ⟨pa, le, pl, fo, z, h1⟩ := hm.1
    have g0 := g2 0 (by omega)
    have em : mdW σ.1 σ.2.2.1 0 = σ.1 := rfl
    rw [em] at g0
    have i2 := s1.2.1
    have fin := fun x5 => hq h false x5 x6 x7 x8 hf (Or.inr ⟨rfl, hno, hx⟩)
    apply rx_wp_sound 60 [204]
    simp (disch := first | decide | omega) only [rx_W, rx_wp_succ, rx_nx_stop, rx_nx_go, rx_lx_some, rx_fx_some, rx_ax_some, rx_qx_some, rx_ox_some, rx_vx_ref, rx_ix_ref, rx_ld_0, rx_ld_2, rx_ld_3, rx_cx_some, rx_nl, List.getElem?_cons_zero, List.getElem?_cons_succ, List.set_cons_zero, List.set_cons_succ, List.length_cons, List.length_nil, List.take_succ_cons, List.take_zero, List.drop_succ_cons, List.drop_zero, List.reverse_cons, List.reverse_nil, List.nil_append, List.cons_append, Option.toList_some, Option.toList_none, true_and, and_true, and_self, true_or, or_true, false_and, and_false, false_or, or_false, not_false_eq_true, Nat.reduceAdd, Nat.reduceLT, Nat.reduceLeDiff, Nat.reduceBEq, Nat.reduceEqDiff, Bool.or_false, Bool.false_or, if_true, if_false, Bool.false_eq_true, nq_eq, nq_lt, nq_le, nq_in_t, nq_bd, nq_ft, nq_clamp, nq_shl31, nq_shr31, nq_bitb, nq_add, nq_mul, fa_and, fa_or, nq_b0, nq_b1, nq_b01, ↓ni_lt_t, ↓ni_lt_f, ↓ni_le_t, ↓ni_le_f, ↓ni_eq_t, ↓ni_eq_f, ↓ni_beq_t, ↓ni_beq_f, it_X8_isMade, it_X8_isMade_1, h1, mO, g1, g0]
    split
    · exact fin _
    · exact fin _
  intro j
  induction j with
  | zero =>
    intro a h is x6 x7 x8 e hf hc
    have e' : a = 8 := by omega
    subst e'
    rw [show 5 * 8 = 40 from rfl] at hc
    rcases hc with ⟨rfl, hc, hok⟩ | ⟨rfl, hno, hx⟩
    · have hm := mN_fr hf (by simp) (by simp) hm0
      obtain ⟨pa, le, pl, fo, z, h1⟩ := hm.1
      have hc' := hc
      obtain ⟨⟨g, g1, g2⟩, -⟩ := hc'
      have g0 := g2 0 (by omega)
      have em : mdW (GG (wq v p) (wq v q) set 40).1 (GG (wq v p) (wq v q) set 40).2.2.1 0 = (GG (wq v p) (wq v q) set 40).1 := rfl
      rw [em] at g0
      have i2 := (GG_I (wq v p) (wq v q) set 40 (by omega)).2.1
      apply rx_wp_sound 60 [204]
      simp (disch := first | decide | omega) only [rx_W, rx_wp_succ, rx_nx_stop, rx_nx_go, rx_lx_some, rx_fx_some, rx_ax_some, rx_qx_some, rx_ox_some, rx_vx_ref, rx_ix_ref, rx_ld_0, rx_ld_2, rx_ld_3, rx_cx_some, rx_nl, List.getElem?_cons_zero, List.getElem?_cons_succ, List.set_cons_zero, List.set_cons_succ, List.length_cons, List.length_nil, List.take_succ_cons, List.take_zero, List.drop_succ_cons, List.drop_zero, List.reverse_cons, List.reverse_nil, List.nil_append, List.cons_append, Option.toList_some, Option.toList_none, true_and, and_true, and_self, true_or, or_true, false_and, and_false, false_or, or_false, not_false_eq_true, Nat.reduceAdd, Nat.reduceLT, Nat.reduceLeDiff, Nat.reduceBEq, Nat.reduceEqDiff, Bool.or_false, Bool.false_or, if_true, if_false, Bool.false_eq_true, nq_eq, nq_lt, nq_le, nq_in_t, nq_bd, nq_ft, nq_clamp, nq_shl31, nq_shr31, nq_bitb, nq_add, nq_mul, fa_and, fa_or, nq_b0, nq_b1, nq_b01, ↓ni_lt_t, ↓ni_lt_f, ↓ni_le_t, ↓ni_le_f, ↓ni_eq_t, ↓ni_eq_f, ↓ni_beq_t, ↓ni_beq_f, it_X8_isMade, it_X8_isMade_1, h1, mO, g1, g0]
      exact hq h true _ _ _ _ hf (Or.inl ⟨rfl, hc, hok⟩)
    · exact badc 8 h _ _ _ (by omega) hf hno hx
  | succ j ih =>
    intro a h is x6 x7 x8 e hf hc
    rcases hc with ⟨rfl, hc, hok⟩ | ⟨rfl, hno, hx⟩
    · have hm := mN_fr hf (by simp) (by simp) hm0
      obtain ⟨pa, le, pl, fo, z, h1⟩ := hm.1
      have hc' := hc
      obtain ⟨⟨g, g1, g2⟩, Pf, ⟨pg, p1, p2⟩, p3⟩ := hc'
      have g0 := g2 0 (by omega)
      have em : mdW (GG (wq v p) (wq v q) set (5 * a)).1 (GG (wq v p) (wq v q) set (5 * a)).2.2.1 0 = (GG (wq v p) (wq v q) set (5 * a)).1 := rfl
      rw [em] at g0
      have hI := GG_I (wq v p) (wq v q) set (5 * a) (by omega)
      have i2 := hI.2.1
      by_cases ca : a < (GG (wq v p) (wq v q) set (5 * a)).1
      · have p4 := p2 a (by omega)
        rw [p3 a ca] at p4
        have i3 := hI.2.2.1 a ca
        have key := l_X8_im1 (h0 := h0) hm0 hp hq0 hw1 hw2 hset (a := a) (by omega) ca Q (fun h2 is y z1 z2 => by
          apply rx_wp_sound 60 [37]
          simp (disch := first | decide | omega) only [rx_W, rx_wp_succ, rx_nx_stop, rx_nx_go, rx_lx_some, rx_fx_some, rx_ax_some, rx_qx_some, rx_ox_some, rx_vx_ref, rx_ix_ref, rx_ld_0, rx_ld_2, rx_ld_3, rx_cx_some, rx_nl, List.getElem?_cons_zero, List.getElem?_cons_succ, List.set_cons_zero, List.set_cons_succ, List.length_cons, List.length_nil, List.take_succ_cons, List.take_zero, List.drop_succ_cons, List.drop_zero, List.reverse_cons, List.reverse_nil, List.nil_append, List.cons_append, Option.toList_some, Option.toList_none, true_and, and_true, and_self, true_or, or_true, false_and, and_false, false_or, or_false, not_false_eq_true, Nat.reduceAdd, Nat.reduceLT, Nat.reduceLeDiff, Nat.reduceBEq, Nat.reduceEqDiff, Bool.or_false, Bool.false_or, if_true, if_false, Bool.false_eq_true, nq_eq, nq_lt, nq_le, nq_in_t, nq_bd, nq_ft, nq_clamp, nq_shl31, nq_shr31, nq_bitb, nq_add, nq_mul, fa_and, fa_or, nq_b0, nq_b1, nq_b01, ↓ni_lt_t, ↓ni_lt_f, ↓ni_le_t, ↓ni_le_f, ↓ni_eq_t, ↓ni_eq_f, ↓ni_beq_t, ↓ni_beq_f, it_X8_isMade, it_X8_isMade_1]
          exact ih (a + 1) h2 is _ _ _ (by omega) z1 (by rw [show 5 * (a + 1) = 5 * a + 5 by omega]; exact z2)) 5 0 h true (by omega) hf (Or.inl ⟨rfl, hc, hok⟩)
        generalize hX : (GG (wq v p) (wq v q) set (5 * a)).2.1 a = X at *
        have emX : X - X / 8 * 8 = X % 8 := by omega
        apply rx_wp_sound 60 [80]
        simp (disch := first | decide | omega) only [rx_W, rx_wp_succ, rx_nx_stop, rx_nx_go, rx_lx_some, rx_fx_some, rx_ax_some, rx_qx_some, rx_ox_some, rx_vx_ref, rx_ix_ref, rx_ld_0, rx_ld_2, rx_ld_3, rx_cx_some, rx_nl, List.getElem?_cons_zero, List.getElem?_cons_succ, List.set_cons_zero, List.set_cons_succ, List.length_cons, List.length_nil, List.take_succ_cons, List.take_zero, List.drop_succ_cons, List.drop_zero, List.reverse_cons, List.reverse_nil, List.nil_append, List.cons_append, Option.toList_some, Option.toList_none, true_and, and_true, and_self, true_or, or_true, false_and, and_false, false_or, or_false, not_false_eq_true, Nat.reduceAdd, Nat.reduceLT, Nat.reduceLeDiff, Nat.reduceBEq, Nat.reduceEqDiff, Bool.or_false, Bool.false_or, if_true, if_false, Bool.false_eq_true, nq_eq, nq_lt, nq_le, nq_in_t, nq_bd, nq_ft, nq_clamp, nq_shl31, nq_shr31, nq_bitb, nq_add, nq_mul, fa_and, fa_or, nq_b0, nq_b1, nq_b01, ↓ni_lt_t, ↓ni_lt_f, ↓ni_le_t, ↓ni_le_f, ↓ni_eq_t, ↓ni_eq_f, ↓ni_beq_t, ↓ni_beq_f, it_X8_isMade, it_X8_isMade_1, h1, mO, g1, g0, p1, p4, nq_div, nq_sub, emX, Bool.toNat_true]
        exact key
      · have eG : GG (wq v p) (wq v q) set 40 = GG (wq v p) (wq v q) set (5 * a) := by
          have := GG_end (wq v p) (wq v q) set (k := a) (by omega) (40 - 5 * a)
          rw [show 5 * a + (40 - 5 * a) = 40 by omega] at this
          exact this
        apply rx_wp_sound 60 [204]
        simp (disch := first | decide | omega) only [rx_W, rx_wp_succ, rx_nx_stop, rx_nx_go, rx_lx_some, rx_fx_some, rx_ax_some, rx_qx_some, rx_ox_some, rx_vx_ref, rx_ix_ref, rx_ld_0, rx_ld_2, rx_ld_3, rx_cx_some, rx_nl, List.getElem?_cons_zero, List.getElem?_cons_succ, List.set_cons_zero, List.set_cons_succ, List.length_cons, List.length_nil, List.take_succ_cons, List.take_zero, List.drop_succ_cons, List.drop_zero, List.reverse_cons, List.reverse_nil, List.nil_append, List.cons_append, Option.toList_some, Option.toList_none, true_and, and_true, and_self, true_or, or_true, false_and, and_false, false_or, or_false, not_false_eq_true, Nat.reduceAdd, Nat.reduceLT, Nat.reduceLeDiff, Nat.reduceBEq, Nat.reduceEqDiff, Bool.or_false, Bool.false_or, if_true, if_false, Bool.false_eq_true, nq_eq, nq_lt, nq_le, nq_in_t, nq_bd, nq_ft, nq_clamp, nq_shl31, nq_shr31, nq_bitb, nq_add, nq_mul, fa_and, fa_or, nq_b0, nq_b1, nq_b01, ↓ni_lt_t, ↓ni_lt_f, ↓ni_le_t, ↓ni_le_f, ↓ni_eq_t, ↓ni_eq_f, ↓ni_beq_t, ↓ni_beq_f, it_X8_isMade, it_X8_isMade_1, h1, mO, g1, g0]
        exact hq h true _ _ _ _ hf (Or.inl ⟨rfl, by rw [eG]; exact hc, by rw [eG]; exact hok⟩)
    · exact badc a h _ _ _ (by omega) hf hno hx
theorem c_X8_isMade {h : rx_H} (hm : mN h v) (hM : ∃ a, aN h 104 41 a) (hPp : ∃ a, aN h 105 8 a) (hp : p < 4) (hq0 : q < 4) (hw1 : ∀ j, j < 40 → wq v p j < 256) (hw2 : ∀ j, j < 40 → wq v q j < 256) (hset : set < 16) : rx_Cl 126 [.ref 98, .int (nI p), .int (nI q), .int (nI set)] h (fun r h' => r = some (.int (nI (gd (GG (wq v p) (wq v q) set 40)).toNat)) ∧ Fr h h' [104, 105] ∧ (∃ σ, mGs h' σ) ∧ (gd (GG (wq v p) (wq v q) set 40) = true → mGs h' (GG (wq v p) (wq v q) set 40))) := by
  obtain ⟨pa, le, pl, fo, z, h1⟩ := hm.1
  obtain ⟨M0, hM⟩ := hM
  obtain ⟨P0, hPp⟩ := hPp
  apply en_X8_isMade _ _ _ _ 60 [3]
  simp (disch := first | decide | omega) only [rx_W, rx_wp_succ, rx_nx_stop, rx_nx_go, rx_lx_some, rx_fx_some, rx_ax_some, rx_qx_some, rx_ox_some, rx_vx_ref, rx_ix_ref, rx_ld_0, rx_ld_2, rx_ld_3, rx_cx_some, rx_nl, List.getElem?_cons_zero, List.getElem?_cons_succ, List.set_cons_zero, List.set_cons_succ, List.length_cons, List.length_nil, List.take_succ_cons, List.take_zero, List.drop_succ_cons, List.drop_zero, List.reverse_cons, List.reverse_nil, List.nil_append, List.cons_append, Option.toList_some, Option.toList_none, true_and, and_true, and_self, true_or, or_true, false_and, and_false, false_or, or_false, not_false_eq_true, Nat.reduceAdd, Nat.reduceLT, Nat.reduceLeDiff, Nat.reduceBEq, Nat.reduceEqDiff, Bool.or_false, Bool.false_or, if_true, if_false, Bool.false_eq_true, nq_eq, nq_lt, nq_le, nq_in_t, nq_bd, nq_ft, nq_clamp, nq_shl31, nq_shr31, nq_bitb, nq_add, nq_mul, fa_and, fa_or, nq_b0, nq_b1, nq_b01, ↓ni_lt_t, ↓ni_lt_f, ↓ni_le_t, ↓ni_le_f, ↓ni_eq_t, ↓ni_eq_f, ↓ni_beq_t, ↓ni_beq_f, it_X8_isMade, it_X8_isMade_1]
  refine l_X8_im0 (h0 := h) h1 _ (fun h2 y1 y2 => ?_) 41 0 h M0 (by omega) (Fr_rfl _ _) hM (fun i hi => by omega)
  have h1' := rd_fr y1 (by simp) h1
  apply rx_wp_sound 60 [37]
  simp (disch := first | decide | omega) only [rx_W, rx_wp_succ, rx_nx_stop, rx_nx_go, rx_lx_some, rx_fx_some, rx_ax_some, rx_qx_some, rx_ox_some, rx_vx_ref, rx_ix_ref, rx_ld_0, rx_ld_2, rx_ld_3, rx_cx_some, rx_nl, List.getElem?_cons_zero, List.getElem?_cons_succ, List.set_cons_zero, List.set_cons_succ, List.length_cons, List.length_nil, List.take_succ_cons, List.take_zero, List.drop_succ_cons, List.drop_zero, List.reverse_cons, List.reverse_nil, List.nil_append, List.cons_append, Option.toList_some, Option.toList_none, true_and, and_true, and_self, true_or, or_true, false_and, and_false, false_or, or_false, not_false_eq_true, Nat.reduceAdd, Nat.reduceLT, Nat.reduceLeDiff, Nat.reduceBEq, Nat.reduceEqDiff, Bool.or_false, Bool.false_or, if_true, if_false, Bool.false_eq_true, nq_eq, nq_lt, nq_le, nq_in_t, nq_bd, nq_ft, nq_clamp, nq_shl31, nq_shr31, nq_bitb, nq_add, nq_mul, fa_and, fa_or, nq_b0, nq_b1, nq_b01, ↓ni_lt_t, ↓ni_lt_f, ↓ni_le_t, ↓ni_le_f, ↓ni_eq_t, ↓ni_eq_f, ↓ni_beq_t, ↓ni_beq_f, it_X8_isMade, it_X8_isMade_1, h1', mO]
  have hG : mG h2 0 (fun _ => 0) (fun _ => 0) := ⟨y2, P0, aN_fr y1 (by simp) hPp, fun k hk => by omega⟩
  refine rx_Cl_imp (c_X8_pairAt (s := 0) (t := 0) h1' hG (by omega) (fun k hk => by omega) (by omega) (by omega)) (fun r h3 ⟨z1, kx, e3, f', P', z2, z3⟩ => ?_)
  subst e3
  have fd0 : fdI 0 (fun _ => 0) (0 * 8 + 0) = 0 := fdI_none (fun j hj => by omega)
  have h3G : mGs h3 (GG (wq v p) (wq v q) set 0) := by
    rcases z2 with ⟨c1, -⟩ | ⟨c1, c0, c2, c3, c4⟩ | ⟨c1, c0, -⟩
    · omega
    · subst c2
      subst c3
      have e9 : va_up (fun _ => 0) 0 (0 * 8 + 0) = fun _ => 0 := by
        funext i
        unfold va_up
        split <;> rfl
      rw [e9] at z3
      exact z3
    · omega
  simp (disch := first | decide | omega) only [rx_W, rx_wp_succ, rx_nx_stop, rx_nx_go, rx_lx_some, rx_fx_some, rx_ax_some, rx_qx_some, rx_ox_some, rx_vx_ref, rx_ix_ref, rx_ld_0, rx_ld_2, rx_ld_3, rx_cx_some, rx_nl, List.getElem?_cons_zero, List.getElem?_cons_succ, List.set_cons_zero, List.set_cons_succ, List.length_cons, List.length_nil, List.take_succ_cons, List.take_zero, List.drop_succ_cons, List.drop_zero, List.reverse_cons, List.reverse_nil, List.nil_append, List.cons_append, Option.toList_some, Option.toList_none, true_and, and_true, and_self, true_or, or_true, false_and, and_false, false_or, or_false, not_false_eq_true, Nat.reduceAdd, Nat.reduceLT, Nat.reduceLeDiff, Nat.reduceBEq, Nat.reduceEqDiff, Bool.or_false, Bool.false_or, if_true, if_false, Bool.false_eq_true, nq_eq, nq_lt, nq_le, nq_in_t, nq_bd, nq_ft, nq_clamp, nq_shl31, nq_shr31, nq_bitb, nq_add, nq_mul, fa_and, fa_or, nq_b0, nq_b1, nq_b01, ↓ni_lt_t, ↓ni_lt_f, ↓ni_le_t, ↓ni_le_f, ↓ni_eq_t, ↓ni_eq_f, ↓ni_beq_t, ↓ni_beq_f, it_X8_isMade, it_X8_isMade_1]
  have f3 := Fr_trans y1 z1 (C := [104, 105]) (by simp) (fun _ z => z)
  refine l_X8_im2 (h0 := h) hm hp hq0 hw1 hw2 hset _ (fun h4 is x5 x6 x7 x8 w1 w2 => ?_) 8 0 h3 true _ _ _ (by omega) f3 (Or.inl ⟨rfl, h3G, rfl⟩)
  have hm4 := mN_fr w1 (by simp) (by simp) hm
  obtain ⟨pa4, le4, pl4, fo4, z4, h14⟩ := hm4.1
  apply rx_wp_sound 60 [210]
  simp (disch := first | decide | omega) only [rx_W, rx_wp_succ, rx_nx_stop, rx_nx_go, rx_lx_some, rx_fx_some, rx_ax_some, rx_qx_some, rx_ox_some, rx_vx_ref, rx_ix_ref, rx_ld_0, rx_ld_2, rx_ld_3, rx_cx_some, rx_nl, List.getElem?_cons_zero, List.getElem?_cons_succ, List.set_cons_zero, List.set_cons_succ, List.length_cons, List.length_nil, List.take_succ_cons, List.take_zero, List.drop_succ_cons, List.drop_zero, List.reverse_cons, List.reverse_nil, List.nil_append, List.cons_append, Option.toList_some, Option.toList_none, true_and, and_true, and_self, true_or, or_true, false_and, and_false, false_or, or_false, not_false_eq_true, Nat.reduceAdd, Nat.reduceLT, Nat.reduceLeDiff, Nat.reduceBEq, Nat.reduceEqDiff, Bool.or_false, Bool.false_or, if_true, if_false, Bool.false_eq_true, nq_eq, nq_lt, nq_le, nq_in_t, nq_bd, nq_ft, nq_clamp, nq_shl31, nq_shr31, nq_bitb, nq_add, nq_mul, fa_and, fa_or, nq_b0, nq_b1, nq_b01, ↓ni_lt_t, ↓ni_lt_f, ↓ni_le_t, ↓ni_le_f, ↓ni_eq_t, ↓ni_eq_f, ↓ni_beq_t, ↓ni_beq_f, it_X8_isMade, it_X8_isMade_1]
  rcases w2 with ⟨rfl, hc, hok⟩ | ⟨rfl, hno, σ, s1, s2⟩
  · refine l_X8_im9 (is := true) (σ := GG (wq v p) (wq v q) set 40) h14 (GG_I _ _ _ _ (by omega)) hc _ ⟨?_, w1, ⟨_, hc⟩, fun _ => hc⟩ 40 0 (by omega)
    unfold gd
    rw [hok]
  · refine l_X8_im9 (is := false) (σ := σ) h14 s1 s2 _ ⟨?_, w1, ⟨_, s2⟩, fun z => ?_⟩ 40 0 (by omega)
    · unfold gd
      rw [hno]
      simp only [Bool.false_and]
    · unfold gd at z
      rw [hno] at z
      cases z
end PA
section MP
variable {h : rx_H} {v : Nat → Nat} {u : Nat → Nat → Nat} {np L : Nat} {t : Nat → Nat} {cs : Nat → Int32}
def inT (p q s r : Int32) : Bool := inR p 4 && (inR q 4 && (inR s 16 && inR r 4))
theorem m_together_bad (hi : mIv h v u np L t cs) {p q s r : Int32} (hb : inT p q s r = false) : rx_Cl 128 [.ref 98, .int p, .int q, .int s, .int r] h (mP h (v, u, np, L, t, rfs 0 cs) (.int (rcode 0))) := by
  obtain ⟨pl, fo, z, h1⟩ := hi.1
  unfold inT at hb
  apply en_X8_together _ _ _ _ _ 60 []
  have fin : ∀ K : Option Value → rx_H → Prop, (∀ h', Fr h h' mA → mIv h' v u np L t (rfs 0 cs) → K (some (.int (rcode 0))) h') → rx_Cl 108 [.ref 98, .int (-2)] h K := fun K hK => m_cnt hi (c := 0) (by omega) rfl hK
  cases c1 : inR p 4 with
  | false =>
    simp (disch := first | decide | omega) only [rx_W, rx_wp_succ, rx_nx_stop, rx_nx_go, rx_lx_some, rx_fx_some, rx_ax_some, rx_qx_some, rx_ox_some, rx_vx_ref, rx_ix_ref, rx_ld_0, rx_ld_2, rx_ld_3, rx_cx_some, rx_nl, List.getElem?_cons_zero, List.getElem?_cons_succ, List.set_cons_zero, List.set_cons_succ, List.length_cons, List.length_nil, List.take_succ_cons, List.take_zero, List.drop_succ_cons, List.drop_zero, List.reverse_cons, List.reverse_nil, List.nil_append, List.cons_append, Option.toList_some, Option.toList_none, true_and, and_true, and_self, true_or, or_true, false_and, and_false, false_or, or_false, not_false_eq_true, Nat.reduceAdd, Nat.reduceLT, Nat.reduceLeDiff, Nat.reduceBEq, Nat.reduceEqDiff, Bool.or_false, Bool.false_or, if_true, if_false, Bool.false_eq_true, nq_eq, nq_lt, nq_le, nq_in_t, nq_bd, nq_ft, nq_clamp, nq_shl31, nq_shr31, nq_bitb, nq_add, nq_mul, fa_and, fa_or, nq_b0, nq_b1, nq_b01, ↓ni_lt_t, ↓ni_lt_f, ↓ni_le_t, ↓ni_le_f, ↓ni_eq_t, ↓ni_eq_f, ↓ni_beq_t, ↓ni_beq_f, it_X8_together, q_X8_isProcess, q_X8_within, c1, h1, mO]
    refine fin _ (fun h' y1 y2 => ?_)
    simp (disch := first | decide | omega) only [rx_W, rx_wp_succ, rx_nx_stop, rx_nx_go, rx_lx_some, rx_fx_some, rx_ax_some, rx_qx_some, rx_ox_some, rx_vx_ref, rx_ix_ref, rx_ld_0, rx_ld_2, rx_ld_3, rx_cx_some, rx_nl, List.getElem?_cons_zero, List.getElem?_cons_succ, List.set_cons_zero, List.set_cons_succ, List.length_cons, List.length_nil, List.take_succ_cons, List.take_zero, List.drop_succ_cons, List.drop_zero, List.reverse_cons, List.reverse_nil, List.nil_append, List.cons_append, Option.toList_some, Option.toList_none, true_and, and_true, and_self, true_or, or_true, false_and, and_false, false_or, or_false, not_false_eq_true, Nat.reduceAdd, Nat.reduceLT, Nat.reduceLeDiff, Nat.reduceBEq, Nat.reduceEqDiff, Bool.or_false, Bool.false_or, if_true, if_false, Bool.false_eq_true, it_X8_together]
    exact ⟨rfl, y1, y2⟩
  | true =>
    rw [c1, Bool.true_and] at hb
    cases c2 : inR q 4 with
    | false =>
      simp (disch := first | decide | omega) only [rx_W, rx_wp_succ, rx_nx_stop, rx_nx_go, rx_lx_some, rx_fx_some, rx_ax_some, rx_qx_some, rx_ox_some, rx_vx_ref, rx_ix_ref, rx_ld_0, rx_ld_2, rx_ld_3, rx_cx_some, rx_nl, List.getElem?_cons_zero, List.getElem?_cons_succ, List.set_cons_zero, List.set_cons_succ, List.length_cons, List.length_nil, List.take_succ_cons, List.take_zero, List.drop_succ_cons, List.drop_zero, List.reverse_cons, List.reverse_nil, List.nil_append, List.cons_append, Option.toList_some, Option.toList_none, true_and, and_true, and_self, true_or, or_true, false_and, and_false, false_or, or_false, not_false_eq_true, Nat.reduceAdd, Nat.reduceLT, Nat.reduceLeDiff, Nat.reduceBEq, Nat.reduceEqDiff, Bool.or_false, Bool.false_or, if_true, if_false, Bool.false_eq_true, nq_eq, nq_lt, nq_le, nq_in_t, nq_bd, nq_ft, nq_clamp, nq_shl31, nq_shr31, nq_bitb, nq_add, nq_mul, fa_and, fa_or, nq_b0, nq_b1, nq_b01, ↓ni_lt_t, ↓ni_lt_f, ↓ni_le_t, ↓ni_le_f, ↓ni_eq_t, ↓ni_eq_f, ↓ni_beq_t, ↓ni_beq_f, it_X8_together, q_X8_isProcess, q_X8_within, c1, c2, h1, mO]
      refine fin _ (fun h' y1 y2 => ?_)
      simp (disch := first | decide | omega) only [rx_W, rx_wp_succ, rx_nx_stop, rx_nx_go, rx_lx_some, rx_fx_some, rx_ax_some, rx_qx_some, rx_ox_some, rx_vx_ref, rx_ix_ref, rx_ld_0, rx_ld_2, rx_ld_3, rx_cx_some, rx_nl, List.getElem?_cons_zero, List.getElem?_cons_succ, List.set_cons_zero, List.set_cons_succ, List.length_cons, List.length_nil, List.take_succ_cons, List.take_zero, List.drop_succ_cons, List.drop_zero, List.reverse_cons, List.reverse_nil, List.nil_append, List.cons_append, Option.toList_some, Option.toList_none, true_and, and_true, and_self, true_or, or_true, false_and, and_false, false_or, or_false, not_false_eq_true, Nat.reduceAdd, Nat.reduceLT, Nat.reduceLeDiff, Nat.reduceBEq, Nat.reduceEqDiff, Bool.or_false, Bool.false_or, if_true, if_false, Bool.false_eq_true, it_X8_together]
      exact ⟨rfl, y1, y2⟩
    | true =>
      rw [c2, Bool.true_and] at hb
      cases c3 : inR s 16 with
      | false =>
        simp (disch := first | decide | omega) only [rx_W, rx_wp_succ, rx_nx_stop, rx_nx_go, rx_lx_some, rx_fx_some, rx_ax_some, rx_qx_some, rx_ox_some, rx_vx_ref, rx_ix_ref, rx_ld_0, rx_ld_2, rx_ld_3, rx_cx_some, rx_nl, List.getElem?_cons_zero, List.getElem?_cons_succ, List.set_cons_zero, List.set_cons_succ, List.length_cons, List.length_nil, List.take_succ_cons, List.take_zero, List.drop_succ_cons, List.drop_zero, List.reverse_cons, List.reverse_nil, List.nil_append, List.cons_append, Option.toList_some, Option.toList_none, true_and, and_true, and_self, true_or, or_true, false_and, and_false, false_or, or_false, not_false_eq_true, Nat.reduceAdd, Nat.reduceLT, Nat.reduceLeDiff, Nat.reduceBEq, Nat.reduceEqDiff, Bool.or_false, Bool.false_or, if_true, if_false, Bool.false_eq_true, nq_eq, nq_lt, nq_le, nq_in_t, nq_bd, nq_ft, nq_clamp, nq_shl31, nq_shr31, nq_bitb, nq_add, nq_mul, fa_and, fa_or, nq_b0, nq_b1, nq_b01, ↓ni_lt_t, ↓ni_lt_f, ↓ni_le_t, ↓ni_le_f, ↓ni_eq_t, ↓ni_eq_f, ↓ni_beq_t, ↓ni_beq_f, it_X8_together, q_X8_isProcess, q_X8_within, c1, c2, c3, h1, mO]
        refine fin _ (fun h' y1 y2 => ?_)
        simp (disch := first | decide | omega) only [rx_W, rx_wp_succ, rx_nx_stop, rx_nx_go, rx_lx_some, rx_fx_some, rx_ax_some, rx_qx_some, rx_ox_some, rx_vx_ref, rx_ix_ref, rx_ld_0, rx_ld_2, rx_ld_3, rx_cx_some, rx_nl, List.getElem?_cons_zero, List.getElem?_cons_succ, List.set_cons_zero, List.set_cons_succ, List.length_cons, List.length_nil, List.take_succ_cons, List.take_zero, List.drop_succ_cons, List.drop_zero, List.reverse_cons, List.reverse_nil, List.nil_append, List.cons_append, Option.toList_some, Option.toList_none, true_and, and_true, and_self, true_or, or_true, false_and, and_false, false_or, or_false, not_false_eq_true, Nat.reduceAdd, Nat.reduceLT, Nat.reduceLeDiff, Nat.reduceBEq, Nat.reduceEqDiff, Bool.or_false, Bool.false_or, if_true, if_false, Bool.false_eq_true, it_X8_together]
        exact ⟨rfl, y1, y2⟩
      | true =>
        rw [c3, Bool.true_and] at hb
        simp (disch := first | decide | omega) only [rx_W, rx_wp_succ, rx_nx_stop, rx_nx_go, rx_lx_some, rx_fx_some, rx_ax_some, rx_qx_some, rx_ox_some, rx_vx_ref, rx_ix_ref, rx_ld_0, rx_ld_2, rx_ld_3, rx_cx_some, rx_nl, List.getElem?_cons_zero, List.getElem?_cons_succ, List.set_cons_zero, List.set_cons_succ, List.length_cons, List.length_nil, List.take_succ_cons, List.take_zero, List.drop_succ_cons, List.drop_zero, List.reverse_cons, List.reverse_nil, List.nil_append, List.cons_append, Option.toList_some, Option.toList_none, true_and, and_true, and_self, true_or, or_true, false_and, and_false, false_or, or_false, not_false_eq_true, Nat.reduceAdd, Nat.reduceLT, Nat.reduceLeDiff, Nat.reduceBEq, Nat.reduceEqDiff, Bool.or_false, Bool.false_or, if_true, if_false, Bool.false_eq_true, nq_eq, nq_lt, nq_le, nq_in_t, nq_bd, nq_ft, nq_clamp, nq_shl31, nq_shr31, nq_bitb, nq_add, nq_mul, fa_and, fa_or, nq_b0, nq_b1, nq_b01, ↓ni_lt_t, ↓ni_lt_f, ↓ni_le_t, ↓ni_le_f, ↓ni_eq_t, ↓ni_eq_f, ↓ni_beq_t, ↓ni_beq_f, it_X8_together, q_X8_isProcess, q_X8_within, c1, c2, c3, hb, h1, mO]
        refine fin _ (fun h' y1 y2 => ?_)
        simp (disch := first | decide | omega) only [rx_W, rx_wp_succ, rx_nx_stop, rx_nx_go, rx_lx_some, rx_fx_some, rx_ax_some, rx_qx_some, rx_ox_some, rx_vx_ref, rx_ix_ref, rx_ld_0, rx_ld_2, rx_ld_3, rx_cx_some, rx_nl, List.getElem?_cons_zero, List.getElem?_cons_succ, List.set_cons_zero, List.set_cons_succ, List.length_cons, List.length_nil, List.take_succ_cons, List.take_zero, List.drop_succ_cons, List.drop_zero, List.reverse_cons, List.reverse_nil, List.nil_append, List.cons_append, Option.toList_some, Option.toList_none, true_and, and_true, and_self, true_or, or_true, false_and, and_false, false_or, or_false, not_false_eq_true, Nat.reduceAdd, Nat.reduceLT, Nat.reduceLeDiff, Nat.reduceBEq, Nat.reduceEqDiff, Bool.or_false, Bool.false_or, if_true, if_false, Bool.false_eq_true, it_X8_together]
        exact ⟨rfl, y1, y2⟩
theorem mIv_tog {h' : rx_H} (hf : Fr h h' [104, 105]) (hi : mIv h v u np L t cs) (b : ∃ σ, mGs h' σ) : mIv h' v u np L t cs := by
  have hi' := hi
  obtain ⟨-, -, -, -, -, -, -, -, ⟨a9, h9⟩, ⟨f1, k1⟩, ⟨f2, k2⟩, f3, k3⟩ := hi'
  obtain ⟨σ, b1, Pf, b2, -⟩ := b
  exact mIv_x hf (by simp) hi ⟨_, b1⟩ ⟨_, b2⟩ ⟨a9, aN_fr hf (by simp) h9⟩ ⟨⟨f1, rd_fr hf (by simp) k1⟩, ⟨f2, rd_fr hf (by simp) k2⟩, f3, rd_fr hf (by simp) k3⟩
variable {p q s r : Nat}
theorem m_together_full (hi : mIv h v u np L t cs) (hv : wfV v) (hp : p < 4) (hq : q < 4) (hs : s < 16) (hr : r < 4) (hg : gd (GG (wq v p) (wq v q) s 40) = false) : rx_Cl 128 [.ref 98, .int (nI p), .int (nI q), .int (nI s), .int (nI r)] h (mP h (v, u, np, L, t, rfs 2 cs) (.int (rcode 2))) := by
  obtain ⟨pl, fo, z, h1⟩ := hi.1
  apply en_X8_together _ _ _ _ _ 60 []
  simp (disch := first | decide | omega) only [rx_W, rx_wp_succ, rx_nx_stop, rx_nx_go, rx_lx_some, rx_fx_some, rx_ax_some, rx_qx_some, rx_ox_some, rx_vx_ref, rx_ix_ref, rx_ld_0, rx_ld_2, rx_ld_3, rx_cx_some, rx_nl, List.getElem?_cons_zero, List.getElem?_cons_succ, List.set_cons_zero, List.set_cons_succ, List.length_cons, List.length_nil, List.take_succ_cons, List.take_zero, List.drop_succ_cons, List.drop_zero, List.reverse_cons, List.reverse_nil, List.nil_append, List.cons_append, Option.toList_some, Option.toList_none, true_and, and_true, and_self, true_or, or_true, false_and, and_false, false_or, or_false, not_false_eq_true, Nat.reduceAdd, Nat.reduceLT, Nat.reduceLeDiff, Nat.reduceBEq, Nat.reduceEqDiff, Bool.or_false, Bool.false_or, if_true, if_false, Bool.false_eq_true, nq_eq, nq_lt, nq_le, nq_in_t, nq_bd, nq_ft, nq_clamp, nq_shl31, nq_shr31, nq_bitb, nq_add, nq_mul, fa_and, fa_or, nq_b0, nq_b1, nq_b01, ↓ni_lt_t, ↓ni_lt_f, ↓ni_le_t, ↓ni_le_f, ↓ni_eq_t, ↓ni_eq_f, ↓ni_beq_t, ↓ni_beq_f, it_X8_together, q_X8_isProcess, q_X8_within, inR_of hp, inR_of hq, inR_of hs, inR_of hr, h1, mO]
  refine rx_Cl_imp (c_X8_isMade (mIv_mN hi) hi.2.2.2.2.2.2.1 hi.2.2.2.2.2.2.2.1 hp hq (wfP_256 (hv p hp)) (wfP_256 (hv q hq)) hs) (fun x h2 ⟨e2, y1, y2, y3⟩ => ?_)
  subst e2
  rw [hg]
  have y4 := mIv_tog y1 hi y2
  obtain ⟨pl2, fo2, z2, h12⟩ := y4.1
  simp (disch := first | decide | omega) only [rx_W, rx_wp_succ, rx_nx_stop, rx_nx_go, rx_lx_some, rx_fx_some, rx_ax_some, rx_qx_some, rx_ox_some, rx_vx_ref, rx_ix_ref, rx_ld_0, rx_ld_2, rx_ld_3, rx_cx_some, rx_nl, List.getElem?_cons_zero, List.getElem?_cons_succ, List.set_cons_zero, List.set_cons_succ, List.length_cons, List.length_nil, List.take_succ_cons, List.take_zero, List.drop_succ_cons, List.drop_zero, List.reverse_cons, List.reverse_nil, List.nil_append, List.cons_append, Option.toList_some, Option.toList_none, true_and, and_true, and_self, true_or, or_true, false_and, and_false, false_or, or_false, not_false_eq_true, Nat.reduceAdd, Nat.reduceLT, Nat.reduceLeDiff, Nat.reduceBEq, Nat.reduceEqDiff, Bool.or_false, Bool.false_or, if_true, if_false, Bool.false_eq_true, nq_eq, nq_lt, nq_le, nq_in_t, nq_bd, nq_ft, nq_clamp, nq_shl31, nq_shr31, nq_bitb, nq_add, nq_mul, fa_and, fa_or, nq_b0, nq_b1, nq_b01, ↓ni_lt_t, ↓ni_lt_f, ↓ni_le_t, ↓ni_le_f, ↓ni_eq_t, ↓ni_eq_f, ↓ni_beq_t, ↓ni_beq_f, it_X8_together, h12, mO, Bool.toNat_false]
  refine m_cnt y4 (c := 2) (by omega) rfl (fun h' w1 w2 => ?_)
  simp (disch := first | decide | omega) only [rx_W, rx_wp_succ, rx_nx_stop, rx_nx_go, rx_lx_some, rx_fx_some, rx_ax_some, rx_qx_some, rx_ox_some, rx_vx_ref, rx_ix_ref, rx_ld_0, rx_ld_2, rx_ld_3, rx_cx_some, rx_nl, List.getElem?_cons_zero, List.getElem?_cons_succ, List.set_cons_zero, List.set_cons_succ, List.length_cons, List.length_nil, List.take_succ_cons, List.take_zero, List.drop_succ_cons, List.drop_zero, List.reverse_cons, List.reverse_nil, List.nil_append, List.cons_append, Option.toList_some, Option.toList_none, true_and, and_true, and_self, true_or, or_true, false_and, and_false, false_or, or_false, not_false_eq_true, Nat.reduceAdd, Nat.reduceLT, Nat.reduceLeDiff, Nat.reduceBEq, Nat.reduceEqDiff, Bool.or_false, Bool.false_or, if_true, if_false, Bool.false_eq_true, it_X8_together]
  exact ⟨rfl, Fr_mm (Fr_mA y1 (by simp)) w1, w2⟩
theorem m_together_ok (hi : mIv h v u np L t cs) (hv : wfV v) (hn : np ≤ 5) (hp : p < 4) (hq : q < 4) (hs : s < 16) (hr : r < 4) (hg : gd (GG (wq v p) (wq v q) s 40) = true) : rx_Cl 128 [.ref 98, .int (nI p), .int (nI q), .int (nI s), .int (nI r)] h (mP h (setP v r (GG (wq v p) (wq v q) s 40).1 (GG (wq v p) (wq v q) s 40).2.2.1, pU u np v, pN np, L, t, cs) (.int (nI (GG (wq v p) (wq v q) s 40).1))) := by
  obtain ⟨pl, fo, z, h1⟩ := hi.1
  apply en_X8_together _ _ _ _ _ 60 []
  simp (disch := first | decide | omega) only [rx_W, rx_wp_succ, rx_nx_stop, rx_nx_go, rx_lx_some, rx_fx_some, rx_ax_some, rx_qx_some, rx_ox_some, rx_vx_ref, rx_ix_ref, rx_ld_0, rx_ld_2, rx_ld_3, rx_cx_some, rx_nl, List.getElem?_cons_zero, List.getElem?_cons_succ, List.set_cons_zero, List.set_cons_succ, List.length_cons, List.length_nil, List.take_succ_cons, List.take_zero, List.drop_succ_cons, List.drop_zero, List.reverse_cons, List.reverse_nil, List.nil_append, List.cons_append, Option.toList_some, Option.toList_none, true_and, and_true, and_self, true_or, or_true, false_and, and_false, false_or, or_false, not_false_eq_true, Nat.reduceAdd, Nat.reduceLT, Nat.reduceLeDiff, Nat.reduceBEq, Nat.reduceEqDiff, Bool.or_false, Bool.false_or, if_true, if_false, Bool.false_eq_true, nq_eq, nq_lt, nq_le, nq_in_t, nq_bd, nq_ft, nq_clamp, nq_shl31, nq_shr31, nq_bitb, nq_add, nq_mul, fa_and, fa_or, nq_b0, nq_b1, nq_b01, ↓ni_lt_t, ↓ni_lt_f, ↓ni_le_t, ↓ni_le_f, ↓ni_eq_t, ↓ni_eq_f, ↓ni_beq_t, ↓ni_beq_f, it_X8_together, q_X8_isProcess, q_X8_within, inR_of hp, inR_of hq, inR_of hs, inR_of hr, h1, mO]
  refine rx_Cl_imp (c_X8_isMade (mIv_mN hi) hi.2.2.2.2.2.2.1 hi.2.2.2.2.2.2.2.1 hp hq (wfP_256 (hv p hp)) (wfP_256 (hv q hq)) hs) (fun x h2 ⟨e2, y1, y2, y3⟩ => ?_)
  subst e2
  have y3 := y3 hg
  rw [hg]
  have y4 := mIv_tog y1 hi y2
  obtain ⟨pl2, fo2, z2, h12⟩ := y4.1
  simp (disch := first | decide | omega) only [rx_W, rx_wp_succ, rx_nx_stop, rx_nx_go, rx_lx_some, rx_fx_some, rx_ax_some, rx_qx_some, rx_ox_some, rx_vx_ref, rx_ix_ref, rx_ld_0, rx_ld_2, rx_ld_3, rx_cx_some, rx_nl, List.getElem?_cons_zero, List.getElem?_cons_succ, List.set_cons_zero, List.set_cons_succ, List.length_cons, List.length_nil, List.take_succ_cons, List.take_zero, List.drop_succ_cons, List.drop_zero, List.reverse_cons, List.reverse_nil, List.nil_append, List.cons_append, Option.toList_some, Option.toList_none, true_and, and_true, and_self, true_or, or_true, false_and, and_false, false_or, or_false, not_false_eq_true, Nat.reduceAdd, Nat.reduceLT, Nat.reduceLeDiff, Nat.reduceBEq, Nat.reduceEqDiff, Bool.or_false, Bool.false_or, if_true, if_false, Bool.false_eq_true, nq_eq, nq_lt, nq_le, nq_in_t, nq_bd, nq_ft, nq_clamp, nq_shl31, nq_shr31, nq_bitb, nq_add, nq_mul, fa_and, fa_or, nq_b0, nq_b1, nq_b01, ↓ni_lt_t, ↓ni_lt_f, ↓ni_le_t, ↓ni_le_f, ↓ni_eq_t, ↓ni_eq_f, ↓ni_beq_t, ↓ni_beq_f, it_X8_together, h12, mO, Bool.toNat_true]
  refine rx_Cl_imp (m_leaves y4 hn) (fun x h3 ⟨e3, x1, x2⟩ => ?_)
  subst e3
  obtain ⟨pl3, fo3, z3, h13⟩ := x2.1
  have hM3 := aN_fr x1 (by simp) y3.1
  simp (disch := first | decide | omega) only [rx_W, rx_wp_succ, rx_nx_stop, rx_nx_go, rx_lx_some, rx_fx_some, rx_ax_some, rx_qx_some, rx_ox_some, rx_vx_ref, rx_ix_ref, rx_ld_0, rx_ld_2, rx_ld_3, rx_cx_some, rx_nl, List.getElem?_cons_zero, List.getElem?_cons_succ, List.set_cons_zero, List.set_cons_succ, List.length_cons, List.length_nil, List.take_succ_cons, List.take_zero, List.drop_succ_cons, List.drop_zero, List.reverse_cons, List.reverse_nil, List.nil_append, List.cons_append, Option.toList_some, Option.toList_none, true_and, and_true, and_self, true_or, or_true, false_and, and_false, false_or, or_false, not_false_eq_true, Nat.reduceAdd, Nat.reduceLT, Nat.reduceLeDiff, Nat.reduceBEq, Nat.reduceEqDiff, Bool.or_false, Bool.false_or, if_true, if_false, Bool.false_eq_true, nq_eq, nq_lt, nq_le, nq_in_t, nq_bd, nq_ft, nq_clamp, nq_shl31, nq_shr31, nq_bitb, nq_add, nq_mul, fa_and, fa_or, nq_b0, nq_b1, nq_b01, ↓ni_lt_t, ↓ni_lt_f, ↓ni_le_t, ↓ni_le_f, ↓ni_eq_t, ↓ni_eq_f, ↓ni_beq_t, ↓ni_beq_f, it_X8_together, h13, mO]
  refine rx_Cl_imp (c_X8_putsMade h13 hr hM3 x2.2.1) (fun x h4 ⟨e4, w1, w2⟩ => ?_)
  subst e4
  have y6 := mIv_v w1 x2 w2
  obtain ⟨pl6, fo6, z6, g6⟩ := y6.1
  obtain ⟨f, a1, a2⟩ := aN_fr w1 (by simp) hM3
  have a3 := a2 0 (by omega)
  have em : mdW (GG (wq v p) (wq v q) s 40).1 (GG (wq v p) (wq v q) s 40).2.2.1 0 = (GG (wq v p) (wq v q) s 40).1 := rfl
  rw [em] at a3
  simp (disch := first | decide | omega) only [rx_W, rx_wp_succ, rx_nx_stop, rx_nx_go, rx_lx_some, rx_fx_some, rx_ax_some, rx_qx_some, rx_ox_some, rx_vx_ref, rx_ix_ref, rx_ld_0, rx_ld_2, rx_ld_3, rx_cx_some, rx_nl, List.getElem?_cons_zero, List.getElem?_cons_succ, List.set_cons_zero, List.set_cons_succ, List.length_cons, List.length_nil, List.take_succ_cons, List.take_zero, List.drop_succ_cons, List.drop_zero, List.reverse_cons, List.reverse_nil, List.nil_append, List.cons_append, Option.toList_some, Option.toList_none, true_and, and_true, and_self, true_or, or_true, false_and, and_false, false_or, or_false, not_false_eq_true, Nat.reduceAdd, Nat.reduceLT, Nat.reduceLeDiff, Nat.reduceBEq, Nat.reduceEqDiff, Bool.or_false, Bool.false_or, if_true, if_false, Bool.false_eq_true, nq_eq, nq_lt, nq_le, nq_in_t, nq_bd, nq_ft, nq_clamp, nq_shl31, nq_shr31, nq_bitb, nq_add, nq_mul, fa_and, fa_or, nq_b0, nq_b1, nq_b01, ↓ni_lt_t, ↓ni_lt_f, ↓ni_le_t, ↓ni_le_f, ↓ni_eq_t, ↓ni_eq_f, ↓ni_beq_t, ↓ni_beq_f, it_X8_together, g6, mO, a1, a3]
  exact ⟨rfl, Fr_mm (Fr_mA y1 (by simp)) (Fr_mm (Fr_mA x1 (by simp)) (Fr_mA w1 (by simp))), y6⟩
end MP
