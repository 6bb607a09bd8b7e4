/-! ===== the reference's together ===== -/
def mG (h : rx_H) (f : Nat) (P W : Nat → Nat) : Prop := aN h 104 41 (mdW f W) ∧ ∃ Pf, aN h 105 8 Pf ∧ ∀ k, k < f → Pf k = P k
def mnS (h : rx_H) (f : Nat) (P W : Nat → Nat) (x : Nat) (kx : Int32) : Prop := ∃ f' P', ((fdI f P x < f ∧ f' = f ∧ P' = P ∧ kx = nI (fdI f P x)) ∨ (¬ fdI f P x < f ∧ f < 8 ∧ f' = f + 1 ∧ P' = va_up P f x ∧ kx = nI f) ∨ (¬ fdI f P x < f ∧ ¬ f < 8 ∧ f' = f ∧ P' = P ∧ kx = -1)) ∧ mG h f' P' W
section PA
variable {h0 : rx_H} {pa le pl fo : Int32} {z : Int64} {f : Nat} {P W : Nat → Nat}
theorem l_X8_pa {h : rx_H} (h1 : rx_rd h 98 = some (mO pa le pl fo z)) (hG : mG h f P W) (hf : f ≤ 8) (hP : ∀ k, k < f → P k < 64) {s t : Nat} (hs : s < 8) (ht : t < 8) (Q : Option Value → rx_H → Prop) (hq : ∀ kx h', Fr h h' [104, 105] → mnS h' f P W (s * 8 + t) kx → Q (some (.int kx)) h') : ∀ j k, k + j = f → (∀ i, i < k → ¬ P i = s * 8 + t) → rx_R 124 2 [.ref 98, .int (nI s), .int (nI t), .int (nI k)] [] h Q
  | 0, k, e, hn => by
    have e' : k = f := by omega
    subst e'
    have hfd := fdI_none hn
    have ex : 8 * s + t = s * 8 + t := by omega
    obtain ⟨⟨g, g1, g2⟩, Pf, ⟨q, q1, q2⟩, q3⟩ := hG
    have g0 := g2 0 (by omega)
    have em : mdW k W 0 = k := rfl
    rw [em] at g0
    by_cases c : k = 8
    · subst c
      apply rx_wp_sound 60 [2]
      simp (disch := first | decide | omega) only [rx_W, rx_wp_succ, rx_nx_stop, rx_nx_go, rx_lx_some, rx_fx_some, rx_ax_some, rx_qx_some, rx_ox_some, rx_vx_ref, rx_ix_ref, rx_ld_0, rx_ld_2, rx_ld_3, rx_cx_some, rx_nl, List.getElem?_cons_zero, List.getElem?_cons_succ, List.set_cons_zero, List.set_cons_succ, List.length_cons, List.length_nil, List.take_succ_cons, List.take_zero, List.drop_succ_cons, List.drop_zero, List.reverse_cons, List.reverse_nil, List.nil_append, List.cons_append, Option.toList_some, Option.toList_none, true_and, and_true, and_self, true_or, or_true, false_and, and_false, false_or, or_false, not_false_eq_true, Nat.reduceAdd, Nat.reduceLT, Nat.reduceLeDiff, Nat.reduceBEq, Nat.reduceEqDiff, Bool.or_false, Bool.false_or, if_true, if_false, Bool.false_eq_true, nq_eq, nq_lt, nq_le, nq_in_t, nq_bd, nq_ft, nq_clamp, nq_shl31, nq_shr31, nq_bitb, nq_add, nq_mul, fa_and, fa_or, nq_b0, nq_b1, nq_b01, ↓ni_lt_t, ↓ni_lt_f, ↓ni_le_t, ↓ni_le_f, ↓ni_eq_t, ↓ni_eq_f, ↓ni_beq_t, ↓ni_beq_f, it_X8_pairAt, h1, mO, g1, g0]
      exact hq _ h (Fr_rfl _ _) ⟨8, P, Or.inr (Or.inr ⟨by omega, by omega, rfl, rfl, rfl⟩), ⟨g, g1, g2⟩, Pf, ⟨q, q1, q2⟩, q3⟩
    · apply rx_wp_sound 60 [2]
      simp (disch := first | decide | omega) only [rx_W, rx_wp_succ, rx_nx_stop, rx_nx_go, rx_lx_some, rx_fx_some, rx_ax_some, rx_qx_some, rx_ox_some, rx_vx_ref, rx_ix_ref, rx_ld_0, rx_ld_2, rx_ld_3, rx_cx_some, rx_nl, List.getElem?_cons_zero, List.getElem?_cons_succ, List.set_cons_zero, List.set_cons_succ, List.length_cons, List.length_nil, List.take_succ_cons, List.take_zero, List.drop_succ_cons, List.drop_zero, List.reverse_cons, List.reverse_nil, List.nil_append, List.cons_append, Option.toList_some, Option.toList_none, true_and, and_true, and_self, true_or, or_true, false_and, and_false, false_or, or_false, not_false_eq_true, Nat.reduceAdd, Nat.reduceLT, Nat.reduceLeDiff, Nat.reduceBEq, Nat.reduceEqDiff, Bool.or_false, Bool.false_or, if_true, if_false, Bool.false_eq_true, nq_eq, nq_lt, nq_le, nq_in_t, nq_bd, nq_ft, nq_clamp, nq_shl31, nq_shr31, nq_bitb, nq_add, nq_mul, fa_and, fa_or, nq_b0, nq_b1, nq_b01, ↓ni_lt_t, ↓ni_lt_f, ↓ni_le_t, ↓ni_le_f, ↓ni_eq_t, ↓ni_eq_f, ↓ni_beq_t, ↓ni_beq_f, it_X8_pairAt, h1, mO, g1, g0, q1, rd_eq, rd_ne, upd, if_true, nq_sub, ex, c, Nat.add_sub_cancel]
      have f3 : ∀ c1 c2, Fr h (rx_up (rx_up h 105 c1) 104 c2) [104, 105] := fun c1 c2 => Fr_up (Fr_up (Fr_rfl _ _) (by simp)) (by simp)
      refine hq _ _ (f3 _ _) ?_
      refine ⟨k + 1, va_up P k (s * 8 + t), Or.inr (Or.inl ⟨by omega, by omega, rfl, rfl, rfl⟩), ⟨_, rd_eq _ _ _, ?_⟩, va_up Pf k (s * 8 + t), ⟨_, (rd_ne (by omega)).trans (rd_eq _ _ _), aN_upd q2 _ _⟩, fun i hi => ?_⟩
      · rw [← mdW_n k (k + 1)]
        exact aN_upd g2 _ _
      · unfold va_up
        by_cases d : i = k
        · rw [if_pos d, if_pos d]
        · rw [if_neg d, if_neg d]; exact q3 i (by omega)
  | j + 1, k, e, hn => by
    have ih := l_X8_pa h1 hG hf hP hs ht Q hq j (k + 1) (by omega)
    have hG' := hG
    obtain ⟨⟨g, g1, g2⟩, Pf, ⟨q, q1, q2⟩, q3⟩ := hG'
    have g0 := g2 0 (by omega)
    have em : mdW f W 0 = f := rfl
    rw [em] at g0
    have ex : 8 * s + t = s * 8 + t := by omega
    have q4 := q2 k (by omega)
    rw [q3 k (by omega)] at q4
    have q5 := hP k (by omega)
    by_cases c : P k = s * 8 + t
    · have hfd := fdI_eq (f := f) (by omega) c hn
      apply rx_wp_sound 60 [2]
      simp (disch := first | decide | omega) only [rx_W, rx_wp_succ, rx_nx_stop, rx_nx_go, rx_lx_some, rx_fx_some, rx_ax_some, rx_qx_some, rx_ox_some, rx_vx_ref, rx_ix_ref, rx_ld_0, rx_ld_2, rx_ld_3, rx_cx_some, rx_nl, List.getElem?_cons_zero, List.getElem?_cons_succ, List.set_cons_zero, List.set_cons_succ, List.length_cons, List.length_nil, List.take_succ_cons, List.take_zero, List.drop_succ_cons, List.drop_zero, List.reverse_cons, List.reverse_nil, List.nil_append, List.cons_append, Option.toList_some, Option.toList_none, true_and, and_true, and_self, true_or, or_true, false_and, and_false, false_or, or_false, not_false_eq_true, Nat.reduceAdd, Nat.reduceLT, Nat.reduceLeDiff, Nat.reduceBEq, Nat.reduceEqDiff, Bool.or_false, Bool.false_or, if_true, if_false, Bool.false_eq_true, nq_eq, nq_lt, nq_le, nq_in_t, nq_bd, nq_ft, nq_clamp, nq_shl31, nq_shr31, nq_bitb, nq_add, nq_mul, fa_and, fa_or, nq_b0, nq_b1, nq_b01, ↓ni_lt_t, ↓ni_lt_f, ↓ni_le_t, ↓ni_le_f, ↓ni_eq_t, ↓ni_eq_f, ↓ni_beq_t, ↓ni_beq_f, it_X8_pairAt, h1, mO, g1, g0, q1, q4, ex, c]
      exact hq _ h (Fr_rfl _ _) ⟨f, P, Or.inl ⟨by omega, rfl, rfl, by rw [hfd]⟩, hG⟩
    · apply rx_wp_sound 60 [2]
      simp (disch := first | decide | omega) only [rx_W, rx_wp_succ, rx_nx_stop, rx_nx_go, rx_lx_some, rx_fx_some, rx_ax_some, rx_qx_some, rx_ox_some, rx_vx_ref, rx_ix_ref, rx_ld_0, rx_ld_2, rx_ld_3, rx_cx_some, rx_nl, List.getElem?_cons_zero, List.getElem?_cons_succ, List.set_cons_zero, List.set_cons_succ, List.length_cons, List.length_nil, List.take_succ_cons, List.take_zero, List.drop_succ_cons, List.drop_zero, List.reverse_cons, List.reverse_nil, List.nil_append, List.cons_append, Option.toList_some, Option.toList_none, true_and, and_true, and_self, true_or, or_true, false_and, and_false, false_or, or_false, not_false_eq_true, Nat.reduceAdd, Nat.reduceLT, Nat.reduceLeDiff, Nat.reduceBEq, Nat.reduceEqDiff, Bool.or_false, Bool.false_or, if_true, if_false, Bool.false_eq_true, nq_eq, nq_lt, nq_le, nq_in_t, nq_bd, nq_ft, nq_clamp, nq_shl31, nq_shr31, nq_bitb, nq_add, nq_mul, fa_and, fa_or, nq_b0, nq_b1, nq_b01, ↓ni_lt_t, ↓ni_lt_f, ↓ni_le_t, ↓ni_le_f, ↓ni_eq_t, ↓ni_eq_f, ↓ni_beq_t, ↓ni_beq_f, it_X8_pairAt, h1, mO, g1, g0, q1, q4, ex, c]
      refine ih (fun i hi => ?_)
      by_cases d : i = k
      · rw [d]; exact c
      · exact hn i (by omega)
theorem c_X8_pairAt {h : rx_H} (h1 : rx_rd h 98 = some (mO pa le pl fo z)) (hG : mG h f P W) (hf : f ≤ 8) (hP : ∀ k, k < f → P k < 64) {s t : Nat} (hs : s < 8) (ht : t < 8) : rx_Cl 124 [.ref 98, .int (nI s), .int (nI t)] h (fun r h' => Fr h h' [104, 105] ∧ ∃ kx, r = some (.int kx) ∧ mnS h' f P W (s * 8 + t) kx) := by
  apply en_X8_pairAt _ _ _ 60 [2]
  simp (disch := first | decide | omega) only [rx_W, rx_wp_succ, rx_nx_stop, rx_nx_go, rx_lx_some, rx_fx_some, rx_ax_some, rx_qx_some, rx_ox_some, rx_vx_ref, rx_ix_ref, rx_ld_0, rx_ld_2, rx_ld_3, rx_cx_some, rx_nl, List.getElem?_cons_zero, List.getElem?_cons_succ, List.set_cons_zero, List.set_cons_succ, List.length_cons, List.length_nil, List.take_succ_cons, List.take_zero, List.drop_succ_cons, List.drop_zero, List.reverse_cons, List.reverse_nil, List.nil_append, List.cons_append, Option.toList_some, Option.toList_none, true_and, and_true, and_self, true_or, or_true, false_and, and_false, false_or, or_false, not_false_eq_true, Nat.reduceAdd, Nat.reduceLT, Nat.reduceLeDiff, Nat.reduceBEq, Nat.reduceEqDiff, Bool.or_false, Bool.false_or, if_true, if_false, Bool.false_eq_true, nq_eq, nq_lt, nq_le, nq_in_t, nq_bd, nq_ft, nq_clamp, nq_shl31, nq_shr31, nq_bitb, nq_add, nq_mul, fa_and, fa_or, nq_b0, nq_b1, nq_b01, ↓ni_lt_t, ↓ni_lt_f, ↓ni_le_t, ↓ni_le_f, ↓ni_eq_t, ↓ni_eq_f, ↓ni_beq_t, ↓ni_beq_f, it_X8_pairAt]
  exact l_X8_pa h1 hG hf hP hs ht _ (fun kx h' y1 y2 => ⟨y1, kx, rfl, y2⟩) f 0 (by omega) (fun i hi => by omega)
theorem l_X8_pu1 {σ : Sg} {a b mine others s : Nat} (h1 : rx_rd h0 98 = some (mO pa le pl fo z)) (hI : sgI σ) (ha : a < σ.1) (hb : b < 5) (hs : s < 8) (hl : mine < 256) (hr : others < 256) (hms : mine.testBit s = true) (Q : Option Value → rx_H → Prop)
    (hq : ∀ h x y, Fr h0 h [104, 105] → mG h (pu2 (a * 5 + b) mine others s 8 σ).1 (pu2 (a * 5 + b) mine others s 8 σ).2.1 (pu2 (a * 5 + b) mine others s 8 σ).2.2.1 → rx_R 125 115 [.ref 98, .int (nI a), .int (nI b), .int (nI mine), .int (nI others), .int (nI (pu2 (a * 5 + b) mine others s 8 σ).2.2.2.toNat), .int (nI s), x, y] [] h Q) :
    ∀ j t h y, t + j = 8 → Fr h0 h [104, 105] → mG h (pu2 (a * 5 + b) mine others s t σ).1 (pu2 (a * 5 + b) mine others s t σ).2.1 (pu2 (a * 5 + b) mine others s t σ).2.2.1 → rx_R 125 16 [.ref 98, .int (nI a), .int (nI b), .int (nI mine), .int (nI others), .int (nI (pu2 (a * 5 + b) mine others s t σ).2.2.2.toNat), .int (nI s), .int (nI t), y] [] h Q
  | 0, t, h, y, e, hf, hc => by
    have e' : t = 8 := by omega
    subst e'
    apply rx_wp_sound 60 [16, 115]
    simp (disch := first | decide | omega) only [rx_W, rx_wp_succ, rx_nx_stop, rx_nx_go, rx_lx_some, rx_fx_some, rx_ax_some, rx_qx_some, rx_ox_some, rx_vx_ref, rx_ix_ref, rx_ld_0, rx_ld_2, rx_ld_3, rx_cx_some, rx_nl, List.getElem?_cons_zero, List.getElem?_cons_succ, List.set_cons_zero, List.set_cons_succ, List.length_cons, List.length_nil, List.take_succ_cons, List.take_zero, List.drop_succ_cons, List.drop_zero, List.reverse_cons, List.reverse_nil, List.nil_append, List.cons_append, Option.toList_some, Option.toList_none, true_and, and_true, and_self, true_or, or_true, false_and, and_false, false_or, or_false, not_false_eq_true, Nat.reduceAdd, Nat.reduceLT, Nat.reduceLeDiff, Nat.reduceBEq, Nat.reduceEqDiff, Bool.or_false, Bool.false_or, if_true, if_false, Bool.false_eq_true, nq_eq, nq_lt, nq_le, nq_in_t, nq_bd, nq_ft, nq_clamp, nq_shl31, nq_shr31, nq_bitb, nq_add, nq_mul, fa_and, fa_or, nq_b0, nq_b1, nq_b01, ↓ni_lt_t, ↓ni_lt_f, ↓ni_le_t, ↓ni_le_f, ↓ni_eq_t, ↓ni_eq_f, ↓ni_beq_t, ↓ni_beq_f, it_X8_pairsUp]
    exact hq h _ _ hf hc
  | j + 1, t, h, y, e, hf, hc => by
    have ih := fun h y => l_X8_pu1 h1 hI ha hb hs hl hr hms Q hq j (t + 1) h y (by omega)
    have e1 : pu2 (a * 5 + b) mine others s (t + 1) σ = if mine.testBit s && others.testBit t then add1 (a * 5 + b) (s * 8 + t) (pu2 (a * 5 + b) mine others s t σ) else pu2 (a * 5 + b) mine others s t σ := rfl
    rw [e1, hms, Bool.true_and] at ih
    have i2 := hI.2.1
    have hab : a * 5 + b < 40 := by omega
    obtain ⟨k3, k4⟩ := pu2_LI (mine := mine) (others := others) hs hab t σ (by omega)
    have hI2 := k4 hI (by omega)
    have h1' := rd_fr hf (by simp) h1
    generalize pu2 (a * 5 + b) mine others s t σ = τ at *
    obtain ⟨f, P, W, ok⟩ := τ
    dsimp only at hc hI2
    apply rx_wp_sound 60 [16, 115]
    cases c2 : others.testBit t with
    | false =>
      rw [c2, if_neg (by simp)] at ih
      have z1 : ¬ nI 0 = -1 := nI_ne1 (by omega)
      cases ok with
      | false =>
        simp (disch := first | decide | omega) only [rx_W, rx_wp_succ, rx_nx_stop, rx_nx_go, rx_lx_some, rx_fx_some, rx_ax_some, rx_qx_some, rx_ox_some, rx_vx_ref, rx_ix_ref, rx_ld_0, rx_ld_2, rx_ld_3, rx_cx_some, rx_nl, List.getElem?_cons_zero, List.getElem?_cons_succ, List.set_cons_zero, List.set_cons_succ, List.length_cons, List.length_nil, List.take_succ_cons, List.take_zero, List.drop_succ_cons, List.drop_zero, List.reverse_cons, List.reverse_nil, List.nil_append, List.cons_append, Option.toList_some, Option.toList_none, true_and, and_true, and_self, true_or, or_true, false_and, and_false, false_or, or_false, not_false_eq_true, Nat.reduceAdd, Nat.reduceLT, Nat.reduceLeDiff, Nat.reduceBEq, Nat.reduceEqDiff, Bool.or_false, Bool.false_or, if_true, if_false, Bool.false_eq_true, nq_eq, nq_lt, nq_le, nq_in_t, nq_bd, nq_ft, nq_clamp, nq_shl31, nq_shr31, nq_bitb, nq_add, nq_mul, fa_and, fa_or, nq_b0, nq_b1, nq_b01, ↓ni_lt_t, ↓ni_lt_f, ↓ni_le_t, ↓ni_le_f, ↓ni_eq_t, ↓ni_eq_f, ↓ni_beq_t, ↓ni_beq_f, it_X8_pairsUp, q_X8_has, hms, c2, Bool.toNat_false, z1]
        exact ih h _ hf hc
      | true =>
        simp (disch := first | decide | omega) only [rx_W, rx_wp_succ, rx_nx_stop, rx_nx_go, rx_lx_some, rx_fx_some, rx_ax_some, rx_qx_some, rx_ox_some, rx_vx_ref, rx_ix_ref, rx_ld_0, rx_ld_2, rx_ld_3, rx_cx_some, rx_nl, List.getElem?_cons_zero, List.getElem?_cons_succ, List.set_cons_zero, List.set_cons_succ, List.length_cons, List.length_nil, List.take_succ_cons, List.take_zero, List.drop_succ_cons, List.drop_zero, List.reverse_cons, List.reverse_nil, List.nil_append, List.cons_append, Option.toList_some, Option.toList_none, true_and, and_true, and_self, true_or, or_true, false_and, and_false, false_or, or_false, not_false_eq_true, Nat.reduceAdd, Nat.reduceLT, Nat.reduceLeDiff, Nat.reduceBEq, Nat.reduceEqDiff, Bool.or_false, Bool.false_or, if_true, if_false, Bool.false_eq_true, nq_eq, nq_lt, nq_le, nq_in_t, nq_bd, nq_ft, nq_clamp, nq_shl31, nq_shr31, nq_bitb, nq_add, nq_mul, fa_and, fa_or, nq_b0, nq_b1, nq_b01, ↓ni_lt_t, ↓ni_lt_f, ↓ni_le_t, ↓ni_le_f, ↓ni_eq_t, ↓ni_eq_f, ↓ni_beq_t, ↓ni_beq_f, it_X8_pairsUp, q_X8_has, hms, c2, Bool.toNat_true, z1]
        exact ih h _ hf hc
    | true =>
      rw [c2, if_pos rfl] at ih
      obtain ⟨i1, i2', i3, i4, i5⟩ := hI2
      dsimp only at i1 i2' i3 i4 i5
      simp (disch := first | decide | omega) only [rx_W, rx_wp_succ, rx_nx_stop, rx_nx_go, rx_lx_some, rx_fx_some, rx_ax_some, rx_qx_some, rx_ox_some, rx_vx_ref, rx_ix_ref, rx_ld_0, rx_ld_2, rx_ld_3, rx_cx_some, rx_nl, List.getElem?_cons_zero, List.getElem?_cons_succ, List.set_cons_zero, List.set_cons_succ, List.length_cons, List.length_nil, List.take_succ_cons, List.take_zero, List.drop_succ_cons, List.drop_zero, List.reverse_cons, List.reverse_nil, List.nil_append, List.cons_append, Option.toList_some, Option.toList_none, true_and, and_true, and_self, true_or, or_true, false_and, and_false, false_or, or_false, not_false_eq_true, Nat.reduceAdd, Nat.reduceLT, Nat.reduceLeDiff, Nat.reduceBEq, Nat.reduceEqDiff, Bool.or_false, Bool.false_or, if_true, if_false, Bool.false_eq_true, nq_eq, nq_lt, nq_le, nq_in_t, nq_bd, nq_ft, nq_clamp, nq_shl31, nq_shr31, nq_bitb, nq_add, nq_mul, fa_and, fa_or, nq_b0, nq_b1, nq_b01, ↓ni_lt_t, ↓ni_lt_f, ↓ni_le_t, ↓ni_le_f, ↓ni_eq_t, ↓ni_eq_f, ↓ni_beq_t, ↓ni_beq_f, it_X8_pairsUp, q_X8_has, hms, c2, h1', mO]
      refine rx_Cl_imp (c_X8_pairAt h1' hc i2' i3 hs (by omega)) (fun r h2 ⟨y1, kx, e2, f', P', y2, y3⟩ => ?_)
      subst e2
      have h2' := rd_fr y1 (by simp) h1'
      have f02 := Fr_trans hf y1 (C := [104, 105]) (fun _ z => z) (fun _ z => z)
      have p8 : 2 ^ f ≤ 2 ^ 8 := pow_up i2'
      have w8 : W (a * 5 + b) < 256 := by have := i4 (a * 5 + b); omega
      have y3' := y3
      obtain ⟨⟨gz, ga1, ga2⟩, Pf, u1, u2⟩ := y3'
      have go : ∀ k, k < 8 → kx = nI k → add1 (a * 5 + b) (s * 8 + t) (f, P, W, ok) = (f', P', va_up W (a * 5 + b) (W (a * 5 + b) ||| 2 ^ k), ok) → rx_R 125 16 [.ref 98, .int (nI a), .int (nI b), .int (nI mine), .int (nI others), .int (nI ok.toNat), .int (nI s), .int (nI (t + 1)), .int (nI k)] [] (rx_up h2 104 (.inl (0, 41, .inl (upd gz (1 + 5 * a + b) (nI (W (a * 5 + b) ||| 2 ^ k)))))) Q := by
        intro k hk hkx hadd
        rw [hadd] at ih
        refine ih _ _ (Fr_up f02 (by simp)) ⟨⟨_, rd_eq _ _ _, ?_⟩, Pf, aN_fr (A := [104]) (Fr_up (Fr_rfl _ _) (by simp)) (by simp) u1, u2⟩
        show ∀ j, j < 41 → _ = nI (mdW f' (va_up W (a * 5 + b) (W (a * 5 + b) ||| 2 ^ k)) j)
        rw [← mdW_up, show 1 + 5 * a + b = 1 + (a * 5 + b) by omega]
        exact aN_upd ga2 _ _
      have gm := ga2 (1 + 5 * a + b) (by omega)
      have em : mdW f' W (1 + 5 * a + b) = W (a * 5 + b) := by
        unfold mdW
        rw [if_neg (by omega)]
        congr 1
        omega
      rw [em] at gm
      have okc : ok = false ∨ ok = true := by cases ok <;> simp
      rcases y2 with ⟨c1, c2', c3, c4⟩ | ⟨c1, c0, c2', c3, c4⟩ | ⟨c1, c0, c2', c3, c4⟩
      · have hk : fdI f P (s * 8 + t) < 8 := by omega
        have cn : ¬ kx = -1 := by rw [c4]; exact nI_ne1 (by omega)
        have cn2 : ¬ nI (fdI f P (s * 8 + t)) = -1 := nI_ne1 (by omega)
        have g := go _ hk c4 (by unfold add1; dsimp only; rw [if_pos c1, c2', c3])
        rw [c4]
        rcases okc with rfl | rfl
        · simp (disch := first | decide | omega) only [rx_W, rx_wp_succ, rx_nx_stop, rx_nx_go, rx_lx_some, rx_fx_some, rx_ax_some, rx_qx_some, rx_ox_some, rx_vx_ref, rx_ix_ref, rx_ld_0, rx_ld_2, rx_ld_3, rx_cx_some, rx_nl, List.getElem?_cons_zero, List.getElem?_cons_succ, List.set_cons_zero, List.set_cons_succ, List.length_cons, List.length_nil, List.take_succ_cons, List.take_zero, List.drop_succ_cons, List.drop_zero, List.reverse_cons, List.reverse_nil, List.nil_append, List.cons_append, Option.toList_some, Option.toList_none, true_and, and_true, and_self, true_or, or_true, false_and, and_false, false_or, or_false, not_false_eq_true, Nat.reduceAdd, Nat.reduceLT, Nat.reduceLeDiff, Nat.reduceBEq, Nat.reduceEqDiff, Bool.or_false, Bool.false_or, if_true, if_false, Bool.false_eq_true, nq_eq, nq_lt, nq_le, nq_in_t, nq_bd, nq_ft, nq_clamp, nq_shl31, nq_shr31, nq_bitb, nq_add, nq_mul, fa_and, fa_or, nq_b0, nq_b1, nq_b01, ↓ni_lt_t, ↓ni_lt_f, ↓ni_le_t, ↓ni_le_f, ↓ni_eq_t, ↓ni_eq_f, ↓ni_beq_t, ↓ni_beq_f, it_X8_pairsUp, q_X8_has, c2, h2', mO, cn2, ga1, gm, Nat.one_mul, Bool.toNat_false]
          exact g
        · simp (disch := first | decide | omega) only [rx_W, rx_wp_succ, rx_nx_stop, rx_nx_go, rx_lx_some, rx_fx_some, rx_ax_some, rx_qx_some, rx_ox_some, rx_vx_ref, rx_ix_ref, rx_ld_0, rx_ld_2, rx_ld_3, rx_cx_some, rx_nl, List.getElem?_cons_zero, List.getElem?_cons_succ, List.set_cons_zero, List.set_cons_succ, List.length_cons, List.length_nil, List.take_succ_cons, List.take_zero, List.drop_succ_cons, List.drop_zero, List.reverse_cons, List.reverse_nil, List.nil_append, List.cons_append, Option.toList_some, Option.toList_none, true_and, and_true, and_self, true_or, or_true, false_and, and_false, false_or, or_false, not_false_eq_true, Nat.reduceAdd, Nat.reduceLT, Nat.reduceLeDiff, Nat.reduceBEq, Nat.reduceEqDiff, Bool.or_false, Bool.false_or, if_true, if_false, Bool.false_eq_true, nq_eq, nq_lt, nq_le, nq_in_t, nq_bd, nq_ft, nq_clamp, nq_shl31, nq_shr31, nq_bitb, nq_add, nq_mul, fa_and, fa_or, nq_b0, nq_b1, nq_b01, ↓ni_lt_t, ↓ni_lt_f, ↓ni_le_t, ↓ni_le_f, ↓ni_eq_t, ↓ni_eq_f, ↓ni_beq_t, ↓ni_beq_f, it_X8_pairsUp, q_X8_has, c2, h2', mO, cn2, ga1, gm, Nat.one_mul, Bool.toNat_true]
          exact g
      · have cn2 : ¬ nI f = -1 := nI_ne1 (by omega)
        have g := go _ c0 c4 (by unfold add1; dsimp only; rw [if_neg c1, if_pos c0, c2', c3])
        rw [c4]
        rcases okc with rfl | rfl
        · simp (disch := first | decide | omega) only [rx_W, rx_wp_succ, rx_nx_stop, rx_nx_go, rx_lx_some, rx_fx_some, rx_ax_some, rx_qx_some, rx_ox_some, rx_vx_ref, rx_ix_ref, rx_ld_0, rx_ld_2, rx_ld_3, rx_cx_some, rx_nl, List.getElem?_cons_zero, List.getElem?_cons_succ, List.set_cons_zero, List.set_cons_succ, List.length_cons, List.length_nil, List.take_succ_cons, List.take_zero, List.drop_succ_cons, List.drop_zero, List.reverse_cons, List.reverse_nil, List.nil_append, List.cons_append, Option.toList_some, Option.toList_none, true_and, and_true, and_self, true_or, or_true, false_and, and_false, false_or, or_false, not_false_eq_true, Nat.reduceAdd, Nat.reduceLT, Nat.reduceLeDiff, Nat.reduceBEq, Nat.reduceEqDiff, Bool.or_false, Bool.false_or, if_true, if_false, Bool.false_eq_true, nq_eq, nq_lt, nq_le, nq_in_t, nq_bd, nq_ft, nq_clamp, nq_shl31, nq_shr31, nq_bitb, nq_add, nq_mul, fa_and, fa_or, nq_b0, nq_b1, nq_b01, ↓ni_lt_t, ↓ni_lt_f, ↓ni_le_t, ↓ni_le_f, ↓ni_eq_t, ↓ni_eq_f, ↓ni_beq_t, ↓ni_beq_f, it_X8_pairsUp, q_X8_has, c2, h2', mO, cn2, ga1, gm, Nat.one_mul, Bool.toNat_false]
          exact g
        · simp (disch := first | decide | omega) only [rx_W, rx_wp_succ, rx_nx_stop, rx_nx_go, rx_lx_some, rx_fx_some, rx_ax_some, rx_qx_some, rx_ox_some, rx_vx_ref, rx_ix_ref, rx_ld_0, rx_ld_2, rx_ld_3, rx_cx_some, rx_nl, List.getElem?_cons_zero, List.getElem?_cons_succ, List.set_cons_zero, List.set_cons_succ, List.length_cons, List.length_nil, List.take_succ_cons, List.take_zero, List.drop_succ_cons, List.drop_zero, List.reverse_cons, List.reverse_nil, List.nil_append, List.cons_append, Option.toList_some, Option.toList_none, true_and, and_true, and_self, true_or, or_true, false_and, and_false, false_or, or_false, not_false_eq_true, Nat.reduceAdd, Nat.reduceLT, Nat.reduceLeDiff, Nat.reduceBEq, Nat.reduceEqDiff, Bool.or_false, Bool.false_or, if_true, if_false, Bool.false_eq_true, nq_eq, nq_lt, nq_le, nq_in_t, nq_bd, nq_ft, nq_clamp, nq_shl31, nq_shr31, nq_bitb, nq_add, nq_mul, fa_and, fa_or, nq_b0, nq_b1, nq_b01, ↓ni_lt_t, ↓ni_lt_f, ↓ni_le_t, ↓ni_le_f, ↓ni_eq_t, ↓ni_eq_f, ↓ni_beq_t, ↓ni_beq_f, it_X8_pairsUp, q_X8_has, c2, h2', mO, cn2, ga1, gm, Nat.one_mul, Bool.toNat_true]
          exact g
      · have e3 : add1 (a * 5 + b) (s * 8 + t) (f, P, W, ok) = (f, P, W, false) := by
          unfold add1
          dsimp only
          rw [if_neg c1, if_neg c0]
        rw [e3] at ih
        rw [c2', c3] at y3
        rw [c4]
        rcases okc with rfl | rfl
        · simp (disch := first | decide | omega) only [rx_W, rx_wp_succ, rx_nx_stop, rx_nx_go, rx_lx_some, rx_fx_some, rx_ax_some, rx_qx_some, rx_ox_some, rx_vx_ref, rx_ix_ref, rx_ld_0, rx_ld_2, rx_ld_3, rx_cx_some, rx_nl, List.getElem?_cons_zero, List.getElem?_cons_succ, List.set_cons_zero, List.set_cons_succ, List.length_cons, List.length_nil, List.take_succ_cons, List.take_zero, List.drop_succ_cons, List.drop_zero, List.reverse_cons, List.reverse_nil, List.nil_append, List.cons_append, Option.toList_some, Option.toList_none, true_and, and_true, and_self, true_or, or_true, false_and, and_false, false_or, or_false, not_false_eq_true, Nat.reduceAdd, Nat.reduceLT, Nat.reduceLeDiff, Nat.reduceBEq, Nat.reduceEqDiff, Bool.or_false, Bool.false_or, if_true, if_false, Bool.false_eq_true, nq_eq, nq_lt, nq_le, nq_in_t, nq_bd, nq_ft, nq_clamp, nq_shl31, nq_shr31, nq_bitb, nq_add, nq_mul, fa_and, fa_or, nq_b0, nq_b1, nq_b01, ↓ni_lt_t, ↓ni_lt_f, ↓ni_le_t, ↓ni_le_f, ↓ni_eq_t, ↓ni_eq_f, ↓ni_beq_t, ↓ni_beq_f, it_X8_pairsUp, q_X8_has, c2, h2', mO, Bool.toNat_false]
          exact ih h2 _ f02 y3
        · simp (disch := first | decide | omega) only [rx_W, rx_wp_succ, rx_nx_stop, rx_nx_go, rx_lx_some, rx_fx_some, rx_ax_some, rx_qx_some, rx_ox_some, rx_vx_ref, rx_ix_ref, rx_ld_0, rx_ld_2, rx_ld_3, rx_cx_some, rx_nl, List.getElem?_cons_zero, List.getElem?_cons_succ, List.set_cons_zero, List.set_cons_succ, List.length_cons, List.length_nil, List.take_succ_cons, List.take_zero, List.drop_succ_cons, List.drop_zero, List.reverse_cons, List.reverse_nil, List.nil_append, List.cons_append, Option.toList_some, Option.toList_none, true_and, and_true, and_self, true_or, or_true, false_and, and_false, false_or, or_false, not_false_eq_true, Nat.reduceAdd, Nat.reduceLT, Nat.reduceLeDiff, Nat.reduceBEq, Nat.reduceEqDiff, Bool.or_false, Bool.false_or, if_true, if_false, Bool.false_eq_true, nq_eq, nq_lt, nq_le, nq_in_t, nq_bd, nq_ft, nq_clamp, nq_shl31, nq_shr31, nq_bitb, nq_add, nq_mul, fa_and, fa_or, nq_b0, nq_b1, nq_b01, ↓ni_lt_t, ↓ni_lt_f, ↓ni_le_t, ↓ni_le_f, ↓ni_eq_t, ↓ni_eq_f, ↓ni_beq_t, ↓ni_beq_f, it_X8_pairsUp, q_X8_has, c2, h2', mO, Bool.toNat_true]
          exact ih h2 _ f02 y3
end PA
