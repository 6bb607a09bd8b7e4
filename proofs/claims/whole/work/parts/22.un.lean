/-! ===== sets of small numbers: unions ===== -/
def un (f : Nat → Nat) : Nat → Nat
  | 0 => 0
  | k + 1 => un f k ||| f k
theorem un_succ (f : Nat → Nat) (k : Nat) : un f (k + 1) = un f k ||| f k := rfl
theorem un_bit (f : Nat → Nat) (t : Nat) : ∀ k, (un f k).testBit t = true ↔ ∃ i, i < k ∧ (f i).testBit t = true
  | 0 => by simp [un]
  | k + 1 => by
    rw [un_succ, Nat.testBit_or, Bool.or_eq_true, un_bit f t k]
    constructor
    · rintro (⟨i, h1, h2⟩ | h)
      · exact ⟨i, by omega, h2⟩
      · exact ⟨k, by omega, h⟩
    · rintro ⟨i, h1, h2⟩
      by_cases e : i = k
      · subst e; exact Or.inr h2
      · exact Or.inl ⟨i, by omega, h2⟩
theorem un_lt {f : Nat → Nat} {m : Nat} : ∀ k, (∀ i, i < k → f i < 2 ^ m) → un f k < 2 ^ m
  | 0, _ => Nat.two_pow_pos m
  | k + 1, h => Nat.or_lt_two_pow (un_lt k (fun i hi => h i (by omega))) (h k (by omega))
theorem un_cong {f g : Nat → Nat} : ∀ k, (∀ i, i < k → f i = g i) → un f k = un g k
  | 0, _ => rfl
  | k + 1, h => by rw [un_succ, un_succ, un_cong k (fun i hi => h i (by omega)), h k (by omega)]
theorem un_0 {f : Nat → Nat} : ∀ {k}, (∀ i, i < k → f i = 0) → un f k = 0
  | 0, _ => rfl
  | k + 1, h => by rw [un_succ, un_0 (fun i hi => h i (by omega)), h k (by omega)]; rfl
/-- a union over more, if the rest is empty -/
theorem un_more {f : Nat → Nat} {m : Nat} : ∀ k, m ≤ k → (∀ i, m ≤ i → f i = 0) → un f k = un f m
  | 0, h, _ => by rw [show m = 0 by omega]
  | k + 1, h, h2 => by
    by_cases e : m = k + 1
    · rw [e]
    · rw [un_succ, un_more k (by omega) h2, h2 k (by omega), Nat.or_zero]
theorem bit_ext {a b : Nat} (h : ∀ i, a.testBit i = true ↔ b.testBit i = true) : a = b := by
  apply Nat.eq_of_testBit_eq
  intro i
  cases ha : a.testBit i <;> cases hb : b.testBit i <;> first | rfl | (have := h i; simp_all)
theorem bit_lt {a m i : Nat} (h : a < 2 ^ m) (hi : a.testBit i = true) : i < m := by
  apply Nat.lt_of_not_le
  intro hmi
  have h2 : a < 2 ^ i := Nat.lt_of_lt_of_le h (Nat.pow_le_pow_right (by omega) hmi)
  rw [Nat.testBit_lt_two_pow h2] at hi
  cases hi
theorem bit_pow (i j : Nat) : (2 ^ i).testBit j = true ↔ i = j := by
  rw [Nat.testBit_two_pow]
  simp
theorem nz_bit {a : Nat} : ¬ a = 0 ↔ ∃ i, a.testBit i = true := by
  constructor
  · intro h
    exact Nat.exists_testBit_of_ne_zero h
  · rintro ⟨i, hi⟩ rfl
    simp at hi
/-! ===== of a process (n states, rows w) ===== -/
def ofS (w : Nat → Nat) (s : Nat) : Nat := un (fun a => if w (s * 5 + a) = 0 then 0 else 2 ^ a) 4
theorem ofS_bit (w : Nat → Nat) (s a : Nat) : (ofS w s).testBit a = true ↔ a < 4 ∧ ¬ w (s * 5 + a) = 0 := by
  unfold ofS
  rw [un_bit]
  constructor
  · rintro ⟨i, h1, h2⟩
    split at h2
    · simp at h2
    · next h3 =>
      have := (bit_pow i a).mp h2
      subst this
      exact ⟨h1, h3⟩
  · rintro ⟨h1, h2⟩
    exact ⟨a, h1, by rw [if_neg h2]; exact (bit_pow a a).mpr rfl⟩
theorem ofS_lt (w : Nat → Nat) (s : Nat) : ofS w s < 16 := un_lt (m := 4) 4 (fun i hi => by
  split
  · omega
  · exact Nat.pow_lt_pow_right (by omega) hi)
theorem l_X4_offers {h : rx_H} {o n : Nat} {w : Nat → Nat} (hp : pW h o n w) {s : Nat} (hs : s < 8) (hw : ∀ j, j < 40 → w j < 256) (Q : Option Value → rx_H → Prop) (hq : Q (some (.int (nI (ofS w s)))) h) : ∀ j i, i + j = 4 → rx_R 45 4 [.ref o, .int (nI s), .int (nI (un (fun a => if w (s * 5 + a) = 0 then 0 else 2 ^ a) i)), .int (nI i)] [] h Q
  | 0, i, e => by
    have e' : i = 4 := by omega
    subst e'
    apply rx_wp_sound 40 [4]
    simp (disch := first | decide | omega) only [rx_W, rx_wp_succ, rx_nx_stop, rx_nx_go, rx_lx_some, rx_fx_some, rx_ax_some, rx_qx_some, rx_ox_some, rx_vx_ref, rx_ix_ref, rx_ld_0, rx_ld_2, rx_ld_3, rx_cx_some, rx_nl, List.getElem?_cons_zero, List.getElem?_cons_succ, List.set_cons_zero, List.set_cons_succ, List.length_cons, List.length_nil, List.take_succ_cons, List.take_zero, List.drop_succ_cons, List.drop_zero, List.reverse_cons, List.reverse_nil, List.nil_append, List.cons_append, Option.toList_some, Option.toList_none, true_and, and_true, and_self, true_or, or_true, false_and, and_false, false_or, or_false, not_false_eq_true, Nat.reduceAdd, Nat.reduceLT, Nat.reduceLeDiff, Nat.reduceBEq, Nat.reduceEqDiff, Bool.or_false, Bool.false_or, if_true, if_false, Bool.false_eq_true, nq_eq, nq_lt, nq_le, nq_in_t, nq_bd, nq_ft, nq_clamp, nq_shl31, nq_shr31, nq_bitb, nq_add, nq_mul, fa_and, fa_or, nq_b0, nq_b1, nq_b01, ↓ni_lt_t, ↓ni_lt_f, ↓ni_le_t, ↓ni_le_f, ↓ni_eq_t, ↓ni_eq_f, ↓ni_beq_t, ↓ni_beq_f, it_X4_offers]
    exact hq
  | j + 1, i, e => by
    have hw1 := hw (s * 5 + i) (by omega)
    have ih := l_X4_offers hp hs hw Q hq j (i + 1) (by omega)
    rw [un_succ] at ih
    apply rx_wp_sound 40 [4]
    simp (disch := first | decide | omega) only [rx_W, rx_wp_succ, rx_nx_stop, rx_nx_go, rx_lx_some, rx_fx_some, rx_ax_some, rx_qx_some, rx_ox_some, rx_vx_ref, rx_ix_ref, rx_ld_0, rx_ld_2, rx_ld_3, rx_cx_some, rx_nl, List.getElem?_cons_zero, List.getElem?_cons_succ, List.set_cons_zero, List.set_cons_succ, List.length_cons, List.length_nil, List.take_succ_cons, List.take_zero, List.drop_succ_cons, List.drop_zero, List.reverse_cons, List.reverse_nil, List.nil_append, List.cons_append, Option.toList_some, Option.toList_none, true_and, and_true, and_self, true_or, or_true, false_and, and_false, false_or, or_false, not_false_eq_true, Nat.reduceAdd, Nat.reduceLT, Nat.reduceLeDiff, Nat.reduceBEq, Nat.reduceEqDiff, Bool.or_false, Bool.false_or, if_true, if_false, Bool.false_eq_true, nq_eq, nq_lt, nq_le, nq_in_t, nq_bd, nq_ft, nq_clamp, nq_shl31, nq_shr31, nq_bitb, nq_add, nq_mul, fa_and, fa_or, nq_b0, nq_b1, nq_b01, ↓ni_lt_t, ↓ni_lt_f, ↓ni_le_t, ↓ni_le_f, ↓ni_eq_t, ↓ni_eq_f, ↓ni_beq_t, ↓ni_beq_f, it_X4_offers, q_X4_targets hp, hp.1, hp.2.2, Nat.one_mul]
    split
    · next h1 => rw [if_pos h1, Nat.or_zero] at ih; exact ih
    · next h1 => rw [if_neg h1] at ih; exact ih
theorem q_X4_offers {h : rx_H} {o n : Nat} {w : Nat → Nat} (hp : pW h o n w) {s : Nat} (hs : s < 8) (hw : ∀ j, j < 40 → w j < 256) (Q : Option Value → rx_H → Prop) : rx_Cl 45 [.ref o, .int (nI s)] h Q = Q (some (.int (nI (ofS w s)))) h := by
  refine rx_Cl_eq ?_ Q
  apply en_X4_offers _ _ 40 [4]
  simp (disch := first | decide | omega) only [rx_W, rx_wp_succ, rx_nx_stop, rx_nx_go, rx_lx_some, rx_fx_some, rx_ax_some, rx_qx_some, rx_ox_some, rx_vx_ref, rx_ix_ref, rx_ld_0, rx_ld_2, rx_ld_3, rx_cx_some, rx_nl, List.getElem?_cons_zero, List.getElem?_cons_succ, List.set_cons_zero, List.set_cons_succ, List.length_cons, List.length_nil, List.take_succ_cons, List.take_zero, List.drop_succ_cons, List.drop_zero, List.reverse_cons, List.reverse_nil, List.nil_append, List.cons_append, Option.toList_some, Option.toList_none, true_and, and_true, and_self, true_or, or_true, false_and, and_false, false_or, or_false, not_false_eq_true, Nat.reduceAdd, Nat.reduceLT, Nat.reduceLeDiff, Nat.reduceBEq, Nat.reduceEqDiff, Bool.or_false, Bool.false_or, if_true, if_false, Bool.false_eq_true, nq_eq, nq_lt, nq_le, nq_in_t, nq_bd, nq_ft, nq_clamp, nq_shl31, nq_shr31, nq_bitb, nq_add, nq_mul, fa_and, fa_or, nq_b0, nq_b1, nq_b01, ↓ni_lt_t, ↓ni_lt_f, ↓ni_le_t, ↓ni_le_f, ↓ni_eq_t, ↓ni_eq_f, ↓ni_beq_t, ↓ni_beq_f, it_X4_offers]
  exact l_X4_offers hp hs hw _ ⟨rfl, rfl⟩ 4 0 (by omega)
theorem l_X4_lettersUsed {h : rx_H} {o n : Nat} {w : Nat → Nat} (hp : pW h o n w) (hn : n ≤ 8) (hw : ∀ j, j < 40 → w j < 256) (Q : Option Value → rx_H → Prop) (hq : Q (some (.int (nI (un (ofS w) n)))) h) : ∀ j i, i + j = n → rx_R 44 4 [.ref o, .int (nI (un (ofS w) i)), .int (nI i)] [] h Q
  | 0, i, e => by
    have e' : i = n := by omega
    subst e'
    apply rx_wp_sound 40 [4]
    simp (disch := first | decide | omega) only [rx_W, rx_wp_succ, rx_nx_stop, rx_nx_go, rx_lx_some, rx_fx_some, rx_ax_some, rx_qx_some, rx_ox_some, rx_vx_ref, rx_ix_ref, rx_ld_0, rx_ld_2, rx_ld_3, rx_cx_some, rx_nl, List.getElem?_cons_zero, List.getElem?_cons_succ, List.set_cons_zero, List.set_cons_succ, List.length_cons, List.length_nil, List.take_succ_cons, List.take_zero, List.drop_succ_cons, List.drop_zero, List.reverse_cons, List.reverse_nil, List.nil_append, List.cons_append, Option.toList_some, Option.toList_none, true_and, and_true, and_self, true_or, or_true, false_and, and_false, false_or, or_false, not_false_eq_true, Nat.reduceAdd, Nat.reduceLT, Nat.reduceLeDiff, Nat.reduceBEq, Nat.reduceEqDiff, Bool.or_false, Bool.false_or, if_true, if_false, Bool.false_eq_true, nq_eq, nq_lt, nq_le, nq_in_t, nq_bd, nq_ft, nq_clamp, nq_shl31, nq_shr31, nq_bitb, nq_add, nq_mul, fa_and, fa_or, nq_b0, nq_b1, nq_b01, ↓ni_lt_t, ↓ni_lt_f, ↓ni_le_t, ↓ni_le_f, ↓ni_eq_t, ↓ni_eq_f, ↓ni_beq_t, ↓ni_beq_f, it_X4_lettersUsed, hp.1, hp.2.2]
    exact hq
  | j + 1, i, e => by
    apply rx_wp_sound 40 [4]
    simp (disch := first | decide | omega) only [rx_W, rx_wp_succ, rx_nx_stop, rx_nx_go, rx_lx_some, rx_fx_some, rx_ax_some, rx_qx_some, rx_ox_some, rx_vx_ref, rx_ix_ref, rx_ld_0, rx_ld_2, rx_ld_3, rx_cx_some, rx_nl, List.getElem?_cons_zero, List.getElem?_cons_succ, List.set_cons_zero, List.set_cons_succ, List.length_cons, List.length_nil, List.take_succ_cons, List.take_zero, List.drop_succ_cons, List.drop_zero, List.reverse_cons, List.reverse_nil, List.nil_append, List.cons_append, Option.toList_some, Option.toList_none, true_and, and_true, and_self, true_or, or_true, false_and, and_false, false_or, or_false, not_false_eq_true, Nat.reduceAdd, Nat.reduceLT, Nat.reduceLeDiff, Nat.reduceBEq, Nat.reduceEqDiff, Bool.or_false, Bool.false_or, if_true, if_false, Bool.false_eq_true, nq_eq, nq_lt, nq_le, nq_in_t, nq_bd, nq_ft, nq_clamp, nq_shl31, nq_shr31, nq_bitb, nq_add, nq_mul, fa_and, fa_or, nq_b0, nq_b1, nq_b01, ↓ni_lt_t, ↓ni_lt_f, ↓ni_le_t, ↓ni_le_f, ↓ni_eq_t, ↓ni_eq_f, ↓ni_beq_t, ↓ni_beq_f, it_X4_lettersUsed, q_X4_offers hp, hw, hp.1, hp.2.2]
    exact l_X4_lettersUsed hp hn hw Q hq j (i + 1) (by omega)
theorem q_X4_lettersUsed {h : rx_H} {o n : Nat} {w : Nat → Nat} (hp : pW h o n w) (hn : n ≤ 8) (hw : ∀ j, j < 40 → w j < 256) (Q : Option Value → rx_H → Prop) : rx_Cl 44 [.ref o] h Q = Q (some (.int (nI (un (ofS w) n)))) h := by
  refine rx_Cl_eq ?_ Q
  apply en_X4_lettersUsed _ 40 [4]
  simp (disch := first | decide | omega) only [rx_W, rx_wp_succ, rx_nx_stop, rx_nx_go, rx_lx_some, rx_fx_some, rx_ax_some, rx_qx_some, rx_ox_some, rx_vx_ref, rx_ix_ref, rx_ld_0, rx_ld_2, rx_ld_3, rx_cx_some, rx_nl, List.getElem?_cons_zero, List.getElem?_cons_succ, List.set_cons_zero, List.set_cons_succ, List.length_cons, List.length_nil, List.take_succ_cons, List.take_zero, List.drop_succ_cons, List.drop_zero, List.reverse_cons, List.reverse_nil, List.nil_append, List.cons_append, Option.toList_some, Option.toList_none, true_and, and_true, and_self, true_or, or_true, false_and, and_false, false_or, or_false, not_false_eq_true, Nat.reduceAdd, Nat.reduceLT, Nat.reduceLeDiff, Nat.reduceBEq, Nat.reduceEqDiff, Bool.or_false, Bool.false_or, if_true, if_false, Bool.false_eq_true, nq_eq, nq_lt, nq_le, nq_in_t, nq_bd, nq_ft, nq_clamp, nq_shl31, nq_shr31, nq_bitb, nq_add, nq_mul, fa_and, fa_or, nq_b0, nq_b1, nq_b01, ↓ni_lt_t, ↓ni_lt_f, ↓ni_le_t, ↓ni_le_f, ↓ni_eq_t, ↓ni_eq_f, ↓ni_beq_t, ↓ni_beq_f, it_X4_lettersUsed]
  exact l_X4_lettersUsed hp hn hw _ ⟨rfl, rfl⟩ n 0 (by omega)
theorem l_X4_countBy {h : rx_H} {o n : Nat} {w : Nat → Nat} (hp : pW h o n w) (hn : n ≤ 8) (hw : ∀ j, j < 40 → w j < 256) {b : Nat} (hb : b < 5) (Q : Option Value → rx_H → Prop) (hq : Q (some (.int (nI (fb_sm (fun s => bc (w (s * 5 + b))) n)))) h) : ∀ j i, i + j = n → rx_R 43 4 [.ref o, .int (nI b), .int (nI (fb_sm (fun s => bc (w (s * 5 + b))) i)), .int (nI i)] [] h Q
  | 0, i, e => by
    have e' : i = n := by omega
    subst e'
    apply rx_wp_sound 40 [4]
    simp (disch := first | decide | omega) only [rx_W, rx_wp_succ, rx_nx_stop, rx_nx_go, rx_lx_some, rx_fx_some, rx_ax_some, rx_qx_some, rx_ox_some, rx_vx_ref, rx_ix_ref, rx_ld_0, rx_ld_2, rx_ld_3, rx_cx_some, rx_nl, List.getElem?_cons_zero, List.getElem?_cons_succ, List.set_cons_zero, List.set_cons_succ, List.length_cons, List.length_nil, List.take_succ_cons, List.take_zero, List.drop_succ_cons, List.drop_zero, List.reverse_cons, List.reverse_nil, List.nil_append, List.cons_append, Option.toList_some, Option.toList_none, true_and, and_true, and_self, true_or, or_true, false_and, and_false, false_or, or_false, not_false_eq_true, Nat.reduceAdd, Nat.reduceLT, Nat.reduceLeDiff, Nat.reduceBEq, Nat.reduceEqDiff, Bool.or_false, Bool.false_or, if_true, if_false, Bool.false_eq_true, nq_eq, nq_lt, nq_le, nq_in_t, nq_bd, nq_ft, nq_clamp, nq_shl31, nq_shr31, nq_bitb, nq_add, nq_mul, fa_and, fa_or, nq_b0, nq_b1, nq_b01, ↓ni_lt_t, ↓ni_lt_f, ↓ni_le_t, ↓ni_le_f, ↓ni_eq_t, ↓ni_eq_f, ↓ni_beq_t, ↓ni_beq_f, it_X4_countBy, hp.1, hp.2.2]
    exact hq
  | j + 1, i, e => by
    have hw1 := hw (i * 5 + b) (by omega)
    apply rx_wp_sound 40 [4]
    simp (disch := first | decide | omega) only [rx_W, rx_wp_succ, rx_nx_stop, rx_nx_go, rx_lx_some, rx_fx_some, rx_ax_some, rx_qx_some, rx_ox_some, rx_vx_ref, rx_ix_ref, rx_ld_0, rx_ld_2, rx_ld_3, rx_cx_some, rx_nl, List.getElem?_cons_zero, List.getElem?_cons_succ, List.set_cons_zero, List.set_cons_succ, List.length_cons, List.length_nil, List.take_succ_cons, List.take_zero, List.drop_succ_cons, List.drop_zero, List.reverse_cons, List.reverse_nil, List.nil_append, List.cons_append, Option.toList_some, Option.toList_none, true_and, and_true, and_self, true_or, or_true, false_and, and_false, false_or, or_false, not_false_eq_true, Nat.reduceAdd, Nat.reduceLT, Nat.reduceLeDiff, Nat.reduceBEq, Nat.reduceEqDiff, Bool.or_false, Bool.false_or, if_true, if_false, Bool.false_eq_true, nq_eq, nq_lt, nq_le, nq_in_t, nq_bd, nq_ft, nq_clamp, nq_shl31, nq_shr31, nq_bitb, nq_add, nq_mul, fa_and, fa_or, nq_b0, nq_b1, nq_b01, ↓ni_lt_t, ↓ni_lt_f, ↓ni_le_t, ↓ni_le_f, ↓ni_eq_t, ↓ni_eq_f, ↓ni_beq_t, ↓ni_beq_f, it_X4_countBy, q_X4_targets hp, q_bitCount, hp.1, hp.2.2]
    exact l_X4_countBy hp hn hw hb Q hq j (i + 1) (by omega)
theorem q_X4_countBy {h : rx_H} {o n : Nat} {w : Nat → Nat} (hp : pW h o n w) (hn : n ≤ 8) (hw : ∀ j, j < 40 → w j < 256) {b : Nat} (hb : b < 5) (Q : Option Value → rx_H → Prop) : rx_Cl 43 [.ref o, .int (nI b)] h Q = Q (some (.int (nI (fb_sm (fun s => bc (w (s * 5 + b))) n)))) h := by
  refine rx_Cl_eq ?_ Q
  apply en_X4_countBy _ _ 40 [4]
  simp (disch := first | decide | omega) only [rx_W, rx_wp_succ, rx_nx_stop, rx_nx_go, rx_lx_some, rx_fx_some, rx_ax_some, rx_qx_some, rx_ox_some, rx_vx_ref, rx_ix_ref, rx_ld_0, rx_ld_2, rx_ld_3, rx_cx_some, rx_nl, List.getElem?_cons_zero, List.getElem?_cons_succ, List.set_cons_zero, List.set_cons_succ, List.length_cons, List.length_nil, List.take_succ_cons, List.take_zero, List.drop_succ_cons, List.drop_zero, List.reverse_cons, List.reverse_nil, List.nil_append, List.cons_append, Option.toList_some, Option.toList_none, true_and, and_true, and_self, true_or, or_true, false_and, and_false, false_or, or_false, not_false_eq_true, Nat.reduceAdd, Nat.reduceLT, Nat.reduceLeDiff, Nat.reduceBEq, Nat.reduceEqDiff, Bool.or_false, Bool.false_or, if_true, if_false, Bool.false_eq_true, nq_eq, nq_lt, nq_le, nq_in_t, nq_bd, nq_ft, nq_clamp, nq_shl31, nq_shr31, nq_bitb, nq_add, nq_mul, fa_and, fa_or, nq_b0, nq_b1, nq_b01, ↓ni_lt_t, ↓ni_lt_f, ↓ni_le_t, ↓ni_le_f, ↓ni_eq_t, ↓ni_eq_f, ↓ni_beq_t, ↓ni_beq_f, it_X4_countBy]
  exact l_X4_countBy hp hn hw hb _ ⟨rfl, rfl⟩ n 0 (by omega)
