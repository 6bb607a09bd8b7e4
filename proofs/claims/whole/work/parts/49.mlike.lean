/-! ===== the reference's laysLike ===== -/
def mtK (K : Nat → Nat) (mine its oi oj : Nat) : Nat → Bool
  | 0 => true
  | t + 1 => mtK K mine its oi oj t && !(mine.testBit t && decide (its &&& (K (t + oi) / 2 ^ oj) &&& 255 = 0))
theorem mtK_succ (K : Nat → Nat) (mine its oi oj t : Nat) : mtK K mine its oi oj (t + 1) = (mtK K mine its oi oj t && !(mine.testBit t && decide (its &&& (K (t + oi) / 2 ^ oj) &&& 255 = 0))) := rfl
theorem mtK_no {K : Nat → Nat} {mine its oi oj t : Nat} (h : mtK K mine its oi oj t = false) : ∀ d, mtK K mine its oi oj (t + d) = false
  | 0 => h
  | d + 1 => by
    show (mtK K mine its oi oj (t + d) && _) = false
    rw [mtK_no h d, Bool.false_and]
theorem mtK_iff (K : Nat → Nat) (mine its oi oj : Nat) : ∀ k, mtK K mine its oi oj k = true ↔ ∀ t, t < k → mine.testBit t = true → ∃ u, u < 8 ∧ its.testBit u = true ∧ (K (t + oi)).testBit (u + oj) = true
  | 0 => ⟨fun _ t ht => by omega, fun _ => rfl⟩
  | k + 1 => by
    have key : (its &&& (K (k + oi) / 2 ^ oj) &&& 255 = 0) ↔ ¬ ∃ u, u < 8 ∧ its.testBit u = true ∧ (K (k + oi)).testBit (u + oj) = true := by
      constructor
      · rintro h ⟨u, u1, u2, u3⟩
        have : (its &&& (K (k + oi) / 2 ^ oj) &&& 255).testBit u = true := by
          rw [Nat.testBit_and, Nat.testBit_and, u2, Nat.testBit_div_two_pow, u3, show (255 : Nat) = 2 ^ 8 - 1 from rfl, Nat.testBit_two_pow_sub_one]
          simp [u1]
        rw [h] at this
        simp at this
      · intro h
        apply Classical.byContradiction
        intro h0
        obtain ⟨u, hu⟩ := nz_bit.mp h0
        rw [Nat.testBit_and, Nat.testBit_and, Nat.testBit_div_two_pow, show (255 : Nat) = 2 ^ 8 - 1 from rfl, Nat.testBit_two_pow_sub_one] at hu
        simp only [Bool.and_eq_true, decide_eq_true_eq] at hu
        exact h ⟨u, hu.2, hu.1.1, hu.1.2⟩
    rw [mtK_succ, Bool.and_eq_true, mtK_iff K mine its oi oj k]
    constructor
    · rintro ⟨a1, a2⟩ t ht hb
      by_cases e : t = k
      · subst e
        rw [hb, Bool.true_and, Bool.not_eq_true', decide_eq_false_iff_not, key] at a2
        exact Classical.not_not.mp a2
      · exact a1 t (by omega) hb
    · intro h
      refine ⟨fun t ht => h t (by omega), ?_⟩
      cases c : mine.testBit k
      · rfl
      · rw [Bool.true_and, Bool.not_eq_true', decide_eq_false_iff_not, key]
        exact Classical.not_not.mpr (h k (by omega) c)
/-- the block of a node: its place, its process -/
def of8 (i : Nat) : Nat := if i < 8 then 0 else 8
def bl (p q i : Nat) : Nat := if i < 8 then p else q
theorem of8_c (i : Nat) : (i < 8 ∧ of8 i = 0) ∨ (¬ i < 8 ∧ of8 i = 8) := by
  unfold of8
  by_cases c : i < 8
  · exact Or.inl ⟨c, if_pos c⟩
  · exact Or.inr ⟨c, if_neg c⟩
def mI (v : Nat → Nat) (p q : Nat) (K : Nat → Nat) (i j b : Nat) : Bool := mtK K (wq v (bl p q i) (i % 8 * 5 + b)) (wq v (bl p q j) (j % 8 * 5 + b)) (of8 i) (of8 j) 8
section MET
variable {h : rx_H} {v K : Nat → Nat} {p q : Nat}
theorem l_X8_met (hm : mN h v) (hK : aN h 106 16 K) (hK16 : ∀ i, i < 16 → K i < 2 ^ 16) {i j0 b mine its : Nat} (hi : i < 16) (hj : j0 < 16) (hmi : mine < 256) (hit : its < 256) (Q : Option Value → rx_H → Prop) (hq : Q (some (.int (nI (mtK K mine its (of8 i) (of8 j0) 8).toNat))) h) : ∀ j t x, t + j = 8 → mtK K mine its (of8 i) (of8 j0) t = true → rx_R 129 51 [.ref 98, .int (nI p), .int (nI q), .int (nI i), .int (nI j0), .int (nI b), .int (nI mine), .int (nI its), .int (nI t), x] [] h Q
  | 0, t, x, e, ht => by
    have e' : t = 8 := by omega
    subst e'
    rw [ht] at hq
    apply rx_wp_sound 60 [51]
    simp (disch := first | decide | omega) only [rx_W, rx_wp_succ, rx_nx_stop, rx_nx_go, rx_lx_some, rx_fx_some, rx_ax_some, rx_qx_some, rx_ox_some, rx_vx_ref, rx_ix_ref, rx_ld_0, rx_ld_2, rx_ld_3, rx_cx_some, rx_nl, List.getElem?_cons_zero, List.getElem?_cons_succ, List.set_cons_zero, List.set_cons_succ, List.length_cons, List.length_nil, List.take_succ_cons, List.take_zero, List.drop_succ_cons, List.drop_zero, List.reverse_cons, List.reverse_nil, List.nil_append, List.cons_append, Option.toList_some, Option.toList_none, true_and, and_true, and_self, true_or, or_true, false_and, and_false, false_or, or_false, not_false_eq_true, Nat.reduceAdd, Nat.reduceLT, Nat.reduceLeDiff, Nat.reduceBEq, Nat.reduceEqDiff, Bool.or_false, Bool.false_or, if_true, if_false, Bool.false_eq_true, nq_eq, nq_lt, nq_le, nq_in_t, nq_bd, nq_ft, nq_clamp, nq_shl31, nq_shr31, nq_bitb, nq_add, nq_mul, fa_and, fa_or, nq_b0, nq_b1, nq_b01, ↓ni_lt_t, ↓ni_lt_f, ↓ni_le_t, ↓ni_le_f, ↓ni_eq_t, ↓ni_eq_f, ↓ni_beq_t, ↓ni_beq_f, it_X8_isMet]
    exact hq
  | j + 1, t, x, e, ht => by
    have ih := fun x => l_X8_met (b := b) hm hK hK16 hi hj hmi hit Q hq j (t + 1) x (by omega)
    have fl := fun z => mtK_no (K := K) (mine := mine) (its := its) (oi := of8 i) (oj := of8 j0) (t := t + 1) z j
    rw [mtK_succ, ht, Bool.true_and] at ih fl
    rw [show t + 1 + j = 8 by omega] at fl
    obtain ⟨pa, le, pl, fo, z, h1⟩ := hm.1
    obtain ⟨f, a1, a2⟩ := hK
    have b1 := hK16 (t + of8 i) (by rcases of8_c i with c | c <;> omega)
    have b2 : its &&& (K (t + of8 i) / 2 ^ of8 j0) &&& 255 < 256 := Nat.lt_of_le_of_lt Nat.and_le_right (by omega)
    have b3 : K (t + of8 i) / 2 ^ of8 j0 ≤ K (t + of8 i) := Nat.div_le_self _ _
    cases c1 : mine.testBit t with
    | false =>
      rw [c1] at ih
      apply rx_wp_sound 60 [51]
      rcases of8_c i with ⟨ci, di⟩ | ⟨ci, di⟩ <;> rcases of8_c j0 with ⟨cj, dj⟩ | ⟨cj, dj⟩ <;>
      · rw [di] at b1 b2 b3
        rw [dj] at b2 b3
        simp (disch := first | decide | omega) only [rx_W, rx_wp_succ, rx_nx_stop, rx_nx_go, rx_lx_some, rx_fx_some, rx_ax_some, rx_qx_some, rx_ox_some, rx_vx_ref, rx_ix_ref, rx_ld_0, rx_ld_2, rx_ld_3, rx_cx_some, rx_nl, List.getElem?_cons_zero, List.getElem?_cons_succ, List.set_cons_zero, List.set_cons_succ, List.length_cons, List.length_nil, List.take_succ_cons, List.take_zero, List.drop_succ_cons, List.drop_zero, List.reverse_cons, List.reverse_nil, List.nil_append, List.cons_append, Option.toList_some, Option.toList_none, true_and, and_true, and_self, true_or, or_true, false_and, and_false, false_or, or_false, not_false_eq_true, Nat.reduceAdd, Nat.reduceLT, Nat.reduceLeDiff, Nat.reduceBEq, Nat.reduceEqDiff, Bool.or_false, Bool.false_or, if_true, if_false, Bool.false_eq_true, nq_eq, nq_lt, nq_le, nq_in_t, nq_bd, nq_ft, nq_clamp, nq_shl31, nq_shr31, nq_bitb, nq_add, nq_mul, fa_and, fa_or, nq_b0, nq_b1, nq_b01, ↓ni_lt_t, ↓ni_lt_f, ↓ni_le_t, ↓ni_le_f, ↓ni_eq_t, ↓ni_eq_f, ↓ni_beq_t, ↓ni_beq_f, it_X8_isMet, h1, mO, a1, a2, q_X8_has, c1]
        first | exact ih _ rfl | exact ⟨by omega, ih _ rfl⟩
    | true =>
      rw [c1, Bool.true_and] at ih fl
      by_cases c2 : its &&& (K (t + of8 i) / 2 ^ of8 j0) &&& 255 = 0
      · have c3 := fl (by rw [decide_eq_true c2]; rfl)
        rw [c3] at hq
        apply rx_wp_sound 60 [51]
        rcases of8_c i with ⟨ci, di⟩ | ⟨ci, di⟩ <;> rcases of8_c j0 with ⟨cj, dj⟩ | ⟨cj, dj⟩ <;>
        · rw [di] at b1 b2 b3 c2
          rw [dj] at b2 b3 c2
          simp (disch := first | decide | omega) only [rx_W, rx_wp_succ, rx_nx_stop, rx_nx_go, rx_lx_some, rx_fx_some, rx_ax_some, rx_qx_some, rx_ox_some, rx_vx_ref, rx_ix_ref, rx_ld_0, rx_ld_2, rx_ld_3, rx_cx_some, rx_nl, List.getElem?_cons_zero, List.getElem?_cons_succ, List.set_cons_zero, List.set_cons_succ, List.length_cons, List.length_nil, List.take_succ_cons, List.take_zero, List.drop_succ_cons, List.drop_zero, List.reverse_cons, List.reverse_nil, List.nil_append, List.cons_append, Option.toList_some, Option.toList_none, true_and, and_true, and_self, true_or, or_true, false_and, and_false, false_or, or_false, not_false_eq_true, Nat.reduceAdd, Nat.reduceLT, Nat.reduceLeDiff, Nat.reduceBEq, Nat.reduceEqDiff, Bool.or_false, Bool.false_or, if_true, if_false, Bool.false_eq_true, nq_eq, nq_lt, nq_le, nq_in_t, nq_bd, nq_ft, nq_clamp, nq_shl31, nq_shr31, nq_bitb, nq_add, nq_mul, fa_and, fa_or, nq_b0, nq_b1, nq_b01, ↓ni_lt_t, ↓ni_lt_f, ↓ni_le_t, ↓ni_le_f, ↓ni_eq_t, ↓ni_eq_f, ↓ni_beq_t, ↓ni_beq_f, it_X8_isMet, h1, mO, a1, a2, q_X8_has, c1, c2]
          first | exact hq | exact ⟨by omega, hq⟩
      · have c3 := fun x => ih x (by rw [decide_eq_false c2]; rfl)
        apply rx_wp_sound 60 [51]
        rcases of8_c i with ⟨ci, di⟩ | ⟨ci, di⟩ <;> rcases of8_c j0 with ⟨cj, dj⟩ | ⟨cj, dj⟩ <;>
        · rw [di] at b1 b2 b3 c2
          rw [dj] at b2 b3 c2
          simp (disch := first | decide | omega) only [rx_W, rx_wp_succ, rx_nx_stop, rx_nx_go, rx_lx_some, rx_fx_some, rx_ax_some, rx_qx_some, rx_ox_some, rx_vx_ref, rx_ix_ref, rx_ld_0, rx_ld_2, rx_ld_3, rx_cx_some, rx_nl, List.getElem?_cons_zero, List.getElem?_cons_succ, List.set_cons_zero, List.set_cons_succ, List.length_cons, List.length_nil, List.take_succ_cons, List.take_zero, List.drop_succ_cons, List.drop_zero, List.reverse_cons, List.reverse_nil, List.nil_append, List.cons_append, Option.toList_some, Option.toList_none, true_and, and_true, and_self, true_or, or_true, false_and, and_false, false_or, or_false, not_false_eq_true, Nat.reduceAdd, Nat.reduceLT, Nat.reduceLeDiff, Nat.reduceBEq, Nat.reduceEqDiff, Bool.or_false, Bool.false_or, if_true, if_false, Bool.false_eq_true, nq_eq, nq_lt, nq_le, nq_in_t, nq_bd, nq_ft, nq_clamp, nq_shl31, nq_shr31, nq_bitb, nq_add, nq_mul, fa_and, fa_or, nq_b0, nq_b1, nq_b01, ↓ni_lt_t, ↓ni_lt_f, ↓ni_le_t, ↓ni_le_f, ↓ni_eq_t, ↓ni_eq_f, ↓ni_beq_t, ↓ni_beq_f, it_X8_isMet, h1, mO, a1, a2, q_X8_has, c1, c2]
          first | exact c3 _ | exact ⟨by omega, c3 _⟩
theorem q_X8_isMet (hm : mN h v) (hK : aN h 106 16 K) (hK16 : ∀ i, i < 16 → K i < 2 ^ 16) (hp : p < 4) (hq0 : q < 4) (hw1 : ∀ j, j < 40 → wq v p j < 256) (hw2 : ∀ j, j < 40 → wq v q j < 256) {i j0 b : Nat} (hi : i < 16) (hj : j0 < 16) (hb : b < 5) (Q : Option Value → rx_H → Prop) : rx_Cl 129 [.ref 98, .int (nI p), .int (nI q), .int (nI i), .int (nI j0), .int (nI b)] h Q = Q (some (.int (nI (mI v p q K i j0 b).toNat))) h := by
  obtain ⟨pa, le, pl, fo, z, h1⟩ := hm.1
  have ei : i - i / 8 * 8 = i % 8 := by omega
  have ej : j0 - j0 / 8 * 8 = j0 % 8 := by omega
  have m1 : i % 8 < 8 := by omega
  have m2 : j0 % 8 < 8 := by omega
  have u1 := hw1 (i % 8 * 5 + b) (by omega)
  have u2 := hw2 (i % 8 * 5 + b) (by omega)
  have u3 := hw1 (j0 % 8 * 5 + b) (by omega)
  have u4 := hw2 (j0 % 8 * 5 + b) (by omega)
  refine rx_Cl_eq ?_ Q
  unfold mI bl
  apply en_X8_isMet _ _ _ _ _ _ 80 [51]
  by_cases ci : i < 8 <;> by_cases cj : j0 < 8 <;>
  · simp (disch := first | decide | omega) only [rx_W, rx_wp_succ, rx_nx_stop, rx_nx_go, rx_lx_some, rx_fx_some, rx_ax_some, rx_qx_some, rx_ox_some, rx_vx_ref, rx_ix_ref, rx_ld_0, rx_ld_2, rx_ld_3, rx_cx_some, rx_nl, List.getElem?_cons_zero, List.getElem?_cons_succ, List.set_cons_zero, List.set_cons_succ, List.length_cons, List.length_nil, List.take_succ_cons, List.take_zero, List.drop_succ_cons, List.drop_zero, List.reverse_cons, List.reverse_nil, List.nil_append, List.cons_append, Option.toList_some, Option.toList_none, true_and, and_true, and_self, true_or, or_true, false_and, and_false, false_or, or_false, not_false_eq_true, Nat.reduceAdd, Nat.reduceLT, Nat.reduceLeDiff, Nat.reduceBEq, Nat.reduceEqDiff, Bool.or_false, Bool.false_or, if_true, if_false, Bool.false_eq_true, nq_eq, nq_lt, nq_le, nq_in_t, nq_bd, nq_ft, nq_clamp, nq_shl31, nq_shr31, nq_bitb, nq_add, nq_mul, fa_and, fa_or, nq_b0, nq_b1, nq_b01, ↓ni_lt_t, ↓ni_lt_f, ↓ni_le_t, ↓ni_le_f, ↓ni_eq_t, ↓ni_eq_f, ↓ni_beq_t, ↓ni_beq_f, it_X8_isMet, h1, mO, nq_div, nq_sub, ei, ej, q_X8_leadsOf hm hp, q_X8_leadsOf hm hq0, ci, cj]
    exact l_X8_met hm hK hK16 hi hj (by assumption) (by assumption) _ ⟨rfl, rfl⟩ 8 0 _ (by omega) rfl
theorem q_X8_isThere (hm : mN h v) (hp : p < 4) (hq0 : q < 4) (hn1 : v (41 * p) ≤ 8) (hn2 : v (41 * q) ≤ 8) {i : Nat} (hi : i < 16) (Q : Option Value → rx_H → Prop) : rx_Cl 130 [.ref 98, .int (nI p), .int (nI q), .int (nI i)] h Q = Q (some (.int (nI (decide (i % 8 < v (41 * bl p q i))).toNat))) h := by
  obtain ⟨pa, le, pl, fo, z, h1⟩ := hm.1
  have ei : i - i / 8 * 8 = i % 8 := by omega
  refine rx_Cl_eq ?_ Q
  unfold bl
  apply en_X8_isThere _ _ _ _ 80 []
  by_cases ci : i < 8
  · simp (disch := first | decide | omega) only [rx_W, rx_wp_succ, rx_nx_stop, rx_nx_go, rx_lx_some, rx_fx_some, rx_ax_some, rx_qx_some, rx_ox_some, rx_vx_ref, rx_ix_ref, rx_ld_0, rx_ld_2, rx_ld_3, rx_cx_some, rx_nl, List.getElem?_cons_zero, List.getElem?_cons_succ, List.set_cons_zero, List.set_cons_succ, List.length_cons, List.length_nil, List.take_succ_cons, List.take_zero, List.drop_succ_cons, List.drop_zero, List.reverse_cons, List.reverse_nil, List.nil_append, List.cons_append, Option.toList_some, Option.toList_none, true_and, and_true, and_self, true_or, or_true, false_and, and_false, false_or, or_false, not_false_eq_true, Nat.reduceAdd, Nat.reduceLT, Nat.reduceLeDiff, Nat.reduceBEq, Nat.reduceEqDiff, Bool.or_false, Bool.false_or, if_true, if_false, Bool.false_eq_true, nq_eq, nq_lt, nq_le, nq_in_t, nq_bd, nq_ft, nq_clamp, nq_shl31, nq_shr31, nq_bitb, nq_add, nq_mul, fa_and, fa_or, nq_b0, nq_b1, nq_b01, ↓ni_lt_t, ↓ni_lt_f, ↓ni_le_t, ↓ni_le_f, ↓ni_eq_t, ↓ni_eq_f, ↓ni_beq_t, ↓ni_beq_f, it_X8_isThere, h1, mO, nq_div, nq_sub, ei, q_X8_many hm hp, ci]
    by_cases c : v (41 * p) ≤ i % 8
    · simp [c, Nat.not_lt.mpr c]
    · simp [c, Nat.not_le.mp c]
  · simp (disch := first | decide | omega) only [rx_W, rx_wp_succ, rx_nx_stop, rx_nx_go, rx_lx_some, rx_fx_some, rx_ax_some, rx_qx_some, rx_ox_some, rx_vx_ref, rx_ix_ref, rx_ld_0, rx_ld_2, rx_ld_3, rx_cx_some, rx_nl, List.getElem?_cons_zero, List.getElem?_cons_succ, List.set_cons_zero, List.set_cons_succ, List.length_cons, List.length_nil, List.take_succ_cons, List.take_zero, List.drop_succ_cons, List.drop_zero, List.reverse_cons, List.reverse_nil, List.nil_append, List.cons_append, Option.toList_some, Option.toList_none, true_and, and_true, and_self, true_or, or_true, false_and, and_false, false_or, or_false, not_false_eq_true, Nat.reduceAdd, Nat.reduceLT, Nat.reduceLeDiff, Nat.reduceBEq, Nat.reduceEqDiff, Bool.or_false, Bool.false_or, if_true, if_false, Bool.false_eq_true, nq_eq, nq_lt, nq_le, nq_in_t, nq_bd, nq_ft, nq_clamp, nq_shl31, nq_shr31, nq_bitb, nq_add, nq_mul, fa_and, fa_or, nq_b0, nq_b1, nq_b01, ↓ni_lt_t, ↓ni_lt_f, ↓ni_le_t, ↓ni_le_f, ↓ni_eq_t, ↓ni_eq_f, ↓ni_beq_t, ↓ni_beq_f, it_X8_isThere, h1, mO, nq_div, nq_sub, ei, q_X8_many hm hq0, ci]
    by_cases c : v (41 * q) ≤ i % 8
    · simp [c, Nat.not_lt.mpr c]
    · simp [c, Nat.not_le.mp c]
end MET
