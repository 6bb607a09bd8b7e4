/-! ===== the reference's search ===== -/
theorem sub_and {x y : Nat} : sub x y ↔ y &&& x = x := by
  constructor
  · intro h
    apply bit_ext
    intro i
    rw [Nat.testBit_and, Bool.and_eq_true]
    exact ⟨fun z => z.2, fun z => ⟨h i z, z⟩⟩
  · intro h i hi
    rw [← h, Nat.testBit_and, Bool.and_eq_true] at hi
    exact hi.1
def mtB (n1 : Nat) (w1 : Nat → Nat) (m n2 : Nat) (w2 : Nat → Nat) (o s : Nat) : Nat → Bool
  | 0 => !(m &&& stb n1 w1).testBit s
  | t + 1 => mtB n1 w1 m n2 w2 o s t || ((o &&& stb n2 w2).testBit t && decide (ofS w2 t ^^^ (ofS w2 t &&& ofS w1 s) = 0))
theorem mtB_succ (n1 : Nat) (w1 : Nat → Nat) (m n2 : Nat) (w2 : Nat → Nat) (o s t : Nat) : mtB n1 w1 m n2 w2 o s (t + 1) = (mtB n1 w1 m n2 w2 o s t || ((o &&& stb n2 w2).testBit t && decide (ofS w2 t ^^^ (ofS w2 t &&& ofS w1 s) = 0))) := rfl
theorem mtB_iff (n1 : Nat) (w1 : Nat → Nat) (m n2 : Nat) (w2 : Nat → Nat) (o s : Nat) : ∀ k, mtB n1 w1 m n2 w2 o s k = true ↔ ¬ (m &&& stb n1 w1).testBit s = true ∨ ∃ t, t < k ∧ (o &&& stb n2 w2).testBit t = true ∧ ofS w1 s &&& ofS w2 t = ofS w2 t
  | 0 => by
    show (!(m &&& stb n1 w1).testBit s) = true ↔ _
    cases (m &&& stb n1 w1).testBit s <;> simp
  | k + 1 => by
    rw [mtB_succ, Bool.or_eq_true, mtB_iff n1 w1 m n2 w2 o s k, Bool.and_eq_true, decide_eq_true_eq, xa_sub, sub_and]
    constructor
    · rintro ((z | ⟨t, t1, t2⟩) | z)
      · exact Or.inl z
      · exact Or.inr ⟨t, by omega, t2⟩
      · exact Or.inr ⟨k, by omega, z⟩
    · rintro (z | ⟨t, t1, t2⟩)
      · exact Or.inl (Or.inl z)
      · by_cases e : t = k
        · subst e; exact Or.inr t2
        · exact Or.inl (Or.inr ⟨t, by omega, t2⟩)
theorem mtB_all (n1 : Nat) (w1 : Nat → Nat) (m n2 : Nat) (w2 : Nat → Nat) (o : Nat) : (∀ s, s < n1 → mtB n1 w1 m n2 w2 o s n2 = true) ↔ rfB n1 w1 m n2 w2 o = true := by
  rw [rfB_iff]
  constructor
  · intro h s s1 s2 s3
    have hb : (m &&& stb n1 w1).testBit s = true := by rw [Nat.testBit_and, s2, (stb_bit n1 w1 s).mpr ⟨s1, s3⟩]; rfl
    rcases (mtB_iff n1 w1 m n2 w2 o s n2).mp (h s s1) with z | ⟨t, t1, t2, t3⟩
    · exact absurd hb z
    · rw [Nat.testBit_and, Bool.and_eq_true] at t2
      exact ⟨t, t1, t2.1, ((stb_bit n2 w2 t).mp t2.2).2, t3⟩
  · intro h s s1
    refine (mtB_iff n1 w1 m n2 w2 o s n2).mpr ?_
    by_cases hb : (m &&& stb n1 w1).testBit s = true
    · rw [Nat.testBit_and, Bool.and_eq_true] at hb
      obtain ⟨t, t1, t2, t3, t4⟩ := h s s1 hb.1 ((stb_bit n1 w1 s).mp hb.2).2
      exact Or.inr ⟨t, t1, by rw [Nat.testBit_and, t2, (stb_bit n2 w2 t).mpr ⟨t1, t3⟩]; rfl, t4⟩
    · exact Or.inl hb
section WR
variable {h : rx_H} {v : Nat → Nat} {p q mode m o : Nat}
theorem l_X8_wr1 (hm : mN h v) (hp : p < 4) (hq : q < 4) (hn1 : v (41 * p) ≤ 8) (hn2 : v (41 * q) ≤ 8) (hw1 : ∀ j, j < 40 → wq v p j < 256) (hw2 : ∀ j, j < 40 → wq v q j < 256) (ho : o < 256) {s : Nat} (hs : s < 8) (Q : Option Value → rx_H → Prop)
    (hq1 : rx_R 156 114 [.ref 98, .int (nI p), .int (nI q), .int (nI mode), .int (nI m), .int (nI o), .int (nI s), .int (nI (mtB (v (41 * p)) (wq v p) m (v (41 * q)) (wq v q) o s (v (41 * q))).toNat), .int (nI (v (41 * q)))] [] h Q) :
    ∀ j t, t + j = v (41 * q) → rx_R 156 50 [.ref 98, .int (nI p), .int (nI q), .int (nI mode), .int (nI m), .int (nI o), .int (nI s), .int (nI (mtB (v (41 * p)) (wq v p) m (v (41 * q)) (wq v q) o s t).toNat), .int (nI t)] [] h Q
  | 0, t, e => by
    have e' : t = v (41 * q) := by omega
    subst e'
    obtain ⟨pa, le, pl, fo, z, h1⟩ := hm.1
    apply rx_wp_sound 60 [50, 114]
    simp (disch := first | decide | omega) only [rx_W, rx_wp_succ, rx_nx_stop, rx_nx_go, rx_lx_some, rx_fx_some, rx_ax_some, rx_qx_some, rx_ox_some, rx_vx_ref, rx_ix_ref, rx_ld_0, rx_ld_2, rx_ld_3, rx_cx_some, rx_nl, List.getElem?_cons_zero, List.getElem?_cons_succ, List.set_cons_zero, List.set_cons_succ, List.length_cons, List.length_nil, List.take_succ_cons, List.take_zero, List.drop_succ_cons, List.drop_zero, List.reverse_cons, List.reverse_nil, List.nil_append, List.cons_append, Option.toList_some, Option.toList_none, true_and, and_true, and_self, true_or, or_true, false_and, and_false, false_or, or_false, not_false_eq_true, Nat.reduceAdd, Nat.reduceLT, Nat.reduceLeDiff, Nat.reduceBEq, Nat.reduceEqDiff, Bool.or_false, Bool.false_or, if_true, if_false, Bool.false_eq_true, nq_eq, nq_lt, nq_le, nq_in_t, nq_bd, nq_ft, nq_clamp, nq_shl31, nq_shr31, nq_bitb, nq_add, nq_mul, fa_and, fa_or, nq_b0, nq_b1, nq_b01, ↓ni_lt_t, ↓ni_lt_f, ↓ni_le_t, ↓ni_le_f, ↓ni_eq_t, ↓ni_eq_f, ↓ni_beq_t, ↓ni_beq_f, it_X8_wrong, it_X8_wrong_1, q_X8_many hm, h1, mO]
    exact hq1
  | j + 1, t, e => by
    have ih := l_X8_wr1 hm hp hq hn1 hn2 hw1 hw2 ho hs Q hq1 j (t + 1) (by omega)
    rw [mtB_succ] at ih
    obtain ⟨pa, le, pl, fo, z, h1⟩ := hm.1
    have b1 : o &&& stb (v (41 * q)) (wq v q) < 256 := Nat.lt_of_le_of_lt Nat.and_le_left ho
    have b2 := ofS_lt (wq v q) t
    have b3 : ofS (wq v q) t ^^^ (ofS (wq v q) t &&& ofS (wq v p) s) < 16 := Nat.xor_lt_two_pow (n := 4) b2 (Nat.lt_of_le_of_lt Nat.and_le_left b2)
    apply rx_wp_sound 60 [50, 114]
    cases c1 : mtB (v (41 * p)) (wq v p) m (v (41 * q)) (wq v q) o s t with
    | true =>
      rw [c1] at ih
      simp (disch := first | decide | omega) only [rx_W, rx_wp_succ, rx_nx_stop, rx_nx_go, rx_lx_some, rx_fx_some, rx_ax_some, rx_qx_some, rx_ox_some, rx_vx_ref, rx_ix_ref, rx_ld_0, rx_ld_2, rx_ld_3, rx_cx_some, rx_nl, List.getElem?_cons_zero, List.getElem?_cons_succ, List.set_cons_zero, List.set_cons_succ, List.length_cons, List.length_nil, List.take_succ_cons, List.take_zero, List.drop_succ_cons, List.drop_zero, List.reverse_cons, List.reverse_nil, List.nil_append, List.cons_append, Option.toList_some, Option.toList_none, true_and, and_true, and_self, true_or, or_true, false_and, and_false, false_or, or_false, not_false_eq_true, Nat.reduceAdd, Nat.reduceLT, Nat.reduceLeDiff, Nat.reduceBEq, Nat.reduceEqDiff, Bool.or_false, Bool.false_or, if_true, if_false, Bool.false_eq_true, nq_eq, nq_lt, nq_le, nq_in_t, nq_bd, nq_ft, nq_clamp, nq_shl31, nq_shr31, nq_bitb, nq_add, nq_mul, fa_and, fa_or, nq_b0, nq_b1, nq_b01, ↓ni_lt_t, ↓ni_lt_f, ↓ni_le_t, ↓ni_le_f, ↓ni_eq_t, ↓ni_eq_f, ↓ni_beq_t, ↓ni_beq_f, it_X8_wrong, it_X8_wrong_1, q_X8_many hm, h1, mO, Bool.toNat_true]
      exact ih
    | false =>
      rw [c1] at ih
      cases c2 : (o &&& stb (v (41 * q)) (wq v q)).testBit t with
      | false =>
        rw [c2] at ih
        simp (disch := first | decide | omega) only [rx_W, rx_wp_succ, rx_nx_stop, rx_nx_go, rx_lx_some, rx_fx_some, rx_ax_some, rx_qx_some, rx_ox_some, rx_vx_ref, rx_ix_ref, rx_ld_0, rx_ld_2, rx_ld_3, rx_cx_some, rx_nl, List.getElem?_cons_zero, List.getElem?_cons_succ, List.set_cons_zero, List.set_cons_succ, List.length_cons, List.length_nil, List.take_succ_cons, List.take_zero, List.drop_succ_cons, List.drop_zero, List.reverse_cons, List.reverse_nil, List.nil_append, List.cons_append, Option.toList_some, Option.toList_none, true_and, and_true, and_self, true_or, or_true, false_and, and_false, false_or, or_false, not_false_eq_true, Nat.reduceAdd, Nat.reduceLT, Nat.reduceLeDiff, Nat.reduceBEq, Nat.reduceEqDiff, Bool.or_false, Bool.false_or, if_true, if_false, Bool.false_eq_true, nq_eq, nq_lt, nq_le, nq_in_t, nq_bd, nq_ft, nq_clamp, nq_shl31, nq_shr31, nq_bitb, nq_add, nq_mul, fa_and, fa_or, nq_b0, nq_b1, nq_b01, ↓ni_lt_t, ↓ni_lt_f, ↓ni_le_t, ↓ni_le_f, ↓ni_eq_t, ↓ni_eq_f, ↓ni_beq_t, ↓ni_beq_f, it_X8_wrong, it_X8_wrong_1, q_X8_many hm, q_X8_has, q_X8_stables hm hq hn2 hw2, h1, mO, c2, Bool.toNat_false]
        exact ih
      | true =>
        rw [c2] at ih
        simp (disch := first | decide | omega) only [rx_W, rx_wp_succ, rx_nx_stop, rx_nx_go, rx_lx_some, rx_fx_some, rx_ax_some, rx_qx_some, rx_ox_some, rx_vx_ref, rx_ix_ref, rx_ld_0, rx_ld_2, rx_ld_3, rx_cx_some, rx_nl, List.getElem?_cons_zero, List.getElem?_cons_succ, List.set_cons_zero, List.set_cons_succ, List.length_cons, List.length_nil, List.take_succ_cons, List.take_zero, List.drop_succ_cons, List.drop_zero, List.reverse_cons, List.reverse_nil, List.nil_append, List.cons_append, Option.toList_some, Option.toList_none, true_and, and_true, and_self, true_or, or_true, false_and, and_false, false_or, or_false, not_false_eq_true, Nat.reduceAdd, Nat.reduceLT, Nat.reduceLeDiff, Nat.reduceBEq, Nat.reduceEqDiff, Bool.or_false, Bool.false_or, if_true, if_false, Bool.false_eq_true, nq_eq, nq_lt, nq_le, nq_in_t, nq_bd, nq_ft, nq_clamp, nq_shl31, nq_shr31, nq_bitb, nq_add, nq_mul, fa_and, fa_or, nq_b0, nq_b1, nq_b01, ↓ni_lt_t, ↓ni_lt_f, ↓ni_le_t, ↓ni_le_f, ↓ni_eq_t, ↓ni_eq_f, ↓ni_beq_t, ↓ni_beq_f, it_X8_wrong, it_X8_wrong_1, q_X8_many hm, q_X8_has, q_X8_stables hm hq hn2 hw2, q_X8_offers hm hq _ hw2, q_X8_offers hm hp _ hw1, h1, mO, nq_andn, c2, Bool.toNat_false, Bool.toNat_true]
        split
        · next c3 => rw [decide_eq_true c3] at ih; exact ih
        · next c3 => rw [decide_eq_false c3] at ih; exact ih
theorem l_X8_wr2 (hm : mN h v) (hp : p < 4) (hq : q < 4) (hn1 : v (41 * p) ≤ 8) (hn2 : v (41 * q) ≤ 8) (hw1 : ∀ j, j < 40 → wq v p j < 256) (hw2 : ∀ j, j < 40 → wq v q j < 256) (ho : o < 256) (hmm : m < 256) (hmode : 0 < mode ∧ mode < 3) (Q : Option Value → rx_H → Prop)
    (hqA : ¬ (∀ s, s < v (41 * p) → mtB (v (41 * p)) (wq v p) m (v (41 * q)) (wq v q) o s (v (41 * q)) = true) → Q (some (.int (nI 1))) h)
    (hqB : (∀ s, s < v (41 * p) → mtB (v (41 * p)) (wq v p) m (v (41 * q)) (wq v q) o s (v (41 * q)) = true) → ∀ x y, rx_R 156 127 [.ref 98, .int (nI p), .int (nI q), .int (nI mode), .int (nI m), .int (nI o), .int (nI (v (41 * p))), x, y] [] h Q) :
    ∀ j s x y, s + j = v (41 * p) → (∀ s', s' < s → mtB (v (41 * p)) (wq v p) m (v (41 * q)) (wq v q) o s' (v (41 * q)) = true) → rx_R 156 10 [.ref 98, .int (nI p), .int (nI q), .int (nI mode), .int (nI m), .int (nI o), .int (nI s), x, y] [] h Q
  | 0, s, x, y, e, hh => by
    have e' : s = v (41 * p) := by omega
    subst e'
    obtain ⟨pa, le, pl, fo, z, h1⟩ := hm.1
    apply rx_wp_sound 60 [10, 127]
    simp (disch := first | decide | omega) only [rx_W, rx_wp_succ, rx_nx_stop, rx_nx_go, rx_lx_some, rx_fx_some, rx_ax_some, rx_qx_some, rx_ox_some, rx_vx_ref, rx_ix_ref, rx_ld_0, rx_ld_2, rx_ld_3, rx_cx_some, rx_nl, List.getElem?_cons_zero, List.getElem?_cons_succ, List.set_cons_zero, List.set_cons_succ, List.length_cons, List.length_nil, List.take_succ_cons, List.take_zero, List.drop_succ_cons, List.drop_zero, List.reverse_cons, List.reverse_nil, List.nil_append, List.cons_append, Option.toList_some, Option.toList_none, true_and, and_true, and_self, true_or, or_true, false_and, and_false, false_or, or_false, not_false_eq_true, Nat.reduceAdd, Nat.reduceLT, Nat.reduceLeDiff, Nat.reduceBEq, Nat.reduceEqDiff, Bool.or_false, Bool.false_or, if_true, if_false, Bool.false_eq_true, nq_eq, nq_lt, nq_le, nq_in_t, nq_bd, nq_ft, nq_clamp, nq_shl31, nq_shr31, nq_bitb, nq_add, nq_mul, fa_and, fa_or, nq_b0, nq_b1, nq_b01, ↓ni_lt_t, ↓ni_lt_f, ↓ni_le_t, ↓ni_le_f, ↓ni_eq_t, ↓ni_eq_f, ↓ni_beq_t, ↓ni_beq_f, it_X8_wrong, it_X8_wrong_1, q_X8_many hm, h1, mO]
    exact hqB hh x y
  | j + 1, s, x, y, e, hh => by
    have ih := fun x y => l_X8_wr2 hm hp hq hn1 hn2 hw1 hw2 ho hmm hmode Q hqA hqB j (s + 1) x y (by omega)
    obtain ⟨pa, le, pl, fo, z, h1⟩ := hm.1
    have b1 : m &&& stb (v (41 * p)) (wq v p) < 256 := Nat.lt_of_le_of_lt Nat.and_le_left hmm
    have key := l_X8_wr1 (mode := mode) (m := m) hm hp hq hn1 hn2 hw1 hw2 ho (s := s) (by omega) Q (by
      cases c : mtB (v (41 * p)) (wq v p) m (v (41 * q)) (wq v q) o s (v (41 * q)) with
      | false =>
        apply rx_wp_sound 60 [10, 127]
        simp (disch := first | decide | omega) only [rx_W, rx_wp_succ, rx_nx_stop, rx_nx_go, rx_lx_some, rx_fx_some, rx_ax_some, rx_qx_some, rx_ox_some, rx_vx_ref, rx_ix_ref, rx_ld_0, rx_ld_2, rx_ld_3, rx_cx_some, rx_nl, List.getElem?_cons_zero, List.getElem?_cons_succ, List.set_cons_zero, List.set_cons_succ, List.length_cons, List.length_nil, List.take_succ_cons, List.take_zero, List.drop_succ_cons, List.drop_zero, List.reverse_cons, List.reverse_nil, List.nil_append, List.cons_append, Option.toList_some, Option.toList_none, true_and, and_true, and_self, true_or, or_true, false_and, and_false, false_or, or_false, not_false_eq_true, Nat.reduceAdd, Nat.reduceLT, Nat.reduceLeDiff, Nat.reduceBEq, Nat.reduceEqDiff, Bool.or_false, Bool.false_or, if_true, if_false, Bool.false_eq_true, nq_eq, nq_lt, nq_le, nq_in_t, nq_bd, nq_ft, nq_clamp, nq_shl31, nq_shr31, nq_bitb, nq_add, nq_mul, fa_and, fa_or, nq_b0, nq_b1, nq_b01, ↓ni_lt_t, ↓ni_lt_f, ↓ni_le_t, ↓ni_le_f, ↓ni_eq_t, ↓ni_eq_f, ↓ni_beq_t, ↓ni_beq_f, it_X8_wrong, it_X8_wrong_1, Bool.toNat_false]
        exact hqA (fun z => by rw [z s (by omega)] at c; cases c)
      | true =>
        apply rx_wp_sound 60 [10, 127]
        simp (disch := first | decide | omega) only [rx_W, rx_wp_succ, rx_nx_stop, rx_nx_go, rx_lx_some, rx_fx_some, rx_ax_some, rx_qx_some, rx_ox_some, rx_vx_ref, rx_ix_ref, rx_ld_0, rx_ld_2, rx_ld_3, rx_cx_some, rx_nl, List.getElem?_cons_zero, List.getElem?_cons_succ, List.set_cons_zero, List.set_cons_succ, List.length_cons, List.length_nil, List.take_succ_cons, List.take_zero, List.drop_succ_cons, List.drop_zero, List.reverse_cons, List.reverse_nil, List.nil_append, List.cons_append, Option.toList_some, Option.toList_none, true_and, and_true, and_self, true_or, or_true, false_and, and_false, false_or, or_false, not_false_eq_true, Nat.reduceAdd, Nat.reduceLT, Nat.reduceLeDiff, Nat.reduceBEq, Nat.reduceEqDiff, Bool.or_false, Bool.false_or, if_true, if_false, Bool.false_eq_true, nq_eq, nq_lt, nq_le, nq_in_t, nq_bd, nq_ft, nq_clamp, nq_shl31, nq_shr31, nq_bitb, nq_add, nq_mul, fa_and, fa_or, nq_b0, nq_b1, nq_b01, ↓ni_lt_t, ↓ni_lt_f, ↓ni_le_t, ↓ni_le_f, ↓ni_eq_t, ↓ni_eq_f, ↓ni_beq_t, ↓ni_beq_f, it_X8_wrong, it_X8_wrong_1, Bool.toNat_true]
        refine ih _ _ (fun s' hs' => ?_)
        by_cases es : s' = s
        · subst es; exact c
        · exact hh s' (by omega)) (v (41 * q)) 0 (by omega)
    have e0 : mtB (v (41 * p)) (wq v p) m (v (41 * q)) (wq v q) o s 0 = !(m &&& stb (v (41 * p)) (wq v p)).testBit s := rfl
    rw [e0] at key
    apply rx_wp_sound 60 [10, 50, 127]
    cases c : (m &&& stb (v (41 * p)) (wq v p)).testBit s with
    | false =>
      rw [c] at key
      simp (disch := first | decide | omega) only [rx_W, rx_wp_succ, rx_nx_stop, rx_nx_go, rx_lx_some, rx_fx_some, rx_ax_some, rx_qx_some, rx_ox_some, rx_vx_ref, rx_ix_ref, rx_ld_0, rx_ld_2, rx_ld_3, rx_cx_some, rx_nl, List.getElem?_cons_zero, List.getElem?_cons_succ, List.set_cons_zero, List.set_cons_succ, List.length_cons, List.length_nil, List.take_succ_cons, List.take_zero, List.drop_succ_cons, List.drop_zero, List.reverse_cons, List.reverse_nil, List.nil_append, List.cons_append, Option.toList_some, Option.toList_none, true_and, and_true, and_self, true_or, or_true, false_and, and_false, false_or, or_false, not_false_eq_true, Nat.reduceAdd, Nat.reduceLT, Nat.reduceLeDiff, Nat.reduceBEq, Nat.reduceEqDiff, Bool.or_false, Bool.false_or, if_true, if_false, Bool.false_eq_true, nq_eq, nq_lt, nq_le, nq_in_t, nq_bd, nq_ft, nq_clamp, nq_shl31, nq_shr31, nq_bitb, nq_add, nq_mul, fa_and, fa_or, nq_b0, nq_b1, nq_b01, ↓ni_lt_t, ↓ni_lt_f, ↓ni_le_t, ↓ni_le_f, ↓ni_eq_t, ↓ni_eq_f, ↓ni_beq_t, ↓ni_beq_f, it_X8_wrong, it_X8_wrong_1, q_X8_many hm, q_X8_has, q_X8_stables hm hp hn1 hw1, h1, mO, c, Bool.toNat_false]
      exact key
    | true =>
      rw [c] at key
      simp (disch := first | decide | omega) only [rx_W, rx_wp_succ, rx_nx_stop, rx_nx_go, rx_lx_some, rx_fx_some, rx_ax_some, rx_qx_some, rx_ox_some, rx_vx_ref, rx_ix_ref, rx_ld_0, rx_ld_2, rx_ld_3, rx_cx_some, rx_nl, List.getElem?_cons_zero, List.getElem?_cons_succ, List.set_cons_zero, List.set_cons_succ, List.length_cons, List.length_nil, List.take_succ_cons, List.take_zero, List.drop_succ_cons, List.drop_zero, List.reverse_cons, List.reverse_nil, List.nil_append, List.cons_append, Option.toList_some, Option.toList_none, true_and, and_true, and_self, true_or, or_true, false_and, and_false, false_or, or_false, not_false_eq_true, Nat.reduceAdd, Nat.reduceLT, Nat.reduceLeDiff, Nat.reduceBEq, Nat.reduceEqDiff, Bool.or_false, Bool.false_or, if_true, if_false, Bool.false_eq_true, nq_eq, nq_lt, nq_le, nq_in_t, nq_bd, nq_ft, nq_clamp, nq_shl31, nq_shr31, nq_bitb, nq_add, nq_mul, fa_and, fa_or, nq_b0, nq_b1, nq_b01, ↓ni_lt_t, ↓ni_lt_f, ↓ni_le_t, ↓ni_le_f, ↓ni_eq_t, ↓ni_eq_f, ↓ni_beq_t, ↓ni_beq_f, it_X8_wrong, it_X8_wrong_1, q_X8_many hm, q_X8_has, q_X8_stables hm hp hn1 hw1, h1, mO, c, Bool.toNat_true]
      exact key
/-- what `wrong` answers -/
def wrI (n1 : Nat) (w1 : Nat → Nat) (n2 : Nat) (w2 : Nat → Nat) (mode x : Nat) : Int32 := if rsn n1 w1 n2 w2 x ≤ mode then nI (rsn n1 w1 n2 w2 x) else -1
theorem q_X8_wrong (hm : mN h v) (hp : p < 4) (hq : q < 4) (h01 : 1 ≤ v (41 * p)) (hn1 : v (41 * p) ≤ 8) (hn2 : v (41 * q) ≤ 8) (hw1 : ∀ j, j < 40 → wq v p j < 256) (hw2 : ∀ j, j < 40 → wq v q j < 256) {x : Nat} (hx1 : x / 256 < 2 ^ v (41 * p)) (hx2 : x % 256 < 2 ^ v (41 * q)) (hmode : mode < 3) (Q : Option Value → rx_H → Prop) :
    rx_Cl 156 [.ref 98, .int (nI p), .int (nI q), .int (nI mode), .int (nI (x / 256)), .int (nI (x % 256))] h Q = Q (some (.int (wrI (v (41 * p)) (wq v p) (v (41 * q)) (wq v q) mode x))) h := by
  have p8 : 2 ^ v (41 * p) ≤ 2 ^ 8 := Nat.pow_le_pow_right (by omega) hn1
  have p82 : 2 ^ v (41 * q) ≤ 2 ^ 8 := Nat.pow_le_pow_right (by omega) hn2
  obtain ⟨pa, le, pl, fo, z, h1⟩ := hm.1
  refine rx_Cl_eq ?_ Q
  have l1 : x / 256 &&& lst (v (41 * p)) (wq v p) < 256 := Nat.lt_of_le_of_lt Nat.and_le_left (by omega)
  have l2 : x % 256 &&& lst (v (41 * q)) (wq v q) < 256 := Nat.lt_of_le_of_lt Nat.and_le_left (by omega)
  by_cases c1 : x % 256 = 0
  · have er : rsn (v (41 * p)) (wq v p) (v (41 * q)) (wq v q) x = 0 := by unfold rsn; rw [if_pos c1]
    apply en_X8_wrong _ _ _ _ _ _ 40 []
    simp (disch := first | decide | omega) only [rx_W, rx_wp_succ, rx_nx_stop, rx_nx_go, rx_lx_some, rx_fx_some, rx_ax_some, rx_qx_some, rx_ox_some, rx_vx_ref, rx_ix_ref, rx_ld_0, rx_ld_2, rx_ld_3, rx_cx_some, rx_nl, List.getElem?_cons_zero, List.getElem?_cons_succ, List.set_cons_zero, List.set_cons_succ, List.length_cons, List.length_nil, List.take_succ_cons, List.take_zero, List.drop_succ_cons, List.drop_zero, List.reverse_cons, List.reverse_nil, List.nil_append, List.cons_append, Option.toList_some, Option.toList_none, true_and, and_true, and_self, true_or, or_true, false_and, and_false, false_or, or_false, not_false_eq_true, Nat.reduceAdd, Nat.reduceLT, Nat.reduceLeDiff, Nat.reduceBEq, Nat.reduceEqDiff, Bool.or_false, Bool.false_or, if_true, if_false, Bool.false_eq_true, nq_eq, nq_lt, nq_le, nq_in_t, nq_bd, nq_ft, nq_clamp, nq_shl31, nq_shr31, nq_bitb, nq_add, nq_mul, fa_and, fa_or, nq_b0, nq_b1, nq_b01, ↓ni_lt_t, ↓ni_lt_f, ↓ni_le_t, ↓ni_le_f, ↓ni_eq_t, ↓ni_eq_f, ↓ni_beq_t, ↓ni_beq_f, it_X8_wrong, it_X8_wrong_1, c1]
    unfold wrI
    rw [er, if_pos (by omega)]
  · by_cases cm : mode = 0
    · subst cm
      have er : ¬ rsn (v (41 * p)) (wq v p) (v (41 * q)) (wq v q) x ≤ 0 := by
        unfold rsn
        rw [if_neg c1]
        split
        · omega
        · split <;> omega
      apply en_X8_wrong _ _ _ _ _ _ 60 []
      simp (disch := first | decide | omega) only [rx_W, rx_wp_succ, rx_nx_stop, rx_nx_go, rx_lx_some, rx_fx_some, rx_ax_some, rx_qx_some, rx_ox_some, rx_vx_ref, rx_ix_ref, rx_ld_0, rx_ld_2, rx_ld_3, rx_cx_some, rx_nl, List.getElem?_cons_zero, List.getElem?_cons_succ, List.set_cons_zero, List.set_cons_succ, List.length_cons, List.length_nil, List.take_succ_cons, List.take_zero, List.drop_succ_cons, List.drop_zero, List.reverse_cons, List.reverse_nil, List.nil_append, List.cons_append, Option.toList_some, Option.toList_none, true_and, and_true, and_self, true_or, or_true, false_and, and_false, false_or, or_false, not_false_eq_true, Nat.reduceAdd, Nat.reduceLT, Nat.reduceLeDiff, Nat.reduceBEq, Nat.reduceEqDiff, Bool.or_false, Bool.false_or, if_true, if_false, Bool.false_eq_true, nq_eq, nq_lt, nq_le, nq_in_t, nq_bd, nq_ft, nq_clamp, nq_shl31, nq_shr31, nq_bitb, nq_add, nq_mul, fa_and, fa_or, nq_b0, nq_b1, nq_b01, ↓ni_lt_t, ↓ni_lt_f, ↓ni_le_t, ↓ni_le_f, ↓ni_eq_t, ↓ni_eq_f, ↓ni_beq_t, ↓ni_beq_f, it_X8_wrong, it_X8_wrong_1, c1, q_X8_many hm, h1, mO]
      unfold wrI
      rw [if_neg er]
    · apply en_X8_wrong _ _ _ _ _ _ 60 [10]
      simp (disch := first | decide | omega) only [rx_W, rx_wp_succ, rx_nx_stop, rx_nx_go, rx_lx_some, rx_fx_some, rx_ax_some, rx_qx_some, rx_ox_some, rx_vx_ref, rx_ix_ref, rx_ld_0, rx_ld_2, rx_ld_3, rx_cx_some, rx_nl, List.getElem?_cons_zero, List.getElem?_cons_succ, List.set_cons_zero, List.set_cons_succ, List.length_cons, List.length_nil, List.take_succ_cons, List.take_zero, List.drop_succ_cons, List.drop_zero, List.reverse_cons, List.reverse_nil, List.nil_append, List.cons_append, Option.toList_some, Option.toList_none, true_and, and_true, and_self, true_or, or_true, false_and, and_false, false_or, or_false, not_false_eq_true, Nat.reduceAdd, Nat.reduceLT, Nat.reduceLeDiff, Nat.reduceBEq, Nat.reduceEqDiff, Bool.or_false, Bool.false_or, if_true, if_false, Bool.false_eq_true, nq_eq, nq_lt, nq_le, nq_in_t, nq_bd, nq_ft, nq_clamp, nq_shl31, nq_shr31, nq_bitb, nq_add, nq_mul, fa_and, fa_or, nq_b0, nq_b1, nq_b01, ↓ni_lt_t, ↓ni_lt_f, ↓ni_le_t, ↓ni_le_f, ↓ni_eq_t, ↓ni_eq_f, ↓ni_beq_t, ↓ni_beq_f, it_X8_wrong, it_X8_wrong_1, c1]
      refine l_X8_wr2 (mode := mode) hm hp hq hn1 hn2 hw1 hw2 (by omega) (by omega) (by omega) _ (fun hA => ?_) (fun hB y1 y2 => ?_) (v (41 * p)) 0 _ _ (by omega) (fun s hs => by omega)
      · rw [mtB_all] at hA
        have er : rsn (v (41 * p)) (wq v p) (v (41 * q)) (wq v q) x = 1 := by
          unfold rsn
          rw [if_neg c1, if_pos (by simpa using hA)]
        unfold wrI
        rw [er, if_pos (by omega)]
        exact ⟨rfl, rfl⟩
      · rw [mtB_all] at hB
        have er : rsn (v (41 * p)) (wq v p) (v (41 * q)) (wq v q) x = if ¬ x / 256 &&& lst (v (41 * p)) (wq v p) = 0 ∧ x % 256 &&& lst (v (41 * q)) (wq v q) = 0 then 2 else 3 := by
          unfold rsn
          rw [if_neg c1, if_neg (by rw [hB]; simp)]
        unfold wrI
        rw [er]
        apply rx_wp_sound 60 []
        by_cases c2 : mode = 2
        · simp (disch := first | decide | omega) only [rx_W, rx_wp_succ, rx_nx_stop, rx_nx_go, rx_lx_some, rx_fx_some, rx_ax_some, rx_qx_some, rx_ox_some, rx_vx_ref, rx_ix_ref, rx_ld_0, rx_ld_2, rx_ld_3, rx_cx_some, rx_nl, List.getElem?_cons_zero, List.getElem?_cons_succ, List.set_cons_zero, List.set_cons_succ, List.length_cons, List.length_nil, List.take_succ_cons, List.take_zero, List.drop_succ_cons, List.drop_zero, List.reverse_cons, List.reverse_nil, List.nil_append, List.cons_append, Option.toList_some, Option.toList_none, true_and, and_true, and_self, true_or, or_true, false_and, and_false, false_or, or_false, not_false_eq_true, Nat.reduceAdd, Nat.reduceLT, Nat.reduceLeDiff, Nat.reduceBEq, Nat.reduceEqDiff, Bool.or_false, Bool.false_or, if_true, if_false, Bool.false_eq_true, nq_eq, nq_lt, nq_le, nq_in_t, nq_bd, nq_ft, nq_clamp, nq_shl31, nq_shr31, nq_bitb, nq_add, nq_mul, fa_and, fa_or, nq_b0, nq_b1, nq_b01, ↓ni_lt_t, ↓ni_lt_f, ↓ni_le_t, ↓ni_le_f, ↓ni_eq_t, ↓ni_eq_f, ↓ni_beq_t, ↓ni_beq_f, it_X8_wrong, it_X8_wrong_1, q_X8_losts hm hp hn1 hw1, q_X8_losts hm hq hn2 hw2, h1, mO, c2]
          by_cases c3 : x / 256 &&& lst (v (41 * p)) (wq v p) = 0
          · simp [c3]
          · by_cases c4 : x % 256 &&& lst (v (41 * q)) (wq v q) = 0
            · simp [c3, c4]
            · simp [c3, c4]
        · have c3 : mode = 1 := by omega
          simp (disch := first | decide | omega) only [rx_W, rx_wp_succ, rx_nx_stop, rx_nx_go, rx_lx_some, rx_fx_some, rx_ax_some, rx_qx_some, rx_ox_some, rx_vx_ref, rx_ix_ref, rx_ld_0, rx_ld_2, rx_ld_3, rx_cx_some, rx_nl, List.getElem?_cons_zero, List.getElem?_cons_succ, List.set_cons_zero, List.set_cons_succ, List.length_cons, List.length_nil, List.take_succ_cons, List.take_zero, List.drop_succ_cons, List.drop_zero, List.reverse_cons, List.reverse_nil, List.nil_append, List.cons_append, Option.toList_some, Option.toList_none, true_and, and_true, and_self, true_or, or_true, false_and, and_false, false_or, or_false, not_false_eq_true, Nat.reduceAdd, Nat.reduceLT, Nat.reduceLeDiff, Nat.reduceBEq, Nat.reduceEqDiff, Bool.or_false, Bool.false_or, if_true, if_false, Bool.false_eq_true, nq_eq, nq_lt, nq_le, nq_in_t, nq_bd, nq_ft, nq_clamp, nq_shl31, nq_shr31, nq_bitb, nq_add, nq_mul, fa_and, fa_or, nq_b0, nq_b1, nq_b01, ↓ni_lt_t, ↓ni_lt_f, ↓ni_le_t, ↓ni_le_f, ↓ni_eq_t, ↓ni_eq_f, ↓ni_beq_t, ↓ni_beq_f, it_X8_wrong, it_X8_wrong_1, c3]
          have c4 : ¬ (if ¬ x / 256 &&& lst (v (41 * p)) (wq v p) = 0 ∧ x % 256 &&& lst (v (41 * q)) (wq v q) = 0 then 2 else 3) ≤ 1 := by split <;> omega
          rw [if_neg c4]
end WR
