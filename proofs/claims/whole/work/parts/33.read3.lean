theorem xa_sub (x y : Nat) : x ^^^ (x &&& y) = 0 ↔ sub x y := by
  constructor
  · intro h i hi
    cases hy : y.testBit i
    · have : (x ^^^ (x &&& y)).testBit i = true := by rw [Nat.testBit_xor, Nat.testBit_and, hi, hy]; rfl
      rw [h] at this
      simp at this
    · rfl
  · intro h
    apply bit_ext
    intro i
    rw [Nat.testBit_xor, Nat.testBit_and]
    cases hx : x.testBit i
    · simp
    · rw [h i hx]; simp
/-- each stable state of a set has one of another set that offers nothing more -/
def refOK (n : Nat) (w : Nat → Nat) (m n2 : Nat) (w2 : Nat → Nat) (m2 : Nat) : Prop := ∀ s, s < n → m.testBit s = true → w (s * 5 + 4) = 0 → ∃ t, t < n2 ∧ m2.testBit t = true ∧ w2 (t * 5 + 4) = 0 ∧ ofS w s &&& ofS w2 t = ofS w2 t
def rfB (n : Nat) (w : Nat → Nat) (m n2 : Nat) (w2 : Nat → Nat) (m2 : Nat) : Bool := decide (allS (ofD (stb n w) (ofS w)) n m ^^^ (allS (ofD (stb n w) (ofS w)) n m &&& allS (alD (stb n2 w2) (ofS w2)) n2 m2) = 0)
theorem allF_bit (n : Nat) (w : Nat → Nat) (m o : Nat) : (allS (ofD (stb n w) (ofS w)) n m).testBit o = true ↔ ∃ s, s < n ∧ m.testBit s = true ∧ w (s * 5 + 4) = 0 ∧ ofS w s = o := by
  unfold allS ofD
  rw [un_bit]
  constructor
  · rintro ⟨s, s1, s2⟩
    split at s2
    · next s3 =>
      split at s2
      · next s4 => exact ⟨s, s1, s3, ((stb_bit n w s).mp s4).2, (bit_pow _ _).mp s2⟩
      · simp at s2
    · simp at s2
  · rintro ⟨s, s1, s2, s3, s4⟩
    refine ⟨s, s1, ?_⟩
    rw [if_pos s2, if_pos ((stb_bit n w s).mpr ⟨s1, s3⟩)]
    exact (bit_pow _ _).mpr s4
theorem allA_bit (n : Nat) (w : Nat → Nat) (m o : Nat) : (allS (alD (stb n w) (ofS w)) n m).testBit o = true ↔ ∃ s, s < n ∧ m.testBit s = true ∧ w (s * 5 + 4) = 0 ∧ o < 16 ∧ o &&& ofS w s = ofS w s := by
  unfold allS alD
  rw [un_bit]
  constructor
  · rintro ⟨s, s1, s2⟩
    split at s2
    · next s3 =>
      split at s2
      · next s4 => exact ⟨s, s1, s3, ((stb_bit n w s).mp s4).2, (shO_bit _ _).mp s2⟩
      · simp at s2
    · simp at s2
  · rintro ⟨s, s1, s2, s3, s4⟩
    refine ⟨s, s1, ?_⟩
    rw [if_pos s2, if_pos ((stb_bit n w s).mpr ⟨s1, s3⟩)]
    exact (shO_bit _ _).mpr s4
theorem rfB_iff (n : Nat) (w : Nat → Nat) (m n2 : Nat) (w2 : Nat → Nat) (m2 : Nat) : rfB n w m n2 w2 m2 = true ↔ refOK n w m n2 w2 m2 := by
  unfold rfB
  rw [decide_eq_true_eq, xa_sub]
  constructor
  · intro h s s1 s2 s3
    obtain ⟨t, t1, t2, t3, t4, t5⟩ := (allA_bit _ _ _ _).mp (h _ ((allF_bit n w m _).mpr ⟨s, s1, s2, s3, rfl⟩))
    exact ⟨t, t1, t2, t3, t5⟩
  · intro h o ho
    obtain ⟨s, s1, s2, s3, rfl⟩ := (allF_bit _ _ _ _).mp ho
    obtain ⟨t, t1, t2, t3, t4⟩ := h s s1 s2 s3
    exact (allA_bit _ _ _ _).mpr ⟨t, t1, t2, t3, ofS_lt w s, t4⟩
theorem allF_lt (n : Nat) (w : Nat → Nat) (m : Nat) : allS (ofD (stb n w) (ofS w)) n m < 2 ^ 16 := allS_lt (fun s _ => by
  unfold ofD
  split
  · exact Nat.pow_lt_pow_right (by omega) (ofS_lt w s)
  · exact Nat.two_pow_pos 16)
theorem q_X1_refusesWithin {h : rx_H} {q n q2 n2 : Nat} {w w2 : Nat → Nat} (hk : oK h q n w) (hk2 : oK h q2 n2 w2) (hn : n ≤ 8) (hn2 : n2 ≤ 8) {m m2 : Nat} (hm : m < 2 ^ n) (hm2 : m2 < 2 ^ n2) (Q : Option Value → rx_H → Prop) : rx_Cl 16 [.ref q, .int (nI m), .ref q2, .int (nI m2)] h Q = Q (some (.int (nI (rfB n w m n2 w2 m2).toNat))) h := by
  obtain ⟨lo, O, R, N, F, A, ho, ⟨-, -, -, ⟨f, a1, a2⟩, -⟩, -, -, -, -, -, e1, -⟩ := hk
  obtain ⟨lo', O', R', N', F', A', ho', ⟨-, -, -, -, ⟨f', b1, b2⟩⟩, -, -, -, -, -, -, e2⟩ := hk2
  have p8 : 2 ^ n ≤ 2 ^ 8 := Nat.pow_le_pow_right (by omega) hn
  have p8' : 2 ^ n2 ≤ 2 ^ 8 := Nat.pow_le_pow_right (by omega) hn2
  have c1 := a2 m (by omega)
  rw [e1 m hm] at c1
  have c2 := b2 m2 (by omega)
  rw [e2 m2 hm2] at c2
  have c3 := allF_lt n w m
  have c4 : allS (ofD (stb n w) (ofS w)) n m ^^^ (allS (ofD (stb n w) (ofS w)) n m &&& allS (alD (stb n2 w2) (ofS w2)) n2 m2) < 2 ^ 16 := Nat.xor_lt_two_pow c3 (Nat.lt_of_le_of_lt Nat.and_le_left c3)
  refine rx_Cl_eq ?_ Q
  apply en_X1_refusesWithin _ _ _ _ 40 []
  simp (disch := first | decide | omega) only [rx_W, rx_wp_succ, rx_nx_stop, rx_nx_go, rx_lx_some, rx_fx_some, rx_ax_some, rx_qx_some, rx_ox_some, rx_vx_ref, rx_ix_ref, rx_ld_0, rx_ld_2, rx_ld_3, rx_cx_some, rx_nl, List.getElem?_cons_zero, List.getElem?_cons_succ, List.set_cons_zero, List.set_cons_succ, List.length_cons, List.length_nil, List.take_succ_cons, List.take_zero, List.drop_succ_cons, List.drop_zero, List.reverse_cons, List.reverse_nil, List.nil_append, List.cons_append, Option.toList_some, Option.toList_none, true_and, and_true, and_self, true_or, or_true, false_and, and_false, false_or, or_false, not_false_eq_true, Nat.reduceAdd, Nat.reduceLT, Nat.reduceLeDiff, Nat.reduceBEq, Nat.reduceEqDiff, Bool.or_false, Bool.false_or, if_true, if_false, Bool.false_eq_true, nq_eq, nq_lt, nq_le, nq_in_t, nq_bd, nq_ft, nq_clamp, nq_shl31, nq_shr31, nq_bitb, nq_add, nq_mul, fa_and, fa_or, nq_b0, nq_b1, nq_b01, ↓ni_lt_t, ↓ni_lt_f, ↓ni_le_t, ↓ni_le_f, ↓ni_eq_t, ↓ni_eq_f, ↓ni_beq_t, ↓ni_beq_f, it_X1_refusesWithin, ho.1, ho.2, ho'.1, ho'.2, a1, b1, c1, c2, nq_andn]
  unfold rfB
  split
  · next h1 => simp [h1]
  · next h1 => simp [h1]
/-- the fewest letters that a stable one offers -/
def fwI (n : Nat) (w : Nat → Nat) (m : Nat) : Nat → Int32
  | 0 => -1
  | s + 1 => if (m &&& stb n w).testBit s = true ∧ (fwI n w m s = -1 ∨ nI (bc (ofS w s)) < fwI n w m s) then nI (bc (ofS w s)) else fwI n w m s
theorem fwI_succ (n : Nat) (w : Nat → Nat) (m s : Nat) : fwI n w m (s + 1) = if (m &&& stb n w).testBit s = true ∧ (fwI n w m s = -1 ∨ nI (bc (ofS w s)) < fwI n w m s) then nI (bc (ofS w s)) else fwI n w m s := rfl
theorem l_X1_fewest {h : rx_H} {q n fr lo : Nat} {w O : Nat → Nat} (ho : oO h q fr (stb n w) lo n) (ha : aN h (q + 1) 8 O) (hO : ∀ s, s < n → O s = ofS w s) (hn : n ≤ 8) {m : Nat} (hm : m < 2 ^ n) (Q : Option Value → rx_H → Prop) (hq : Q (some (.int (fwI n w m n))) h) : ∀ j i x, i + j = n → rx_R 19 4 [.ref q, .int (nI m), .int (fwI n w m i), .int (nI i), x] [] h Q
  | 0, i, x, e => by
    have e' : i = n := by omega
    subst e'
    apply rx_wp_sound 60 [4]
    simp (disch := first | decide | omega) only [rx_W, rx_wp_succ, rx_nx_stop, rx_nx_go, rx_lx_some, rx_fx_some, rx_ax_some, rx_qx_some, rx_ox_some, rx_vx_ref, rx_ix_ref, rx_ld_0, rx_ld_2, rx_ld_3, rx_cx_some, rx_nl, List.getElem?_cons_zero, List.getElem?_cons_succ, List.set_cons_zero, List.set_cons_succ, List.length_cons, List.length_nil, List.take_succ_cons, List.take_zero, List.drop_succ_cons, List.drop_zero, List.reverse_cons, List.reverse_nil, List.nil_append, List.cons_append, Option.toList_some, Option.toList_none, true_and, and_true, and_self, true_or, or_true, false_and, and_false, false_or, or_false, not_false_eq_true, Nat.reduceAdd, Nat.reduceLT, Nat.reduceLeDiff, Nat.reduceBEq, Nat.reduceEqDiff, Bool.or_false, Bool.false_or, if_true, if_false, Bool.false_eq_true, nq_eq, nq_lt, nq_le, nq_in_t, nq_bd, nq_ft, nq_clamp, nq_shl31, nq_shr31, nq_bitb, nq_add, nq_mul, fa_and, fa_or, nq_b0, nq_b1, nq_b01, ↓ni_lt_t, ↓ni_lt_f, ↓ni_le_t, ↓ni_le_f, ↓ni_eq_t, ↓ni_eq_f, ↓ni_beq_t, ↓ni_beq_f, it_X1_fewestOffered, ho.1, ho.2]
    exact hq
  | j + 1, i, x, e => by
    have ih := fun x => l_X1_fewest ho ha hO hn hm Q hq j (i + 1) x (by omega)
    obtain ⟨f, a1, a2⟩ := ha
    rw [fwI_succ] at ih
    have p8 : 2 ^ n ≤ 2 ^ 8 := Nat.pow_le_pow_right (by omega) hn
    have b1 : m &&& stb n w < 2 ^ n := Nat.and_lt_two_pow _ (stb_lt n w)
    have b2 := ofS_lt w i
    apply rx_wp_sound 60 [4]
    simp (disch := first | decide | omega) only [rx_W, rx_wp_succ, rx_nx_stop, rx_nx_go, rx_lx_some, rx_fx_some, rx_ax_some, rx_qx_some, rx_ox_some, rx_vx_ref, rx_ix_ref, rx_ld_0, rx_ld_2, rx_ld_3, rx_cx_some, rx_nl, List.getElem?_cons_zero, List.getElem?_cons_succ, List.set_cons_zero, List.set_cons_succ, List.length_cons, List.length_nil, List.take_succ_cons, List.take_zero, List.drop_succ_cons, List.drop_zero, List.reverse_cons, List.reverse_nil, List.nil_append, List.cons_append, Option.toList_some, Option.toList_none, true_and, and_true, and_self, true_or, or_true, false_and, and_false, false_or, or_false, not_false_eq_true, Nat.reduceAdd, Nat.reduceLT, Nat.reduceLeDiff, Nat.reduceBEq, Nat.reduceEqDiff, Bool.or_false, Bool.false_or, if_true, if_false, Bool.false_eq_true, nq_eq, nq_lt, nq_le, nq_in_t, nq_bd, nq_ft, nq_clamp, nq_shl31, nq_shr31, nq_bitb, nq_add, nq_mul, fa_and, fa_or, nq_b0, nq_b1, nq_b01, ↓ni_lt_t, ↓ni_lt_f, ↓ni_le_t, ↓ni_le_f, ↓ni_eq_t, ↓ni_eq_f, ↓ni_beq_t, ↓ni_beq_f, it_X1_fewestOffered, q_X7_has, q_bitCount, ho.1, ho.2, a1, a2, hO]
    split
    · next h1 => rw [if_neg (by rw [h1]; simp)] at ih; exact ih _
    · next h1 =>
      have h1 : (m &&& stb n w).testBit i = true := by simpa using h1
      split
      · next h2 => rw [if_pos ⟨h1, Or.inl h2⟩] at ih; exact ih _
      · next h2 =>
        split
        · next h3 => rw [if_neg (by rintro ⟨-, z | z⟩; exact h2 z; exact Int32.not_lt.mpr h3 z)] at ih; exact ih _
        · next h3 => rw [if_pos ⟨h1, Or.inr (Int32.not_le.mp h3)⟩] at ih; exact ih _
theorem q_X1_fewestOffered {h : rx_H} {q n : Nat} {w : Nat → Nat} (hk : oK h q n w) (hn : n ≤ 8) {m : Nat} (hm : m < 2 ^ n) (Q : Option Value → rx_H → Prop) : rx_Cl 19 [.ref q, .int (nI m)] h Q = Q (some (.int (fwI n w m n))) h := by
  obtain ⟨lo, O, R, N, F, A, ho, ⟨a1, -⟩, e1, -⟩ := hk
  refine rx_Cl_eq ?_ Q
  apply en_X1_fewestOffered _ _ 40 [4]
  simp (disch := first | decide | omega) only [rx_W, rx_wp_succ, rx_nx_stop, rx_nx_go, rx_lx_some, rx_fx_some, rx_ax_some, rx_qx_some, rx_ox_some, rx_vx_ref, rx_ix_ref, rx_ld_0, rx_ld_2, rx_ld_3, rx_cx_some, rx_nl, List.getElem?_cons_zero, List.getElem?_cons_succ, List.set_cons_zero, List.set_cons_succ, List.length_cons, List.length_nil, List.take_succ_cons, List.take_zero, List.drop_succ_cons, List.drop_zero, List.reverse_cons, List.reverse_nil, List.nil_append, List.cons_append, Option.toList_some, Option.toList_none, true_and, and_true, and_self, true_or, or_true, false_and, and_false, false_or, or_false, not_false_eq_true, Nat.reduceAdd, Nat.reduceLT, Nat.reduceLeDiff, Nat.reduceBEq, Nat.reduceEqDiff, Bool.or_false, Bool.false_or, if_true, if_false, Bool.false_eq_true, nq_eq, nq_lt, nq_le, nq_in_t, nq_bd, nq_ft, nq_clamp, nq_shl31, nq_shr31, nq_bitb, nq_add, nq_mul, fa_and, fa_or, nq_b0, nq_b1, nq_b01, ↓ni_lt_t, ↓ni_lt_f, ↓ni_le_t, ↓ni_le_f, ↓ni_eq_t, ↓ni_eq_f, ↓ni_beq_t, ↓ni_beq_f, it_X1_fewestOffered]
  exact l_X1_fewest ho a1 e1 hn hm _ ⟨rfl, rfl⟩ n 0 _ (by omega)
