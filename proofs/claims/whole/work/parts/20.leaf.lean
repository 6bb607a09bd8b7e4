/-! ===== rows for rewriting small numbers ===== -/
theorem nq_in_t {a n : Nat} (h : a < n) (ha : a < 2 ^ 31) : (¬ (nI a < nI 0 ∨ n ≤ (nI a).toNatClampNeg)) = True := eq_true ((nq_in ha).mpr h)
theorem nq_bd {a n : Nat} (h : a < n) : (¬ (a < 0 ∨ n ≤ a)) = True := eq_true (by omega)
theorem nq_ft (b : Bool) : (b = false ∨ b = true) = True := by cases b <;> simp
theorem nq_b0 (b : Bool) : (nI b.toNat = nI 0) = (b = false) := by
  cases b <;> simp [nq_eq]
theorem nq_b1 (b : Bool) : (nI b.toNat = nI 1) = (b = true) := by
  cases b <;> simp [nq_eq]
theorem nq_b01 (b : Bool) : (nI b.toNat = nI 0 ∨ nI b.toNat = nI 1) = True := by
  cases b <;> simp [nq_eq]
theorem nq_shl31 {k : Nat} (a : Nat) (hk : k < 32) : rx_shl (nI a) (nI k) = nI (a * 2 ^ k) := nq_shl a hk
theorem nq_shr31 {a k : Nat} (ha : a < 2 ^ 31) (hk : k < 32) : rx_shr (nI a) (nI k) = nI (a / 2 ^ k) := nq_shr ha hk
theorem nq_div2 {a k : Nat} : a / 2 ^ k &&& 1 = (a.testBit k).toNat := by
  rw [Nat.and_one_is_mod, Nat.testBit_eq_decide_div_mod_eq (x := a) (i := k)]
  have h3 : a / 2 ^ k % 2 = 0 ∨ a / 2 ^ k % 2 = 1 := by omega
  rcases h3 with h3 | h3 <;> simp [h3]
theorem nq_bitb {a k : Nat} : a / 2 ^ k &&& 1 = (a.testBit k).toNat := nq_div2
theorem ni_lt_t {a b : Nat} {A B : Prop} (h : a < b) (hb : b < 2 ^ 31) : (if nI a < nI b then A else B) = A := if_pos ((nq_lt (by omega) hb).mpr h)
theorem ni_lt_f {a b : Nat} {A B : Prop} (h : b ≤ a) (ha : a < 2 ^ 31) : (if nI a < nI b then A else B) = B := if_neg (fun z => by have := (nq_lt ha (by omega)).mp z; omega)
theorem ni_le_t {a b : Nat} {A B : Prop} (h : a ≤ b) (hb : b < 2 ^ 31) : (if nI a ≤ nI b then A else B) = A := if_pos ((nq_le (by omega) hb).mpr h)
theorem ni_le_f {a b : Nat} {A B : Prop} (h : b < a) (ha : a < 2 ^ 31) : (if nI a ≤ nI b then A else B) = B := if_neg (fun z => by have := (nq_le ha (by omega)).mp z; omega)
theorem ni_eq_t {a b : Nat} {A B : Prop} (h : a = b) : (if nI a = nI b then A else B) = A := if_pos (by rw [h])
theorem ni_eq_f {a b : Nat} {A B : Prop} (h : ¬ a = b) (ha : a < 2 ^ 31) (hb : b < 2 ^ 31) : (if nI a = nI b then A else B) = B := if_neg (fun z => h ((nq_eq ha hb).mp z))
theorem ni_beq_t {b : Bool} {A B : Prop} (h : b = true) : (if nI b.toNat = nI 0 then A else B) = B := if_neg (by rw [nq_b0, h]; exact fun z => by cases z)
theorem ni_beq_f {b : Bool} {A B : Prop} (h : b = false) : (if nI b.toNat = nI 0 then A else B) = A := if_pos (by rw [nq_b0, h])
def inR (p : Int32) (n : Nat) : Bool := decide (nI 0 ≤ p ∧ p < nI n)
theorem inR_t {p : Int32} {n : Nat} (hn : n < 2 ^ 31) (h : inR p n = true) : ∃ k, k < n ∧ p = nI k := by
  simp only [inR, decide_eq_true_eq] at h
  obtain ⟨k, hk, rfl⟩ := nq_of h.1
  exact ⟨k, (nq_lt hk hn).mp h.2, rfl⟩
theorem inR_of {k n : Nat} (h : k < n) (hn : n < 2 ^ 31) : inR (nI k) n = true := by
  simp only [inR, decide_eq_true_eq]
  exact ⟨nI_pos' (by omega), (nq_lt (by omega) hn).mpr h⟩
theorem nq_le_lt {p : Int32} {n : Nat} (hn : n + 1 < 2 ^ 31) : p ≤ nI n ↔ p < nI (n + 1) := by
  rw [fa_le, fa_lt, nI_toInt (by omega), nI_toInt hn]
  omega
/-- how many below n -/
def ctb (p : Nat → Bool) : Nat → Nat
  | 0 => 0
  | n + 1 => ctb p n + (p n).toNat
theorem ctb_succ (p : Nat → Bool) (n : Nat) : ctb p (n + 1) = ctb p n + (p n).toNat := rfl
theorem ctb_le (p : Nat → Bool) : ∀ n, ctb p n ≤ n
  | 0 => Nat.le_refl _
  | n + 1 => by
    have := ctb_le p n
    have h2 : (p n).toNat ≤ 1 := Bool.toNat_le _
    show ctb p n + (p n).toNat ≤ n + 1
    omega
/-! ===== the leaves of both ===== -/
theorem q_X7_has {a k : Nat} (ha : a < 2 ^ 31) (hk : k < 32) (h : rx_H) (Q : Option Value → rx_H → Prop) : rx_Cl 103 [.int (nI a), .int (nI k)] h Q = Q (some (.int (nI (a.testBit k).toNat))) h := by
  refine rx_Cl_eq ?_ Q
  apply en_X7_has _ _ 40 []
  simp (disch := first | decide | omega) only [rx_W, rx_wp_succ, rx_nx_stop, rx_nx_go, rx_lx_some, rx_fx_some, rx_ax_some, rx_qx_some, rx_ox_some, rx_vx_ref, rx_ix_ref, rx_ld_0, rx_ld_2, rx_ld_3, rx_cx_some, rx_nl, List.getElem?_cons_zero, List.getElem?_cons_succ, List.set_cons_zero, List.set_cons_succ, List.length_cons, List.length_nil, List.take_succ_cons, List.take_zero, List.drop_succ_cons, List.drop_zero, List.reverse_cons, List.reverse_nil, List.nil_append, List.cons_append, Option.toList_some, Option.toList_none, true_and, and_true, and_self, true_or, or_true, false_and, and_false, false_or, or_false, not_false_eq_true, Nat.reduceAdd, Nat.reduceLT, Nat.reduceLeDiff, Nat.reduceBEq, Nat.reduceEqDiff, Bool.or_false, Bool.false_or, if_true, if_false, Bool.false_eq_true, nq_eq, nq_lt, nq_le, nq_in_t, nq_bd, nq_ft, nq_clamp, nq_shl31, nq_shr31, nq_bitb, nq_add, nq_mul, fa_and, fa_or, nq_b0, nq_b1, nq_b01, ↓ni_lt_t, ↓ni_lt_f, ↓ni_le_t, ↓ni_le_f, ↓ni_eq_t, ↓ni_eq_f, ↓ni_beq_t, ↓ni_beq_f, it_X7_has]
  cases a.testBit k <;> simp
theorem q_X8_has {a k : Nat} (ha : a < 2 ^ 31) (hk : k < 32) (h : rx_H) (Q : Option Value → rx_H → Prop) : rx_Cl 106 [.int (nI a), .int (nI k)] h Q = Q (some (.int (nI (a.testBit k).toNat))) h := by
  refine rx_Cl_eq ?_ Q
  apply en_X8_has _ _ 40 []
  simp (disch := first | decide | omega) only [rx_W, rx_wp_succ, rx_nx_stop, rx_nx_go, rx_lx_some, rx_fx_some, rx_ax_some, rx_qx_some, rx_ox_some, rx_vx_ref, rx_ix_ref, rx_ld_0, rx_ld_2, rx_ld_3, rx_cx_some, rx_nl, List.getElem?_cons_zero, List.getElem?_cons_succ, List.set_cons_zero, List.set_cons_succ, List.length_cons, List.length_nil, List.take_succ_cons, List.take_zero, List.drop_succ_cons, List.drop_zero, List.reverse_cons, List.reverse_nil, List.nil_append, List.cons_append, Option.toList_some, Option.toList_none, true_and, and_true, and_self, true_or, or_true, false_and, and_false, false_or, or_false, not_false_eq_true, Nat.reduceAdd, Nat.reduceLT, Nat.reduceLeDiff, Nat.reduceBEq, Nat.reduceEqDiff, Bool.or_false, Bool.false_or, if_true, if_false, Bool.false_eq_true, nq_eq, nq_lt, nq_le, nq_in_t, nq_bd, nq_ft, nq_clamp, nq_shl31, nq_shr31, nq_bitb, nq_add, nq_mul, fa_and, fa_or, nq_b0, nq_b1, nq_b01, ↓ni_lt_t, ↓ni_lt_f, ↓ni_le_t, ↓ni_le_f, ↓ni_eq_t, ↓ni_eq_f, ↓ni_beq_t, ↓ni_beq_f, it_X8_has]
  cases a.testBit k <;> simp
theorem q_X7_isProcess (p : Int32) (h : rx_H) (Q : Option Value → rx_H → Prop) : rx_Cl 99 [.int p] h Q = Q (some (.int (nI (inR p 4).toNat))) h := by
  refine rx_Cl_eq ?_ Q
  apply en_X7_isProcess _ 40 []
  simp (disch := first | decide | omega) only [rx_W, rx_wp_succ, rx_nx_stop, rx_nx_go, rx_lx_some, rx_fx_some, rx_ax_some, rx_qx_some, rx_ox_some, rx_vx_ref, rx_ix_ref, rx_ld_0, rx_ld_2, rx_ld_3, rx_cx_some, rx_nl, List.getElem?_cons_zero, List.getElem?_cons_succ, List.set_cons_zero, List.set_cons_succ, List.length_cons, List.length_nil, List.take_succ_cons, List.take_zero, List.drop_succ_cons, List.drop_zero, List.reverse_cons, List.reverse_nil, List.nil_append, List.cons_append, Option.toList_some, Option.toList_none, true_and, and_true, and_self, true_or, or_true, false_and, and_false, false_or, or_false, not_false_eq_true, Nat.reduceAdd, Nat.reduceLT, Nat.reduceLeDiff, Nat.reduceBEq, Nat.reduceEqDiff, Bool.or_false, Bool.false_or, if_true, if_false, Bool.false_eq_true, it_X7_isProcess, inR]
  by_cases h1 : p < nI 0
  · simp [h1, Int32.not_le.mpr h1]
  · by_cases h2 : nI 4 ≤ p
    · simp [h1, h2, Int32.not_lt.mpr h2]
    · simp [h1, h2, Int32.not_lt.mp h1, Int32.not_le.mp h2]
theorem q_X7_isLetter (p : Int32) (h : rx_H) (Q : Option Value → rx_H → Prop) : rx_Cl 100 [.int p] h Q = Q (some (.int (nI (inR p 4).toNat))) h := by
  refine rx_Cl_eq ?_ Q
  apply en_X7_isLetter _ 40 []
  simp (disch := first | decide | omega) only [rx_W, rx_wp_succ, rx_nx_stop, rx_nx_go, rx_lx_some, rx_fx_some, rx_ax_some, rx_qx_some, rx_ox_some, rx_vx_ref, rx_ix_ref, rx_ld_0, rx_ld_2, rx_ld_3, rx_cx_some, rx_nl, List.getElem?_cons_zero, List.getElem?_cons_succ, List.set_cons_zero, List.set_cons_succ, List.length_cons, List.length_nil, List.take_succ_cons, List.take_zero, List.drop_succ_cons, List.drop_zero, List.reverse_cons, List.reverse_nil, List.nil_append, List.cons_append, Option.toList_some, Option.toList_none, true_and, and_true, and_self, true_or, or_true, false_and, and_false, false_or, or_false, not_false_eq_true, Nat.reduceAdd, Nat.reduceLT, Nat.reduceLeDiff, Nat.reduceBEq, Nat.reduceEqDiff, Bool.or_false, Bool.false_or, if_true, if_false, Bool.false_eq_true, it_X7_isLetter, inR]
  by_cases h1 : p < nI 0
  · simp [h1, Int32.not_le.mpr h1]
  · by_cases h2 : nI 4 ≤ p
    · simp [h1, h2, Int32.not_lt.mpr h2]
    · simp [h1, h2, Int32.not_lt.mp h1, Int32.not_le.mp h2]
theorem q_X7_isKind (p : Int32) (h : rx_H) (Q : Option Value → rx_H → Prop) : rx_Cl 101 [.int p] h Q = Q (some (.int (nI (inR p 5).toNat))) h := by
  refine rx_Cl_eq ?_ Q
  apply en_X7_isKind _ 40 []
  simp (disch := first | decide | omega) only [rx_W, rx_wp_succ, rx_nx_stop, rx_nx_go, rx_lx_some, rx_fx_some, rx_ax_some, rx_qx_some, rx_ox_some, rx_vx_ref, rx_ix_ref, rx_ld_0, rx_ld_2, rx_ld_3, rx_cx_some, rx_nl, List.getElem?_cons_zero, List.getElem?_cons_succ, List.set_cons_zero, List.set_cons_succ, List.length_cons, List.length_nil, List.take_succ_cons, List.take_zero, List.drop_succ_cons, List.drop_zero, List.reverse_cons, List.reverse_nil, List.nil_append, List.cons_append, Option.toList_some, Option.toList_none, true_and, and_true, and_self, true_or, or_true, false_and, and_false, false_or, or_false, not_false_eq_true, Nat.reduceAdd, Nat.reduceLT, Nat.reduceLeDiff, Nat.reduceBEq, Nat.reduceEqDiff, Bool.or_false, Bool.false_or, if_true, if_false, Bool.false_eq_true, it_X7_isKind, inR]
  by_cases h1 : p < nI 0
  · simp [h1, Int32.not_le.mpr h1]
  · by_cases h2 : nI 5 ≤ p
    · simp [h1, h2, Int32.not_lt.mpr h2]
    · simp [h1, h2, Int32.not_lt.mp h1, Int32.not_le.mp h2]
theorem q_X7_isLetterSet (p : Int32) (h : rx_H) (Q : Option Value → rx_H → Prop) : rx_Cl 102 [.int p] h Q = Q (some (.int (nI (inR p 16).toNat))) h := by
  refine rx_Cl_eq ?_ Q
  apply en_X7_isLetterSet _ 40 []
  simp (disch := first | decide | omega) only [rx_W, rx_wp_succ, rx_nx_stop, rx_nx_go, rx_lx_some, rx_fx_some, rx_ax_some, rx_qx_some, rx_ox_some, rx_vx_ref, rx_ix_ref, rx_ld_0, rx_ld_2, rx_ld_3, rx_cx_some, rx_nl, List.getElem?_cons_zero, List.getElem?_cons_succ, List.set_cons_zero, List.set_cons_succ, List.length_cons, List.length_nil, List.take_succ_cons, List.take_zero, List.drop_succ_cons, List.drop_zero, List.reverse_cons, List.reverse_nil, List.nil_append, List.cons_append, Option.toList_some, Option.toList_none, true_and, and_true, and_self, true_or, or_true, false_and, and_false, false_or, or_false, not_false_eq_true, Nat.reduceAdd, Nat.reduceLT, Nat.reduceLeDiff, Nat.reduceBEq, Nat.reduceEqDiff, Bool.or_false, Bool.false_or, if_true, if_false, Bool.false_eq_true, it_X7_isLetterSet, inR]
  by_cases h1 : p < nI 0
  · simp [h1, Int32.not_le.mpr h1]
  · by_cases h2 : nI 16 ≤ p
    · simp [h1, h2, Int32.not_lt.mpr h2]
    · simp [h1, h2, Int32.not_lt.mp h1, Int32.not_le.mp h2]
theorem q_X8_within (v : Int32) {b : Nat} (hb : b + 1 < 2 ^ 31) (h : rx_H) (Q : Option Value → rx_H → Prop) : rx_Cl 105 [.int v, .int (nI 0), .int (nI b)] h Q = Q (some (.int (nI (inR v (b + 1)).toNat))) h := by
  refine rx_Cl_eq ?_ Q
  apply en_X8_within _ _ _ 40 []
  simp (disch := first | decide | omega) only [rx_W, rx_wp_succ, rx_nx_stop, rx_nx_go, rx_lx_some, rx_fx_some, rx_ax_some, rx_qx_some, rx_ox_some, rx_vx_ref, rx_ix_ref, rx_ld_0, rx_ld_2, rx_ld_3, rx_cx_some, rx_nl, List.getElem?_cons_zero, List.getElem?_cons_succ, List.set_cons_zero, List.set_cons_succ, List.length_cons, List.length_nil, List.take_succ_cons, List.take_zero, List.drop_succ_cons, List.drop_zero, List.reverse_cons, List.reverse_nil, List.nil_append, List.cons_append, Option.toList_some, Option.toList_none, true_and, and_true, and_self, true_or, or_true, false_and, and_false, false_or, or_false, not_false_eq_true, Nat.reduceAdd, Nat.reduceLT, Nat.reduceLeDiff, Nat.reduceBEq, Nat.reduceEqDiff, Bool.or_false, Bool.false_or, if_true, if_false, Bool.false_eq_true, it_X8_within, inR]
  by_cases h1 : v < nI 0
  · simp [h1, Int32.not_le.mpr h1]
  · by_cases h2 : nI b < v
    · have h3 : ¬ v < nI (b + 1) := fun z => Int32.not_le.mpr h2 ((nq_le_lt hb).mpr z)
      simp [h1, h2, h3]
    · have h3 := (nq_le_lt hb).mp (Int32.not_lt.mp h2)
      simp [h1, h2, h3, Int32.not_lt.mp h1]
theorem q_X8_isProcess (p : Int32) (h : rx_H) (Q : Option Value → rx_H → Prop) : rx_Cl 109 [.int p] h Q = Q (some (.int (nI (inR p 4).toNat))) h := by
  refine rx_Cl_eq ?_ Q
  apply en_X8_isProcess _ 40 []
  simp (disch := first | decide | omega) only [rx_W, rx_wp_succ, rx_nx_stop, rx_nx_go, rx_lx_some, rx_fx_some, rx_ax_some, rx_qx_some, rx_ox_some, rx_vx_ref, rx_ix_ref, rx_ld_0, rx_ld_2, rx_ld_3, rx_cx_some, rx_nl, List.getElem?_cons_zero, List.getElem?_cons_succ, List.set_cons_zero, List.set_cons_succ, List.length_cons, List.length_nil, List.take_succ_cons, List.take_zero, List.drop_succ_cons, List.drop_zero, List.reverse_cons, List.reverse_nil, List.nil_append, List.cons_append, Option.toList_some, Option.toList_none, true_and, and_true, and_self, true_or, or_true, false_and, and_false, false_or, or_false, not_false_eq_true, Nat.reduceAdd, Nat.reduceLT, Nat.reduceLeDiff, Nat.reduceBEq, Nat.reduceEqDiff, Bool.or_false, Bool.false_or, if_true, if_false, Bool.false_eq_true, it_X8_isProcess, q_X8_within, nq_b01]
theorem l_X8_ones {a : Nat} (ha : a < 2 ^ 31) (h : rx_H) (Q : Option Value → rx_H → Prop) (hq : Q (some (.int (nI (ctb a.testBit 8)))) h) : ∀ j i, i + j = 8 → rx_R 107 4 [.int (nI a), .int (nI (ctb a.testBit i)), .int (nI i)] [] h Q
  | 0, i, e => by
    have e' : i = 8 := by omega
    subst e'
    apply rx_wp_sound 40 [4]
    simp (disch := first | decide | omega) only [rx_W, rx_wp_succ, rx_nx_stop, rx_nx_go, rx_lx_some, rx_fx_some, rx_ax_some, rx_qx_some, rx_ox_some, rx_vx_ref, rx_ix_ref, rx_ld_0, rx_ld_2, rx_ld_3, rx_cx_some, rx_nl, List.getElem?_cons_zero, List.getElem?_cons_succ, List.set_cons_zero, List.set_cons_succ, List.length_cons, List.length_nil, List.take_succ_cons, List.take_zero, List.drop_succ_cons, List.drop_zero, List.reverse_cons, List.reverse_nil, List.nil_append, List.cons_append, Option.toList_some, Option.toList_none, true_and, and_true, and_self, true_or, or_true, false_and, and_false, false_or, or_false, not_false_eq_true, Nat.reduceAdd, Nat.reduceLT, Nat.reduceLeDiff, Nat.reduceBEq, Nat.reduceEqDiff, Bool.or_false, Bool.false_or, if_true, if_false, Bool.false_eq_true, nq_eq, nq_lt, nq_le, nq_in_t, nq_bd, nq_ft, nq_clamp, nq_shl31, nq_shr31, nq_bitb, nq_add, nq_mul, fa_and, fa_or, nq_b0, nq_b1, nq_b01, ↓ni_lt_t, ↓ni_lt_f, ↓ni_le_t, ↓ni_le_f, ↓ni_eq_t, ↓ni_eq_f, ↓ni_beq_t, ↓ni_beq_f, it_X8_ones]
    exact hq
  | j + 1, i, e => by
    apply rx_wp_sound 40 [4]
    simp (disch := first | decide | omega) only [rx_W, rx_wp_succ, rx_nx_stop, rx_nx_go, rx_lx_some, rx_fx_some, rx_ax_some, rx_qx_some, rx_ox_some, rx_vx_ref, rx_ix_ref, rx_ld_0, rx_ld_2, rx_ld_3, rx_cx_some, rx_nl, List.getElem?_cons_zero, List.getElem?_cons_succ, List.set_cons_zero, List.set_cons_succ, List.length_cons, List.length_nil, List.take_succ_cons, List.take_zero, List.drop_succ_cons, List.drop_zero, List.reverse_cons, List.reverse_nil, List.nil_append, List.cons_append, Option.toList_some, Option.toList_none, true_and, and_true, and_self, true_or, or_true, false_and, and_false, false_or, or_false, not_false_eq_true, Nat.reduceAdd, Nat.reduceLT, Nat.reduceLeDiff, Nat.reduceBEq, Nat.reduceEqDiff, Bool.or_false, Bool.false_or, if_true, if_false, Bool.false_eq_true, nq_eq, nq_lt, nq_le, nq_in_t, nq_bd, nq_ft, nq_clamp, nq_shl31, nq_shr31, nq_bitb, nq_add, nq_mul, fa_and, fa_or, nq_b0, nq_b1, nq_b01, ↓ni_lt_t, ↓ni_lt_f, ↓ni_le_t, ↓ni_le_f, ↓ni_eq_t, ↓ni_eq_f, ↓ni_beq_t, ↓ni_beq_f, it_X8_ones, ← ctb_succ]
    exact l_X8_ones ha h Q hq j (i + 1) (by omega)
theorem q_X8_ones {a : Nat} (ha : a < 2 ^ 31) (h : rx_H) (Q : Option Value → rx_H → Prop) : rx_Cl 107 [.int (nI a)] h Q = Q (some (.int (nI (ctb a.testBit 8)))) h := by
  refine rx_Cl_eq ?_ Q
  apply en_X8_ones _ 40 [4]
  simp (disch := first | decide | omega) only [rx_W, rx_wp_succ, rx_nx_stop, rx_nx_go, rx_lx_some, rx_fx_some, rx_ax_some, rx_qx_some, rx_ox_some, rx_vx_ref, rx_ix_ref, rx_ld_0, rx_ld_2, rx_ld_3, rx_cx_some, rx_nl, List.getElem?_cons_zero, List.getElem?_cons_succ, List.set_cons_zero, List.set_cons_succ, List.length_cons, List.length_nil, List.take_succ_cons, List.take_zero, List.drop_succ_cons, List.drop_zero, List.reverse_cons, List.reverse_nil, List.nil_append, List.cons_append, Option.toList_some, Option.toList_none, true_and, and_true, and_self, true_or, or_true, false_and, and_false, false_or, or_false, not_false_eq_true, Nat.reduceAdd, Nat.reduceLT, Nat.reduceLeDiff, Nat.reduceBEq, Nat.reduceEqDiff, Bool.or_false, Bool.false_or, if_true, if_false, Bool.false_eq_true, nq_eq, nq_lt, nq_le, nq_in_t, nq_bd, nq_ft, nq_clamp, nq_shl31, nq_shr31, nq_bitb, nq_add, nq_mul, fa_and, fa_or, nq_b0, nq_b1, nq_b01, ↓ni_lt_t, ↓ni_lt_f, ↓ni_le_t, ↓ni_le_f, ↓ni_eq_t, ↓ni_eq_f, ↓ni_beq_t, ↓ni_beq_f, it_X8_ones]
  exact l_X8_ones ha h _ ⟨rfl, rfl⟩ 8 0 (by omega)
