/-! ===== Outlook: its object ===== -/
def oO (h : rx_H) (q fr sb lo n : Nat) : Prop := rx_rd h q = some (.inr (1, [.int (nI fr), .int (nI sb), .int (nI lo), .int (nI n), .ref (q + 1), .ref (q + 2), .ref (q + 3), .ref (q + 4), .ref (q + 5)])) ∧ ¬ q = 0
theorem oO_fr {h h' : rx_H} {A : List Nat} {q fr sb lo n : Nat} (hf : Fr h h' A) (hi : q ∉ A) (ho : oO h q fr sb lo n) : oO h' q fr sb lo n := ⟨(hf.2.2 q hi).trans ho.1, ho.2⟩
/-! ===== lost ===== -/
def good (w : Nat → Nat) (n T : Nat) : Prop := ∀ s, T.testBit s = true → s < n ∧ ¬ w (s * 5 + 4) &&& T = 0
def isLost (w : Nat → Nat) (n S : Nat) : Prop := good w n S ∧ ∀ T, good w n T → sub T S
theorem isLost_one {w : Nat → Nat} {n S T : Nat} (h1 : isLost w n S) (h2 : isLost w n T) : S = T := sub_antisymm (h2.2 S h1.1) (h1.2 T h2.1)
theorem clr_bit (y s i : Nat) : (y ^^^ (y &&& 2 ^ s)).testBit i = true ↔ y.testBit i = true ∧ ¬ s = i := by
  rw [Nat.testBit_xor, Nat.testBit_and, Nat.testBit_two_pow]
  by_cases e : s = i
  · subst e; cases y.testBit s <;> simp
  · cases y.testBit i <;> simp [e]
theorem clr_sub (y s : Nat) : sub (y ^^^ (y &&& 2 ^ s)) y := fun i hi => ((clr_bit y s i).mp hi).1
theorem clr_no {y s : Nat} (h : ¬ y.testBit s = true) : y ^^^ (y &&& 2 ^ s) = y := bit_ext fun i => by
  rw [clr_bit]
  exact ⟨fun z => z.1, fun z => ⟨z, fun e => h (by rw [e]; exact z)⟩⟩
theorem sub_lt {a b n : Nat} (h : sub a b) (hb : b < 2 ^ n) : a < 2 ^ n := by
  apply Nat.lt_of_not_le
  intro hle
  obtain ⟨i, hi, h2⟩ := Nat.exists_ge_and_testBit_of_ge_two_pow hle
  have := bit_lt hb (h i h2)
  omega
theorem and_sub {a b c : Nat} (h : sub b c) (h0 : a &&& c = 0) : a &&& b = 0 := by
  apply bit_ext
  intro i
  rw [Nat.testBit_and]
  constructor
  · intro z
    rw [Bool.and_eq_true] at z
    have : (a &&& c).testBit i = true := by rw [Nat.testBit_and, z.1, h i z.2]; rfl
    rw [h0] at this
    exact this
  · intro z; simp at z
theorem full_bit (n i : Nat) : (2 ^ n - 1).testBit i = true ↔ i < n := by
  rw [Nat.testBit_two_pow_sub_one]; simp
theorem good_full {w : Nat → Nat} {n T : Nat} (h : good w n T) : sub T (2 ^ n - 1) := fun i hi => (full_bit n i).mpr (h i hi).1
theorem cnt_0 {n a : Nat} (ha : a < 2 ^ n) (h : cnt n a = 0) : a = 0 := by
  apply bit_ext
  intro i
  constructor
  · intro hi
    have := cnt_pos hi (bit_lt ha hi)
    omega
  · intro hi; simp at hi
theorem l_X1_lost_in {h : rx_H} {q o n fr sb lo : Nat} {w : Nat → Nat} (ho : oO h q fr sb lo n) (hp : pW h o n w) (hn : n ≤ 8) (hw : ∀ j, j < 40 → w j < 256) {X rd : Nat} (hX : X < 2 ^ n) (Q : Option Value → rx_H → Prop)
    (hq : ∀ Y, sub Y X → (∀ T, good w n T → sub T X → sub T Y) → (Y = X → good w n X) → rx_R 20 58 [.ref q, .ref o, .int (nI Y), .int (nI rd), .int (nI n)] [] h Q) :
    ∀ j s Y, s + j = n → sub Y X → (∀ T, good w n T → sub T X → sub T Y) → (Y = X → ∀ t, t < s → X.testBit t = true → ¬ w (t * 5 + 4) &&& X = 0) → rx_R 20 22 [.ref q, .ref o, .int (nI Y), .int (nI rd), .int (nI s)] [] h Q
  | 0, s, Y, e, h1, h2, h3 => by
    have e' : s = n := by omega
    subst e'
    apply rx_wp_sound 40 [22, 58]
    simp (disch := first | decide | omega) only [rx_W, rx_wp_succ, rx_nx_stop, rx_nx_go, rx_lx_some, rx_fx_some, rx_ax_some, rx_qx_some, rx_ox_some, rx_vx_ref, rx_ix_ref, rx_ld_0, rx_ld_2, rx_ld_3, rx_cx_some, rx_nl, List.getElem?_cons_zero, List.getElem?_cons_succ, List.set_cons_zero, List.set_cons_succ, List.length_cons, List.length_nil, List.take_succ_cons, List.take_zero, List.drop_succ_cons, List.drop_zero, List.reverse_cons, List.reverse_nil, List.nil_append, List.cons_append, Option.toList_some, Option.toList_none, true_and, and_true, and_self, true_or, or_true, false_and, and_false, false_or, or_false, not_false_eq_true, Nat.reduceAdd, Nat.reduceLT, Nat.reduceLeDiff, Nat.reduceBEq, Nat.reduceEqDiff, Bool.or_false, Bool.false_or, if_true, if_false, Bool.false_eq_true, nq_eq, nq_lt, nq_le, nq_in_t, nq_bd, nq_ft, nq_clamp, nq_shl31, nq_shr31, nq_bitb, nq_add, nq_mul, fa_and, fa_or, nq_b0, nq_b1, nq_b01, ↓ni_lt_t, ↓ni_lt_f, ↓ni_le_t, ↓ni_le_f, ↓ni_eq_t, ↓ni_eq_f, ↓ni_beq_t, ↓ni_beq_f, it_X1_findLost, ho.1, ho.2]
    exact hq Y h1 h2 (fun z t ht => ⟨bit_lt hX ht, h3 z t (bit_lt hX ht) ht⟩)
  | j + 1, s, Y, e, h1, h2, h3 => by
    have hY : Y < 2 ^ n := sub_lt h1 hX
    have p8 : 2 ^ n ≤ 2 ^ 8 := Nat.pow_le_pow_right (by omega) hn
    have b1 := hw (s * 5 + 4) (by omega)
    have b2 : w (s * 5 + 4) &&& Y < 256 := Nat.and_lt_two_pow (n := 8) _ (by omega)
    apply rx_wp_sound 40 [22, 58]
    simp (disch := first | decide | omega) only [rx_W, rx_wp_succ, rx_nx_stop, rx_nx_go, rx_lx_some, rx_fx_some, rx_ax_some, rx_qx_some, rx_ox_some, rx_vx_ref, rx_ix_ref, rx_ld_0, rx_ld_2, rx_ld_3, rx_cx_some, rx_nl, List.getElem?_cons_zero, List.getElem?_cons_succ, List.set_cons_zero, List.set_cons_succ, List.length_cons, List.length_nil, List.take_succ_cons, List.take_zero, List.drop_succ_cons, List.drop_zero, List.reverse_cons, List.reverse_nil, List.nil_append, List.cons_append, Option.toList_some, Option.toList_none, true_and, and_true, and_self, true_or, or_true, false_and, and_false, false_or, or_false, not_false_eq_true, Nat.reduceAdd, Nat.reduceLT, Nat.reduceLeDiff, Nat.reduceBEq, Nat.reduceEqDiff, Bool.or_false, Bool.false_or, if_true, if_false, Bool.false_eq_true, nq_eq, nq_lt, nq_le, nq_in_t, nq_bd, nq_ft, nq_clamp, nq_shl31, nq_shr31, nq_bitb, nq_add, nq_mul, fa_and, fa_or, nq_b0, nq_b1, nq_b01, ↓ni_lt_t, ↓ni_lt_f, ↓ni_le_t, ↓ni_le_f, ↓ni_eq_t, ↓ni_eq_f, ↓ni_beq_t, ↓ni_beq_f, it_X1_findLost, q_X4_targets hp, ho.1, ho.2, hp.1, hp.2.2, nq_andn, Nat.one_mul]
    split
    · next h0 =>
      refine l_X1_lost_in ho hp hn hw hX Q hq j (s + 1) _ (by omega) (sub_trans (clr_sub Y s) h1) (fun T t1 t2 i hi => (clr_bit Y s i).mpr ⟨h2 T t1 t2 i hi, fun e1 => ?_⟩) (fun z t ht hb => ?_)
      · subst e1
        exact (t1 s hi).2 (and_sub (h2 T t1 t2) h0)
      · have hYX : Y = X := sub_antisymm h1 (by rw [← z]; exact clr_sub Y s)
        by_cases e1 : t = s
        · subst e1
          rw [← z] at hb
          exact absurd rfl ((clr_bit Y t t).mp hb).2
        · exact h3 hYX t (by omega) hb
    · next h0 =>
      refine l_X1_lost_in ho hp hn hw hX Q hq j (s + 1) _ (by omega) h1 h2 (fun z t ht hb => ?_)
      by_cases e1 : t = s
      · subst e1
        rw [z] at h0
        exact h0
      · exact h3 z t (by omega) hb
theorem l_X1_lost {h : rx_H} {q o n fr sb lo : Nat} {w : Nat → Nat} (ho : oO h q fr sb lo n) (hp : pW h o n w) (hn : n ≤ 8) (hw : ∀ j, j < 40 → w j < 256) (Q : Option Value → rx_H → Prop) (hq : ∀ S, isLost w n S → S < 2 ^ n → Q none (rx_up h q (.inr (1, [.int (nI fr), .int (nI sb), .int (nI S), .int (nI n), .ref (q + 1), .ref (q + 2), .ref (q + 3), .ref (q + 4), .ref (q + 5)])))) :
    ∀ j rd X x, rd + j = n → X < 2 ^ n → (∀ T, good w n T → sub T X) → (good w n X ∨ cnt n X + rd ≤ n) → rx_R 20 11 [.ref q, .ref o, .int (nI X), .int (nI rd), x] [] h Q
  | 0, rd, X, x, e, h1, h2, h3 => by
    have e' : rd = n := by omega
    subst e'
    have hg : good w rd X := by
      rcases h3 with z | z
      · exact z
      · have := cnt_0 h1 (by omega)
        subst this
        intro s hs
        simp at hs
    apply rx_wp_sound 40 [11, 22]
    simp (disch := first | decide | omega) only [rx_W, rx_wp_succ, rx_nx_stop, rx_nx_go, rx_lx_some, rx_fx_some, rx_ax_some, rx_qx_some, rx_ox_some, rx_vx_ref, rx_ix_ref, rx_ld_0, rx_ld_2, rx_ld_3, rx_cx_some, rx_nl, List.getElem?_cons_zero, List.getElem?_cons_succ, List.set_cons_zero, List.set_cons_succ, List.length_cons, List.length_nil, List.take_succ_cons, List.take_zero, List.drop_succ_cons, List.drop_zero, List.reverse_cons, List.reverse_nil, List.nil_append, List.cons_append, Option.toList_some, Option.toList_none, true_and, and_true, and_self, true_or, or_true, false_and, and_false, false_or, or_false, not_false_eq_true, Nat.reduceAdd, Nat.reduceLT, Nat.reduceLeDiff, Nat.reduceBEq, Nat.reduceEqDiff, Bool.or_false, Bool.false_or, if_true, if_false, Bool.false_eq_true, nq_eq, nq_lt, nq_le, nq_in_t, nq_bd, nq_ft, nq_clamp, nq_shl31, nq_shr31, nq_bitb, nq_add, nq_mul, fa_and, fa_or, nq_b0, nq_b1, nq_b01, ↓ni_lt_t, ↓ni_lt_f, ↓ni_le_t, ↓ni_le_f, ↓ni_eq_t, ↓ni_eq_f, ↓ni_beq_t, ↓ni_beq_f, it_X1_findLost, ho.1, ho.2, rx_fit]
    exact hq X ⟨hg, h2⟩ h1
  | j + 1, rd, X, x, e, h1, h2, h3 => by
    apply rx_wp_sound 40 [11, 22]
    simp (disch := first | decide | omega) only [rx_W, rx_wp_succ, rx_nx_stop, rx_nx_go, rx_lx_some, rx_fx_some, rx_ax_some, rx_qx_some, rx_ox_some, rx_vx_ref, rx_ix_ref, rx_ld_0, rx_ld_2, rx_ld_3, rx_cx_some, rx_nl, List.getElem?_cons_zero, List.getElem?_cons_succ, List.set_cons_zero, List.set_cons_succ, List.length_cons, List.length_nil, List.take_succ_cons, List.take_zero, List.drop_succ_cons, List.drop_zero, List.reverse_cons, List.reverse_nil, List.nil_append, List.cons_append, Option.toList_some, Option.toList_none, true_and, and_true, and_self, true_or, or_true, false_and, and_false, false_or, or_false, not_false_eq_true, Nat.reduceAdd, Nat.reduceLT, Nat.reduceLeDiff, Nat.reduceBEq, Nat.reduceEqDiff, Bool.or_false, Bool.false_or, if_true, if_false, Bool.false_eq_true, nq_eq, nq_lt, nq_le, nq_in_t, nq_bd, nq_ft, nq_clamp, nq_shl31, nq_shr31, nq_bitb, nq_add, nq_mul, fa_and, fa_or, nq_b0, nq_b1, nq_b01, ↓ni_lt_t, ↓ni_lt_f, ↓ni_le_t, ↓ni_le_f, ↓ni_eq_t, ↓ni_eq_f, ↓ni_beq_t, ↓ni_beq_f, it_X1_findLost, ho.1, ho.2]
    refine l_X1_lost_in ho hp hn hw h1 Q (fun Y y1 y2 y3 => ?_) n 0 X (by omega) (sub_rfl X) (fun T _ t2 => t2) (fun _ t ht => by omega)
    apply rx_wp_sound 40 [11]
    simp (disch := first | decide | omega) only [rx_W, rx_wp_succ, rx_nx_stop, rx_nx_go, rx_lx_some, rx_fx_some, rx_ax_some, rx_qx_some, rx_ox_some, rx_vx_ref, rx_ix_ref, rx_ld_0, rx_ld_2, rx_ld_3, rx_cx_some, rx_nl, List.getElem?_cons_zero, List.getElem?_cons_succ, List.set_cons_zero, List.set_cons_succ, List.length_cons, List.length_nil, List.take_succ_cons, List.take_zero, List.drop_succ_cons, List.drop_zero, List.reverse_cons, List.reverse_nil, List.nil_append, List.cons_append, Option.toList_some, Option.toList_none, true_and, and_true, and_self, true_or, or_true, false_and, and_false, false_or, or_false, not_false_eq_true, Nat.reduceAdd, Nat.reduceLT, Nat.reduceLeDiff, Nat.reduceBEq, Nat.reduceEqDiff, Bool.or_false, Bool.false_or, if_true, if_false, Bool.false_eq_true, nq_eq, nq_lt, nq_le, nq_in_t, nq_bd, nq_ft, nq_clamp, nq_shl31, nq_shr31, nq_bitb, nq_add, nq_mul, fa_and, fa_or, nq_b0, nq_b1, nq_b01, ↓ni_lt_t, ↓ni_lt_f, ↓ni_le_t, ↓ni_le_f, ↓ni_eq_t, ↓ni_eq_f, ↓ni_beq_t, ↓ni_beq_f, it_X1_findLost]
    refine l_X1_lost ho hp hn hw Q hq j (rd + 1) Y _ (by omega) (sub_lt y1 h1) (fun T t1 => y2 T t1 (h2 T t1)) ?_
    by_cases e1 : X = Y
    · exact Or.inl (by rw [← e1]; exact y3 e1.symm)
    · rcases h3 with z | z
      · exact absurd (sub_antisymm (y2 X z (sub_rfl X)) y1) e1
      · have := cnt_strict y1 h1 e1
        exact Or.inr (by omega)
theorem c_X1_findLost {h : rx_H} {q o n fr sb lo : Nat} {w : Nat → Nat} (ho : oO h q fr sb lo n) (hp : pW h o n w) (hn : n ≤ 8) (hw : ∀ j, j < 40 → w j < 256) : rx_Cl 20 [.ref q, .ref o] h (fun r h' => r = none ∧ Fr h h' [q] ∧ ∃ S, isLost w n S ∧ S < 2 ^ n ∧ oO h' q fr sb S n) := by
  have p1 := Nat.one_le_two_pow (n := n)
  have p8 : 2 ^ n ≤ 2 ^ 8 := Nat.pow_le_pow_right (by omega) hn
  apply en_X1_findLost _ _ 40 [11]
  simp (disch := first | decide | omega) only [rx_W, rx_wp_succ, rx_nx_stop, rx_nx_go, rx_lx_some, rx_fx_some, rx_ax_some, rx_qx_some, rx_ox_some, rx_vx_ref, rx_ix_ref, rx_ld_0, rx_ld_2, rx_ld_3, rx_cx_some, rx_nl, List.getElem?_cons_zero, List.getElem?_cons_succ, List.set_cons_zero, List.set_cons_succ, List.length_cons, List.length_nil, List.take_succ_cons, List.take_zero, List.drop_succ_cons, List.drop_zero, List.reverse_cons, List.reverse_nil, List.nil_append, List.cons_append, Option.toList_some, Option.toList_none, true_and, and_true, and_self, true_or, or_true, false_and, and_false, false_or, or_false, not_false_eq_true, Nat.reduceAdd, Nat.reduceLT, Nat.reduceLeDiff, Nat.reduceBEq, Nat.reduceEqDiff, Bool.or_false, Bool.false_or, if_true, if_false, Bool.false_eq_true, nq_eq, nq_lt, nq_le, nq_in_t, nq_bd, nq_ft, nq_clamp, nq_shl31, nq_shr31, nq_bitb, nq_add, nq_mul, fa_and, fa_or, nq_b0, nq_b1, nq_b01, ↓ni_lt_t, ↓ni_lt_f, ↓ni_le_t, ↓ni_le_f, ↓ni_eq_t, ↓ni_eq_f, ↓ni_beq_t, ↓ni_beq_f, it_X1_findLost, ho.1, ho.2, Nat.one_mul, nq_sub]
  refine l_X1_lost ho hp hn hw _ (fun S s1 s2 => ⟨rfl, Fr_up (Fr_rfl _ _) (by simp), S, s1, s2, rd_eq _ _ _, ho.2⟩) n 0 (2 ^ n - 1) _ (by omega) (by omega) (fun T t1 => good_full t1) (Or.inr (by have := cnt_le n (2 ^ n - 1); omega))
