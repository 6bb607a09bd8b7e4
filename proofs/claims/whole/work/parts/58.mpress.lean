/-! ===== the reference's presses ===== -/
theorem l_X8_least {x m : Nat} {h : rx_H} (hx : x < 2 ^ 31) (b1 : x.testBit m = true) (b2 : ∀ k, k < m → x.testBit k = false) (hi : m < 16) (Q : Option Value → rx_H → Prop) (hq : Q (some (.int (nI m))) h) : ∀ j k, k + j = m → rx_R 133 2 [.int (nI x), .int (nI k)] [] h Q
  | 0, k, e => by
    have e' : k = m := by omega
    subst e'
    apply rx_wp_sound 60 [2]
    simp (disch := first | decide | omega) only [rx_W, rx_wp_succ, rx_nx_stop, rx_nx_go, rx_lx_some, rx_fx_some, rx_ax_some, rx_qx_some, rx_ox_some, rx_vx_ref, rx_ix_ref, rx_ld_0, rx_ld_2, rx_ld_3, rx_cx_some, rx_nl, List.getElem?_cons_zero, List.getElem?_cons_succ, List.set_cons_zero, List.set_cons_succ, List.length_cons, List.length_nil, List.take_succ_cons, List.take_zero, List.drop_succ_cons, List.drop_zero, List.reverse_cons, List.reverse_nil, List.nil_append, List.cons_append, Option.toList_some, Option.toList_none, true_and, and_true, and_self, true_or, or_true, false_and, and_false, false_or, or_false, not_false_eq_true, Nat.reduceAdd, Nat.reduceLT, Nat.reduceLeDiff, Nat.reduceBEq, Nat.reduceEqDiff, Bool.or_false, Bool.false_or, if_true, if_false, Bool.false_eq_true, nq_eq, nq_lt, nq_le, nq_in_t, nq_bd, nq_ft, nq_clamp, nq_shl31, nq_shr31, nq_bitb, nq_add, nq_mul, fa_and, fa_or, nq_b0, nq_b1, nq_b01, ↓ni_lt_t, ↓ni_lt_f, ↓ni_le_t, ↓ni_le_f, ↓ni_eq_t, ↓ni_eq_f, ↓ni_beq_t, ↓ni_beq_f, it_X8_least, q_X8_has, b1]
    exact hq
  | j + 1, k, e => by
    have c := b2 k (by omega)
    apply rx_wp_sound 60 [2]
    simp (disch := first | decide | omega) only [rx_W, rx_wp_succ, rx_nx_stop, rx_nx_go, rx_lx_some, rx_fx_some, rx_ax_some, rx_qx_some, rx_ox_some, rx_vx_ref, rx_ix_ref, rx_ld_0, rx_ld_2, rx_ld_3, rx_cx_some, rx_nl, List.getElem?_cons_zero, List.getElem?_cons_succ, List.set_cons_zero, List.set_cons_succ, List.length_cons, List.length_nil, List.take_succ_cons, List.take_zero, List.drop_succ_cons, List.drop_zero, List.reverse_cons, List.reverse_nil, List.nil_append, List.cons_append, Option.toList_some, Option.toList_none, true_and, and_true, and_self, true_or, or_true, false_and, and_false, false_or, or_false, not_false_eq_true, Nat.reduceAdd, Nat.reduceLT, Nat.reduceLeDiff, Nat.reduceBEq, Nat.reduceEqDiff, Bool.or_false, Bool.false_or, if_true, if_false, Bool.false_eq_true, nq_eq, nq_lt, nq_le, nq_in_t, nq_bd, nq_ft, nq_clamp, nq_shl31, nq_shr31, nq_bitb, nq_add, nq_mul, fa_and, fa_or, nq_b0, nq_b1, nq_b01, ↓ni_lt_t, ↓ni_lt_f, ↓ni_le_t, ↓ni_le_f, ↓ni_eq_t, ↓ni_eq_f, ↓ni_beq_t, ↓ni_beq_f, it_X8_least, q_X8_has, c]
    exact l_X8_least hx b1 b2 hi Q hq j (k + 1) (by omega)
theorem q_X8_least {x i : Nat} {h : rx_H} (hx : x < 2 ^ 31) (hb : x.testBit i = true) (hi : i < 16) (Q : Option Value → rx_H → Prop) : rx_Cl 133 [.int (nI x)] h Q = Q (some (.int (nI (lb x)))) h := by
  refine rx_Cl_eq ?_ Q
  apply en_X8_least _ 60 [2]
  simp (disch := first | decide | omega) only [rx_W, rx_wp_succ, rx_nx_stop, rx_nx_go, rx_lx_some, rx_fx_some, rx_ax_some, rx_qx_some, rx_ox_some, rx_vx_ref, rx_ix_ref, rx_ld_0, rx_ld_2, rx_ld_3, rx_cx_some, rx_nl, List.getElem?_cons_zero, List.getElem?_cons_succ, List.set_cons_zero, List.set_cons_succ, List.length_cons, List.length_nil, List.take_succ_cons, List.take_zero, List.drop_succ_cons, List.drop_zero, List.reverse_cons, List.reverse_nil, List.nil_append, List.cons_append, Option.toList_some, Option.toList_none, true_and, and_true, and_self, true_or, or_true, false_and, and_false, false_or, or_false, not_false_eq_true, Nat.reduceAdd, Nat.reduceLT, Nat.reduceLeDiff, Nat.reduceBEq, Nat.reduceEqDiff, Bool.or_false, Bool.false_or, if_true, if_false, Bool.false_eq_true, nq_eq, nq_lt, nq_le, nq_in_t, nq_bd, nq_ft, nq_clamp, nq_shl31, nq_shr31, nq_bitb, nq_add, nq_mul, fa_and, fa_or, nq_b0, nq_b1, nq_b01, ↓ni_lt_t, ↓ni_lt_f, ↓ni_le_t, ↓ni_le_f, ↓ni_eq_t, ↓ni_eq_f, ↓ni_beq_t, ↓ni_beq_f, it_X8_least]
  obtain ⟨b1, b2⟩ := lb_yes hb hi
  exact l_X8_least hx b1 (fun k hk => lb_no hk) (by omega) _ ⟨rfl, rfl⟩ (lb x) 0 (by omega)
def nmF (A : Nat → Nat) (sy x : Nat) : Nat → Nat := fun t => if x.testBit t then 2 ^ ctb (sy &&& (2 ^ lb (A t) - 1)).testBit 8 else 0
section NB
variable {h : rx_H} {pa le pl fo : Int32} {z : Int64} {K : Nat → Nat} {R sy x : Nat}
theorem l_X8_nb (h1 : rx_rd h 98 = some (mO pa le pl fo z)) (hK : aN h 106 16 K) (hR : R < 256) (hsy : sy < 256) (hx : x < 256) (hb : ∀ t, x.testBit t = true → (K t &&& R).testBit t = true) (Q : Option Value → rx_H → Prop) (hq : Q (some (.int (nI (un (nmF (fun t => K t &&& R) sy x) 8)))) h) : ∀ j t y, t + j = 8 → rx_R 135 6 [.ref 98, .int (nI x), .int (nI R), .int (nI sy), .int (nI (un (nmF (fun t => K t &&& R) sy x) t)), .int (nI t), y] [] h Q
  | 0, t, y, e => by
    have e' : t = 8 := by omega
    subst e'
    apply rx_wp_sound 60 [6]
    simp (disch := first | decide | omega) only [rx_W, rx_wp_succ, rx_nx_stop, rx_nx_go, rx_lx_some, rx_fx_some, rx_ax_some, rx_qx_some, rx_ox_some, rx_vx_ref, rx_ix_ref, rx_ld_0, rx_ld_2, rx_ld_3, rx_cx_some, rx_nl, List.getElem?_cons_zero, List.getElem?_cons_succ, List.set_cons_zero, List.set_cons_succ, List.length_cons, List.length_nil, List.take_succ_cons, List.take_zero, List.drop_succ_cons, List.drop_zero, List.reverse_cons, List.reverse_nil, List.nil_append, List.cons_append, Option.toList_some, Option.toList_none, true_and, and_true, and_self, true_or, or_true, false_and, and_false, false_or, or_false, not_false_eq_true, Nat.reduceAdd, Nat.reduceLT, Nat.reduceLeDiff, Nat.reduceBEq, Nat.reduceEqDiff, Bool.or_false, Bool.false_or, if_true, if_false, Bool.false_eq_true, nq_eq, nq_lt, nq_le, nq_in_t, nq_bd, nq_ft, nq_clamp, nq_shl31, nq_shr31, nq_bitb, nq_add, nq_mul, fa_and, fa_or, nq_b0, nq_b1, nq_b01, ↓ni_lt_t, ↓ni_lt_f, ↓ni_le_t, ↓ni_le_f, ↓ni_eq_t, ↓ni_eq_f, ↓ni_beq_t, ↓ni_beq_f, it_X8_numbered]
    exact hq
  | j + 1, t, y, e => by
    have ih := fun y => l_X8_nb h1 hK hR hsy hx hb Q hq j (t + 1) y (by omega)
    rw [un_succ] at ih
    apply rx_wp_sound 60 [6]
    cases c : x.testBit t with
    | false =>
      have e1 : nmF (fun t => K t &&& R) sy x t = 0 := by unfold nmF; rw [c]; rfl
      rw [e1, Nat.or_zero] at ih
      simp (disch := first | decide | omega) only [rx_W, rx_wp_succ, rx_nx_stop, rx_nx_go, rx_lx_some, rx_fx_some, rx_ax_some, rx_qx_some, rx_ox_some, rx_vx_ref, rx_ix_ref, rx_ld_0, rx_ld_2, rx_ld_3, rx_cx_some, rx_nl, List.getElem?_cons_zero, List.getElem?_cons_succ, List.set_cons_zero, List.set_cons_succ, List.length_cons, List.length_nil, List.take_succ_cons, List.take_zero, List.drop_succ_cons, List.drop_zero, List.reverse_cons, List.reverse_nil, List.nil_append, List.cons_append, Option.toList_some, Option.toList_none, true_and, and_true, and_self, true_or, or_true, false_and, and_false, false_or, or_false, not_false_eq_true, Nat.reduceAdd, Nat.reduceLT, Nat.reduceLeDiff, Nat.reduceBEq, Nat.reduceEqDiff, Bool.or_false, Bool.false_or, if_true, if_false, Bool.false_eq_true, nq_eq, nq_lt, nq_le, nq_in_t, nq_bd, nq_ft, nq_clamp, nq_shl31, nq_shr31, nq_bitb, nq_add, nq_mul, fa_and, fa_or, nq_b0, nq_b1, nq_b01, ↓ni_lt_t, ↓ni_lt_f, ↓ni_le_t, ↓ni_le_f, ↓ni_eq_t, ↓ni_eq_f, ↓ni_beq_t, ↓ni_beq_f, it_X8_numbered, q_X8_has, c]
      exact ih _
    | true =>
      have e1 : nmF (fun t => K t &&& R) sy x t = 2 ^ ctb (sy &&& (2 ^ lb (K t &&& R) - 1)).testBit 8 := by unfold nmF; rw [c]; rfl
      rw [e1] at ih
      have hbt := hb t c
      have b1 : K t &&& R < 2 ^ 31 := Nat.lt_of_le_of_lt Nat.and_le_right (by omega)
      obtain ⟨c1, c2⟩ := lb_yes hbt (by omega)
      have p1 : 1 ≤ 2 ^ lb (K t &&& R) := Nat.one_le_two_pow
      have b2 : sy &&& (2 ^ lb (K t &&& R) - 1) < 2 ^ 31 := Nat.lt_of_le_of_lt Nat.and_le_left (by omega)
      have b3 := ctb_le (sy &&& (2 ^ lb (K t &&& R) - 1)).testBit 8
      obtain ⟨f, a1, a2⟩ := hK
      simp (disch := first | decide | omega) only [rx_W, rx_wp_succ, rx_nx_stop, rx_nx_go, rx_lx_some, rx_fx_some, rx_ax_some, rx_qx_some, rx_ox_some, rx_vx_ref, rx_ix_ref, rx_ld_0, rx_ld_2, rx_ld_3, rx_cx_some, rx_nl, List.getElem?_cons_zero, List.getElem?_cons_succ, List.set_cons_zero, List.set_cons_succ, List.length_cons, List.length_nil, List.take_succ_cons, List.take_zero, List.drop_succ_cons, List.drop_zero, List.reverse_cons, List.reverse_nil, List.nil_append, List.cons_append, Option.toList_some, Option.toList_none, true_and, and_true, and_self, true_or, or_true, false_and, and_false, false_or, or_false, not_false_eq_true, Nat.reduceAdd, Nat.reduceLT, Nat.reduceLeDiff, Nat.reduceBEq, Nat.reduceEqDiff, Bool.or_false, Bool.false_or, if_true, if_false, Bool.false_eq_true, nq_eq, nq_lt, nq_le, nq_in_t, nq_bd, nq_ft, nq_clamp, nq_shl31, nq_shr31, nq_bitb, nq_add, nq_mul, fa_and, fa_or, nq_b0, nq_b1, nq_b01, ↓ni_lt_t, ↓ni_lt_f, ↓ni_le_t, ↓ni_le_f, ↓ni_eq_t, ↓ni_eq_f, ↓ni_beq_t, ↓ni_beq_f, it_X8_numbered, q_X8_has, c, h1, mO, a1, a2, q_X8_least (i := t) b1 hbt, nq_sub, Nat.one_mul, q_X8_ones]
      exact ih _
theorem q_X8_numbered (h1 : rx_rd h 98 = some (mO pa le pl fo z)) (hK : aN h 106 16 K) (hR : R < 256) (hsy : sy < 256) (hx : x < 256) (hb : ∀ t, x.testBit t = true → (K t &&& R).testBit t = true) (Q : Option Value → rx_H → Prop) : rx_Cl 135 [.ref 98, .int (nI x), .int (nI R), .int (nI sy)] h Q = Q (some (.int (nI (un (nmF (fun t => K t &&& R) sy x) 8)))) h := by
  refine rx_Cl_eq ?_ Q
  apply en_X8_numbered _ _ _ _ 60 [6]
  simp (disch := first | decide | omega) only [rx_W, rx_wp_succ, rx_nx_stop, rx_nx_go, rx_lx_some, rx_fx_some, rx_ax_some, rx_qx_some, rx_ox_some, rx_vx_ref, rx_ix_ref, rx_ld_0, rx_ld_2, rx_ld_3, rx_cx_some, rx_nl, List.getElem?_cons_zero, List.getElem?_cons_succ, List.set_cons_zero, List.set_cons_succ, List.length_cons, List.length_nil, List.take_succ_cons, List.take_zero, List.drop_succ_cons, List.drop_zero, List.reverse_cons, List.reverse_nil, List.nil_append, List.cons_append, Option.toList_some, Option.toList_none, true_and, and_true, and_self, true_or, or_true, false_and, and_false, false_or, or_false, not_false_eq_true, Nat.reduceAdd, Nat.reduceLT, Nat.reduceLeDiff, Nat.reduceBEq, Nat.reduceEqDiff, Bool.or_false, Bool.false_or, if_true, if_false, Bool.false_eq_true, nq_eq, nq_lt, nq_le, nq_in_t, nq_bd, nq_ft, nq_clamp, nq_shl31, nq_shr31, nq_bitb, nq_add, nq_mul, fa_and, fa_or, nq_b0, nq_b1, nq_b01, ↓ni_lt_t, ↓ni_lt_f, ↓ni_le_t, ↓ni_le_f, ↓ni_eq_t, ↓ni_eq_f, ↓ni_beq_t, ↓ni_beq_f, it_X8_numbered]
  exact l_X8_nb h1 hK hR hsy hx hb _ ⟨rfl, rfl⟩ 8 0 _ (by omega)
end NB
theorem ctb_cut {p q : Nat → Bool} {i : Nat} : ∀ m, i ≤ m → (∀ k, k < i → p k = q k) → (∀ k, i ≤ k → p k = false) → ctb p m = ctb q i
  | 0, hm, h1, h2 => by rw [show i = 0 by omega]; rfl
  | m + 1, hm, h1, h2 => by
    by_cases e : i = m + 1
    · rw [e]; exact ctb_cong (m + 1) (fun k hk => h1 k (by omega))
    · rw [ctb_succ, ctb_cut m (by omega) h1 h2, h2 m (by omega)]
      rfl
def syF (R : Nat) (A : Nat → Nat) (n : Nat) : Nat := un (fun s => if stB R A s then 2 ^ s else 0) n
theorem syF_bit (R : Nat) (A : Nat → Nat) (n k : Nat) : (syF R A n).testBit k = true ↔ k < n ∧ stB R A k = true := by
  unfold syF
  rw [un_bit]
  constructor
  · rintro ⟨i, h1, h2⟩
    split at h2
    · next c => rw [← (bit_pow i k).mp h2]; exact ⟨h1, c⟩
    · simp at h2
  · rintro ⟨h1, h2⟩
    exact ⟨k, h1, by rw [if_pos h2]; exact (bit_pow k k).mpr rfl⟩
theorem syF_nu {R : Nat} {A : Nat → Nat} {n i : Nat} (hi : i ≤ n) (hn : n ≤ 8) : ctb (syF R A n &&& (2 ^ i - 1)).testBit 8 = nuF R A i := by
  refine ctb_cut 8 (by omega) (fun k hk => ?_) (fun k hk => ?_)
  · rw [Nat.testBit_and, Nat.testBit_two_pow_sub_one, decide_eq_true hk, Bool.and_true]
    exact bool_iff (by rw [syF_bit]; exact ⟨fun z => z.2, fun z => ⟨by omega, z⟩⟩)
  · rw [Nat.testBit_and, Nat.testBit_two_pow_sub_one, decide_eq_false (by omega), Bool.and_false]
theorem syF_lt {R : Nat} {A : Nat → Nat} {n : Nat} : syF R A n < 2 ^ n := un_lt n (fun i hi => by
  split
  · exact Nat.pow_lt_pow_right (by omega) hi
  · exact Nat.two_pow_pos n)
theorem nm_pm {n : Nat} {w : Nat → Nat} {R : Nat} {A : Nat → Nat} (hs : pSpec n w R A) (hn : n ≤ 8) (hw : ∀ j, j < 40 → w j < 2 ^ n) {s b : Nat} (h : R.testBit s = true) (hb : b < 5) : un (nmF A (syF R A n) (w (s * 5 + b))) 8 = pmF n w R A s b n := by
  have hsn := bit_lt hs.2.1 h
  have e1 : un (nmF A (syF R A n) (w (s * 5 + b))) 8 = un (nmF A (syF R A n) (w (s * 5 + b))) n := un_more 8 hn (fun i hi => by
    unfold nmF
    rw [if_neg]
    intro z
    have := bit_lt (hw (s * 5 + b) (by omega)) z
    omega)
  rw [e1]
  refine un_cong n (fun t ht => ?_)
  unfold nmF
  by_cases c : (w (s * 5 + b)).testBit t = true
  · rw [if_pos c, if_pos c]
    obtain ⟨-, -, -, r4, -⟩ := rep_ok hs hn hw (reach_to hs h hb c)
    rw [syF_nu (by omega) hn]
  · rw [if_neg c, if_neg c]
/-! putsMade -/
theorem pmV_0 (v M : Nat → Nat) (p : Nat) : pmV v M p 0 = v := by
  funext i
  unfold pmV
  rw [if_neg (by omega)]
theorem pmV_step (v M : Nat → Nat) (p m : Nat) : va_up (pmV v M p m) (41 * p + m) (M m) = pmV v M p (m + 1) := by
  funext i
  unfold va_up pmV
  by_cases c : i = 41 * p + m
  · rw [if_pos c, if_pos (by omega), show i - 41 * p = m by omega]
  · rw [if_neg c]
    by_cases d : 41 * p ≤ i ∧ i < 41 * p + m
    · rw [if_pos d, if_pos (by omega)]
    · rw [if_neg d, if_neg (by omega)]
theorem l_X8_pm {h0 : rx_H} {pa le pl fo : Int32} {z : Int64} {v M : Nat → Nat} {p : Nat} (h1 : rx_rd h0 98 = some (mO pa le pl fo z)) (hp : p < 4) (hM : aN h0 104 41 M) (Q : Option Value → rx_H → Prop) (hq : ∀ h, Fr h0 h [99] → aN h 99 164 (pmV v M p 41) → Q none h) :
    ∀ j k h, k + j = 41 → Fr h0 h [99] → aN h 99 164 (pmV v M p k) → rx_R 127 2 [.ref 98, .int (nI p), .int (nI k)] [] h Q
  | 0, k, h, e, hf, ha => by
    have e' : k = 41 := by omega
    subst e'
    apply rx_wp_sound 60 [2]
    simp (disch := first | decide | omega) only [rx_W, rx_wp_succ, rx_nx_stop, rx_nx_go, rx_lx_some, rx_fx_some, rx_ax_some, rx_qx_some, rx_ox_some, rx_vx_ref, rx_ix_ref, rx_ld_0, rx_ld_2, rx_ld_3, rx_cx_some, rx_nl, List.getElem?_cons_zero, List.getElem?_cons_succ, List.set_cons_zero, List.set_cons_succ, List.length_cons, List.length_nil, List.take_succ_cons, List.take_zero, List.drop_succ_cons, List.drop_zero, List.reverse_cons, List.reverse_nil, List.nil_append, List.cons_append, Option.toList_some, Option.toList_none, true_and, and_true, and_self, true_or, or_true, false_and, and_false, false_or, or_false, not_false_eq_true, Nat.reduceAdd, Nat.reduceLT, Nat.reduceLeDiff, Nat.reduceBEq, Nat.reduceEqDiff, Bool.or_false, Bool.false_or, if_true, if_false, Bool.false_eq_true, nq_eq, nq_lt, nq_le, nq_in_t, nq_bd, nq_ft, nq_clamp, nq_shl31, nq_shr31, nq_bitb, nq_add, nq_mul, fa_and, fa_or, nq_b0, nq_b1, nq_b01, ↓ni_lt_t, ↓ni_lt_f, ↓ni_le_t, ↓ni_le_f, ↓ni_eq_t, ↓ni_eq_f, ↓ni_beq_t, ↓ni_beq_f, it_X8_putsMade]
    exact hq h hf ha
  | j + 1, k, h, e, hf, ha => by
    have h1' := rd_fr hf (by simp) h1
    obtain ⟨f, a1, a2⟩ := ha
    obtain ⟨g, b1, b2⟩ := aN_fr hf (by simp) hM
    apply rx_wp_sound 60 [2]
    simp (disch := first | decide | omega) only [rx_W, rx_wp_succ, rx_nx_stop, rx_nx_go, rx_lx_some, rx_fx_some, rx_ax_some, rx_qx_some, rx_ox_some, rx_vx_ref, rx_ix_ref, rx_ld_0, rx_ld_2, rx_ld_3, rx_cx_some, rx_nl, List.getElem?_cons_zero, List.getElem?_cons_succ, List.set_cons_zero, List.set_cons_succ, List.length_cons, List.length_nil, List.take_succ_cons, List.take_zero, List.drop_succ_cons, List.drop_zero, List.reverse_cons, List.reverse_nil, List.nil_append, List.cons_append, Option.toList_some, Option.toList_none, true_and, and_true, and_self, true_or, or_true, false_and, and_false, false_or, or_false, not_false_eq_true, Nat.reduceAdd, Nat.reduceLT, Nat.reduceLeDiff, Nat.reduceBEq, Nat.reduceEqDiff, Bool.or_false, Bool.false_or, if_true, if_false, Bool.false_eq_true, nq_eq, nq_lt, nq_le, nq_in_t, nq_bd, nq_ft, nq_clamp, nq_shl31, nq_shr31, nq_bitb, nq_add, nq_mul, fa_and, fa_or, nq_b0, nq_b1, nq_b01, ↓ni_lt_t, ↓ni_lt_f, ↓ni_le_t, ↓ni_le_f, ↓ni_eq_t, ↓ni_eq_f, ↓ni_beq_t, ↓ni_beq_f, it_X8_putsMade, h1', mO, a1, b1, b2]
    refine l_X8_pm h1 hp hM Q hq j (k + 1) _ (by omega) (Fr_up hf (by simp)) ⟨_, rd_eq _ _ _, ?_⟩
    rw [← pmV_step]
    exact aN_upd a2 _ _
theorem c_X8_putsMade {h : rx_H} {pa le pl fo : Int32} {z : Int64} {v M : Nat → Nat} {p : Nat} (h1 : rx_rd h 98 = some (mO pa le pl fo z)) (hp : p < 4) (hM : aN h 104 41 M) (hv : aN h 99 164 v) : rx_Cl 127 [.ref 98, .int (nI p)] h (fun r h' => r = none ∧ Fr h h' [99] ∧ aN h' 99 164 (pmV v M p 41)) := by
  apply en_X8_putsMade _ _ 60 [2]
  simp (disch := first | decide | omega) only [rx_W, rx_wp_succ, rx_nx_stop, rx_nx_go, rx_lx_some, rx_fx_some, rx_ax_some, rx_qx_some, rx_ox_some, rx_vx_ref, rx_ix_ref, rx_ld_0, rx_ld_2, rx_ld_3, rx_cx_some, rx_nl, List.getElem?_cons_zero, List.getElem?_cons_succ, List.set_cons_zero, List.set_cons_succ, List.length_cons, List.length_nil, List.take_succ_cons, List.take_zero, List.drop_succ_cons, List.drop_zero, List.reverse_cons, List.reverse_nil, List.nil_append, List.cons_append, Option.toList_some, Option.toList_none, true_and, and_true, and_self, true_or, or_true, false_and, and_false, false_or, or_false, not_false_eq_true, Nat.reduceAdd, Nat.reduceLT, Nat.reduceLeDiff, Nat.reduceBEq, Nat.reduceEqDiff, Bool.or_false, Bool.false_or, if_true, if_false, Bool.false_eq_true, nq_eq, nq_lt, nq_le, nq_in_t, nq_bd, nq_ft, nq_clamp, nq_shl31, nq_shr31, nq_bitb, nq_add, nq_mul, fa_and, fa_or, nq_b0, nq_b1, nq_b01, ↓ni_lt_t, ↓ni_lt_f, ↓ni_le_t, ↓ni_le_f, ↓ni_eq_t, ↓ni_eq_f, ↓ni_beq_t, ↓ni_beq_f, it_X8_putsMade]
  exact l_X8_pm h1 hp hM _ (fun h' y1 y2 => ⟨rfl, y1, y2⟩) 41 0 h (by omega) (Fr_rfl _ _) (by rw [pmV_0]; exact hv)
theorem mdW_up (n : Nat) (w : Nat → Nat) (j x : Nat) : va_up (mdW n w) (1 + j) x = mdW n (va_up w j x) := by
  funext k
  unfold va_up mdW
  dsimp only
  by_cases c : k = 0
  · rw [if_pos c, if_pos c, if_neg (by omega)]
  · rw [if_neg c, if_neg c]
    by_cases d : k - 1 = j
    · rw [if_pos d, if_pos (by omega)]
    · rw [if_neg d, if_neg (by omega)]
theorem mdW_n (n m : Nat) (w : Nat → Nat) : va_up (mdW n w) 0 m = mdW m w := by
  funext k
  unfold va_up mdW
  by_cases c : k = 0
  · rw [if_pos c, if_pos c]
  · rw [if_neg c, if_neg c, if_neg c]
section PRS
variable {h0 : rx_H} {v K A : Nat → Nat} {p R : Nat} {pa le pl fo : Int32} {z : Int64}
theorem l_X8_ps1 (hm : mN h0 v) (hK : aN h0 106 16 K) (hp : p < 4) (hA : A = fun s => K s &&& R) (hs : pSpec (v (41 * p)) (wq v p) R A) (hn : v (41 * p) ≤ 8) (hw : ∀ j, j < 40 → wq v p j < 2 ^ v (41 * p)) {x : Value} (Q : Option Value → rx_H → Prop)
    (hq : rx_R 134 88 [.ref 98, .int (nI p), .int (nI R), .int (nI (syF R A (v (41 * p)))), .int (nI (v (41 * p))), x] [] h0 Q) :
    ∀ j s, s + j = v (41 * p) → rx_R 134 35 [.ref 98, .int (nI p), .int (nI R), .int (nI (syF R A s)), .int (nI s), x] [] h0 Q
  | 0, s, e => by
    have e' : s = v (41 * p) := by omega
    subst e'
    obtain ⟨pa, le, pl, fo, z, h1⟩ := hm.1
    apply rx_wp_sound 60 [35, 88]
    simp (disch := first | decide | omega) only [rx_W, rx_wp_succ, rx_nx_stop, rx_nx_go, rx_lx_some, rx_fx_some, rx_ax_some, rx_qx_some, rx_ox_some, rx_vx_ref, rx_ix_ref, rx_ld_0, rx_ld_2, rx_ld_3, rx_cx_some, rx_nl, List.getElem?_cons_zero, List.getElem?_cons_succ, List.set_cons_zero, List.set_cons_succ, List.length_cons, List.length_nil, List.take_succ_cons, List.take_zero, List.drop_succ_cons, List.drop_zero, List.reverse_cons, List.reverse_nil, List.nil_append, List.cons_append, Option.toList_some, Option.toList_none, true_and, and_true, and_self, true_or, or_true, false_and, and_false, false_or, or_false, not_false_eq_true, Nat.reduceAdd, Nat.reduceLT, Nat.reduceLeDiff, Nat.reduceBEq, Nat.reduceEqDiff, Bool.or_false, Bool.false_or, if_true, if_false, Bool.false_eq_true, nq_eq, nq_lt, nq_le, nq_in_t, nq_bd, nq_ft, nq_clamp, nq_shl31, nq_shr31, nq_bitb, nq_add, nq_mul, fa_and, fa_or, nq_b0, nq_b1, nq_b01, ↓ni_lt_t, ↓ni_lt_f, ↓ni_le_t, ↓ni_le_f, ↓ni_eq_t, ↓ni_eq_f, ↓ni_beq_t, ↓ni_beq_f, it_X8_presses, it_X8_presses_1, h1, mO, q_X8_many hm]
    exact hq
  | j + 1, s, e => by
    have ih := l_X8_ps1 (x := x) hm hK hp hA hs hn hw Q hq j (s + 1) (by omega)
    have e1 : syF R A (s + 1) = syF R A s ||| (if stB R A s then 2 ^ s else 0) := rfl
    rw [e1] at ih
    obtain ⟨pa, le, pl, fo, z, h1⟩ := hm.1
    have p8 : 2 ^ v (41 * p) ≤ 2 ^ 8 := Nat.pow_le_pow_right (by omega) hn
    have hR := hs.2.1
    have eA : A s = K s &&& R := by rw [hA]
    apply rx_wp_sound 60 [35, 88]
    cases c1 : R.testBit s with
    | false =>
      have c2 : stB R A s = false := by unfold stB; rw [c1]; rfl
      rw [c2, if_neg (by simp)] at ih
      simp (disch := first | decide | omega) only [rx_W, rx_wp_succ, rx_nx_stop, rx_nx_go, rx_lx_some, rx_fx_some, rx_ax_some, rx_qx_some, rx_ox_some, rx_vx_ref, rx_ix_ref, rx_ld_0, rx_ld_2, rx_ld_3, rx_cx_some, rx_nl, List.getElem?_cons_zero, List.getElem?_cons_succ, List.set_cons_zero, List.set_cons_succ, List.length_cons, List.length_nil, List.take_succ_cons, List.take_zero, List.drop_succ_cons, List.drop_zero, List.reverse_cons, List.reverse_nil, List.nil_append, List.cons_append, Option.toList_some, Option.toList_none, true_and, and_true, and_self, true_or, or_true, false_and, and_false, false_or, or_false, not_false_eq_true, Nat.reduceAdd, Nat.reduceLT, Nat.reduceLeDiff, Nat.reduceBEq, Nat.reduceEqDiff, Bool.or_false, Bool.false_or, if_true, if_false, Bool.false_eq_true, nq_eq, nq_lt, nq_le, nq_in_t, nq_bd, nq_ft, nq_clamp, nq_shl31, nq_shr31, nq_bitb, nq_add, nq_mul, fa_and, fa_or, nq_b0, nq_b1, nq_b01, ↓ni_lt_t, ↓ni_lt_f, ↓ni_le_t, ↓ni_le_f, ↓ni_eq_t, ↓ni_eq_f, ↓ni_beq_t, ↓ni_beq_f, it_X8_presses, it_X8_presses_1, h1, mO, q_X8_many hm, q_X8_has, c1]
      exact ih
    | true =>
      obtain ⟨t1, t2, t3, -⟩ := rep_ok hs hn hw c1
      rw [eA] at t2 t3
      obtain ⟨f, a1, a2⟩ := hK
      have b1 : K s &&& R < 2 ^ 31 := Nat.lt_of_le_of_lt Nat.and_le_right (by omega)
      by_cases c3 : lb (K s &&& R) = s
      · have c2 : stB R A s = true := by unfold stB; rw [c1, eA, decide_eq_true c3]; rfl
        rw [c2, if_pos rfl] at ih
        simp (disch := first | decide | omega) only [rx_W, rx_wp_succ, rx_nx_stop, rx_nx_go, rx_lx_some, rx_fx_some, rx_ax_some, rx_qx_some, rx_ox_some, rx_vx_ref, rx_ix_ref, rx_ld_0, rx_ld_2, rx_ld_3, rx_cx_some, rx_nl, List.getElem?_cons_zero, List.getElem?_cons_succ, List.set_cons_zero, List.set_cons_succ, List.length_cons, List.length_nil, List.take_succ_cons, List.take_zero, List.drop_succ_cons, List.drop_zero, List.reverse_cons, List.reverse_nil, List.nil_append, List.cons_append, Option.toList_some, Option.toList_none, true_and, and_true, and_self, true_or, or_true, false_and, and_false, false_or, or_false, not_false_eq_true, Nat.reduceAdd, Nat.reduceLT, Nat.reduceLeDiff, Nat.reduceBEq, Nat.reduceEqDiff, Bool.or_false, Bool.false_or, if_true, if_false, Bool.false_eq_true, nq_eq, nq_lt, nq_le, nq_in_t, nq_bd, nq_ft, nq_clamp, nq_shl31, nq_shr31, nq_bitb, nq_add, nq_mul, fa_and, fa_or, nq_b0, nq_b1, nq_b01, ↓ni_lt_t, ↓ni_lt_f, ↓ni_le_t, ↓ni_le_f, ↓ni_eq_t, ↓ni_eq_f, ↓ni_beq_t, ↓ni_beq_f, it_X8_presses, it_X8_presses_1, h1, mO, q_X8_many hm, q_X8_has, c1, a1, a2, q_X8_least (i := s) b1 t2, c3, Nat.one_mul]
        exact ih
      · have c2 : stB R A s = false := by unfold stB; rw [c1, eA, decide_eq_false c3]; rfl
        rw [c2, if_neg (by simp)] at ih
        simp (disch := first | decide | omega) only [rx_W, rx_wp_succ, rx_nx_stop, rx_nx_go, rx_lx_some, rx_fx_some, rx_ax_some, rx_qx_some, rx_ox_some, rx_vx_ref, rx_ix_ref, rx_ld_0, rx_ld_2, rx_ld_3, rx_cx_some, rx_nl, List.getElem?_cons_zero, List.getElem?_cons_succ, List.set_cons_zero, List.set_cons_succ, List.length_cons, List.length_nil, List.take_succ_cons, List.take_zero, List.drop_succ_cons, List.drop_zero, List.reverse_cons, List.reverse_nil, List.nil_append, List.cons_append, Option.toList_some, Option.toList_none, true_and, and_true, and_self, true_or, or_true, false_and, and_false, false_or, or_false, not_false_eq_true, Nat.reduceAdd, Nat.reduceLT, Nat.reduceLeDiff, Nat.reduceBEq, Nat.reduceEqDiff, Bool.or_false, Bool.false_or, if_true, if_false, Bool.false_eq_true, nq_eq, nq_lt, nq_le, nq_in_t, nq_bd, nq_ft, nq_clamp, nq_shl31, nq_shr31, nq_bitb, nq_add, nq_mul, fa_and, fa_or, nq_b0, nq_b1, nq_b01, ↓ni_lt_t, ↓ni_lt_f, ↓ni_le_t, ↓ni_le_f, ↓ni_eq_t, ↓ni_eq_f, ↓ni_beq_t, ↓ni_beq_f, it_X8_presses, it_X8_presses_1, h1, mO, q_X8_many hm, q_X8_has, c1, a1, a2, q_X8_least (i := s) b1 t2, c3]
        exact ih
theorem l_X8_ps2 (h1 : rx_rd h0 98 = some (mO pa le pl fo z)) {a3 : Int32} {x : Value} (Q : Option Value → rx_H → Prop)
    (hq : ∀ h, Fr h0 h [104] → aN h 104 41 (mdW 0 (fun _ => 0)) → rx_R 134 112 [.ref 98, .int (nI p), .int (nI R), .int a3, .int (nI 41), x] [] h Q) :
    ∀ j k h M, k + j = 41 → Fr h0 h [104] → aN h 104 41 M → (∀ i, i < k → M i = 0) → rx_R 134 91 [.ref 98, .int (nI p), .int (nI R), .int a3, .int (nI k), x] [] h Q
  | 0, k, h, M, e, hf, ha, hM => by
    have e' : k = 41 := by omega
    subst e'
    apply rx_wp_sound 60 [91, 112]
    simp (disch := first | decide | omega) only [rx_W, rx_wp_succ, rx_nx_stop, rx_nx_go, rx_lx_some, rx_fx_some, rx_ax_some, rx_qx_some, rx_ox_some, rx_vx_ref, rx_ix_ref, rx_ld_0, rx_ld_2, rx_ld_3, rx_cx_some, rx_nl, List.getElem?_cons_zero, List.getElem?_cons_succ, List.set_cons_zero, List.set_cons_succ, List.length_cons, List.length_nil, List.take_succ_cons, List.take_zero, List.drop_succ_cons, List.drop_zero, List.reverse_cons, List.reverse_nil, List.nil_append, List.cons_append, Option.toList_some, Option.toList_none, true_and, and_true, and_self, true_or, or_true, false_and, and_false, false_or, or_false, not_false_eq_true, Nat.reduceAdd, Nat.reduceLT, Nat.reduceLeDiff, Nat.reduceBEq, Nat.reduceEqDiff, Bool.or_false, Bool.false_or, if_true, if_false, Bool.false_eq_true, nq_eq, nq_lt, nq_le, nq_in_t, nq_bd, nq_ft, nq_clamp, nq_shl31, nq_shr31, nq_bitb, nq_add, nq_mul, fa_and, fa_or, nq_b0, nq_b1, nq_b01, ↓ni_lt_t, ↓ni_lt_f, ↓ni_le_t, ↓ni_le_f, ↓ni_eq_t, ↓ni_eq_f, ↓ni_beq_t, ↓ni_beq_f, it_X8_presses, it_X8_presses_1]
    refine hq h hf (aN_cong ha (fun i hi => ?_))
    rw [hM i hi]
    unfold mdW
    split <;> rfl
  | j + 1, k, h, M, e, hf, ha, hM => by
    have h1' := rd_fr hf (by simp) h1
    obtain ⟨f, a1, a2⟩ := ha
    apply rx_wp_sound 60 [91, 112]
    simp (disch := first | decide | omega) only [rx_W, rx_wp_succ, rx_nx_stop, rx_nx_go, rx_lx_some, rx_fx_some, rx_ax_some, rx_qx_some, rx_ox_some, rx_vx_ref, rx_ix_ref, rx_ld_0, rx_ld_2, rx_ld_3, rx_cx_some, rx_nl, List.getElem?_cons_zero, List.getElem?_cons_succ, List.set_cons_zero, List.set_cons_succ, List.length_cons, List.length_nil, List.take_succ_cons, List.take_zero, List.drop_succ_cons, List.drop_zero, List.reverse_cons, List.reverse_nil, List.nil_append, List.cons_append, Option.toList_some, Option.toList_none, true_and, and_true, and_self, true_or, or_true, false_and, and_false, false_or, or_false, not_false_eq_true, Nat.reduceAdd, Nat.reduceLT, Nat.reduceLeDiff, Nat.reduceBEq, Nat.reduceEqDiff, Bool.or_false, Bool.false_or, if_true, if_false, Bool.false_eq_true, nq_eq, nq_lt, nq_le, nq_in_t, nq_bd, nq_ft, nq_clamp, nq_shl31, nq_shr31, nq_bitb, nq_add, nq_mul, fa_and, fa_or, nq_b0, nq_b1, nq_b01, ↓ni_lt_t, ↓ni_lt_f, ↓ni_le_t, ↓ni_le_f, ↓ni_eq_t, ↓ni_eq_f, ↓ni_beq_t, ↓ni_beq_f, it_X8_presses, it_X8_presses_1, h1', mO, a1]
    refine l_X8_ps2 h1 Q hq j (k + 1) _ (va_up M k 0) (by omega) (Fr_up hf (by simp)) ⟨_, rd_eq _ _ _, aN_upd a2 _ _⟩ (fun i hi => ?_)
    by_cases c : i = k
    · rw [c, vu_eq]
    · rw [vu_ne c]; exact hM i (by omega)
theorem l_X8_ps3 (hm0 : mN h0 v) (hK0 : aN h0 106 16 K) (hp : p < 4) (hA : A = fun s => K s &&& R) (hs : pSpec (v (41 * p)) (wq v p) R A) (hn : v (41 * p) ≤ 8) (hw : ∀ j, j < 40 → wq v p j < 2 ^ v (41 * p)) {s : Nat} (hst : stB R A s = true) (hsn : s < v (41 * p)) (Q : Option Value → rx_H → Prop)
    (hq : ∀ h, Fr h0 h [104] → aN h 104 41 (mdW (nuF R A s) (prW (v (41 * p)) (wq v p) R A (s + 1))) → rx_R 134 182 [.ref 98, .int (nI p), .int (nI R), .int (nI (syF R A (v (41 * p)))), .int (nI s), .int (nI 5)] [] h Q) :
    ∀ j b h, b + j = 5 → Fr h0 h [104] → aN h 104 41 (mdW (nuF R A s) (prP (v (41 * p)) (wq v p) R A s b)) → rx_R 134 137 [.ref 98, .int (nI p), .int (nI R), .int (nI (syF R A (v (41 * p)))), .int (nI s), .int (nI b)] [] h Q
  | 0, b, h, e, hf, ha => by
    have e' : b = 5 := by omega
    subst e'
    rw [prP_5 hst] at ha
    apply rx_wp_sound 60 [137, 182]
    simp (disch := first | decide | omega) only [rx_W, rx_wp_succ, rx_nx_stop, rx_nx_go, rx_lx_some, rx_fx_some, rx_ax_some, rx_qx_some, rx_ox_some, rx_vx_ref, rx_ix_ref, rx_ld_0, rx_ld_2, rx_ld_3, rx_cx_some, rx_nl, List.getElem?_cons_zero, List.getElem?_cons_succ, List.set_cons_zero, List.set_cons_succ, List.length_cons, List.length_nil, List.take_succ_cons, List.take_zero, List.drop_succ_cons, List.drop_zero, List.reverse_cons, List.reverse_nil, List.nil_append, List.cons_append, Option.toList_some, Option.toList_none, true_and, and_true, and_self, true_or, or_true, false_and, and_false, false_or, or_false, not_false_eq_true, Nat.reduceAdd, Nat.reduceLT, Nat.reduceLeDiff, Nat.reduceBEq, Nat.reduceEqDiff, Bool.or_false, Bool.false_or, if_true, if_false, Bool.false_eq_true, nq_eq, nq_lt, nq_le, nq_in_t, nq_bd, nq_ft, nq_clamp, nq_shl31, nq_shr31, nq_bitb, nq_add, nq_mul, fa_and, fa_or, nq_b0, nq_b1, nq_b01, ↓ni_lt_t, ↓ni_lt_f, ↓ni_le_t, ↓ni_le_f, ↓ni_eq_t, ↓ni_eq_f, ↓ni_beq_t, ↓ni_beq_f, it_X8_presses, it_X8_presses_1]
    exact hq h hf ha
  | j + 1, b, h, e, hf, ha => by
    have hm := mN_fr hf (by simp) (by simp) hm0
    have hK := aN_fr hf (by simp) hK0
    obtain ⟨pa, le, pl, fo, z, h1⟩ := hm.1
    have p8 : 2 ^ v (41 * p) ≤ 2 ^ 8 := Nat.pow_le_pow_right (by omega) hn
    have hR := hs.2.1
    have w1 := hw (s * 5 + b) (by omega)
    have nl := nuF_le (R := R) (A := A) s
    have sl := syF_lt (R := R) (A := A) (n := v (41 * p))
    have hR1 : R.testBit s = true := by
      unfold stB at hst
      rw [Bool.and_eq_true] at hst
      exact hst.1
    have hb := nm_pm hs hn hw hR1 (by omega : b < 5)
    have hne : ∀ t, (wq v p (s * 5 + b)).testBit t = true → (K t &&& R).testBit t = true := fun t ht => by
      have := (rep_ok hs hn hw (reach_to hs hR1 (by omega) ht)).2.1
      rw [hA] at this
      exact this
    obtain ⟨f, a1, a2⟩ := ha
    have a3 := a2 0 (by omega)
    have e3 : mdW (nuF R A s) (prP (v (41 * p)) (wq v p) R A s b) 0 = nuF R A s := rfl
    rw [e3] at a3
    have hnb := fun Q => q_X8_numbered (x := wq v p (s * 5 + b)) (sy := syF R A (v (41 * p))) h1 hK (by omega) (by omega) (by omega) hne Q
    rw [← hA, hb] at hnb
    apply rx_wp_sound 60 [137, 182]
    simp (disch := first | decide | omega) only [rx_W, rx_wp_succ, rx_nx_stop, rx_nx_go, rx_lx_some, rx_fx_some, rx_ax_some, rx_qx_some, rx_ox_some, rx_vx_ref, rx_ix_ref, rx_ld_0, rx_ld_2, rx_ld_3, rx_cx_some, rx_nl, List.getElem?_cons_zero, List.getElem?_cons_succ, List.set_cons_zero, List.set_cons_succ, List.length_cons, List.length_nil, List.take_succ_cons, List.take_zero, List.drop_succ_cons, List.drop_zero, List.reverse_cons, List.reverse_nil, List.nil_append, List.cons_append, Option.toList_some, Option.toList_none, true_and, and_true, and_self, true_or, or_true, false_and, and_false, false_or, or_false, not_false_eq_true, Nat.reduceAdd, Nat.reduceLT, Nat.reduceLeDiff, Nat.reduceBEq, Nat.reduceEqDiff, Bool.or_false, Bool.false_or, if_true, if_false, Bool.false_eq_true, nq_eq, nq_lt, nq_le, nq_in_t, nq_bd, nq_ft, nq_clamp, nq_shl31, nq_shr31, nq_bitb, nq_add, nq_mul, fa_and, fa_or, nq_b0, nq_b1, nq_b01, ↓ni_lt_t, ↓ni_lt_f, ↓ni_le_t, ↓ni_le_f, ↓ni_eq_t, ↓ni_eq_f, ↓ni_beq_t, ↓ni_beq_f, it_X8_presses, it_X8_presses_1, h1, mO, a1, a3, q_X8_leadsOf hm hp, hnb]
    refine l_X8_ps3 hm0 hK0 hp hA hs hn hw hst hsn Q hq j (b + 1) _ (by omega) (Fr_up hf (by simp)) ⟨_, rd_eq _ _ _, ?_⟩
    rw [← prP_step (by omega), ← mdW_up, show 1 + 5 * nuF R A s + b = 1 + (nuF R A s * 5 + b) by omega]
    exact aN_upd a2 _ _
theorem l_X8_ps4 (hm0 : mN h0 v) (hK0 : aN h0 106 16 K) (hp : p < 4) (hA : A = fun s => K s &&& R) (hs : pSpec (v (41 * p)) (wq v p) R A) (hn : v (41 * p) ≤ 8) (hw : ∀ j, j < 40 → wq v p j < 2 ^ v (41 * p)) (Q : Option Value → rx_H → Prop)
    (hq : ∀ h x, Fr h0 h [104] → aN h 104 41 (mdW (nuF R A (v (41 * p))) (prW (v (41 * p)) (wq v p) R A (v (41 * p)))) → rx_R 134 198 [.ref 98, .int (nI p), .int (nI R), .int (nI (syF R A (v (41 * p)))), .int (nI (v (41 * p))), x] [] h Q) :
    ∀ j s h x, s + j = v (41 * p) → Fr h0 h [104] → aN h 104 41 (mdW (nuF R A s) (prW (v (41 * p)) (wq v p) R A s)) → rx_R 134 115 [.ref 98, .int (nI p), .int (nI R), .int (nI (syF R A (v (41 * p)))), .int (nI s), x] [] h Q
  | 0, s, h, x, e, hf, ha => by
    have e' : s = v (41 * p) := by omega
    subst e'
    have hm := mN_fr hf (by simp) (by simp) hm0
    obtain ⟨pa, le, pl, fo, z, h1⟩ := hm.1
    apply rx_wp_sound 60 [115, 198]
    simp (disch := first | decide | omega) only [rx_W, rx_wp_succ, rx_nx_stop, rx_nx_go, rx_lx_some, rx_fx_some, rx_ax_some, rx_qx_some, rx_ox_some, rx_vx_ref, rx_ix_ref, rx_ld_0, rx_ld_2, rx_ld_3, rx_cx_some, rx_nl, List.getElem?_cons_zero, List.getElem?_cons_succ, List.set_cons_zero, List.set_cons_succ, List.length_cons, List.length_nil, List.take_succ_cons, List.take_zero, List.drop_succ_cons, List.drop_zero, List.reverse_cons, List.reverse_nil, List.nil_append, List.cons_append, Option.toList_some, Option.toList_none, true_and, and_true, and_self, true_or, or_true, false_and, and_false, false_or, or_false, not_false_eq_true, Nat.reduceAdd, Nat.reduceLT, Nat.reduceLeDiff, Nat.reduceBEq, Nat.reduceEqDiff, Bool.or_false, Bool.false_or, if_true, if_false, Bool.false_eq_true, nq_eq, nq_lt, nq_le, nq_in_t, nq_bd, nq_ft, nq_clamp, nq_shl31, nq_shr31, nq_bitb, nq_add, nq_mul, fa_and, fa_or, nq_b0, nq_b1, nq_b01, ↓ni_lt_t, ↓ni_lt_f, ↓ni_le_t, ↓ni_le_f, ↓ni_eq_t, ↓ni_eq_f, ↓ni_beq_t, ↓ni_beq_f, it_X8_presses, it_X8_presses_1, h1, mO, q_X8_many hm]
    exact hq h x hf ha
  | j + 1, s, h, x, e, hf, ha => by
    have hm := mN_fr hf (by simp) (by simp) hm0
    obtain ⟨pa, le, pl, fo, z, h1⟩ := hm.1
    have ih := fun h x => l_X8_ps4 hm0 hK0 hp hA hs hn hw Q hq j (s + 1) h x (by omega)
    have p8 : 2 ^ v (41 * p) ≤ 2 ^ 8 := Nat.pow_le_pow_right (by omega) hn
    have sl := syF_lt (R := R) (A := A) (n := v (41 * p))
    have sb := syF_bit R A (v (41 * p)) s
    apply rx_wp_sound 60 [115, 137, 198]
    cases c : stB R A s with
    | false =>
      have c2 : (syF R A (v (41 * p))).testBit s = false := by
        cases d : (syF R A (v (41 * p))).testBit s
        · rfl
        · rw [(sb.mp d).2] at c; cases c
      have e1 : prW (v (41 * p)) (wq v p) R A (s + 1) = prW (v (41 * p)) (wq v p) R A s := by
        funext r
        show (if stB R A s = true ∧ r / 5 = nuF R A s then _ else prW (v (41 * p)) (wq v p) R A s r) = _
        rw [if_neg (fun z => by rw [c] at z; cases z.1)]
      rw [nuF_no c, e1] at ih
      simp (disch := first | decide | omega) only [rx_W, rx_wp_succ, rx_nx_stop, rx_nx_go, rx_lx_some, rx_fx_some, rx_ax_some, rx_qx_some, rx_ox_some, rx_vx_ref, rx_ix_ref, rx_ld_0, rx_ld_2, rx_ld_3, rx_cx_some, rx_nl, List.getElem?_cons_zero, List.getElem?_cons_succ, List.set_cons_zero, List.set_cons_succ, List.length_cons, List.length_nil, List.take_succ_cons, List.take_zero, List.drop_succ_cons, List.drop_zero, List.reverse_cons, List.reverse_nil, List.nil_append, List.cons_append, Option.toList_some, Option.toList_none, true_and, and_true, and_self, true_or, or_true, false_and, and_false, false_or, or_false, not_false_eq_true, Nat.reduceAdd, Nat.reduceLT, Nat.reduceLeDiff, Nat.reduceBEq, Nat.reduceEqDiff, Bool.or_false, Bool.false_or, if_true, if_false, Bool.false_eq_true, nq_eq, nq_lt, nq_le, nq_in_t, nq_bd, nq_ft, nq_clamp, nq_shl31, nq_shr31, nq_bitb, nq_add, nq_mul, fa_and, fa_or, nq_b0, nq_b1, nq_b01, ↓ni_lt_t, ↓ni_lt_f, ↓ni_le_t, ↓ni_le_f, ↓ni_eq_t, ↓ni_eq_f, ↓ni_beq_t, ↓ni_beq_f, it_X8_presses, it_X8_presses_1, h1, mO, q_X8_many hm, q_X8_has, c2]
      exact ih h x hf ha
    | true =>
      have c2 : (syF R A (v (41 * p))).testBit s = true := sb.mpr ⟨by omega, c⟩
      simp (disch := first | decide | omega) only [rx_W, rx_wp_succ, rx_nx_stop, rx_nx_go, rx_lx_some, rx_fx_some, rx_ax_some, rx_qx_some, rx_ox_some, rx_vx_ref, rx_ix_ref, rx_ld_0, rx_ld_2, rx_ld_3, rx_cx_some, rx_nl, List.getElem?_cons_zero, List.getElem?_cons_succ, List.set_cons_zero, List.set_cons_succ, List.length_cons, List.length_nil, List.take_succ_cons, List.take_zero, List.drop_succ_cons, List.drop_zero, List.reverse_cons, List.reverse_nil, List.nil_append, List.cons_append, Option.toList_some, Option.toList_none, true_and, and_true, and_self, true_or, or_true, false_and, and_false, false_or, or_false, not_false_eq_true, Nat.reduceAdd, Nat.reduceLT, Nat.reduceLeDiff, Nat.reduceBEq, Nat.reduceEqDiff, Bool.or_false, Bool.false_or, if_true, if_false, Bool.false_eq_true, nq_eq, nq_lt, nq_le, nq_in_t, nq_bd, nq_ft, nq_clamp, nq_shl31, nq_shr31, nq_bitb, nq_add, nq_mul, fa_and, fa_or, nq_b0, nq_b1, nq_b01, ↓ni_lt_t, ↓ni_lt_f, ↓ni_le_t, ↓ni_le_f, ↓ni_eq_t, ↓ni_eq_f, ↓ni_beq_t, ↓ni_beq_f, it_X8_presses, it_X8_presses_1, h1, mO, q_X8_many hm, q_X8_has, c2]
      refine l_X8_ps3 (h0 := h0) hm0 hK0 hp hA hs hn hw c (by omega) Q (fun h2 y1 y2 => ?_) 5 0 h (by omega) hf (by rw [prP_0]; exact ha)
      have hm2 := mN_fr y1 (by simp) (by simp) hm0
      obtain ⟨pa2, le2, pl2, fo2, z2, h2'⟩ := hm2.1
      obtain ⟨f, a1, a2⟩ := y2
      have a3 := a2 0 (by omega)
      have e3 : mdW (nuF R A s) (prW (v (41 * p)) (wq v p) R A (s + 1)) 0 = nuF R A s := rfl
      rw [e3] at a3
      apply rx_wp_sound 60 [115]
      simp (disch := first | decide | omega) only [rx_W, rx_wp_succ, rx_nx_stop, rx_nx_go, rx_lx_some, rx_fx_some, rx_ax_some, rx_qx_some, rx_ox_some, rx_vx_ref, rx_ix_ref, rx_ld_0, rx_ld_2, rx_ld_3, rx_cx_some, rx_nl, List.getElem?_cons_zero, List.getElem?_cons_succ, List.set_cons_zero, List.set_cons_succ, List.length_cons, List.length_nil, List.take_succ_cons, List.take_zero, List.drop_succ_cons, List.drop_zero, List.reverse_cons, List.reverse_nil, List.nil_append, List.cons_append, Option.toList_some, Option.toList_none, true_and, and_true, and_self, true_or, or_true, false_and, and_false, false_or, or_false, not_false_eq_true, Nat.reduceAdd, Nat.reduceLT, Nat.reduceLeDiff, Nat.reduceBEq, Nat.reduceEqDiff, Bool.or_false, Bool.false_or, if_true, if_false, Bool.false_eq_true, nq_eq, nq_lt, nq_le, nq_in_t, nq_bd, nq_ft, nq_clamp, nq_shl31, nq_shr31, nq_bitb, nq_add, nq_mul, fa_and, fa_or, nq_b0, nq_b1, nq_b01, ↓ni_lt_t, ↓ni_lt_f, ↓ni_le_t, ↓ni_le_f, ↓ni_eq_t, ↓ni_eq_f, ↓ni_beq_t, ↓ni_beq_f, it_X8_presses, it_X8_presses_1, h2', mO, a1, a3]
      refine ih _ _ (Fr_up y1 (by simp)) ⟨_, rd_eq _ _ _, ?_⟩
      rw [nuF_yes c, ← mdW_n (nuF R A s) (nuF R A s + 1)]
      exact aN_upd a2 _ _
end PRS
section MP
variable {h : rx_H} {v : Nat → Nat} {u : Nat → Nat → Nat} {np L : Nat} {t : Nat → Nat} {cs : Nat → Int32}
theorem m_presses_bad (hi : mIv h v u np L t cs) {p : Int32} (hb : inR p 4 = false) : rx_Cl 134 [.ref 98, .int p] h (mP h (v, u, np, L, t, rfs 0 cs) (.int (rcode 0))) := by
  obtain ⟨pl, fo, z, h1⟩ := hi.1
  apply en_X8_presses _ _ 60 [35]
  simp (disch := first | decide | omega) only [rx_W, rx_wp_succ, rx_nx_stop, rx_nx_go, rx_lx_some, rx_fx_some, rx_ax_some, rx_qx_some, rx_ox_some, rx_vx_ref, rx_ix_ref, rx_ld_0, rx_ld_2, rx_ld_3, rx_cx_some, rx_nl, List.getElem?_cons_zero, List.getElem?_cons_succ, List.set_cons_zero, List.set_cons_succ, List.length_cons, List.length_nil, List.take_succ_cons, List.take_zero, List.drop_succ_cons, List.drop_zero, List.reverse_cons, List.reverse_nil, List.nil_append, List.cons_append, Option.toList_some, Option.toList_none, true_and, and_true, and_self, true_or, or_true, false_and, and_false, false_or, or_false, not_false_eq_true, Nat.reduceAdd, Nat.reduceLT, Nat.reduceLeDiff, Nat.reduceBEq, Nat.reduceEqDiff, Bool.or_false, Bool.false_or, if_true, if_false, Bool.false_eq_true, nq_eq, nq_lt, nq_le, nq_in_t, nq_bd, nq_ft, nq_clamp, nq_shl31, nq_shr31, nq_bitb, nq_add, nq_mul, fa_and, fa_or, nq_b0, nq_b1, nq_b01, ↓ni_lt_t, ↓ni_lt_f, ↓ni_le_t, ↓ni_le_f, ↓ni_eq_t, ↓ni_eq_f, ↓ni_beq_t, ↓ni_beq_f, it_X8_presses, it_X8_presses_1, q_X8_isProcess, hb, h1, mO]
  refine m_cnt hi (c := 0) (by omega) rfl (fun h' y1 y2 => ?_)
  simp (disch := first | decide | omega) only [rx_W, rx_wp_succ, rx_nx_stop, rx_nx_go, rx_lx_some, rx_fx_some, rx_ax_some, rx_qx_some, rx_ox_some, rx_vx_ref, rx_ix_ref, rx_ld_0, rx_ld_2, rx_ld_3, rx_cx_some, rx_nl, List.getElem?_cons_zero, List.getElem?_cons_succ, List.set_cons_zero, List.set_cons_succ, List.length_cons, List.length_nil, List.take_succ_cons, List.take_zero, List.drop_succ_cons, List.drop_zero, List.reverse_cons, List.reverse_nil, List.nil_append, List.cons_append, Option.toList_some, Option.toList_none, true_and, and_true, and_self, true_or, or_true, false_and, and_false, false_or, or_false, not_false_eq_true, Nat.reduceAdd, Nat.reduceLT, Nat.reduceLeDiff, Nat.reduceBEq, Nat.reduceEqDiff, Bool.or_false, Bool.false_or, if_true, if_false, Bool.false_eq_true, it_X8_presses, it_X8_presses_1]
  exact ⟨rfl, y1, y2⟩
theorem m_presses_ok (hi : mIv h v u np L t cs) (hv : wfV v) (hnp : np ≤ 5) {p : Nat} (hp : p < 4) {R : Nat} {A : Nat → Nat} (hs : pSpec (v (41 * p)) (wq v p) R A) : rx_Cl 134 [.ref 98, .int (nI p)] h (mP h (setP v p (nuF R A (v (41 * p))) (prW (v (41 * p)) (wq v p) R A (v (41 * p))), pU u np v, pN np, L, t, cs) (.int (nI (nuF R A (v (41 * p)))))) := by
  obtain ⟨pl, fo, z, h1⟩ := hi.1
  obtain ⟨n0, n8, nw, nz, -⟩ := hv p hp
  apply en_X8_presses _ _ 60 [35]
  simp (disch := first | decide | omega) only [rx_W, rx_wp_succ, rx_nx_stop, rx_nx_go, rx_lx_some, rx_fx_some, rx_ax_some, rx_qx_some, rx_ox_some, rx_vx_ref, rx_ix_ref, rx_ld_0, rx_ld_2, rx_ld_3, rx_cx_some, rx_nl, List.getElem?_cons_zero, List.getElem?_cons_succ, List.set_cons_zero, List.set_cons_succ, List.length_cons, List.length_nil, List.take_succ_cons, List.take_zero, List.drop_succ_cons, List.drop_zero, List.reverse_cons, List.reverse_nil, List.nil_append, List.cons_append, Option.toList_some, Option.toList_none, true_and, and_true, and_self, true_or, or_true, false_and, and_false, false_or, or_false, not_false_eq_true, Nat.reduceAdd, Nat.reduceLT, Nat.reduceLeDiff, Nat.reduceBEq, Nat.reduceEqDiff, Bool.or_false, Bool.false_or, if_true, if_false, Bool.false_eq_true, nq_eq, nq_lt, nq_le, nq_in_t, nq_bd, nq_ft, nq_clamp, nq_shl31, nq_shr31, nq_bitb, nq_add, nq_mul, fa_and, fa_or, nq_b0, nq_b1, nq_b01, ↓ni_lt_t, ↓ni_lt_f, ↓ni_le_t, ↓ni_le_f, ↓ni_eq_t, ↓ni_eq_f, ↓ni_beq_t, ↓ni_beq_f, it_X8_presses, it_X8_presses_1, q_X8_isProcess, inR_of hp, h1, mO]
  refine rx_Cl_imp (m_leaves hi hnp) (fun r h1 ⟨e1, y1, y2⟩ => ?_)
  subst e1
  obtain ⟨pl1, fo1, z1, g1⟩ := y2.1
  obtain ⟨K0, hK0⟩ := y2.2.2.2.2.2.2.2.2.1
  simp (disch := first | decide | omega) only [rx_W, rx_wp_succ, rx_nx_stop, rx_nx_go, rx_lx_some, rx_fx_some, rx_ax_some, rx_qx_some, rx_ox_some, rx_vx_ref, rx_ix_ref, rx_ld_0, rx_ld_2, rx_ld_3, rx_cx_some, rx_nl, List.getElem?_cons_zero, List.getElem?_cons_succ, List.set_cons_zero, List.set_cons_succ, List.length_cons, List.length_nil, List.take_succ_cons, List.take_zero, List.drop_succ_cons, List.drop_zero, List.reverse_cons, List.reverse_nil, List.nil_append, List.cons_append, Option.toList_some, Option.toList_none, true_and, and_true, and_self, true_or, or_true, false_and, and_false, false_or, or_false, not_false_eq_true, Nat.reduceAdd, Nat.reduceLT, Nat.reduceLeDiff, Nat.reduceBEq, Nat.reduceEqDiff, Bool.or_false, Bool.false_or, if_true, if_false, Bool.false_eq_true, nq_eq, nq_lt, nq_le, nq_in_t, nq_bd, nq_ft, nq_clamp, nq_shl31, nq_shr31, nq_bitb, nq_add, nq_mul, fa_and, fa_or, nq_b0, nq_b1, nq_b01, ↓ni_lt_t, ↓ni_lt_f, ↓ni_le_t, ↓ni_le_f, ↓ni_eq_t, ↓ni_eq_f, ↓ni_beq_t, ↓ni_beq_f, it_X8_presses, it_X8_presses_1, g1, mO]
  refine rx_Cl_imp (c_X8_laysLike (mIv_mN y2) hK0 hp hp n8 n8 (wfP_256 (hv p hp)) (wfP_256 (hv p hp))) (fun r h2 ⟨e2, w1, K, w2, w3⟩ => ?_)
  subst e2
  have y3 := mIv_106 w1 y2 ⟨K, w2⟩
  obtain ⟨pl2, fo2, z2, g2⟩ := y3.1
  simp (disch := first | decide | omega) only [rx_W, rx_wp_succ, rx_nx_stop, rx_nx_go, rx_lx_some, rx_fx_some, rx_ax_some, rx_qx_some, rx_ox_some, rx_vx_ref, rx_ix_ref, rx_ld_0, rx_ld_2, rx_ld_3, rx_cx_some, rx_nl, List.getElem?_cons_zero, List.getElem?_cons_succ, List.set_cons_zero, List.set_cons_succ, List.length_cons, List.length_nil, List.take_succ_cons, List.take_zero, List.drop_succ_cons, List.drop_zero, List.reverse_cons, List.reverse_nil, List.nil_append, List.cons_append, Option.toList_some, Option.toList_none, true_and, and_true, and_self, true_or, or_true, false_and, and_false, false_or, or_false, not_false_eq_true, Nat.reduceAdd, Nat.reduceLT, Nat.reduceLeDiff, Nat.reduceBEq, Nat.reduceEqDiff, Bool.or_false, Bool.false_or, if_true, if_false, Bool.false_eq_true, nq_eq, nq_lt, nq_le, nq_in_t, nq_bd, nq_ft, nq_clamp, nq_shl31, nq_shr31, nq_bitb, nq_add, nq_mul, fa_and, fa_or, nq_b0, nq_b1, nq_b01, ↓ni_lt_t, ↓ni_lt_f, ↓ni_le_t, ↓ni_le_f, ↓ni_eq_t, ↓ni_eq_f, ↓ni_beq_t, ↓ni_beq_f, it_X8_presses, it_X8_presses_1, g2, mO]
  refine rx_Cl_imp (c_X8_reachable (mIv_mN y3) hp n0 n8 nw) (fun r h3 hr => ?_)
  obtain ⟨e3, R', r1, r2, r3⟩ := hr
  subst e3
  subst r3
  simp (disch := first | decide | omega) only [rx_W, rx_wp_succ, rx_nx_stop, rx_nx_go, rx_lx_some, rx_fx_some, rx_ax_some, rx_qx_some, rx_ox_some, rx_vx_ref, rx_ix_ref, rx_ld_0, rx_ld_2, rx_ld_3, rx_cx_some, rx_nl, List.getElem?_cons_zero, List.getElem?_cons_succ, List.set_cons_zero, List.set_cons_succ, List.length_cons, List.length_nil, List.take_succ_cons, List.take_zero, List.drop_succ_cons, List.drop_zero, List.reverse_cons, List.reverse_nil, List.nil_append, List.cons_append, Option.toList_some, Option.toList_none, true_and, and_true, and_self, true_or, or_true, false_and, and_false, false_or, or_false, not_false_eq_true, Nat.reduceAdd, Nat.reduceLT, Nat.reduceLeDiff, Nat.reduceBEq, Nat.reduceEqDiff, Bool.or_false, Bool.false_or, if_true, if_false, Bool.false_eq_true, nq_eq, nq_lt, nq_le, nq_in_t, nq_bd, nq_ft, nq_clamp, nq_shl31, nq_shr31, nq_bitb, nq_add, nq_mul, fa_and, fa_or, nq_b0, nq_b1, nq_b01, ↓ni_lt_t, ↓ni_lt_f, ↓ni_le_t, ↓ni_le_f, ↓ni_eq_t, ↓ni_eq_f, ↓ni_beq_t, ↓ni_beq_f, it_X8_presses, it_X8_presses_1]
  have p8 : 2 ^ v (41 * p) ≤ 2 ^ 8 := Nat.pow_le_pow_right (by omega) n8
  have hs' : pSpec (v (41 * p)) (wq v p) R' (fun s => K s &&& R') := ⟨r1, r2, fun s hs j => by
    rw [Nat.testBit_and, Bool.and_eq_true]
    constructor
    · rintro ⟨a1, a2⟩
      have hj := bit_lt r2 a2
      exact ⟨(alB_self (by omega) (by omega)).mp (((w3 s (by omega)).2 j (by omega)).mp a1), a2⟩
    · rintro ⟨a1, a2⟩
      have hj := bit_lt r2 a2
      exact ⟨((w3 s (by omega)).2 j (by omega)).mpr ((alB_self (by omega) (by omega)).mpr a1), a2⟩⟩
  obtain ⟨q1, q2⟩ := pSpec_one hs hs' n8 nw
  have q3 : prW (v (41 * p)) (wq v p) R A (v (41 * p)) = prW (v (41 * p)) (wq v p) R' (fun s => K s &&& R') (v (41 * p)) := funext q2
  rw [q1, q3]
  have nl := nuF_le (R := R') (A := fun s => K s &&& R') (v (41 * p))
  refine l_X8_ps1 (mIv_mN y3) w2 hp rfl hs' n8 nw _ ?_ (v (41 * p)) 0 (by omega)
  obtain ⟨M0, hM0⟩ := y3.2.2.2.2.2.2.1
  apply rx_wp_sound 60 [91]
  simp (disch := first | decide | omega) only [rx_W, rx_wp_succ, rx_nx_stop, rx_nx_go, rx_lx_some, rx_fx_some, rx_ax_some, rx_qx_some, rx_ox_some, rx_vx_ref, rx_ix_ref, rx_ld_0, rx_ld_2, rx_ld_3, rx_cx_some, rx_nl, List.getElem?_cons_zero, List.getElem?_cons_succ, List.set_cons_zero, List.set_cons_succ, List.length_cons, List.length_nil, List.take_succ_cons, List.take_zero, List.drop_succ_cons, List.drop_zero, List.reverse_cons, List.reverse_nil, List.nil_append, List.cons_append, Option.toList_some, Option.toList_none, true_and, and_true, and_self, true_or, or_true, false_and, and_false, false_or, or_false, not_false_eq_true, Nat.reduceAdd, Nat.reduceLT, Nat.reduceLeDiff, Nat.reduceBEq, Nat.reduceEqDiff, Bool.or_false, Bool.false_or, if_true, if_false, Bool.false_eq_true, nq_eq, nq_lt, nq_le, nq_in_t, nq_bd, nq_ft, nq_clamp, nq_shl31, nq_shr31, nq_bitb, nq_add, nq_mul, fa_and, fa_or, nq_b0, nq_b1, nq_b01, ↓ni_lt_t, ↓ni_lt_f, ↓ni_le_t, ↓ni_le_f, ↓ni_eq_t, ↓ni_eq_f, ↓ni_beq_t, ↓ni_beq_f, it_X8_presses, it_X8_presses_1]
  refine l_X8_ps2 (h0 := h3) g2 _ (fun h4 x1 x2 => ?_) 41 0 h3 M0 (by omega) (Fr_rfl _ _) hM0 (fun i hi => by omega)
  apply rx_wp_sound 60 [115]
  simp (disch := first | decide | omega) only [rx_W, rx_wp_succ, rx_nx_stop, rx_nx_go, rx_lx_some, rx_fx_some, rx_ax_some, rx_qx_some, rx_ox_some, rx_vx_ref, rx_ix_ref, rx_ld_0, rx_ld_2, rx_ld_3, rx_cx_some, rx_nl, List.getElem?_cons_zero, List.getElem?_cons_succ, List.set_cons_zero, List.set_cons_succ, List.length_cons, List.length_nil, List.take_succ_cons, List.take_zero, List.drop_succ_cons, List.drop_zero, List.reverse_cons, List.reverse_nil, List.nil_append, List.cons_append, Option.toList_some, Option.toList_none, true_and, and_true, and_self, true_or, or_true, false_and, and_false, false_or, or_false, not_false_eq_true, Nat.reduceAdd, Nat.reduceLT, Nat.reduceLeDiff, Nat.reduceBEq, Nat.reduceEqDiff, Bool.or_false, Bool.false_or, if_true, if_false, Bool.false_eq_true, nq_eq, nq_lt, nq_le, nq_in_t, nq_bd, nq_ft, nq_clamp, nq_shl31, nq_shr31, nq_bitb, nq_add, nq_mul, fa_and, fa_or, nq_b0, nq_b1, nq_b01, ↓ni_lt_t, ↓ni_lt_f, ↓ni_le_t, ↓ni_le_f, ↓ni_eq_t, ↓ni_eq_f, ↓ni_beq_t, ↓ni_beq_f, it_X8_presses, it_X8_presses_1]
  refine l_X8_ps4 (h0 := h4) (mN_fr x1 (by simp) (by simp) (mIv_mN y3)) (aN_fr x1 (by simp) w2) hp rfl hs' n8 nw _ (fun h5 x v1 v2 => ?_) (v (41 * p)) 0 h4 _ (by omega) (Fr_rfl _ _) x2
  have f5 := Fr_trans x1 v1 (C := [104]) (fun _ z => z) (fun _ z => z)
  have y5 := mIv_104 f5 y3 ⟨_, v2⟩
  obtain ⟨pl5, fo5, z5, g5⟩ := y5.1
  apply rx_wp_sound 60 []
  simp (disch := first | decide | omega) only [rx_W, rx_wp_succ, rx_nx_stop, rx_nx_go, rx_lx_some, rx_fx_some, rx_ax_some, rx_qx_some, rx_ox_some, rx_vx_ref, rx_ix_ref, rx_ld_0, rx_ld_2, rx_ld_3, rx_cx_some, rx_nl, List.getElem?_cons_zero, List.getElem?_cons_succ, List.set_cons_zero, List.set_cons_succ, List.length_cons, List.length_nil, List.take_succ_cons, List.take_zero, List.drop_succ_cons, List.drop_zero, List.reverse_cons, List.reverse_nil, List.nil_append, List.cons_append, Option.toList_some, Option.toList_none, true_and, and_true, and_self, true_or, or_true, false_and, and_false, false_or, or_false, not_false_eq_true, Nat.reduceAdd, Nat.reduceLT, Nat.reduceLeDiff, Nat.reduceBEq, Nat.reduceEqDiff, Bool.or_false, Bool.false_or, if_true, if_false, Bool.false_eq_true, nq_eq, nq_lt, nq_le, nq_in_t, nq_bd, nq_ft, nq_clamp, nq_shl31, nq_shr31, nq_bitb, nq_add, nq_mul, fa_and, fa_or, nq_b0, nq_b1, nq_b01, ↓ni_lt_t, ↓ni_lt_f, ↓ni_le_t, ↓ni_le_f, ↓ni_eq_t, ↓ni_eq_f, ↓ni_beq_t, ↓ni_beq_f, it_X8_presses, it_X8_presses_1, g5, mO]
  refine rx_Cl_imp (c_X8_putsMade g5 hp v2 y5.2.1) (fun r h6 ⟨e6, u1, u2⟩ => ?_)
  subst e6
  have y6 := mIv_v u1 y5 u2
  obtain ⟨pl6, fo6, z6, g6⟩ := y6.1
  obtain ⟨f, a1, a2⟩ := aN_fr u1 (by simp) v2
  have a3 := a2 0 (by omega)
  have e3 : mdW (nuF R' (fun s => K s &&& R') (v (41 * p))) (prW (v (41 * p)) (wq v p) R' (fun s => K s &&& R') (v (41 * p))) 0 = nuF R' (fun s => K s &&& R') (v (41 * p)) := rfl
  rw [e3] at a3
  simp (disch := first | decide | omega) only [rx_W, rx_wp_succ, rx_nx_stop, rx_nx_go, rx_lx_some, rx_fx_some, rx_ax_some, rx_qx_some, rx_ox_some, rx_vx_ref, rx_ix_ref, rx_ld_0, rx_ld_2, rx_ld_3, rx_cx_some, rx_nl, List.getElem?_cons_zero, List.getElem?_cons_succ, List.set_cons_zero, List.set_cons_succ, List.length_cons, List.length_nil, List.take_succ_cons, List.take_zero, List.drop_succ_cons, List.drop_zero, List.reverse_cons, List.reverse_nil, List.nil_append, List.cons_append, Option.toList_some, Option.toList_none, true_and, and_true, and_self, true_or, or_true, false_and, and_false, false_or, or_false, not_false_eq_true, Nat.reduceAdd, Nat.reduceLT, Nat.reduceLeDiff, Nat.reduceBEq, Nat.reduceEqDiff, Bool.or_false, Bool.false_or, if_true, if_false, Bool.false_eq_true, nq_eq, nq_lt, nq_le, nq_in_t, nq_bd, nq_ft, nq_clamp, nq_shl31, nq_shr31, nq_bitb, nq_add, nq_mul, fa_and, fa_or, nq_b0, nq_b1, nq_b01, ↓ni_lt_t, ↓ni_lt_f, ↓ni_le_t, ↓ni_le_f, ↓ni_eq_t, ↓ni_eq_f, ↓ni_beq_t, ↓ni_beq_f, it_X8_presses, it_X8_presses_1, g6, mO, a1, a3]
  exact ⟨rfl, Fr_mm (Fr_mA y1 (by simp)) (Fr_mm (Fr_mA w1 (by simp)) (Fr_mm (Fr_mA f5 (by simp)) (Fr_mA u1 (by simp)))), y6⟩
end MP
