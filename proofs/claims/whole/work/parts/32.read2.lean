theorem nq_shr_byte {N k : Nat} (hN : N < 2 ^ 32) (hk : k ≤ 24) : rx_shr (nI N) (nI k) &&& nI 255 = nI (N / 2 ^ k % 2 ^ 8) := by
  apply Int32.toBitVec_inj.mp
  unfold rx_shr
  rw [Int32.toBitVec_and, Int32.toBitVec_shiftRight, BitVec.sshiftRight_eq', nq_shc k (by omega), nq_bv, nq_bv, nq_bv]
  apply BitVec.eq_of_getLsbD_eq
  intro i hi
  rw [BitVec.getLsbD_and, BitVec.getLsbD_sshiftRight, BitVec.getLsbD_ofNat, BitVec.getLsbD_ofNat, BitVec.getLsbD_ofNat, Nat.testBit_mod_two_pow, Nat.testBit_div_two_pow]
  have e255 : Nat.testBit 255 i = decide (i < 8) := by
    have : (255 : Nat) = 2 ^ 8 - 1 := rfl
    rw [this, Nat.testBit_two_pow_sub_one]
  rw [e255]
  by_cases h8 : i < 8
  · have h1 : k + i < 32 := by omega
    simp [hi, h8, h1, Nat.add_comm]
  · simp [h8]
theorem allS_lt {one : Nat → Nat} {n m k : Nat} (h : ∀ s, s < n → one s < 2 ^ k) : allS one n m < 2 ^ k := un_lt n (fun i hi => by
  split
  · exact h i hi
  · exact Nat.two_pow_pos k)
theorem nxS_lt {w R : Nat → Nat} {n : Nat} (hR : ∀ s, s < n → R s < 2 ^ 8) (s : Nat) : nxS w R n s < 2 ^ 32 := by
  refine un_lt 4 (fun a ha => ?_)
  have h1 := onF_lt hR (w (s * 5 + a))
  have h2 : onF R n (w (s * 5 + a)) * 2 ^ (a * 8) < 2 ^ 8 * 2 ^ (a * 8) := Nat.mul_lt_mul_of_pos_right h1 (Nat.two_pow_pos _)
  rw [← Nat.pow_add] at h2
  exact Nat.lt_of_lt_of_le h2 (Nat.pow_le_pow_right (by omega) (by omega))
/-! ===== lost, as a function ===== -/
def lsJ (w : Nat → Nat) (n x : Nat) : Nat := un (fun s => if x.testBit s && !decide (w (s * 5 + 4) &&& x = 0) then 2 ^ s else 0) n
theorem lsJ_bit (w : Nat → Nat) (n x s : Nat) : (lsJ w n x).testBit s = true ↔ s < n ∧ x.testBit s = true ∧ ¬ w (s * 5 + 4) &&& x = 0 := by
  unfold lsJ
  rw [un_bit]
  constructor
  · rintro ⟨i, h1, h2⟩
    split at h2
    · next h3 =>
      rw [← (bit_pow i s).mp h2]
      simp only [Bool.and_eq_true, Bool.not_eq_true', decide_eq_false_iff_not] at h3
      exact ⟨h1, h3.1, h3.2⟩
    · simp at h2
  · rintro ⟨h1, h2, h3⟩
    exact ⟨s, h1, by rw [if_pos (by simp [h2, h3])]; exact (bit_pow s s).mpr rfl⟩
theorem lsJ_sub (w : Nat → Nat) (n x : Nat) : sub (lsJ w n x) x := fun i hi => ((lsJ_bit w n x i).mp hi).2.1
theorem lsJ_good {w : Nat → Nat} {n x T : Nat} (hT : good w n T) (h : sub T x) : sub T (lsJ w n x) := fun i hi => (lsJ_bit w n x i).mpr ⟨(hT i hi).1, h i hi, fun z => (hT i hi).2 (and_sub h z)⟩
theorem lsJ_fix {w : Nat → Nat} {n x : Nat} (e : lsJ w n x = x) : good w n x := fun s hs => by
  have hs2 : (lsJ w n x).testBit s = true := by rw [e]; exact hs
  have := (lsJ_bit w n x s).mp hs2
  exact ⟨this.1, this.2.2⟩
def dcn (w : Nat → Nat) (n : Nat) : Nat → Nat → Nat
  | 0, x => x
  | k + 1, x => dcn w n k (lsJ w n x)
theorem dcn_lost {w : Nat → Nat} {n : Nat} : ∀ k x, x < 2 ^ n → (∀ T, good w n T → sub T x) → cnt n x ≤ k → isLost w n (dcn w n k x)
  | 0, x, hx, h1, h2 => by
    have := cnt_0 hx (by omega)
    subst this
    exact ⟨fun s hs => by simp [dcn] at hs, h1⟩
  | k + 1, x, hx, h1, h2 => by
    show isLost w n (dcn w n k (lsJ w n x))
    have s1 := lsJ_sub w n x
    by_cases e : x = lsJ w n x
    · have hid : ∀ k, dcn w n k x = x := by
        intro k
        induction k with
        | zero => rfl
        | succ k ih => show dcn w n k (lsJ w n x) = x; rw [← e]; exact ih
      rw [← e, hid]
      exact ⟨lsJ_fix e.symm, h1⟩
    · have h3 := cnt_strict s1 hx e
      exact dcn_lost k (lsJ w n x) (sub_lt s1 hx) (fun T hT => lsJ_good hT (h1 T hT)) (by omega)
def lst (n : Nat) (w : Nat → Nat) : Nat := dcn w n n (2 ^ n - 1)
theorem lst_lost (n : Nat) (w : Nat → Nat) : isLost w n (lst n w) := by
  have p1 := Nat.one_le_two_pow (n := n)
  exact dcn_lost n _ (by omega) (fun T hT => good_full hT) (cnt_le _ _)
/-! ===== Outlook's readers ===== -/
theorem q_X1_start {h : rx_H} {q n : Nat} {w : Nat → Nat} (hk : oK h q n w) (hn0 : 1 ≤ n) (hn : n ≤ 8) (hw : ∀ j, j < 40 → w j < 2 ^ n) (Q : Option Value → rx_H → Prop) : rx_Cl 14 [.ref q] h Q = Q (some (.int (nI (sil n w 1)))) h := by
  obtain ⟨lo, O, R, N, F, A, ho, ⟨a1, ⟨f, a2, a3⟩, a4, a5, a6⟩, e1, e2, e3, e4, e5, e6, e7⟩ := hk
  have e8 : R 0 = sil n w 1 := isClo_one (e4 0 (by omega)).1 (sil_clo hn hw (Nat.one_lt_two_pow (by omega))).1
  have e9 := a3 0 (by omega)
  refine rx_Cl_eq ?_ Q
  apply en_X1_start _ 40 []
  simp (disch := first | decide | omega) only [rx_W, rx_wp_succ, rx_nx_stop, rx_nx_go, rx_lx_some, rx_fx_some, rx_ax_some, rx_qx_some, rx_ox_some, rx_vx_ref, rx_ix_ref, rx_ld_0, rx_ld_2, rx_ld_3, rx_cx_some, rx_nl, List.getElem?_cons_zero, List.getElem?_cons_succ, List.set_cons_zero, List.set_cons_succ, List.length_cons, List.length_nil, List.take_succ_cons, List.take_zero, List.drop_succ_cons, List.drop_zero, List.reverse_cons, List.reverse_nil, List.nil_append, List.cons_append, Option.toList_some, Option.toList_none, true_and, and_true, and_self, true_or, or_true, false_and, and_false, false_or, or_false, not_false_eq_true, Nat.reduceAdd, Nat.reduceLT, Nat.reduceLeDiff, Nat.reduceBEq, Nat.reduceEqDiff, Bool.or_false, Bool.false_or, if_true, if_false, Bool.false_eq_true, nq_eq, nq_lt, nq_le, nq_in_t, nq_bd, nq_ft, nq_clamp, nq_shl31, nq_shr31, nq_bitb, nq_add, nq_mul, fa_and, fa_or, nq_b0, nq_b1, nq_b01, ↓ni_lt_t, ↓ni_lt_f, ↓ni_le_t, ↓ni_le_f, ↓ni_eq_t, ↓ni_eq_f, ↓ni_beq_t, ↓ni_beq_f, it_X1_start, ho.1, ho.2, a2, e9, e8]
theorem q_X1_after {h : rx_H} {q n : Nat} {w : Nat → Nat} (hk : oK h q n w) (hn : n ≤ 8) (hw : ∀ j, j < 40 → w j < 2 ^ n) {m a : Nat} (hm : m < 2 ^ n) (ha : a < 4) (Q : Option Value → rx_H → Prop) : rx_Cl 15 [.ref q, .int (nI m), .int (nI a)] h Q = Q (some (.int (nI (aft n w m a)))) h := by
  obtain ⟨lo, O, R, N, F, A, ho, ⟨a1, a2, ⟨f, a3, a4⟩, a5, a6⟩, e1, e2, e3, e4, e5, e6, e7⟩ := hk
  have p8 : 2 ^ n ≤ 2 ^ 8 := Nat.pow_le_pow_right (by omega) hn
  have hR8 : ∀ s, s < n → R s < 2 ^ 8 := fun s hs => by have := (e4 s hs).2; omega
  have e9 := a4 m (by omega)
  rw [e5 m hm] at e9
  have e10 : rx_shr (f m) (nI (a * 8)) &&& nI 255 = nI (aft n w m a) := by
    rw [e9, nq_shr_byte (allS_lt (fun s _ => nxS_lt hR8 s)) (by omega), aft_byte hn hw e4 ha]
  refine rx_Cl_eq ?_ Q
  apply en_X1_after _ _ _ 40 []
  simp (disch := first | decide | omega) only [rx_W, rx_wp_succ, rx_nx_stop, rx_nx_go, rx_lx_some, rx_fx_some, rx_ax_some, rx_qx_some, rx_ox_some, rx_vx_ref, rx_ix_ref, rx_ld_0, rx_ld_2, rx_ld_3, rx_cx_some, rx_nl, List.getElem?_cons_zero, List.getElem?_cons_succ, List.set_cons_zero, List.set_cons_succ, List.length_cons, List.length_nil, List.take_succ_cons, List.take_zero, List.drop_succ_cons, List.drop_zero, List.reverse_cons, List.reverse_nil, List.nil_append, List.cons_append, Option.toList_some, Option.toList_none, true_and, and_true, and_self, true_or, or_true, false_and, and_false, false_or, or_false, not_false_eq_true, Nat.reduceAdd, Nat.reduceLT, Nat.reduceLeDiff, Nat.reduceBEq, Nat.reduceEqDiff, Bool.or_false, Bool.false_or, if_true, if_false, Bool.false_eq_true, nq_mul, nq_lt, nq_bd, nq_clamp, it_X1_after, ho.1, ho.2, a3, e10]
theorem q_X1_isLostIn {h : rx_H} {q n : Nat} {w : Nat → Nat} (hk : oK h q n w) (hn : n ≤ 8) {m : Nat} (hm : m < 2 ^ n) (Q : Option Value → rx_H → Prop) : rx_Cl 17 [.ref q, .int (nI m)] h Q = Q (some (.int (nI (!decide (m &&& lst n w = 0)).toNat))) h := by
  obtain ⟨lo, O, R, N, F, A, ho, -, e1, e2, e3, -⟩ := hk
  have e8 : lo = lst n w := isLost_one e2 (lst_lost n w)
  subst e8
  have p8 : 2 ^ n ≤ 2 ^ 8 := Nat.pow_le_pow_right (by omega) hn
  have b1 : m &&& lst n w < 2 ^ n := Nat.and_lt_two_pow _ e3
  refine rx_Cl_eq ?_ Q
  apply en_X1_isLostIn _ _ 40 []
  simp (disch := first | decide | omega) only [rx_W, rx_wp_succ, rx_nx_stop, rx_nx_go, rx_lx_some, rx_fx_some, rx_ax_some, rx_qx_some, rx_ox_some, rx_vx_ref, rx_ix_ref, rx_ld_0, rx_ld_2, rx_ld_3, rx_cx_some, rx_nl, List.getElem?_cons_zero, List.getElem?_cons_succ, List.set_cons_zero, List.set_cons_succ, List.length_cons, List.length_nil, List.take_succ_cons, List.take_zero, List.drop_succ_cons, List.drop_zero, List.reverse_cons, List.reverse_nil, List.nil_append, List.cons_append, Option.toList_some, Option.toList_none, true_and, and_true, and_self, true_or, or_true, false_and, and_false, false_or, or_false, not_false_eq_true, Nat.reduceAdd, Nat.reduceLT, Nat.reduceLeDiff, Nat.reduceBEq, Nat.reduceEqDiff, Bool.or_false, Bool.false_or, if_true, if_false, Bool.false_eq_true, nq_eq, nq_lt, nq_le, nq_in_t, nq_bd, nq_ft, nq_clamp, nq_shl31, nq_shr31, nq_bitb, nq_add, nq_mul, fa_and, fa_or, nq_b0, nq_b1, nq_b01, ↓ni_lt_t, ↓ni_lt_f, ↓ni_le_t, ↓ni_le_f, ↓ni_eq_t, ↓ni_eq_f, ↓ni_beq_t, ↓ni_beq_f, it_X1_isLostIn, ho.1, ho.2]
  by_cases h1 : m &&& lst n w = 0
  · simp [h1]
  · simp [h1]
def poN (w : Nat → Nat) (n m : Nat) : Nat := un (fun s => if m.testBit s then ofS w s else 0) n
theorem l_X1_possibleNext {h : rx_H} {q n fr sb lo : Nat} {w O : Nat → Nat} (ho : oO h q fr sb lo n) (ha : aN h (q + 1) 8 O) (hO : ∀ s, s < n → O s = ofS w s) (hn : n ≤ 8) {m : Nat} (hm : m < 2 ^ 31) (Q : Option Value → rx_H → Prop) (hq : Q (some (.int (nI (poN w n m)))) h) : ∀ j i, i + j = n → rx_R 18 4 [.ref q, .int (nI m), .int (nI (un (fun s => if m.testBit s then ofS w s else 0) i)), .int (nI i)] [] h Q
  | 0, i, e => by
    have e' : i = n := by omega
    subst e'
    apply rx_wp_sound 40 [4]
    simp (disch := first | decide | omega) only [rx_W, rx_wp_succ, rx_nx_stop, rx_nx_go, rx_lx_some, rx_fx_some, rx_ax_some, rx_qx_some, rx_ox_some, rx_vx_ref, rx_ix_ref, rx_ld_0, rx_ld_2, rx_ld_3, rx_cx_some, rx_nl, List.getElem?_cons_zero, List.getElem?_cons_succ, List.set_cons_zero, List.set_cons_succ, List.length_cons, List.length_nil, List.take_succ_cons, List.take_zero, List.drop_succ_cons, List.drop_zero, List.reverse_cons, List.reverse_nil, List.nil_append, List.cons_append, Option.toList_some, Option.toList_none, true_and, and_true, and_self, true_or, or_true, false_and, and_false, false_or, or_false, not_false_eq_true, Nat.reduceAdd, Nat.reduceLT, Nat.reduceLeDiff, Nat.reduceBEq, Nat.reduceEqDiff, Bool.or_false, Bool.false_or, if_true, if_false, Bool.false_eq_true, nq_eq, nq_lt, nq_le, nq_in_t, nq_bd, nq_ft, nq_clamp, nq_shl31, nq_shr31, nq_bitb, nq_add, nq_mul, fa_and, fa_or, nq_b0, nq_b1, nq_b01, ↓ni_lt_t, ↓ni_lt_f, ↓ni_le_t, ↓ni_le_f, ↓ni_eq_t, ↓ni_eq_f, ↓ni_beq_t, ↓ni_beq_f, it_X1_possibleNext, ho.1, ho.2]
    exact hq
  | j + 1, i, e => by
    have ih := l_X1_possibleNext ho ha hO hn hm Q hq j (i + 1) (by omega)
    obtain ⟨f, a1, a2⟩ := ha
    rw [un_succ] at ih
    apply rx_wp_sound 40 [4]
    simp (disch := first | decide | omega) only [rx_W, rx_wp_succ, rx_nx_stop, rx_nx_go, rx_lx_some, rx_fx_some, rx_ax_some, rx_qx_some, rx_ox_some, rx_vx_ref, rx_ix_ref, rx_ld_0, rx_ld_2, rx_ld_3, rx_cx_some, rx_nl, List.getElem?_cons_zero, List.getElem?_cons_succ, List.set_cons_zero, List.set_cons_succ, List.length_cons, List.length_nil, List.take_succ_cons, List.take_zero, List.drop_succ_cons, List.drop_zero, List.reverse_cons, List.reverse_nil, List.nil_append, List.cons_append, Option.toList_some, Option.toList_none, true_and, and_true, and_self, true_or, or_true, false_and, and_false, false_or, or_false, not_false_eq_true, Nat.reduceAdd, Nat.reduceLT, Nat.reduceLeDiff, Nat.reduceBEq, Nat.reduceEqDiff, Bool.or_false, Bool.false_or, if_true, if_false, Bool.false_eq_true, nq_eq, nq_lt, nq_le, nq_in_t, nq_bd, nq_ft, nq_clamp, nq_shl31, nq_shr31, nq_bitb, nq_add, nq_mul, fa_and, fa_or, nq_b0, nq_b1, nq_b01, ↓ni_lt_t, ↓ni_lt_f, ↓ni_le_t, ↓ni_le_f, ↓ni_eq_t, ↓ni_eq_f, ↓ni_beq_t, ↓ni_beq_f, it_X1_possibleNext, q_X7_has, ho.1, ho.2, a1, a2, hO]
    split
    · next h1 => rw [if_neg (by rw [h1]; simp), Nat.or_zero] at ih; exact ih
    · next h1 => rw [if_pos (by simpa using h1)] at ih; exact ih
theorem q_X1_possibleNext {h : rx_H} {q n : Nat} {w : Nat → Nat} (hk : oK h q n w) (hn : n ≤ 8) {m : Nat} (hm : m < 2 ^ 31) (Q : Option Value → rx_H → Prop) : rx_Cl 18 [.ref q, .int (nI m)] h Q = Q (some (.int (nI (poN w n m)))) h := by
  obtain ⟨lo, O, R, N, F, A, ho, ⟨a1, -⟩, e1, -⟩ := hk
  refine rx_Cl_eq ?_ Q
  apply en_X1_possibleNext _ _ 40 [4]
  simp (disch := first | decide | omega) only [rx_W, rx_wp_succ, rx_nx_stop, rx_nx_go, rx_lx_some, rx_fx_some, rx_ax_some, rx_qx_some, rx_ox_some, rx_vx_ref, rx_ix_ref, rx_ld_0, rx_ld_2, rx_ld_3, rx_cx_some, rx_nl, List.getElem?_cons_zero, List.getElem?_cons_succ, List.set_cons_zero, List.set_cons_succ, List.length_cons, List.length_nil, List.take_succ_cons, List.take_zero, List.drop_succ_cons, List.drop_zero, List.reverse_cons, List.reverse_nil, List.nil_append, List.cons_append, Option.toList_some, Option.toList_none, true_and, and_true, and_self, true_or, or_true, false_and, and_false, false_or, or_false, not_false_eq_true, Nat.reduceAdd, Nat.reduceLT, Nat.reduceLeDiff, Nat.reduceBEq, Nat.reduceEqDiff, Bool.or_false, Bool.false_or, if_true, if_false, Bool.false_eq_true, nq_eq, nq_lt, nq_le, nq_in_t, nq_bd, nq_ft, nq_clamp, nq_shl31, nq_shr31, nq_bitb, nq_add, nq_mul, fa_and, fa_or, nq_b0, nq_b1, nq_b01, ↓ni_lt_t, ↓ni_lt_f, ↓ni_le_t, ↓ni_le_f, ↓ni_eq_t, ↓ni_eq_f, ↓ni_beq_t, ↓ni_beq_f, it_X1_possibleNext]
  exact l_X1_possibleNext ho a1 e1 hn hm _ ⟨rfl, rfl⟩ n 0 (by omega)
