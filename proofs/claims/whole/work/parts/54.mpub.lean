/-! ===== the reference's calls ===== -/
def isS (v : Nat → Nat) (p s : Int32) : Bool := inR p 4 && inR s (v (41 * p.toNatClampNeg))
def isM (v : Nat → Nat) (p f b t : Int32) : Bool := isS v p f && (isS v p t && inR b 5)
def in18 (n : Int32) : Bool := decide (nI 1 ≤ n ∧ n ≤ nI 8)
theorem isS_t {v : Nat → Nat} {p s : Int32} (hv : wfV v) (h : isS v p s = true) : ∃ p0 s0, p0 < 4 ∧ s0 < v (41 * p0) ∧ p = nI p0 ∧ s = nI s0 := by
  unfold isS at h
  rw [Bool.and_eq_true] at h
  obtain ⟨p0, hp0, rfl⟩ := inR_t (by omega) h.1
  rw [nq_clamp (by omega)] at h
  have := (hv p0 hp0).2.1
  obtain ⟨s0, hs0, rfl⟩ := inR_t (by omega) h.2
  exact ⟨p0, s0, hp0, hs0, rfl, rfl⟩
theorem isS_of {v : Nat → Nat} {p s : Nat} (hv : wfV v) (hp : p < 4) (hs : s < v (41 * p)) : isS v (nI p) (nI s) = true := by
  unfold isS
  have := (hv p hp).2.1
  rw [nq_clamp (by omega), inR_of hp (by omega), inR_of hs (by omega)]
  rfl
theorem nI_inj {a b : Nat} (ha : a < 2 ^ 31) (hb : b < 2 ^ 31) (h : nI a = nI b) : a = b := (nq_eq ha hb).mp h
theorem isM_t {v : Nat → Nat} {p f b t : Int32} (hv : wfV v) (h : isM v p f b t = true) : ∃ p0 f0 b0 t0, p0 < 4 ∧ f0 < v (41 * p0) ∧ b0 < 5 ∧ t0 < v (41 * p0) ∧ p = nI p0 ∧ f = nI f0 ∧ b = nI b0 ∧ t = nI t0 := by
  unfold isM at h
  rw [Bool.and_eq_true, Bool.and_eq_true] at h
  obtain ⟨p0, f0, h1, h2, h3, h4⟩ := isS_t hv h.1
  obtain ⟨p1, t0, k1, k2, k3, k4⟩ := isS_t hv h.2.1
  obtain ⟨b0, l1, l2⟩ := inR_t (by omega) h.2.2
  have e : p1 = p0 := nI_inj (by omega) (by omega) (k3.symm.trans h3)
  subst e
  exact ⟨p1, f0, b0, t0, h1, h2, l1, k2, h3, h4, l2, k4⟩
theorem isM_of {v : Nat → Nat} {p f b t : Nat} (hv : wfV v) (hp : p < 4) (hf : f < v (41 * p)) (hb : b < 5) (ht : t < v (41 * p)) : isM v (nI p) (nI f) (nI b) (nI t) = true := by
  unfold isM
  rw [isS_of hv hp hf, isS_of hv hp ht, inR_of hb (by omega)]
  rfl
theorem in18_t {n : Int32} (h : in18 n = true) : ∃ k, 1 ≤ k ∧ k ≤ 8 ∧ n = nI k := by
  unfold in18 at h
  rw [decide_eq_true_eq] at h
  have h0 : nI 0 ≤ n := Int32.le_trans (by decide +kernel) h.1
  obtain ⟨k, hk, rfl⟩ := nq_of h0
  exact ⟨k, (nq_le (by omega) hk).mp h.1, (nq_le hk (by omega)).mp h.2, rfl⟩
theorem in18_of {k : Nat} (h1 : 1 ≤ k) (h2 : k ≤ 8) : in18 (nI k) = true := by
  unfold in18
  rw [decide_eq_true_eq]
  exact ⟨(nq_le (by omega) (by omega)).mpr h1, (nq_le (by omega) (by omega)).mpr h2⟩
theorem setP_up (v : Nat → Nat) (p : Nat) {j : Nat} (hj : j < 40) (x : Nat) : setP v p (v (41 * p)) (va_up (wq v p) j x) = va_up v (41 * p + 1 + j) x := by
  funext k
  unfold setP pmV mdW va_up wq
  by_cases c : 41 * p ≤ k ∧ k < 41 * p + 41
  · rw [if_pos c]
    by_cases d : k - 41 * p = 0
    · rw [if_pos d, if_neg (by omega), show k = 41 * p by omega]
    · rw [if_neg d]
      by_cases e : k - 41 * p - 1 = j
      · rw [if_pos e, if_pos (by omega)]
      · rw [if_neg e, if_neg (by omega)]
        congr 1
        omega
  · rw [if_neg c, if_neg (by omega)]
theorem setP_up2 (v : Nat → Nat) (p n : Nat) (w : Nat → Nat) {j : Nat} (hj : j < 40) (x : Nat) : va_up (setP v p n w) (41 * p + 1 + j) x = setP v p n (va_up w j x) := by
  funext k
  unfold setP pmV mdW va_up
  dsimp only
  by_cases c : 41 * p ≤ k ∧ k < 41 * p + 41
  · rw [if_pos c, if_pos c]
    by_cases d : k - 41 * p = 0
    · rw [if_pos d, if_pos d, if_neg (by omega)]
    · rw [if_neg d, if_neg d]
      by_cases e : k - 41 * p - 1 = j
      · rw [if_pos e, if_pos (by omega)]
      · rw [if_neg e, if_neg (by omega)]
  · rw [if_neg c, if_neg c, if_neg (by omega)]
theorem setP_id (v : Nat → Nat) (p : Nat) : setP v p (v (41 * p)) (wq v p) = v := by
  funext k
  unfold setP pmV mdW wq
  by_cases c : 41 * p ≤ k ∧ k < 41 * p + 41
  · rw [if_pos c]
    by_cases d : k - 41 * p = 0
    · rw [if_pos d, show k = 41 * p by omega]
    · rw [if_neg d]
      congr 1
      omega
  · rw [if_neg c]
theorem setP_set (v : Nat → Nat) (p n n' : Nat) (w w' : Nat → Nat) : setP (setP v p n w) p n' w' = setP v p n' w' := by
  funext k
  unfold setP pmV
  by_cases c : 41 * p ≤ k ∧ k < 41 * p + 41
  · rw [if_pos c, if_pos c]
  · rw [if_neg c, if_neg c, if_neg c]
abbrev mP (h : rx_H) (S : St) (r : Value) : Option Value → rx_H → Prop := fun x h' => x = some r ∧ Fr h h' mA ∧ mIS h' S
section MP
variable {h : rx_H} {v : Nat → Nat} {u : Nat → Nat → Nat} {np L : Nat} {t : Nat → Nat} {cs : Nat → Int32}
theorem m_cnt (hi : mIv h v u np L t cs) {c : Nat} (hc : c < 3) {x : Int32} (hx : x = rcode c) {K : Option Value → rx_H → Prop} (hK : ∀ h', Fr h h' mA → mIv h' v u np L t (rfs c cs) → K (some (.int (rcode c))) h') : rx_Cl 108 [.ref 98, .int x] h K := rx_Cl_imp (c_X8_counts hi hx hc) (fun r h' ⟨e, y1, y2⟩ => by subst e; exact hK h' y1 y2)
theorem q_X8_isState (hm : mN h v) (hv : wfV v) (p s : Int32) (Q : Option Value → rx_H → Prop) : rx_Cl 111 [.ref 98, .int p, .int s] h Q = Q (some (.int (nI (isS v p s).toNat))) h := by
  refine rx_Cl_eq ?_ Q
  obtain ⟨pa, le, pl, fo, z, h1⟩ := hm.1
  apply en_X8_isState _ _ _ 60 []
  unfold isS
  cases c : inR p 4 with
  | false => simp (disch := first | decide | omega) only [rx_W, rx_wp_succ, rx_nx_stop, rx_nx_go, rx_lx_some, rx_fx_some, rx_ax_some, rx_qx_some, rx_ox_some, rx_vx_ref, rx_ix_ref, rx_ld_0, rx_ld_2, rx_ld_3, rx_cx_some, rx_nl, List.getElem?_cons_zero, List.getElem?_cons_succ, List.set_cons_zero, List.set_cons_succ, List.length_cons, List.length_nil, List.take_succ_cons, List.take_zero, List.drop_succ_cons, List.drop_zero, List.reverse_cons, List.reverse_nil, List.nil_append, List.cons_append, Option.toList_some, Option.toList_none, true_and, and_true, and_self, true_or, or_true, false_and, and_false, false_or, or_false, not_false_eq_true, Nat.reduceAdd, Nat.reduceLT, Nat.reduceLeDiff, Nat.reduceBEq, Nat.reduceEqDiff, Bool.or_false, Bool.false_or, if_true, if_false, Bool.false_eq_true, nq_eq, nq_lt, nq_le, nq_in_t, nq_bd, nq_ft, nq_clamp, nq_shl31, nq_shr31, nq_bitb, nq_add, nq_mul, fa_and, fa_or, nq_b0, nq_b1, nq_b01, ↓ni_lt_t, ↓ni_lt_f, ↓ni_le_t, ↓ni_le_f, ↓ni_eq_t, ↓ni_eq_f, ↓ni_beq_t, ↓ni_beq_f, it_X8_isState, q_X8_isProcess, c, Bool.false_and, Bool.toNat_false]
  | true =>
    obtain ⟨p0, hp0, rfl⟩ := inR_t (by omega) c
    obtain ⟨b1, b2, -⟩ := hv p0 hp0
    have e1 : v (41 * p0) - 1 + 1 = v (41 * p0) := by omega
    rw [nq_clamp (by omega)]
    cases d : inR s (v (41 * p0)) with
    | false => simp (disch := first | decide | omega) only [rx_W, rx_wp_succ, rx_nx_stop, rx_nx_go, rx_lx_some, rx_fx_some, rx_ax_some, rx_qx_some, rx_ox_some, rx_vx_ref, rx_ix_ref, rx_ld_0, rx_ld_2, rx_ld_3, rx_cx_some, rx_nl, List.getElem?_cons_zero, List.getElem?_cons_succ, List.set_cons_zero, List.set_cons_succ, List.length_cons, List.length_nil, List.take_succ_cons, List.take_zero, List.drop_succ_cons, List.drop_zero, List.reverse_cons, List.reverse_nil, List.nil_append, List.cons_append, Option.toList_some, Option.toList_none, true_and, and_true, and_self, true_or, or_true, false_and, and_false, false_or, or_false, not_false_eq_true, Nat.reduceAdd, Nat.reduceLT, Nat.reduceLeDiff, Nat.reduceBEq, Nat.reduceEqDiff, Bool.or_false, Bool.false_or, if_true, if_false, Bool.false_eq_true, nq_eq, nq_lt, nq_le, nq_in_t, nq_bd, nq_ft, nq_clamp, nq_shl31, nq_shr31, nq_bitb, nq_add, nq_mul, fa_and, fa_or, nq_b0, nq_b1, nq_b01, ↓ni_lt_t, ↓ni_lt_f, ↓ni_le_t, ↓ni_le_f, ↓ni_eq_t, ↓ni_eq_f, ↓ni_beq_t, ↓ni_beq_f, it_X8_isState, q_X8_isProcess, c, h1, mO, q_X8_many hm, nq_sub, q_X8_within, e1, d, Bool.true_and, Bool.toNat_false]
    | true => simp (disch := first | decide | omega) only [rx_W, rx_wp_succ, rx_nx_stop, rx_nx_go, rx_lx_some, rx_fx_some, rx_ax_some, rx_qx_some, rx_ox_some, rx_vx_ref, rx_ix_ref, rx_ld_0, rx_ld_2, rx_ld_3, rx_cx_some, rx_nl, List.getElem?_cons_zero, List.getElem?_cons_succ, List.set_cons_zero, List.set_cons_succ, List.length_cons, List.length_nil, List.take_succ_cons, List.take_zero, List.drop_succ_cons, List.drop_zero, List.reverse_cons, List.reverse_nil, List.nil_append, List.cons_append, Option.toList_some, Option.toList_none, true_and, and_true, and_self, true_or, or_true, false_and, and_false, false_or, or_false, not_false_eq_true, Nat.reduceAdd, Nat.reduceLT, Nat.reduceLeDiff, Nat.reduceBEq, Nat.reduceEqDiff, Bool.or_false, Bool.false_or, if_true, if_false, Bool.false_eq_true, nq_eq, nq_lt, nq_le, nq_in_t, nq_bd, nq_ft, nq_clamp, nq_shl31, nq_shr31, nq_bitb, nq_add, nq_mul, fa_and, fa_or, nq_b0, nq_b1, nq_b01, ↓ni_lt_t, ↓ni_lt_f, ↓ni_le_t, ↓ni_le_f, ↓ni_eq_t, ↓ni_eq_f, ↓ni_beq_t, ↓ni_beq_f, it_X8_isState, q_X8_isProcess, c, h1, mO, q_X8_many hm, nq_sub, q_X8_within, e1, d, Bool.true_and, Bool.toNat_true]
theorem q_X8_isMove (hm : mN h v) (hv : wfV v) (p f b s : Int32) (Q : Option Value → rx_H → Prop) : rx_Cl 118 [.ref 98, .int p, .int f, .int b, .int s] h Q = Q (some (.int (nI (isM v p f b s).toNat))) h := by
  refine rx_Cl_eq ?_ Q
  obtain ⟨pa, le, pl, fo, z, h1⟩ := hm.1
  apply en_X8_isMove _ _ _ _ _ 60 []
  unfold isM
  cases c : isS v p f with
  | false => simp (disch := first | decide | omega) only [rx_W, rx_wp_succ, rx_nx_stop, rx_nx_go, rx_lx_some, rx_fx_some, rx_ax_some, rx_qx_some, rx_ox_some, rx_vx_ref, rx_ix_ref, rx_ld_0, rx_ld_2, rx_ld_3, rx_cx_some, rx_nl, List.getElem?_cons_zero, List.getElem?_cons_succ, List.set_cons_zero, List.set_cons_succ, List.length_cons, List.length_nil, List.take_succ_cons, List.take_zero, List.drop_succ_cons, List.drop_zero, List.reverse_cons, List.reverse_nil, List.nil_append, List.cons_append, Option.toList_some, Option.toList_none, true_and, and_true, and_self, true_or, or_true, false_and, and_false, false_or, or_false, not_false_eq_true, Nat.reduceAdd, Nat.reduceLT, Nat.reduceLeDiff, Nat.reduceBEq, Nat.reduceEqDiff, Bool.or_false, Bool.false_or, if_true, if_false, Bool.false_eq_true, nq_eq, nq_lt, nq_le, nq_in_t, nq_bd, nq_ft, nq_clamp, nq_shl31, nq_shr31, nq_bitb, nq_add, nq_mul, fa_and, fa_or, nq_b0, nq_b1, nq_b01, ↓ni_lt_t, ↓ni_lt_f, ↓ni_le_t, ↓ni_le_f, ↓ni_eq_t, ↓ni_eq_f, ↓ni_beq_t, ↓ni_beq_f, it_X8_isMove, h1, mO, q_X8_isState hm hv, c, Bool.false_and, Bool.toNat_false]
  | true =>
    cases d : isS v p s with
    | false => simp (disch := first | decide | omega) only [rx_W, rx_wp_succ, rx_nx_stop, rx_nx_go, rx_lx_some, rx_fx_some, rx_ax_some, rx_qx_some, rx_ox_some, rx_vx_ref, rx_ix_ref, rx_ld_0, rx_ld_2, rx_ld_3, rx_cx_some, rx_nl, List.getElem?_cons_zero, List.getElem?_cons_succ, List.set_cons_zero, List.set_cons_succ, List.length_cons, List.length_nil, List.take_succ_cons, List.take_zero, List.drop_succ_cons, List.drop_zero, List.reverse_cons, List.reverse_nil, List.nil_append, List.cons_append, Option.toList_some, Option.toList_none, true_and, and_true, and_self, true_or, or_true, false_and, and_false, false_or, or_false, not_false_eq_true, Nat.reduceAdd, Nat.reduceLT, Nat.reduceLeDiff, Nat.reduceBEq, Nat.reduceEqDiff, Bool.or_false, Bool.false_or, if_true, if_false, Bool.false_eq_true, nq_eq, nq_lt, nq_le, nq_in_t, nq_bd, nq_ft, nq_clamp, nq_shl31, nq_shr31, nq_bitb, nq_add, nq_mul, fa_and, fa_or, nq_b0, nq_b1, nq_b01, ↓ni_lt_t, ↓ni_lt_f, ↓ni_le_t, ↓ni_le_f, ↓ni_eq_t, ↓ni_eq_f, ↓ni_beq_t, ↓ni_beq_f, it_X8_isMove, h1, mO, q_X8_isState hm hv, c, d, Bool.true_and, Bool.false_and, Bool.toNat_false]
    | true =>
      cases e : inR b 5 with
      | false => simp (disch := first | decide | omega) only [rx_W, rx_wp_succ, rx_nx_stop, rx_nx_go, rx_lx_some, rx_fx_some, rx_ax_some, rx_qx_some, rx_ox_some, rx_vx_ref, rx_ix_ref, rx_ld_0, rx_ld_2, rx_ld_3, rx_cx_some, rx_nl, List.getElem?_cons_zero, List.getElem?_cons_succ, List.set_cons_zero, List.set_cons_succ, List.length_cons, List.length_nil, List.take_succ_cons, List.take_zero, List.drop_succ_cons, List.drop_zero, List.reverse_cons, List.reverse_nil, List.nil_append, List.cons_append, Option.toList_some, Option.toList_none, true_and, and_true, and_self, true_or, or_true, false_and, and_false, false_or, or_false, not_false_eq_true, Nat.reduceAdd, Nat.reduceLT, Nat.reduceLeDiff, Nat.reduceBEq, Nat.reduceEqDiff, Bool.or_false, Bool.false_or, if_true, if_false, Bool.false_eq_true, nq_eq, nq_lt, nq_le, nq_in_t, nq_bd, nq_ft, nq_clamp, nq_shl31, nq_shr31, nq_bitb, nq_add, nq_mul, fa_and, fa_or, nq_b0, nq_b1, nq_b01, ↓ni_lt_t, ↓ni_lt_f, ↓ni_le_t, ↓ni_le_f, ↓ni_eq_t, ↓ni_eq_f, ↓ni_beq_t, ↓ni_beq_f, it_X8_isMove, h1, mO, q_X8_isState hm hv, q_X8_within, c, d, e, Bool.true_and, Bool.toNat_false]
      | true => simp (disch := first | decide | omega) only [rx_W, rx_wp_succ, rx_nx_stop, rx_nx_go, rx_lx_some, rx_fx_some, rx_ax_some, rx_qx_some, rx_ox_some, rx_vx_ref, rx_ix_ref, rx_ld_0, rx_ld_2, rx_ld_3, rx_cx_some, rx_nl, List.getElem?_cons_zero, List.getElem?_cons_succ, List.set_cons_zero, List.set_cons_succ, List.length_cons, List.length_nil, List.take_succ_cons, List.take_zero, List.drop_succ_cons, List.drop_zero, List.reverse_cons, List.reverse_nil, List.nil_append, List.cons_append, Option.toList_some, Option.toList_none, true_and, and_true, and_self, true_or, or_true, false_and, and_false, false_or, or_false, not_false_eq_true, Nat.reduceAdd, Nat.reduceLT, Nat.reduceLeDiff, Nat.reduceBEq, Nat.reduceEqDiff, Bool.or_false, Bool.false_or, if_true, if_false, Bool.false_eq_true, nq_eq, nq_lt, nq_le, nq_in_t, nq_bd, nq_ft, nq_clamp, nq_shl31, nq_shr31, nq_bitb, nq_add, nq_mul, fa_and, fa_or, nq_b0, nq_b1, nq_b01, ↓ni_lt_t, ↓ni_lt_f, ↓ni_le_t, ↓ni_le_f, ↓ni_eq_t, ↓ni_eq_f, ↓ni_beq_t, ↓ni_beq_f, it_X8_isMove, h1, mO, q_X8_isState hm hv, q_X8_within, c, d, e, Bool.true_and, Bool.toNat_true]
theorem q_X8_within18 (n : Int32) (h : rx_H) (Q : Option Value → rx_H → Prop) : rx_Cl 105 [.int n, .int (nI 1), .int (nI 8)] h Q = Q (some (.int (nI (in18 n).toNat))) h := by
  refine rx_Cl_eq ?_ Q
  apply en_X8_within _ _ _ 40 []
  simp (disch := first | decide | omega) only [rx_W, rx_wp_succ, rx_nx_stop, rx_nx_go, rx_lx_some, rx_fx_some, rx_ax_some, rx_qx_some, rx_ox_some, rx_vx_ref, rx_ix_ref, rx_ld_0, rx_ld_2, rx_ld_3, rx_cx_some, rx_nl, List.getElem?_cons_zero, List.getElem?_cons_succ, List.set_cons_zero, List.set_cons_succ, List.length_cons, List.length_nil, List.take_succ_cons, List.take_zero, List.drop_succ_cons, List.drop_zero, List.reverse_cons, List.reverse_nil, List.nil_append, List.cons_append, Option.toList_some, Option.toList_none, true_and, and_true, and_self, true_or, or_true, false_and, and_false, false_or, or_false, not_false_eq_true, Nat.reduceAdd, Nat.reduceLT, Nat.reduceLeDiff, Nat.reduceBEq, Nat.reduceEqDiff, Bool.or_false, Bool.false_or, if_true, if_false, Bool.false_eq_true, it_X8_within, in18]
  by_cases h1 : n < nI 1
  · simp [h1, Int32.not_le.mpr h1]
  · by_cases h2 : nI 8 < n
    · simp [h1, h2, Int32.not_le.mpr h2]
    · simp [h1, h2, Int32.not_lt.mp h1, Int32.not_lt.mp h2]
/-! process -/
theorem m_process_bad (hi : mIv h v u np L t cs) {p n : Int32} (hb : (inR p 4 && in18 n) = false) : rx_Cl 117 [.ref 98, .int p, .int n] h (mP h (v, u, np, L, t, rfs 0 cs) (.int (rcode 0))) := by
  obtain ⟨pl, fo, z, h1⟩ := hi.1
  apply en_X8_process _ _ _ 60 []
  cases c : inR p 4 with
  | false =>
    simp (disch := first | decide | omega) only [rx_W, rx_wp_succ, rx_nx_stop, rx_nx_go, rx_lx_some, rx_fx_some, rx_ax_some, rx_qx_some, rx_ox_some, rx_vx_ref, rx_ix_ref, rx_ld_0, rx_ld_2, rx_ld_3, rx_cx_some, rx_nl, List.getElem?_cons_zero, List.getElem?_cons_succ, List.set_cons_zero, List.set_cons_succ, List.length_cons, List.length_nil, List.take_succ_cons, List.take_zero, List.drop_succ_cons, List.drop_zero, List.reverse_cons, List.reverse_nil, List.nil_append, List.cons_append, Option.toList_some, Option.toList_none, true_and, and_true, and_self, true_or, or_true, false_and, and_false, false_or, or_false, not_false_eq_true, Nat.reduceAdd, Nat.reduceLT, Nat.reduceLeDiff, Nat.reduceBEq, Nat.reduceEqDiff, Bool.or_false, Bool.false_or, if_true, if_false, Bool.false_eq_true, nq_eq, nq_lt, nq_le, nq_in_t, nq_bd, nq_ft, nq_clamp, nq_shl31, nq_shr31, nq_bitb, nq_add, nq_mul, fa_and, fa_or, nq_b0, nq_b1, nq_b01, ↓ni_lt_t, ↓ni_lt_f, ↓ni_le_t, ↓ni_le_f, ↓ni_eq_t, ↓ni_eq_f, ↓ni_beq_t, ↓ni_beq_f, it_X8_process, q_X8_isProcess, c, h1, mO]
    refine m_cnt hi (c := 0) (by omega) rfl (fun h' y1 y2 => ?_)
    simp (disch := first | decide | omega) only [rx_W, rx_wp_succ, rx_nx_stop, rx_nx_go, rx_lx_some, rx_fx_some, rx_ax_some, rx_qx_some, rx_ox_some, rx_vx_ref, rx_ix_ref, rx_ld_0, rx_ld_2, rx_ld_3, rx_cx_some, rx_nl, List.getElem?_cons_zero, List.getElem?_cons_succ, List.set_cons_zero, List.set_cons_succ, List.length_cons, List.length_nil, List.take_succ_cons, List.take_zero, List.drop_succ_cons, List.drop_zero, List.reverse_cons, List.reverse_nil, List.nil_append, List.cons_append, Option.toList_some, Option.toList_none, true_and, and_true, and_self, true_or, or_true, false_and, and_false, false_or, or_false, not_false_eq_true, Nat.reduceAdd, Nat.reduceLT, Nat.reduceLeDiff, Nat.reduceBEq, Nat.reduceEqDiff, Bool.or_false, Bool.false_or, if_true, if_false, Bool.false_eq_true, it_X8_process]
    exact ⟨rfl, y1, y2⟩
  | true =>
    rw [c, Bool.true_and] at hb
    simp (disch := first | decide | omega) only [rx_W, rx_wp_succ, rx_nx_stop, rx_nx_go, rx_lx_some, rx_fx_some, rx_ax_some, rx_qx_some, rx_ox_some, rx_vx_ref, rx_ix_ref, rx_ld_0, rx_ld_2, rx_ld_3, rx_cx_some, rx_nl, List.getElem?_cons_zero, List.getElem?_cons_succ, List.set_cons_zero, List.set_cons_succ, List.length_cons, List.length_nil, List.take_succ_cons, List.take_zero, List.drop_succ_cons, List.drop_zero, List.reverse_cons, List.reverse_nil, List.nil_append, List.cons_append, Option.toList_some, Option.toList_none, true_and, and_true, and_self, true_or, or_true, false_and, and_false, false_or, or_false, not_false_eq_true, Nat.reduceAdd, Nat.reduceLT, Nat.reduceLeDiff, Nat.reduceBEq, Nat.reduceEqDiff, Bool.or_false, Bool.false_or, if_true, if_false, Bool.false_eq_true, nq_eq, nq_lt, nq_le, nq_in_t, nq_bd, nq_ft, nq_clamp, nq_shl31, nq_shr31, nq_bitb, nq_add, nq_mul, fa_and, fa_or, nq_b0, nq_b1, nq_b01, ↓ni_lt_t, ↓ni_lt_f, ↓ni_le_t, ↓ni_le_f, ↓ni_eq_t, ↓ni_eq_f, ↓ni_beq_t, ↓ni_beq_f, it_X8_process, q_X8_isProcess, q_X8_within18, c, hb, h1, mO]
    refine m_cnt hi (c := 0) (by omega) rfl (fun h' y1 y2 => ?_)
    simp (disch := first | decide | omega) only [rx_W, rx_wp_succ, rx_nx_stop, rx_nx_go, rx_lx_some, rx_fx_some, rx_ax_some, rx_qx_some, rx_ox_some, rx_vx_ref, rx_ix_ref, rx_ld_0, rx_ld_2, rx_ld_3, rx_cx_some, rx_nl, List.getElem?_cons_zero, List.getElem?_cons_succ, List.set_cons_zero, List.set_cons_succ, List.length_cons, List.length_nil, List.take_succ_cons, List.take_zero, List.drop_succ_cons, List.drop_zero, List.reverse_cons, List.reverse_nil, List.nil_append, List.cons_append, Option.toList_some, Option.toList_none, true_and, and_true, and_self, true_or, or_true, false_and, and_false, false_or, or_false, not_false_eq_true, Nat.reduceAdd, Nat.reduceLT, Nat.reduceLeDiff, Nat.reduceBEq, Nat.reduceEqDiff, Bool.or_false, Bool.false_or, if_true, if_false, Bool.false_eq_true, it_X8_process]
    exact ⟨rfl, y1, y2⟩
theorem l_X8_pc {h0 : rx_H} {p n : Nat} {had : Int32} {pa le pl fo : Int32} {z : Int64} (h1 : rx_rd h0 98 = some (mO pa le pl fo z)) (hp : p < 4) (Q : Option Value → rx_H → Prop)
    (hq : ∀ h v1, Fr h0 h [99] → aN h 99 164 v1 → (∀ i, v1 i = if 41 * p + 1 ≤ i ∧ i < 41 * p + 41 then 0 else v i) → rx_R 117 63 [.ref 98, .int (nI p), .int (nI n), .int had, .int (nI 41)] [] h Q) :
    ∀ j k h v1, k + j = 41 → 1 ≤ k → Fr h0 h [99] → aN h 99 164 v1 → (∀ i, v1 i = if 41 * p + 1 ≤ i ∧ i < 41 * p + k then 0 else v i) → rx_R 117 37 [.ref 98, .int (nI p), .int (nI n), .int had, .int (nI k)] [] h Q
  | 0, k, h, v1, e, hk, hf, ha, hv => by
    have e' : k = 41 := by omega
    subst e'
    apply rx_wp_sound 60 [37, 63]
    simp (disch := first | decide | omega) only [rx_W, rx_wp_succ, rx_nx_stop, rx_nx_go, rx_lx_some, rx_fx_some, rx_ax_some, rx_qx_some, rx_ox_some, rx_vx_ref, rx_ix_ref, rx_ld_0, rx_ld_2, rx_ld_3, rx_cx_some, rx_nl, List.getElem?_cons_zero, List.getElem?_cons_succ, List.set_cons_zero, List.set_cons_succ, List.length_cons, List.length_nil, List.take_succ_cons, List.take_zero, List.drop_succ_cons, List.drop_zero, List.reverse_cons, List.reverse_nil, List.nil_append, List.cons_append, Option.toList_some, Option.toList_none, true_and, and_true, and_self, true_or, or_true, false_and, and_false, false_or, or_false, not_false_eq_true, Nat.reduceAdd, Nat.reduceLT, Nat.reduceLeDiff, Nat.reduceBEq, Nat.reduceEqDiff, Bool.or_false, Bool.false_or, if_true, if_false, Bool.false_eq_true, nq_eq, nq_lt, nq_le, nq_in_t, nq_bd, nq_ft, nq_clamp, nq_shl31, nq_shr31, nq_bitb, nq_add, nq_mul, fa_and, fa_or, nq_b0, nq_b1, nq_b01, ↓ni_lt_t, ↓ni_lt_f, ↓ni_le_t, ↓ni_le_f, ↓ni_eq_t, ↓ni_eq_f, ↓ni_beq_t, ↓ni_beq_f, it_X8_process]
    exact hq h v1 hf ha hv
  | j + 1, k, h, v1, e, hk, hf, ha, hv => by
    have h1' := rd_fr hf (by simp) h1
    obtain ⟨f, a1, a2⟩ := ha
    apply rx_wp_sound 60 [37, 63]
    simp (disch := first | decide | omega) only [rx_W, rx_wp_succ, rx_nx_stop, rx_nx_go, rx_lx_some, rx_fx_some, rx_ax_some, rx_qx_some, rx_ox_some, rx_vx_ref, rx_ix_ref, rx_ld_0, rx_ld_2, rx_ld_3, rx_cx_some, rx_nl, List.getElem?_cons_zero, List.getElem?_cons_succ, List.set_cons_zero, List.set_cons_succ, List.length_cons, List.length_nil, List.take_succ_cons, List.take_zero, List.drop_succ_cons, List.drop_zero, List.reverse_cons, List.reverse_nil, List.nil_append, List.cons_append, Option.toList_some, Option.toList_none, true_and, and_true, and_self, true_or, or_true, false_and, and_false, false_or, or_false, not_false_eq_true, Nat.reduceAdd, Nat.reduceLT, Nat.reduceLeDiff, Nat.reduceBEq, Nat.reduceEqDiff, Bool.or_false, Bool.false_or, if_true, if_false, Bool.false_eq_true, nq_eq, nq_lt, nq_le, nq_in_t, nq_bd, nq_ft, nq_clamp, nq_shl31, nq_shr31, nq_bitb, nq_add, nq_mul, fa_and, fa_or, nq_b0, nq_b1, nq_b01, ↓ni_lt_t, ↓ni_lt_f, ↓ni_le_t, ↓ni_le_f, ↓ni_eq_t, ↓ni_eq_f, ↓ni_beq_t, ↓ni_beq_f, it_X8_process, h1', mO, a1]
    refine l_X8_pc h1 hp Q hq j (k + 1) _ (va_up v1 (41 * p + k) 0) (by omega) (by omega) (Fr_up hf (by simp)) ⟨_, rd_eq _ _ _, aN_upd a2 _ _⟩ (fun i => ?_)
    by_cases c : i = 41 * p + k
    · rw [c, vu_eq, if_pos (by omega)]
    · rw [vu_ne c, hv i]
      by_cases d : 41 * p + 1 ≤ i ∧ i < 41 * p + k
      · rw [if_pos d, if_pos (by omega)]
      · rw [if_neg d, if_neg (by omega)]
theorem m_process_ok (hi : mIv h v u np L t cs) (hn : np ≤ 5) {p n : Nat} (hp : p < 4) (hv : v (41 * p) ≤ 8) (n1 : 1 ≤ n) (n8 : n ≤ 8) : rx_Cl 117 [.ref 98, .int (nI p), .int (nI n)] h (mP h (setP v p n (fun _ => 0), pU u np v, pN np, L, t, cs) (.int (nI (v (41 * p))))) := by
  obtain ⟨pl, fo, z, h1⟩ := hi.1
  apply en_X8_process _ _ _ 60 [37]
  simp (disch := first | decide | omega) only [rx_W, rx_wp_succ, rx_nx_stop, rx_nx_go, rx_lx_some, rx_fx_some, rx_ax_some, rx_qx_some, rx_ox_some, rx_vx_ref, rx_ix_ref, rx_ld_0, rx_ld_2, rx_ld_3, rx_cx_some, rx_nl, List.getElem?_cons_zero, List.getElem?_cons_succ, List.set_cons_zero, List.set_cons_succ, List.length_cons, List.length_nil, List.take_succ_cons, List.take_zero, List.drop_succ_cons, List.drop_zero, List.reverse_cons, List.reverse_nil, List.nil_append, List.cons_append, Option.toList_some, Option.toList_none, true_and, and_true, and_self, true_or, or_true, false_and, and_false, false_or, or_false, not_false_eq_true, Nat.reduceAdd, Nat.reduceLT, Nat.reduceLeDiff, Nat.reduceBEq, Nat.reduceEqDiff, Bool.or_false, Bool.false_or, if_true, if_false, Bool.false_eq_true, nq_eq, nq_lt, nq_le, nq_in_t, nq_bd, nq_ft, nq_clamp, nq_shl31, nq_shr31, nq_bitb, nq_add, nq_mul, fa_and, fa_or, nq_b0, nq_b1, nq_b01, ↓ni_lt_t, ↓ni_lt_f, ↓ni_le_t, ↓ni_le_f, ↓ni_eq_t, ↓ni_eq_f, ↓ni_beq_t, ↓ni_beq_f, it_X8_process, q_X8_isProcess, q_X8_within18, inR_of hp, in18_of n1 n8, h1, mO]
  refine rx_Cl_imp (m_leaves hi hn) (fun r h' ⟨e, y1, y2⟩ => ?_)
  subst e
  obtain ⟨pl', fo', z', h1'⟩ := y2.1
  have hm' := mIv_mN y2
  have b9 : v (41 * p) < 2 ^ 31 := by omega
  simp (disch := first | decide | omega) only [rx_W, rx_wp_succ, rx_nx_stop, rx_nx_go, rx_lx_some, rx_fx_some, rx_ax_some, rx_qx_some, rx_ox_some, rx_vx_ref, rx_ix_ref, rx_ld_0, rx_ld_2, rx_ld_3, rx_cx_some, rx_nl, List.getElem?_cons_zero, List.getElem?_cons_succ, List.set_cons_zero, List.set_cons_succ, List.length_cons, List.length_nil, List.take_succ_cons, List.take_zero, List.drop_succ_cons, List.drop_zero, List.reverse_cons, List.reverse_nil, List.nil_append, List.cons_append, Option.toList_some, Option.toList_none, true_and, and_true, and_self, true_or, or_true, false_and, and_false, false_or, or_false, not_false_eq_true, Nat.reduceAdd, Nat.reduceLT, Nat.reduceLeDiff, Nat.reduceBEq, Nat.reduceEqDiff, Bool.or_false, Bool.false_or, if_true, if_false, Bool.false_eq_true, nq_eq, nq_lt, nq_le, nq_in_t, nq_bd, nq_ft, nq_clamp, nq_shl31, nq_shr31, nq_bitb, nq_add, nq_mul, fa_and, fa_or, nq_b0, nq_b1, nq_b01, ↓ni_lt_t, ↓ni_lt_f, ↓ni_le_t, ↓ni_le_f, ↓ni_eq_t, ↓ni_eq_f, ↓ni_beq_t, ↓ni_beq_f, it_X8_process, h1', mO, q_X8_many hm']
  refine l_X8_pc (h0 := h') (v := v) h1' hp _ (fun h2 v1 z1 z2 z3 => ?_) 40 1 h' v (by omega) (by omega) (Fr_rfl _ _) y2.2.1 (fun i => by rw [if_neg (by omega)])
  have h2' := rd_fr z1 (by simp) h1'
  obtain ⟨f, a1, a2⟩ := z2
  apply rx_wp_sound 60 []
  simp (disch := first | decide | omega) only [rx_W, rx_wp_succ, rx_nx_stop, rx_nx_go, rx_lx_some, rx_fx_some, rx_ax_some, rx_qx_some, rx_ox_some, rx_vx_ref, rx_ix_ref, rx_ld_0, rx_ld_2, rx_ld_3, rx_cx_some, rx_nl, List.getElem?_cons_zero, List.getElem?_cons_succ, List.set_cons_zero, List.set_cons_succ, List.length_cons, List.length_nil, List.take_succ_cons, List.take_zero, List.drop_succ_cons, List.drop_zero, List.reverse_cons, List.reverse_nil, List.nil_append, List.cons_append, Option.toList_some, Option.toList_none, true_and, and_true, and_self, true_or, or_true, false_and, and_false, false_or, or_false, not_false_eq_true, Nat.reduceAdd, Nat.reduceLT, Nat.reduceLeDiff, Nat.reduceBEq, Nat.reduceEqDiff, Bool.or_false, Bool.false_or, if_true, if_false, Bool.false_eq_true, nq_eq, nq_lt, nq_le, nq_in_t, nq_bd, nq_ft, nq_clamp, nq_shl31, nq_shr31, nq_bitb, nq_add, nq_mul, fa_and, fa_or, nq_b0, nq_b1, nq_b01, ↓ni_lt_t, ↓ni_lt_f, ↓ni_le_t, ↓ni_le_f, ↓ni_eq_t, ↓ni_eq_f, ↓ni_beq_t, ↓ni_beq_f, it_X8_process, h2', mO, a1]
  have f2 : Fr h' (rx_up h2 99 (.inl (0, 164, .inl (upd f (41 * p) (nI n))))) [99] := Fr_up z1 (by simp)
  have y3 : mIv (rx_up h2 99 (.inl (0, 164, .inl (upd f (41 * p) (nI n))))) (setP v p n (fun _ => 0)) (pU u np v) (pN np) L t cs := by
    refine mIv_v f2 y2 ⟨_, rd_eq _ _ _, fun i hi' => ?_⟩
    rw [aN_upd a2 (41 * p) n i hi']
    congr 1
    unfold setP pmV mdW va_up
    rw [z3 i]
    by_cases c : i = 41 * p
    · rw [if_pos c, if_pos (by omega), if_pos (by omega)]
    · rw [if_neg c]
      by_cases d : 41 * p + 1 ≤ i ∧ i < 41 * p + 41
      · rw [if_pos d, if_pos (by omega), if_neg (by omega)]
      · rw [if_neg d, if_neg (by omega)]
  exact ⟨rfl, Fr_mm (Fr_mA y1 (by simp)) (Fr_mA f2 (by simp)), y3⟩
end MP
