/-! ===== Likeness ===== -/
def kO (nd sc : Nat) : rx_C := .inr (0, [.ref 57, .ref 58, .ref 59, .ref 60, .int (nI nd), .int (nI sc)])
def jnW (Ld w : Nat → Nat) (nd m : Nat) : Nat → Nat := fun j => if 5 * nd ≤ j ∧ j < m then w (j - 5 * nd) * 2 ^ nd else Ld j
theorem jnW_step (Ld w : Nat → Nat) {nd m : Nat} (h : 5 * nd ≤ m) : va_up (jnW Ld w nd m) m (w (m - 5 * nd) * 2 ^ nd) = jnW Ld w nd (m + 1) := by
  funext j
  unfold va_up jnW
  by_cases e : j = m
  · subst e
    rw [if_pos rfl, if_pos (by omega)]
  · rw [if_neg e]
    by_cases c : 5 * nd ≤ j ∧ j < m
    · rw [if_pos c, if_pos (by omega)]
    · rw [if_neg c, if_neg (by omega)]
theorem l_X0_jn1 {h0 : rx_H} {o n nd sc s : Nat} {w Ld : Nat → Nat} (hp0 : pW h0 o n w) (ho : 57 < o) (hs : s < n) (hn : n ≤ 8) (hnd : nd + n ≤ 16) (Q : Option Value → rx_H → Prop)
    (hq : ∀ h, Fr h0 h [56, 57] → rx_rd h 56 = some (kO (nd + s) sc) → aN h 57 80 (jnW Ld w nd (5 * (nd + s) + 5)) → rx_R 7 53 [.ref 56, .ref o, .int (nI nd), .int (nI s), .int (nI 5)] [] h Q) :
    ∀ j b h, b + j = 5 → Fr h0 h [56, 57] → rx_rd h 56 = some (kO (nd + s) sc) → aN h 57 80 (jnW Ld w nd (5 * (nd + s) + b)) → rx_R 7 18 [.ref 56, .ref o, .int (nI nd), .int (nI s), .int (nI b)] [] h Q
  | 0, b, h, e, hf, hk, ha => by
    have e' : b = 5 := by omega
    subst e'
    apply rx_wp_sound 60 [18, 53]
    simp (disch := first | decide | omega) only [rx_W, rx_wp_succ, rx_nx_stop, rx_nx_go, rx_lx_some, rx_fx_some, rx_ax_some, rx_qx_some, rx_ox_some, rx_vx_ref, rx_ix_ref, rx_ld_0, rx_ld_2, rx_ld_3, rx_cx_some, rx_nl, List.getElem?_cons_zero, List.getElem?_cons_succ, List.set_cons_zero, List.set_cons_succ, List.length_cons, List.length_nil, List.take_succ_cons, List.take_zero, List.drop_succ_cons, List.drop_zero, List.reverse_cons, List.reverse_nil, List.nil_append, List.cons_append, Option.toList_some, Option.toList_none, true_and, and_true, and_self, true_or, or_true, false_and, and_false, false_or, or_false, not_false_eq_true, Nat.reduceAdd, Nat.reduceLT, Nat.reduceLeDiff, Nat.reduceBEq, Nat.reduceEqDiff, Bool.or_false, Bool.false_or, if_true, if_false, Bool.false_eq_true, nq_eq, nq_lt, nq_le, nq_in_t, nq_bd, nq_ft, nq_clamp, nq_shl31, nq_shr31, nq_bitb, nq_add, nq_mul, fa_and, fa_or, nq_b0, nq_b1, nq_b01, ↓ni_lt_t, ↓ni_lt_f, ↓ni_le_t, ↓ni_le_f, ↓ni_eq_t, ↓ni_eq_f, ↓ni_beq_t, ↓ni_beq_f, it_X0_join]
    exact hq h hf hk ha
  | j + 1, b, h, e, hf, hk, ha => by
    have hp := pW_fr hf (by simp; omega) (by simp; omega) hp0
    obtain ⟨f, a1, a2⟩ := ha
    apply rx_wp_sound 60 [18, 53]
    simp (disch := first | decide | omega) only [rx_W, rx_wp_succ, rx_nx_stop, rx_nx_go, rx_lx_some, rx_fx_some, rx_ax_some, rx_qx_some, rx_ox_some, rx_vx_ref, rx_ix_ref, rx_ld_0, rx_ld_2, rx_ld_3, rx_cx_some, rx_nl, List.getElem?_cons_zero, List.getElem?_cons_succ, List.set_cons_zero, List.set_cons_succ, List.length_cons, List.length_nil, List.take_succ_cons, List.take_zero, List.drop_succ_cons, List.drop_zero, List.reverse_cons, List.reverse_nil, List.nil_append, List.cons_append, Option.toList_some, Option.toList_none, true_and, and_true, and_self, true_or, or_true, false_and, and_false, false_or, or_false, not_false_eq_true, Nat.reduceAdd, Nat.reduceLT, Nat.reduceLeDiff, Nat.reduceBEq, Nat.reduceEqDiff, Bool.or_false, Bool.false_or, if_true, if_false, Bool.false_eq_true, nq_eq, nq_lt, nq_le, nq_in_t, nq_bd, nq_ft, nq_clamp, nq_shl31, nq_shr31, nq_bitb, nq_add, nq_mul, fa_and, fa_or, nq_b0, nq_b1, nq_b01, ↓ni_lt_t, ↓ni_lt_f, ↓ni_le_t, ↓ni_le_f, ↓ni_eq_t, ↓ni_eq_f, ↓ni_beq_t, ↓ni_beq_f, it_X0_join, hk, kO, q_X4_targets hp, hp.1, hp.2.2, a1]
    refine l_X0_jn1 hp0 ho hs hn hnd Q hq j (b + 1) _ (by omega) (Fr_up hf (by simp)) ((rd_ne (by omega)).trans hk) ⟨_, rd_eq _ _ _, ?_⟩
    have e2 := jnW_step Ld w (nd := nd) (m := 5 * (nd + s) + b) (by omega)
    rw [show 5 * (nd + s) + (b + 1) = 5 * (nd + s) + b + 1 by omega, ← e2]
    have := aN_upd a2 (5 * (nd + s) + b) (w (5 * (nd + s) + b - 5 * nd) * 2 ^ nd)
    rw [show (nd + s) * 5 + b = 5 * (nd + s) + b by omega, show s * 5 + b = 5 * (nd + s) + b - 5 * nd by omega]
    exact this
theorem l_X0_jn {h0 : rx_H} {o n nd sc : Nat} {w Ld : Nat → Nat} (hp0 : pW h0 o n w) (ho : 57 < o) (hn : n ≤ 8) (hnd : nd + n ≤ 16) (Q : Option Value → rx_H → Prop)
    (hq : ∀ h, Fr h0 h [56, 57] → rx_rd h 56 = some (kO (nd + n) sc) → aN h 57 80 (jnW Ld w nd (5 * (nd + n))) → Q none h) :
    ∀ j s h x, s + j = n → Fr h0 h [56, 57] → rx_rd h 56 = some (kO (nd + s) sc) → aN h 57 80 (jnW Ld w nd (5 * (nd + s))) → rx_R 7 7 [.ref 56, .ref o, .int (nI nd), .int (nI s), x] [] h Q
  | 0, s, h, x, e, hf, hk, ha => by
    have e' : s = n := by omega
    subst e'
    have hp := pW_fr hf (by simp; omega) (by simp; omega) hp0
    apply rx_wp_sound 60 [7, 18]
    simp (disch := first | decide | omega) only [rx_W, rx_wp_succ, rx_nx_stop, rx_nx_go, rx_lx_some, rx_fx_some, rx_ax_some, rx_qx_some, rx_ox_some, rx_vx_ref, rx_ix_ref, rx_ld_0, rx_ld_2, rx_ld_3, rx_cx_some, rx_nl, List.getElem?_cons_zero, List.getElem?_cons_succ, List.set_cons_zero, List.set_cons_succ, List.length_cons, List.length_nil, List.take_succ_cons, List.take_zero, List.drop_succ_cons, List.drop_zero, List.reverse_cons, List.reverse_nil, List.nil_append, List.cons_append, Option.toList_some, Option.toList_none, true_and, and_true, and_self, true_or, or_true, false_and, and_false, false_or, or_false, not_false_eq_true, Nat.reduceAdd, Nat.reduceLT, Nat.reduceLeDiff, Nat.reduceBEq, Nat.reduceEqDiff, Bool.or_false, Bool.false_or, if_true, if_false, Bool.false_eq_true, nq_eq, nq_lt, nq_le, nq_in_t, nq_bd, nq_ft, nq_clamp, nq_shl31, nq_shr31, nq_bitb, nq_add, nq_mul, fa_and, fa_or, nq_b0, nq_b1, nq_b01, ↓ni_lt_t, ↓ni_lt_f, ↓ni_le_t, ↓ni_le_f, ↓ni_eq_t, ↓ni_eq_f, ↓ni_beq_t, ↓ni_beq_f, it_X0_join, hp.1, hp.2.2]
    exact hq h hf hk ha
  | j + 1, s, h, x, e, hf, hk, ha => by
    have hp := pW_fr hf (by simp; omega) (by simp; omega) hp0
    apply rx_wp_sound 60 [7, 18]
    simp (disch := first | decide | omega) only [rx_W, rx_wp_succ, rx_nx_stop, rx_nx_go, rx_lx_some, rx_fx_some, rx_ax_some, rx_qx_some, rx_ox_some, rx_vx_ref, rx_ix_ref, rx_ld_0, rx_ld_2, rx_ld_3, rx_cx_some, rx_nl, List.getElem?_cons_zero, List.getElem?_cons_succ, List.set_cons_zero, List.set_cons_succ, List.length_cons, List.length_nil, List.take_succ_cons, List.take_zero, List.drop_succ_cons, List.drop_zero, List.reverse_cons, List.reverse_nil, List.nil_append, List.cons_append, Option.toList_some, Option.toList_none, true_and, and_true, and_self, true_or, or_true, false_and, and_false, false_or, or_false, not_false_eq_true, Nat.reduceAdd, Nat.reduceLT, Nat.reduceLeDiff, Nat.reduceBEq, Nat.reduceEqDiff, Bool.or_false, Bool.false_or, if_true, if_false, Bool.false_eq_true, nq_eq, nq_lt, nq_le, nq_in_t, nq_bd, nq_ft, nq_clamp, nq_shl31, nq_shr31, nq_bitb, nq_add, nq_mul, fa_and, fa_or, nq_b0, nq_b1, nq_b01, ↓ni_lt_t, ↓ni_lt_f, ↓ni_le_t, ↓ni_le_f, ↓ni_eq_t, ↓ni_eq_f, ↓ni_beq_t, ↓ni_beq_f, it_X0_join, hp.1, hp.2.2]
    refine l_X0_jn1 (h0 := h0) (sc := sc) (Ld := Ld) hp0 ho (s := s) (by omega) hn hnd Q (fun h2 y1 y2 y3 => ?_) 5 0 h (by omega) hf hk ha
    apply rx_wp_sound 60 [7]
    simp (disch := first | decide | omega) only [rx_W, rx_wp_succ, rx_nx_stop, rx_nx_go, rx_lx_some, rx_fx_some, rx_ax_some, rx_qx_some, rx_ox_some, rx_vx_ref, rx_ix_ref, rx_ld_0, rx_ld_2, rx_ld_3, rx_cx_some, rx_nl, List.getElem?_cons_zero, List.getElem?_cons_succ, List.set_cons_zero, List.set_cons_succ, List.length_cons, List.length_nil, List.take_succ_cons, List.take_zero, List.drop_succ_cons, List.drop_zero, List.reverse_cons, List.reverse_nil, List.nil_append, List.cons_append, Option.toList_some, Option.toList_none, true_and, and_true, and_self, true_or, or_true, false_and, and_false, false_or, or_false, not_false_eq_true, Nat.reduceAdd, Nat.reduceLT, Nat.reduceLeDiff, Nat.reduceBEq, Nat.reduceEqDiff, Bool.or_false, Bool.false_or, if_true, if_false, Bool.false_eq_true, nq_eq, nq_lt, nq_le, nq_in_t, nq_bd, nq_ft, nq_clamp, nq_shl31, nq_shr31, nq_bitb, nq_add, nq_mul, fa_and, fa_or, nq_b0, nq_b1, nq_b01, ↓ni_lt_t, ↓ni_lt_f, ↓ni_le_t, ↓ni_le_f, ↓ni_eq_t, ↓ni_eq_f, ↓ni_beq_t, ↓ni_beq_f, it_X0_join, y2, kO, rx_ft]
    refine l_X0_jn hp0 ho hn hnd Q hq j (s + 1) _ _ (by omega) (Fr_up y1 (by simp)) (by rw [rd_eq]; rfl) (aN_fr (A := [56]) (Fr_up (Fr_rfl _ _) (by simp)) (by simp) ?_)
    rw [show 5 * (nd + (s + 1)) = 5 * (nd + s) + 5 by omega]
    exact y3
theorem jnW_0 (Ld w : Nat → Nat) (nd : Nat) : jnW Ld w nd (5 * (nd + 0)) = Ld := by
  funext j
  unfold jnW
  rw [if_neg (by omega)]
theorem c_X0_join {h : rx_H} {o n nd sc : Nat} {w Ld : Nat → Nat} (hk : rx_rd h 56 = some (kO nd sc)) (ha : aN h 57 80 Ld) (hp : pW h o n w) (ho : 57 < o) (hn : n ≤ 8) (hnd : nd + n ≤ 16) : rx_Cl 7 [.ref 56, .ref o] h (fun r h' => r = none ∧ Fr h h' [56, 57] ∧ rx_rd h' 56 = some (kO (nd + n) sc) ∧ aN h' 57 80 (jnW Ld w nd (5 * (nd + n)))) := by
  apply en_X0_join _ _ 60 [7]
  simp (disch := first | decide | omega) only [rx_W, rx_wp_succ, rx_nx_stop, rx_nx_go, rx_lx_some, rx_fx_some, rx_ax_some, rx_qx_some, rx_ox_some, rx_vx_ref, rx_ix_ref, rx_ld_0, rx_ld_2, rx_ld_3, rx_cx_some, rx_nl, List.getElem?_cons_zero, List.getElem?_cons_succ, List.set_cons_zero, List.set_cons_succ, List.length_cons, List.length_nil, List.take_succ_cons, List.take_zero, List.drop_succ_cons, List.drop_zero, List.reverse_cons, List.reverse_nil, List.nil_append, List.cons_append, Option.toList_some, Option.toList_none, true_and, and_true, and_self, true_or, or_true, false_and, and_false, false_or, or_false, not_false_eq_true, Nat.reduceAdd, Nat.reduceLT, Nat.reduceLeDiff, Nat.reduceBEq, Nat.reduceEqDiff, Bool.or_false, Bool.false_or, if_true, if_false, Bool.false_eq_true, nq_eq, nq_lt, nq_le, nq_in_t, nq_bd, nq_ft, nq_clamp, nq_shl31, nq_shr31, nq_bitb, nq_add, nq_mul, fa_and, fa_or, nq_b0, nq_b1, nq_b01, ↓ni_lt_t, ↓ni_lt_f, ↓ni_le_t, ↓ni_le_f, ↓ni_eq_t, ↓ni_eq_f, ↓ni_beq_t, ↓ni_beq_f, it_X0_join, hk, kO]
  refine l_X0_jn (h0 := h) (sc := sc) (Ld := Ld) hp ho hn hnd _ (fun h2 y1 y2 y3 => ⟨rfl, y1, y2, y3⟩) n 0 h _ (by omega) (Fr_rfl _ _) hk ?_
  rw [jnW_0]
  exact ha
/-! ===== images ===== -/
section IM
variable {h0 : rx_H} {N sc : Nat} {Ld Lk : Nat → Nat}
theorem l_X0_im1 {h : rx_H} (hk : rx_rd h 56 = some (kO N sc)) (hN : N ≤ 16) (aL : aN h 57 80 Ld) (aK : aN h 59 16 Lk) {r : Nat} (hr : r < 5 * N) (hL : Ld r < 2 ^ 16) (Q : Option Value → rx_H → Prop)
    (hq : ∀ x, rx_R 9 63 [.ref 56, .int (nI r), .int (nI (img Ld Lk N r)), x] [] h Q) :
    ∀ j i, i + j = N → rx_R 9 16 [.ref 56, .int (nI r), .int (nI (un (fun i => if (Ld r).testBit i then Lk i else 0) i)), .int (nI i)] [] h Q
  | 0, i, e => by
    have e' : i = N := by omega
    subst e'
    obtain ⟨f, a1, a2⟩ := aL
    have d1 : Ld r / 2 ^ i ≤ Ld r := Nat.div_le_self _ _
    apply rx_wp_sound 60 [16, 63]
    simp (disch := first | decide | omega) only [rx_W, rx_wp_succ, rx_nx_stop, rx_nx_go, rx_lx_some, rx_fx_some, rx_ax_some, rx_qx_some, rx_ox_some, rx_vx_ref, rx_ix_ref, rx_ld_0, rx_ld_2, rx_ld_3, rx_cx_some, rx_nl, List.getElem?_cons_zero, List.getElem?_cons_succ, List.set_cons_zero, List.set_cons_succ, List.length_cons, List.length_nil, List.take_succ_cons, List.take_zero, List.drop_succ_cons, List.drop_zero, List.reverse_cons, List.reverse_nil, List.nil_append, List.cons_append, Option.toList_some, Option.toList_none, true_and, and_true, and_self, true_or, or_true, false_and, and_false, false_or, or_false, not_false_eq_true, Nat.reduceAdd, Nat.reduceLT, Nat.reduceLeDiff, Nat.reduceBEq, Nat.reduceEqDiff, Bool.or_false, Bool.false_or, if_true, if_false, Bool.false_eq_true, nq_eq, nq_lt, nq_le, nq_in_t, nq_bd, nq_ft, nq_clamp, nq_shl31, nq_shr31, nq_bitb, nq_add, nq_mul, fa_and, fa_or, nq_b0, nq_b1, nq_b01, ↓ni_lt_t, ↓ni_lt_f, ↓ni_le_t, ↓ni_le_f, ↓ni_eq_t, ↓ni_eq_f, ↓ni_beq_t, ↓ni_beq_f, it_X0_findImages, hk, kO, a1, a2]
    split
    · exact hq _
    · exact hq _
  | j + 1, i, e => by
    have ih := l_X0_im1 hk hN aL aK hr hL Q hq j (i + 1) (by omega)
    rw [un_succ] at ih
    obtain ⟨f, a1, a2⟩ := aL
    obtain ⟨g, b1, b2⟩ := aK
    have d1 : Ld r / 2 ^ i ≤ Ld r := Nat.div_le_self _ _
    apply rx_wp_sound 60 [16, 63]
    simp (disch := first | decide | omega) only [rx_W, rx_wp_succ, rx_nx_stop, rx_nx_go, rx_lx_some, rx_fx_some, rx_ax_some, rx_qx_some, rx_ox_some, rx_vx_ref, rx_ix_ref, rx_ld_0, rx_ld_2, rx_ld_3, rx_cx_some, rx_nl, List.getElem?_cons_zero, List.getElem?_cons_succ, List.set_cons_zero, List.set_cons_succ, List.length_cons, List.length_nil, List.take_succ_cons, List.take_zero, List.drop_succ_cons, List.drop_zero, List.reverse_cons, List.reverse_nil, List.nil_append, List.cons_append, Option.toList_some, Option.toList_none, true_and, and_true, and_self, true_or, or_true, false_and, and_false, false_or, or_false, not_false_eq_true, Nat.reduceAdd, Nat.reduceLT, Nat.reduceLeDiff, Nat.reduceBEq, Nat.reduceEqDiff, Bool.or_false, Bool.false_or, if_true, if_false, Bool.false_eq_true, nq_eq, nq_lt, nq_le, nq_in_t, nq_bd, nq_ft, nq_clamp, nq_shl31, nq_shr31, nq_bitb, nq_add, nq_mul, fa_and, fa_or, nq_b0, nq_b1, nq_b01, ↓ni_lt_t, ↓ni_lt_f, ↓ni_le_t, ↓ni_le_f, ↓ni_eq_t, ↓ni_eq_f, ↓ni_beq_t, ↓ni_beq_f, it_X0_findImages, hk, kO, a1, a2, b1, b2, q_X7_has]
    split
    · next c =>
      have c2 : Ld r < 2 ^ i := by
        rw [Nat.div_eq_zero_iff] at c
        rcases c with z | z
        · have := Nat.two_pow_pos i; omega
        · exact z
      have e2 : un (fun i => if (Ld r).testBit i then Lk i else 0) i = img Ld Lk N r := by
        unfold img
        refine (un_more N (by omega) (fun i' hi' => ?_)).symm
        rw [if_neg]
        intro z
        have := bit_lt c2 z
        omega
      rw [e2]
      exact hq _
    · next c =>
      split
      · next c2 => rw [if_neg (by rw [c2]; simp), Nat.or_zero] at ih; exact ih
      · next c2 => rw [if_pos (by simpa using c2)] at ih; exact ih
theorem l_X0_im (hk0 : rx_rd h0 56 = some (kO N sc)) (hN : N ≤ 16) (aL0 : aN h0 57 80 Ld) (aK0 : aN h0 59 16 Lk) (hL : ∀ r, r < 5 * N → Ld r < 2 ^ 16) (Q : Option Value → rx_H → Prop)
    (hq : ∀ h Im, Fr h0 h [58] → aN h 58 80 Im → (∀ r, r < 5 * N → Im r = img Ld Lk N r) → Q none h) :
    ∀ j r h Im x y, r + j = 5 * N → Fr h0 h [58] → aN h 58 80 Im → (∀ r', r' < r → Im r' = img Ld Lk N r') → rx_R 9 2 [.ref 56, .int (nI r), x, y] [] h Q
  | 0, r, h, Im, x, y, e, hf, ha, hI => by
    have e' : r = 5 * N := by omega
    subst e'
    have hk := (hf.2.2 56 (by simp)).trans hk0
    apply rx_wp_sound 60 [2, 16]
    simp (disch := first | decide | omega) only [rx_W, rx_wp_succ, rx_nx_stop, rx_nx_go, rx_lx_some, rx_fx_some, rx_ax_some, rx_qx_some, rx_ox_some, rx_vx_ref, rx_ix_ref, rx_ld_0, rx_ld_2, rx_ld_3, rx_cx_some, rx_nl, List.getElem?_cons_zero, List.getElem?_cons_succ, List.set_cons_zero, List.set_cons_succ, List.length_cons, List.length_nil, List.take_succ_cons, List.take_zero, List.drop_succ_cons, List.drop_zero, List.reverse_cons, List.reverse_nil, List.nil_append, List.cons_append, Option.toList_some, Option.toList_none, true_and, and_true, and_self, true_or, or_true, false_and, and_false, false_or, or_false, not_false_eq_true, Nat.reduceAdd, Nat.reduceLT, Nat.reduceLeDiff, Nat.reduceBEq, Nat.reduceEqDiff, Bool.or_false, Bool.false_or, if_true, if_false, Bool.false_eq_true, nq_eq, nq_lt, nq_le, nq_in_t, nq_bd, nq_ft, nq_clamp, nq_shl31, nq_shr31, nq_bitb, nq_add, nq_mul, fa_and, fa_or, nq_b0, nq_b1, nq_b01, ↓ni_lt_t, ↓ni_lt_f, ↓ni_le_t, ↓ni_le_f, ↓ni_eq_t, ↓ni_eq_f, ↓ni_beq_t, ↓ni_beq_f, it_X0_findImages, hk, kO]
    exact hq h Im hf ha hI
  | j + 1, r, h, Im, x, y, e, hf, ha, hI => by
    have hk := (hf.2.2 56 (by simp)).trans hk0
    apply rx_wp_sound 60 [2, 16]
    simp (disch := first | decide | omega) only [rx_W, rx_wp_succ, rx_nx_stop, rx_nx_go, rx_lx_some, rx_fx_some, rx_ax_some, rx_qx_some, rx_ox_some, rx_vx_ref, rx_ix_ref, rx_ld_0, rx_ld_2, rx_ld_3, rx_cx_some, rx_nl, List.getElem?_cons_zero, List.getElem?_cons_succ, List.set_cons_zero, List.set_cons_succ, List.length_cons, List.length_nil, List.take_succ_cons, List.take_zero, List.drop_succ_cons, List.drop_zero, List.reverse_cons, List.reverse_nil, List.nil_append, List.cons_append, Option.toList_some, Option.toList_none, true_and, and_true, and_self, true_or, or_true, false_and, and_false, false_or, or_false, not_false_eq_true, Nat.reduceAdd, Nat.reduceLT, Nat.reduceLeDiff, Nat.reduceBEq, Nat.reduceEqDiff, Bool.or_false, Bool.false_or, if_true, if_false, Bool.false_eq_true, nq_eq, nq_lt, nq_le, nq_in_t, nq_bd, nq_ft, nq_clamp, nq_shl31, nq_shr31, nq_bitb, nq_add, nq_mul, fa_and, fa_or, nq_b0, nq_b1, nq_b01, ↓ni_lt_t, ↓ni_lt_f, ↓ni_le_t, ↓ni_le_f, ↓ni_eq_t, ↓ni_eq_f, ↓ni_beq_t, ↓ni_beq_f, it_X0_findImages, hk, kO]
    refine l_X0_im1 hk hN (aN_fr hf (by simp) aL0) (aN_fr hf (by simp) aK0) (r := r) (by omega) (hL r (by omega)) Q (fun x2 => ?_) N 0 (by omega)
    obtain ⟨f, a1, a2⟩ := ha
    apply rx_wp_sound 60 [2]
    simp (disch := first | decide | omega) only [rx_W, rx_wp_succ, rx_nx_stop, rx_nx_go, rx_lx_some, rx_fx_some, rx_ax_some, rx_qx_some, rx_ox_some, rx_vx_ref, rx_ix_ref, rx_ld_0, rx_ld_2, rx_ld_3, rx_cx_some, rx_nl, List.getElem?_cons_zero, List.getElem?_cons_succ, List.set_cons_zero, List.set_cons_succ, List.length_cons, List.length_nil, List.take_succ_cons, List.take_zero, List.drop_succ_cons, List.drop_zero, List.reverse_cons, List.reverse_nil, List.nil_append, List.cons_append, Option.toList_some, Option.toList_none, true_and, and_true, and_self, true_or, or_true, false_and, and_false, false_or, or_false, not_false_eq_true, Nat.reduceAdd, Nat.reduceLT, Nat.reduceLeDiff, Nat.reduceBEq, Nat.reduceEqDiff, Bool.or_false, Bool.false_or, if_true, if_false, Bool.false_eq_true, nq_eq, nq_lt, nq_le, nq_in_t, nq_bd, nq_ft, nq_clamp, nq_shl31, nq_shr31, nq_bitb, nq_add, nq_mul, fa_and, fa_or, nq_b0, nq_b1, nq_b01, ↓ni_lt_t, ↓ni_lt_f, ↓ni_le_t, ↓ni_le_f, ↓ni_eq_t, ↓ni_eq_f, ↓ni_beq_t, ↓ni_beq_f, it_X0_findImages, hk, kO, a1]
    refine l_X0_im hk0 hN aL0 aK0 hL Q hq j (r + 1) _ (va_up Im r (img Ld Lk N r)) _ _ (by omega) (Fr_up hf (by simp)) ⟨_, rd_eq _ _ _, aN_upd a2 _ _⟩ (fun r' hr' => ?_)
    by_cases er : r' = r
    · rw [er, vu_eq]
    · rw [vu_ne er]; exact hI r' (by omega)
theorem c_X0_findImages {Im : Nat → Nat} (hk : rx_rd h0 56 = some (kO N sc)) (hN : N ≤ 16) (aL : aN h0 57 80 Ld) (aK : aN h0 59 16 Lk) (aI : aN h0 58 80 Im) (hL : ∀ r, r < 5 * N → Ld r < 2 ^ 16) : rx_Cl 9 [.ref 56] h0 (fun r h' => r = none ∧ Fr h0 h' [58] ∧ ∃ Im, aN h' 58 80 Im ∧ ∀ r, r < 5 * N → Im r = img Ld Lk N r) := by
  apply en_X0_findImages _ 60 [2]
  simp (disch := first | decide | omega) only [rx_W, rx_wp_succ, rx_nx_stop, rx_nx_go, rx_lx_some, rx_fx_some, rx_ax_some, rx_qx_some, rx_ox_some, rx_vx_ref, rx_ix_ref, rx_ld_0, rx_ld_2, rx_ld_3, rx_cx_some, rx_nl, List.getElem?_cons_zero, List.getElem?_cons_succ, List.set_cons_zero, List.set_cons_succ, List.length_cons, List.length_nil, List.take_succ_cons, List.take_zero, List.drop_succ_cons, List.drop_zero, List.reverse_cons, List.reverse_nil, List.nil_append, List.cons_append, Option.toList_some, Option.toList_none, true_and, and_true, and_self, true_or, or_true, false_and, and_false, false_or, or_false, not_false_eq_true, Nat.reduceAdd, Nat.reduceLT, Nat.reduceLeDiff, Nat.reduceBEq, Nat.reduceEqDiff, Bool.or_false, Bool.false_or, if_true, if_false, Bool.false_eq_true, nq_eq, nq_lt, nq_le, nq_in_t, nq_bd, nq_ft, nq_clamp, nq_shl31, nq_shr31, nq_bitb, nq_add, nq_mul, fa_and, fa_or, nq_b0, nq_b1, nq_b01, ↓ni_lt_t, ↓ni_lt_f, ↓ni_le_t, ↓ni_le_f, ↓ni_eq_t, ↓ni_eq_f, ↓ni_beq_t, ↓ni_beq_f, it_X0_findImages]
  exact l_X0_im hk hN aL aK hL _ (fun h2 Im2 y1 y2 y3 => ⟨rfl, y1, Im2, y2, y3⟩) (5 * N) 0 h0 Im _ _ (by omega) (Fr_rfl _ _) aI (fun r hr => by omega)
theorem l_X0_same {h : rx_H} {Im : Nat → Nat} {i j0 : Nat} (hk : rx_rd h 56 = some (kO N sc)) (aI : aN h 58 80 Im) (hi : i < 16) (hj : j0 < 16) (h1 : ∀ b, b < 5 → Im (i * 5 + b) < 2 ^ 31 ∧ Im (j0 * 5 + b) < 2 ^ 31) (Q : Option Value → rx_H → Prop) (hq : Q (some (.int (nI (smI Im i j0).toNat))) h) : ∀ j b, b + j = 5 → (∀ b', b' < b → Im (i * 5 + b') = Im (j0 * 5 + b')) → rx_R 11 2 [.ref 56, .int (nI i), .int (nI j0), .int (nI b)] [] h Q
  | 0, b, e, hh => by
    have e' : b = 5 := by omega
    subst e'
    have : smI Im i j0 = true := (smI_iff Im i j0).mpr hh
    rw [this] at hq
    apply rx_wp_sound 60 [2]
    simp (disch := first | decide | omega) only [rx_W, rx_wp_succ, rx_nx_stop, rx_nx_go, rx_lx_some, rx_fx_some, rx_ax_some, rx_qx_some, rx_ox_some, rx_vx_ref, rx_ix_ref, rx_ld_0, rx_ld_2, rx_ld_3, rx_cx_some, rx_nl, List.getElem?_cons_zero, List.getElem?_cons_succ, List.set_cons_zero, List.set_cons_succ, List.length_cons, List.length_nil, List.take_succ_cons, List.take_zero, List.drop_succ_cons, List.drop_zero, List.reverse_cons, List.reverse_nil, List.nil_append, List.cons_append, Option.toList_some, Option.toList_none, true_and, and_true, and_self, true_or, or_true, false_and, and_false, false_or, or_false, not_false_eq_true, Nat.reduceAdd, Nat.reduceLT, Nat.reduceLeDiff, Nat.reduceBEq, Nat.reduceEqDiff, Bool.or_false, Bool.false_or, if_true, if_false, Bool.false_eq_true, nq_eq, nq_lt, nq_le, nq_in_t, nq_bd, nq_ft, nq_clamp, nq_shl31, nq_shr31, nq_bitb, nq_add, nq_mul, fa_and, fa_or, nq_b0, nq_b1, nq_b01, ↓ni_lt_t, ↓ni_lt_f, ↓ni_le_t, ↓ni_le_f, ↓ni_eq_t, ↓ni_eq_f, ↓ni_beq_t, ↓ni_beq_f, it_X0_sameImages]
    exact hq
  | j + 1, b, e, hh => by
    obtain ⟨f, a1, a2⟩ := aI
    have c1 := (h1 b (by omega)).1
    have c2 := (h1 b (by omega)).2
    apply rx_wp_sound 60 [2]
    simp (disch := first | decide | omega) only [rx_W, rx_wp_succ, rx_nx_stop, rx_nx_go, rx_lx_some, rx_fx_some, rx_ax_some, rx_qx_some, rx_ox_some, rx_vx_ref, rx_ix_ref, rx_ld_0, rx_ld_2, rx_ld_3, rx_cx_some, rx_nl, List.getElem?_cons_zero, List.getElem?_cons_succ, List.set_cons_zero, List.set_cons_succ, List.length_cons, List.length_nil, List.take_succ_cons, List.take_zero, List.drop_succ_cons, List.drop_zero, List.reverse_cons, List.reverse_nil, List.nil_append, List.cons_append, Option.toList_some, Option.toList_none, true_and, and_true, and_self, true_or, or_true, false_and, and_false, false_or, or_false, not_false_eq_true, Nat.reduceAdd, Nat.reduceLT, Nat.reduceLeDiff, Nat.reduceBEq, Nat.reduceEqDiff, Bool.or_false, Bool.false_or, if_true, if_false, Bool.false_eq_true, nq_eq, nq_lt, nq_le, nq_in_t, nq_bd, nq_ft, nq_clamp, nq_shl31, nq_shr31, nq_bitb, nq_add, nq_mul, fa_and, fa_or, nq_b0, nq_b1, nq_b01, ↓ni_lt_t, ↓ni_lt_f, ↓ni_le_t, ↓ni_le_f, ↓ni_eq_t, ↓ni_eq_f, ↓ni_beq_t, ↓ni_beq_f, it_X0_sameImages, hk, kO, a1, a2]
    split
    · next c =>
      refine l_X0_same hk ⟨f, a1, a2⟩ hi hj h1 Q hq j (b + 1) (by omega) (fun b' hb' => ?_)
      by_cases eb : b' = b
      · subst eb; exact c
      · exact hh b' (by omega)
    · next c =>
      have : smI Im i j0 = false := by
        cases hs : smI Im i j0
        · rfl
        · exact absurd ((smI_iff Im i j0).mp hs b (by omega)) c
      rw [this] at hq
      exact hq
theorem q_X0_sameImages {h : rx_H} {Im : Nat → Nat} {i j0 : Nat} (hk : rx_rd h 56 = some (kO N sc)) (aI : aN h 58 80 Im) (hi : i < 16) (hj : j0 < 16) (h1 : ∀ b, b < 5 → Im (i * 5 + b) < 2 ^ 31 ∧ Im (j0 * 5 + b) < 2 ^ 31) (Q : Option Value → rx_H → Prop) : rx_Cl 11 [.ref 56, .int (nI i), .int (nI j0)] h Q = Q (some (.int (nI (smI Im i j0).toNat))) h := by
  refine rx_Cl_eq ?_ Q
  apply en_X0_sameImages _ _ _ 60 [2]
  simp (disch := first | decide | omega) only [rx_W, rx_wp_succ, rx_nx_stop, rx_nx_go, rx_lx_some, rx_fx_some, rx_ax_some, rx_qx_some, rx_ox_some, rx_vx_ref, rx_ix_ref, rx_ld_0, rx_ld_2, rx_ld_3, rx_cx_some, rx_nl, List.getElem?_cons_zero, List.getElem?_cons_succ, List.set_cons_zero, List.set_cons_succ, List.length_cons, List.length_nil, List.take_succ_cons, List.take_zero, List.drop_succ_cons, List.drop_zero, List.reverse_cons, List.reverse_nil, List.nil_append, List.cons_append, Option.toList_some, Option.toList_none, true_and, and_true, and_self, true_or, or_true, false_and, and_false, false_or, or_false, not_false_eq_true, Nat.reduceAdd, Nat.reduceLT, Nat.reduceLeDiff, Nat.reduceBEq, Nat.reduceEqDiff, Bool.or_false, Bool.false_or, if_true, if_false, Bool.false_eq_true, nq_eq, nq_lt, nq_le, nq_in_t, nq_bd, nq_ft, nq_clamp, nq_shl31, nq_shr31, nq_bitb, nq_add, nq_mul, fa_and, fa_or, nq_b0, nq_b1, nq_b01, ↓ni_lt_t, ↓ni_lt_f, ↓ni_le_t, ↓ni_le_f, ↓ni_eq_t, ↓ni_eq_f, ↓ni_beq_t, ↓ni_beq_f, it_X0_sameImages]
  exact l_X0_same hk aI hi hj h1 _ ⟨rfl, rfl⟩ 5 0 (by omega) (fun b hb => by omega)
end IM
