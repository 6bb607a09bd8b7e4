/-! ===== the reference reads the text ===== -/
section MT
variable {h : rx_H} {v : Nat → Nat} {u : Nat → Nat → Nat} {np L : Nat} {t : Nat → Nat} {cs : Nat → Int32}
theorem mIv_98 {h' : rx_H} {pl fo : Int32} {z : Int64} (hf : Fr h h' [98]) (hi : mIv h v u np L t cs) (h1 : rx_rd h' 98 = some (mO (nI np) (nI L) pl fo z)) : mIv h' v u np L t cs := by
  obtain ⟨-, h2, ⟨a3, h3⟩, ⟨U, h4, h4'⟩, ⟨f, h5, h5'⟩, ⟨g, h6, h6'⟩, ⟨a7, h7⟩, ⟨a8, h8⟩, ⟨a9, h9⟩, ⟨f1, k1⟩, ⟨f2, k2⟩, f3, k3⟩ := hi
  exact ⟨⟨pl, fo, z, h1⟩, aN_fr hf (by simp) h2, ⟨a3, aN_fr hf (by simp) h3⟩, ⟨U, aN_fr hf (by simp) h4, h4'⟩, ⟨f, rd_fr hf (by simp) h5, h5'⟩, ⟨g, rd_fr hf (by simp) h6, h6'⟩, ⟨a7, aN_fr hf (by simp) h7⟩, ⟨a8, aN_fr hf (by simp) h8⟩, ⟨a9, aN_fr hf (by simp) h9⟩, ⟨f1, rd_fr hf (by simp) k1⟩, ⟨f2, rd_fr hf (by simp) k2⟩, f3, rd_fr hf (by simp) k3⟩
/-- place stands at i -/
def mIx (h : rx_H) (v : Nat → Nat) (u : Nat → Nat → Nat) (np L : Nat) (t : Nat → Nat) (cs : Nat → Int32) (i : Nat) : Prop := mIv h v u np L t cs ∧ ∃ fo z, rx_rd h 98 = some (mO (nI np) (nI L) (nI i) fo z)
def chr (t : Nat → Nat) (L nb : Nat) : Int32 := if nb < L then nI (t nb) else -1
def isNb (t : Nat → Nat) (L i nb : Nat) : Prop := i ≤ nb ∧ nb ≤ L ∧ (∀ k, i ≤ k → k < nb → t k = 32) ∧ (nb < L → ¬ t nb = 32)
theorem isNb_one {L i nb nb' : Nat} (h : isNb t L i nb) (h' : isNb t L i nb') : nb = nb' := by
  obtain ⟨a1, a2, a3, a4⟩ := h
  obtain ⟨b1, b2, b3, b4⟩ := h'
  rcases Nat.lt_trichotomy nb nb' with z | z | z
  · exact absurd (b3 nb a1 z) (a4 (by omega))
  · exact z
  · exact absurd (a3 nb' b1 z) (b4 (by omega))
def hrP (h : rx_H) (v : Nat → Nat) (u : Nat → Nat → Nat) (np L : Nat) (t : Nat → Nat) (cs : Nat → Int32) (i : Nat) : Option Value → rx_H → Prop := fun r h' => Fr h h' [98] ∧ ∃ nb, isNb t L i nb ∧ mIx h' v u np L t cs nb ∧ r = some (.int (chr t L nb))
theorem l_X8_here {h0 : rx_H} (hL : L ≤ 100) (ht : ∀ i, i < L → t i < 128) {i0 : Nat} : ∀ j i h, i + j = L → i0 ≤ i → (∀ k, i0 ≤ k → k < i → t k = 32) → Fr h0 h [98] → mIx h v u np L t cs i → rx_R 147 0 [.ref 98] [] h (hrP h0 v u np L t cs i0)
  | 0, i, h, e, hi0, hb, hf, hx => by
    have e' : i = L := by omega
    subst e'
    have hx' := hx
    obtain ⟨hi, fo, z, h1⟩ := hx'
    apply rx_wp_sound 60 [0]
    simp (disch := first | decide | omega) only [rx_W, rx_wp_succ, rx_nx_stop, rx_nx_go, rx_lx_some, rx_fx_some, rx_ax_some, rx_qx_some, rx_ox_some, rx_vx_ref, rx_ix_ref, rx_ld_0, rx_ld_2, rx_ld_3, rx_cx_some, rx_nl, List.getElem?_cons_zero, List.getElem?_cons_succ, List.set_cons_zero, List.set_cons_succ, List.length_cons, List.length_nil, List.take_succ_cons, List.take_zero, List.drop_succ_cons, List.drop_zero, List.reverse_cons, List.reverse_nil, List.nil_append, List.cons_append, Option.toList_some, Option.toList_none, true_and, and_true, and_self, true_or, or_true, false_and, and_false, false_or, or_false, not_false_eq_true, Nat.reduceAdd, Nat.reduceLT, Nat.reduceLeDiff, Nat.reduceBEq, Nat.reduceEqDiff, Bool.or_false, Bool.false_or, if_true, if_false, Bool.false_eq_true, nq_eq, nq_lt, nq_le, nq_in_t, nq_bd, nq_ft, nq_clamp, nq_shl31, nq_shr31, nq_bitb, nq_add, nq_mul, fa_and, fa_or, nq_b0, nq_b1, nq_b01, ↓ni_lt_t, ↓ni_lt_f, ↓ni_le_t, ↓ni_le_f, ↓ni_eq_t, ↓ni_eq_f, ↓ni_beq_t, ↓ni_beq_f, it_X8_here, h1, mO]
    refine ⟨hf, i, ⟨hi0, Nat.le_refl _, hb, fun z => by omega⟩, hx, ?_⟩
    unfold chr
    rw [if_neg (by omega)]
  | j + 1, i, h, e, hi0, hb, hf, hx => by
    have hx' := hx
    obtain ⟨hi, fo, z, h1⟩ := hx'
    have hi' := hi
    obtain ⟨-, -, -, -, -, ⟨g, h6, h6'⟩, -⟩ := hi'
    have g1 := h6' i (by omega)
    have tl := ht i (by omega)
    by_cases c : t i = 32
    · apply rx_wp_sound 60 [0]
      simp (disch := first | decide | omega) only [rx_W, rx_wp_succ, rx_nx_stop, rx_nx_go, rx_lx_some, rx_fx_some, rx_ax_some, rx_qx_some, rx_ox_some, rx_vx_ref, rx_ix_ref, rx_ld_0, rx_ld_2, rx_ld_3, rx_cx_some, rx_nl, List.getElem?_cons_zero, List.getElem?_cons_succ, List.set_cons_zero, List.set_cons_succ, List.length_cons, List.length_nil, List.take_succ_cons, List.take_zero, List.drop_succ_cons, List.drop_zero, List.reverse_cons, List.reverse_nil, List.nil_append, List.cons_append, Option.toList_some, Option.toList_none, true_and, and_true, and_self, true_or, or_true, false_and, and_false, false_or, or_false, not_false_eq_true, Nat.reduceAdd, Nat.reduceLT, Nat.reduceLeDiff, Nat.reduceBEq, Nat.reduceEqDiff, Bool.or_false, Bool.false_or, if_true, if_false, Bool.false_eq_true, nq_eq, nq_lt, nq_le, nq_in_t, nq_bd, nq_ft, nq_clamp, nq_shl31, nq_shr31, nq_bitb, nq_add, nq_mul, fa_and, fa_or, nq_b0, nq_b1, nq_b01, ↓ni_lt_t, ↓ni_lt_f, ↓ni_le_t, ↓ni_le_f, ↓ni_eq_t, ↓ni_eq_f, ↓ni_beq_t, ↓ni_beq_f, it_X8_here, h1, mO, h6, g1, c, rx_ft]
      have f1 : ∀ c, Fr h (rx_up h 98 c) [98] := fun c => Fr_up (Fr_rfl _ _) (by simp)
      exact l_X8_here hL ht j (i + 1) _ (by omega) (by omega) (fun k k1 k2 => by
        by_cases ek : k = i
        · rw [ek]; exact c
        · exact hb k k1 (by omega)) (Fr_up hf (by simp)) ⟨mIv_98 (f1 _) hi (rd_eq _ _ _), fo, z, rd_eq _ _ _⟩
    · apply rx_wp_sound 60 [0]
      simp (disch := first | decide | omega) only [rx_W, rx_wp_succ, rx_nx_stop, rx_nx_go, rx_lx_some, rx_fx_some, rx_ax_some, rx_qx_some, rx_ox_some, rx_vx_ref, rx_ix_ref, rx_ld_0, rx_ld_2, rx_ld_3, rx_cx_some, rx_nl, List.getElem?_cons_zero, List.getElem?_cons_succ, List.set_cons_zero, List.set_cons_succ, List.length_cons, List.length_nil, List.take_succ_cons, List.take_zero, List.drop_succ_cons, List.drop_zero, List.reverse_cons, List.reverse_nil, List.nil_append, List.cons_append, Option.toList_some, Option.toList_none, true_and, and_true, and_self, true_or, or_true, false_and, and_false, false_or, or_false, not_false_eq_true, Nat.reduceAdd, Nat.reduceLT, Nat.reduceLeDiff, Nat.reduceBEq, Nat.reduceEqDiff, Bool.or_false, Bool.false_or, if_true, if_false, Bool.false_eq_true, nq_eq, nq_lt, nq_le, nq_in_t, nq_bd, nq_ft, nq_clamp, nq_shl31, nq_shr31, nq_bitb, nq_add, nq_mul, fa_and, fa_or, nq_b0, nq_b1, nq_b01, ↓ni_lt_t, ↓ni_lt_f, ↓ni_le_t, ↓ni_le_f, ↓ni_eq_t, ↓ni_eq_f, ↓ni_beq_t, ↓ni_beq_f, it_X8_here, h1, mO, h6, g1, c]
      refine ⟨hf, i, ⟨hi0, by omega, hb, fun _ => c⟩, hx, ?_⟩
      unfold chr
      rw [if_pos (by omega)]
theorem c_X8_here (hL : L ≤ 100) (ht : ∀ i, i < L → t i < 128) {i : Nat} (hiL : i ≤ L) (hx : mIx h v u np L t cs i) : rx_Cl 147 [.ref 98] h (hrP h v u np L t cs i) := by
  refine rx_Cl_of (by decide) ?_
  exact l_X8_here hL ht (L - i) i h (by omega) (Nat.le_refl _) (fun k k1 k2 => by omega) (Fr_rfl _ _) hx
/-! a figure -/
abbrev fgB (t : Nat → Nat) (L n nb : Nat) : Prop := nb < L ∧ 48 ≤ t nb ∧ t nb < 48 + n
def spP (h : rx_H) (v : Nat → Nat) (u : Nat → Nat → Nat) (np L : Nat) (t : Nat → Nat) (cs : Nat → Int32) (n i : Nat) : Option Value → rx_H → Prop := fun r h' => Fr h h' [98] ∧ ∃ nb, isNb t L i nb ∧ ((fgB t L n nb ∧ mIx h' v u np L t cs (nb + 1) ∧ r = some (.int (nI (t nb - 48)))) ∨ (¬ fgB t L n nb ∧ mIx h' v u np L t cs nb ∧ r = some (.int (-1))))
theorem c_X8_statePassed (hv : wfV v) (hL : L ≤ 100) (ht : ∀ i, i < L → t i < 128) {p i : Nat} (hp : p < 4) (hiL : i ≤ L) (hx : mIx h v u np L t cs i) : rx_Cl 148 [.ref 98, .int (nI p)] h (spP h v u np L t cs (v (41 * p)) i) := by
  have hx' := hx
  obtain ⟨-, fo, z, h1⟩ := hx'
  have n8 := (hv p hp).2.1
  apply en_X8_statePassed _ _ 60 [6]
  simp (disch := first | decide | omega) only [rx_W, rx_wp_succ, rx_nx_stop, rx_nx_go, rx_lx_some, rx_fx_some, rx_ax_some, rx_qx_some, rx_ox_some, rx_vx_ref, rx_ix_ref, rx_ld_0, rx_ld_2, rx_ld_3, rx_cx_some, rx_nl, List.getElem?_cons_zero, List.getElem?_cons_succ, List.set_cons_zero, List.set_cons_succ, List.length_cons, List.length_nil, List.take_succ_cons, List.take_zero, List.drop_succ_cons, List.drop_zero, List.reverse_cons, List.reverse_nil, List.nil_append, List.cons_append, Option.toList_some, Option.toList_none, true_and, and_true, and_self, true_or, or_true, false_and, and_false, false_or, or_false, not_false_eq_true, Nat.reduceAdd, Nat.reduceLT, Nat.reduceLeDiff, Nat.reduceBEq, Nat.reduceEqDiff, Bool.or_false, Bool.false_or, if_true, if_false, Bool.false_eq_true, nq_eq, nq_lt, nq_le, nq_in_t, nq_bd, nq_ft, nq_clamp, nq_shl31, nq_shr31, nq_bitb, nq_add, nq_mul, fa_and, fa_or, nq_b0, nq_b1, nq_b01, ↓ni_lt_t, ↓ni_lt_f, ↓ni_le_t, ↓ni_le_f, ↓ni_eq_t, ↓ni_eq_f, ↓ni_beq_t, ↓ni_beq_f, it_X8_statePassed, h1, mO]
  refine rx_Cl_imp (c_X8_here hL ht hiL hx) (fun r h2 ⟨y1, nb, y2, y3, y4⟩ => ?_)
  subst y4
  simp (disch := first | decide | omega) only [rx_W, rx_wp_succ, rx_nx_stop, rx_nx_go, rx_lx_some, rx_fx_some, rx_ax_some, rx_qx_some, rx_ox_some, rx_vx_ref, rx_ix_ref, rx_ld_0, rx_ld_2, rx_ld_3, rx_cx_some, rx_nl, List.getElem?_cons_zero, List.getElem?_cons_succ, List.set_cons_zero, List.set_cons_succ, List.length_cons, List.length_nil, List.take_succ_cons, List.take_zero, List.drop_succ_cons, List.drop_zero, List.reverse_cons, List.reverse_nil, List.nil_append, List.cons_append, Option.toList_some, Option.toList_none, true_and, and_true, and_self, true_or, or_true, false_and, and_false, false_or, or_false, not_false_eq_true, Nat.reduceAdd, Nat.reduceLT, Nat.reduceLeDiff, Nat.reduceBEq, Nat.reduceEqDiff, Bool.or_false, Bool.false_or, if_true, if_false, Bool.false_eq_true, nq_eq, nq_lt, nq_le, nq_in_t, nq_bd, nq_ft, nq_clamp, nq_shl31, nq_shr31, nq_bitb, nq_add, nq_mul, fa_and, fa_or, nq_b0, nq_b1, nq_b01, ↓ni_lt_t, ↓ni_lt_f, ↓ni_le_t, ↓ni_le_f, ↓ni_eq_t, ↓ni_eq_f, ↓ni_beq_t, ↓ni_beq_f, it_X8_statePassed]
  have y3' := y3
  obtain ⟨hi2, fo2, z2, h2'⟩ := y3'
  have hm := mIv_mN hi2
  have cc : isS v (nI p) (chr t L nb - nI 48) = decide (fgB t L (v (41 * p)) nb) := by
    unfold isS chr
    rw [inR_of hp (by omega), Bool.true_and, nq_clamp (by omega)]
    by_cases c : nb < L
    · rw [if_pos c, sb48 _ (by omega) _ (ht nb c)]
      unfold fgB
      by_cases d : 48 ≤ t nb ∧ t nb < 48 + v (41 * p)
      · rw [decide_eq_true d, decide_eq_true ⟨c, d⟩]
      · rw [decide_eq_false d, decide_eq_false (fun z => d z.2)]
    · rw [if_neg c, sbm48 _ (by omega), decide_eq_false (fun z => c z.1)]
  have f1 : ∀ c, Fr h2 (rx_up h2 98 c) [98] := fun c => Fr_up (Fr_rfl _ _) (by simp)
  by_cases d : fgB t L (v (41 * p)) nb
  · rw [decide_eq_true d] at cc
    have ec : chr t L nb - nI 48 = nI (t nb - 48) := by
      unfold chr
      rw [if_pos d.1]
      exact nq_sub d.2.1
    rw [ec] at cc
    have nb' := y2.2.1
    have mx : ∀ c, c = mO (nI np) (nI L) (nI (nb + 1)) fo2 z2 → mIx (rx_up h2 98 c) v u np L t cs (nb + 1) := fun c hc => by
      subst hc
      exact ⟨mIv_98 (f1 _) hi2 (rd_eq _ _ _), fo2, z2, rd_eq _ _ _⟩
    have mx2 := mx _ rfl
    unfold mO at mx2
    apply rx_wp_sound 60 []
    simp (disch := first | decide | omega) only [rx_W, rx_wp_succ, rx_nx_stop, rx_nx_go, rx_lx_some, rx_fx_some, rx_ax_some, rx_qx_some, rx_ox_some, rx_vx_ref, rx_ix_ref, rx_ld_0, rx_ld_2, rx_ld_3, rx_cx_some, rx_nl, List.getElem?_cons_zero, List.getElem?_cons_succ, List.set_cons_zero, List.set_cons_succ, List.length_cons, List.length_nil, List.take_succ_cons, List.take_zero, List.drop_succ_cons, List.drop_zero, List.reverse_cons, List.reverse_nil, List.nil_append, List.cons_append, Option.toList_some, Option.toList_none, true_and, and_true, and_self, true_or, or_true, false_and, and_false, false_or, or_false, not_false_eq_true, Nat.reduceAdd, Nat.reduceLT, Nat.reduceLeDiff, Nat.reduceBEq, Nat.reduceEqDiff, Bool.or_false, Bool.false_or, if_true, if_false, Bool.false_eq_true, nq_eq, nq_lt, nq_le, nq_in_t, nq_bd, nq_ft, nq_clamp, nq_shl31, nq_shr31, nq_bitb, nq_add, nq_mul, fa_and, fa_or, nq_b0, nq_b1, nq_b01, ↓ni_lt_t, ↓ni_lt_f, ↓ni_le_t, ↓ni_le_f, ↓ni_eq_t, ↓ni_eq_f, ↓ni_beq_t, ↓ni_beq_f, it_X8_statePassed, h2', mO, ec, q_X8_isState hm hv, cc, rx_ft, rd_eq]
    simp (disch := first | decide | omega) only [rx_W, rx_wp_succ, rx_nx_stop, rx_nx_go, rx_lx_some, rx_fx_some, rx_ax_some, rx_qx_some, rx_ox_some, rx_vx_ref, rx_ix_ref, rx_ld_0, rx_ld_2, rx_ld_3, rx_cx_some, rx_nl, List.getElem?_cons_zero, List.getElem?_cons_succ, List.set_cons_zero, List.set_cons_succ, List.length_cons, List.length_nil, List.take_succ_cons, List.take_zero, List.drop_succ_cons, List.drop_zero, List.reverse_cons, List.reverse_nil, List.nil_append, List.cons_append, Option.toList_some, Option.toList_none, true_and, and_true, and_self, true_or, or_true, false_and, and_false, false_or, or_false, not_false_eq_true, Nat.reduceAdd, Nat.reduceLT, Nat.reduceLeDiff, Nat.reduceBEq, Nat.reduceEqDiff, Bool.or_false, Bool.false_or, if_true, if_false, Bool.false_eq_true, nq_eq, nq_lt, nq_le, nq_in_t, nq_bd, nq_ft, nq_clamp, nq_shl31, nq_shr31, nq_bitb, nq_add, nq_mul, fa_and, fa_or, nq_b0, nq_b1, nq_b01, ↓ni_lt_t, ↓ni_lt_f, ↓ni_le_t, ↓ni_le_f, ↓ni_eq_t, ↓ni_eq_f, ↓ni_beq_t, ↓ni_beq_f, it_X8_statePassed, q_X8_isState (mIv_mN mx2.1) hv, cc]
    exact ⟨Fr_trans y1 (f1 _) (fun _ z => z) (fun _ z => z), nb, y2, Or.inl ⟨d, mx2, rfl⟩⟩
  · rw [decide_eq_false d] at cc
    have mx : ∀ c, c = mO (nI np) (nI L) (nI (nb + 0)) fo2 z2 → mIx (rx_up h2 98 c) v u np L t cs nb := fun c hc => by
      subst hc
      exact ⟨mIv_98 (f1 _) hi2 (rd_eq _ _ _), fo2, z2, rd_eq _ _ _⟩
    have mx2 := mx _ rfl
    unfold mO at mx2
    apply rx_wp_sound 60 []
    simp (disch := first | decide | omega) only [rx_W, rx_wp_succ, rx_nx_stop, rx_nx_go, rx_lx_some, rx_fx_some, rx_ax_some, rx_qx_some, rx_ox_some, rx_vx_ref, rx_ix_ref, rx_ld_0, rx_ld_2, rx_ld_3, rx_cx_some, rx_nl, List.getElem?_cons_zero, List.getElem?_cons_succ, List.set_cons_zero, List.set_cons_succ, List.length_cons, List.length_nil, List.take_succ_cons, List.take_zero, List.drop_succ_cons, List.drop_zero, List.reverse_cons, List.reverse_nil, List.nil_append, List.cons_append, Option.toList_some, Option.toList_none, true_and, and_true, and_self, true_or, or_true, false_and, and_false, false_or, or_false, not_false_eq_true, Nat.reduceAdd, Nat.reduceLT, Nat.reduceLeDiff, Nat.reduceBEq, Nat.reduceEqDiff, Bool.or_false, Bool.false_or, if_true, if_false, Bool.false_eq_true, nq_eq, nq_lt, nq_le, nq_in_t, nq_bd, nq_ft, nq_clamp, nq_shl31, nq_shr31, nq_bitb, nq_add, nq_mul, fa_and, fa_or, nq_b0, nq_b1, nq_b01, ↓ni_lt_t, ↓ni_lt_f, ↓ni_le_t, ↓ni_le_f, ↓ni_eq_t, ↓ni_eq_f, ↓ni_beq_t, ↓ni_beq_f, it_X8_statePassed, h2', mO, q_X8_isState hm hv, cc, rx_ft, rd_eq]
    simp (disch := first | decide | omega) only [rx_W, rx_wp_succ, rx_nx_stop, rx_nx_go, rx_lx_some, rx_fx_some, rx_ax_some, rx_qx_some, rx_ox_some, rx_vx_ref, rx_ix_ref, rx_ld_0, rx_ld_2, rx_ld_3, rx_cx_some, rx_nl, List.getElem?_cons_zero, List.getElem?_cons_succ, List.set_cons_zero, List.set_cons_succ, List.length_cons, List.length_nil, List.take_succ_cons, List.take_zero, List.drop_succ_cons, List.drop_zero, List.reverse_cons, List.reverse_nil, List.nil_append, List.cons_append, Option.toList_some, Option.toList_none, true_and, and_true, and_self, true_or, or_true, false_and, and_false, false_or, or_false, not_false_eq_true, Nat.reduceAdd, Nat.reduceLT, Nat.reduceLeDiff, Nat.reduceBEq, Nat.reduceEqDiff, Bool.or_false, Bool.false_or, if_true, if_false, Bool.false_eq_true, nq_eq, nq_lt, nq_le, nq_in_t, nq_bd, nq_ft, nq_clamp, nq_shl31, nq_shr31, nq_bitb, nq_add, nq_mul, fa_and, fa_or, nq_b0, nq_b1, nq_b01, ↓ni_lt_t, ↓ni_lt_f, ↓ni_le_t, ↓ni_le_f, ↓ni_eq_t, ↓ni_eq_f, ↓ni_beq_t, ↓ni_beq_f, it_X8_statePassed, q_X8_isState (mIv_mN mx2.1) hv, cc]
    exact ⟨Fr_trans y1 (f1 _) (fun _ z => z) (fun _ z => z), nb, y2, Or.inr ⟨d, mx2, rfl⟩⟩
end MT
/-! ===== behindText, behind ===== -/
def aftL (n : Nat) (w : Nat → Nat) (l : List Nat) : Nat := l.foldl (fun x a => aft n w x a) (sil n w 1)
theorem aftL_app (n : Nat) (w : Nat → Nat) (l : List Nat) (a : Nat) : aftL n w (l ++ [a]) = aft n w (aftL n w l) a := by
  unfold aftL
  rw [List.foldl_append]
  rfl
theorem aftL_lt {n : Nat} {w : Nat → Nat} (hn0 : 1 ≤ n) (hn : n ≤ 8) (hw : ∀ j, j < 40 → w j < 2 ^ n) : ∀ (l : List Nat), (∀ x ∈ l, x < 4) → aftL n w l < 2 ^ n := by
  intro l
  unfold aftL
  have key : ∀ (l : List Nat) (s : Nat), s < 2 ^ n → (∀ x ∈ l, x < 4) → l.foldl (fun x a => aft n w x a) s < 2 ^ n := by
    intro l
    induction l with
    | nil => intro s hs _; exact hs
    | cons a l ih => intro s hs hl; exact ih _ (aft_lt hn hw s (hl a (by simp))) (fun x hx => hl x (by simp [hx]))
  exact key l _ (sil1_lt hn0 hn hw).1
section BT
variable {h0 : rx_H} {v : Nat → Nat} {u : Nat → Nat → Nat} {np L : Nat} {t : Nat → Nat} {cs : Nat → Int32} {p : Nat}
theorem l_X8_bt (hv : wfV v) (hL : L ≤ 100) (ht : ∀ i, i < L → t i < 128) (hp : p < 4) (Q : Option Value → rx_H → Prop)
    (hq1 : ∀ h l, Fr h0 h [98] → mIv h v u np L t cs → wdS t L = some l → Q (some (.int (nI (aftL (v (41 * p)) (wq v p) l)))) h)
    (hq2 : ∀ h i, Fr h0 h [98] → mIx h v u np L t cs i → wdF t L i → Q (some (.int (-1))) h) :
    ∀ j i h l x, L ≤ i + j → i ≤ L → Fr h0 h [98] → mIx h v u np L t cs i → wdS t i = some l → rx_R 152 14 [.ref 98, .int (nI p), .int (nI (aftL (v (41 * p)) (wq v p) l)), .int (nI l.length), x] [] h Q := by
  intro j
  obtain ⟨n0, n8, nw, nz, -⟩ := hv p hp
  have p8 : 2 ^ v (41 * p) ≤ 2 ^ 8 := Nat.pow_le_pow_right (by omega) n8
  induction j with
  | zero =>
    intro i h l x e hiL hf hx hw
    have e' : i = L := by omega
    subst e'
    have hx' := hx
    obtain ⟨-, fo, z, h1⟩ := hx'
    apply rx_wp_sound 60 [14]
    simp (disch := first | decide | omega) only [rx_W, rx_wp_succ, rx_nx_stop, rx_nx_go, rx_lx_some, rx_fx_some, rx_ax_some, rx_qx_some, rx_ox_some, rx_vx_ref, rx_ix_ref, rx_ld_0, rx_ld_2, rx_ld_3, rx_cx_some, rx_nl, List.getElem?_cons_zero, List.getElem?_cons_succ, List.set_cons_zero, List.set_cons_succ, List.length_cons, List.length_nil, List.take_succ_cons, List.take_zero, List.drop_succ_cons, List.drop_zero, List.reverse_cons, List.reverse_nil, List.nil_append, List.cons_append, Option.toList_some, Option.toList_none, true_and, and_true, and_self, true_or, or_true, false_and, and_false, false_or, or_false, not_false_eq_true, Nat.reduceAdd, Nat.reduceLT, Nat.reduceLeDiff, Nat.reduceBEq, Nat.reduceEqDiff, Bool.or_false, Bool.false_or, if_true, if_false, Bool.false_eq_true, nq_eq, nq_lt, nq_le, nq_in_t, nq_bd, nq_ft, nq_clamp, nq_shl31, nq_shr31, nq_bitb, nq_add, nq_mul, fa_and, fa_or, nq_b0, nq_b1, nq_b01, ↓ni_lt_t, ↓ni_lt_f, ↓ni_le_t, ↓ni_le_f, ↓ni_eq_t, ↓ni_eq_f, ↓ni_beq_t, ↓ni_beq_f, it_X8_behindText, h1, mO]
    refine rx_Cl_imp (c_X8_here hL ht hiL hx) (fun r h2 ⟨y1, nb, y2, y3, y4⟩ => ?_)
    subst y4
    have enb : nb = i := by have := y2.1; have := y2.2.1; omega
    have ec : chr t i nb = -1 := by unfold chr; rw [if_neg (by omega)]
    rw [ec]
    simp (disch := first | decide | omega) only [rx_W, rx_wp_succ, rx_nx_stop, rx_nx_go, rx_lx_some, rx_fx_some, rx_ax_some, rx_qx_some, rx_ox_some, rx_vx_ref, rx_ix_ref, rx_ld_0, rx_ld_2, rx_ld_3, rx_cx_some, rx_nl, List.getElem?_cons_zero, List.getElem?_cons_succ, List.set_cons_zero, List.set_cons_succ, List.length_cons, List.length_nil, List.take_succ_cons, List.take_zero, List.drop_succ_cons, List.drop_zero, List.reverse_cons, List.reverse_nil, List.nil_append, List.cons_append, Option.toList_some, Option.toList_none, true_and, and_true, and_self, true_or, or_true, false_and, and_false, false_or, or_false, not_false_eq_true, Nat.reduceAdd, Nat.reduceLT, Nat.reduceLeDiff, Nat.reduceBEq, Nat.reduceEqDiff, Bool.or_false, Bool.false_or, if_true, if_false, Bool.false_eq_true, nq_eq, nq_lt, nq_le, nq_in_t, nq_bd, nq_ft, nq_clamp, nq_shl31, nq_shr31, nq_bitb, nq_add, nq_mul, fa_and, fa_or, nq_b0, nq_b1, nq_b01, ↓ni_lt_t, ↓ni_lt_f, ↓ni_le_t, ↓ni_le_f, ↓ni_eq_t, ↓ni_eq_f, ↓ni_beq_t, ↓ni_beq_f, it_X8_behindText]
    exact hq1 h2 l (Fr_trans hf y1 (fun _ z => z) (fun _ z => z)) y3.1 hw
  | succ j ih =>
    intro i h l x e hiL hf hx hw
    have hx' := hx
    obtain ⟨-, fo, z, h1⟩ := hx'
    apply rx_wp_sound 60 [14]
    simp (disch := first | decide | omega) only [rx_W, rx_wp_succ, rx_nx_stop, rx_nx_go, rx_lx_some, rx_fx_some, rx_ax_some, rx_qx_some, rx_ox_some, rx_vx_ref, rx_ix_ref, rx_ld_0, rx_ld_2, rx_ld_3, rx_cx_some, rx_nl, List.getElem?_cons_zero, List.getElem?_cons_succ, List.set_cons_zero, List.set_cons_succ, List.length_cons, List.length_nil, List.take_succ_cons, List.take_zero, List.drop_succ_cons, List.drop_zero, List.reverse_cons, List.reverse_nil, List.nil_append, List.cons_append, Option.toList_some, Option.toList_none, true_and, and_true, and_self, true_or, or_true, false_and, and_false, false_or, or_false, not_false_eq_true, Nat.reduceAdd, Nat.reduceLT, Nat.reduceLeDiff, Nat.reduceBEq, Nat.reduceEqDiff, Bool.or_false, Bool.false_or, if_true, if_false, Bool.false_eq_true, nq_eq, nq_lt, nq_le, nq_in_t, nq_bd, nq_ft, nq_clamp, nq_shl31, nq_shr31, nq_bitb, nq_add, nq_mul, fa_and, fa_or, nq_b0, nq_b1, nq_b01, ↓ni_lt_t, ↓ni_lt_f, ↓ni_le_t, ↓ni_le_f, ↓ni_eq_t, ↓ni_eq_f, ↓ni_beq_t, ↓ni_beq_f, it_X8_behindText, h1, mO]
    refine rx_Cl_imp (c_X8_here hL ht hiL hx) (fun r h2 ⟨y1, nb, y2, y3, y4⟩ => ?_)
    subst y4
    have hw2 : wdS t nb = some l := by
      have := wdS_blank hw (nb - i) (fun k k1 k2 => y2.2.2.1 k k1 (by have := y2.1; omega))
      rw [show i + (nb - i) = nb by have := y2.1; omega] at this
      exact this
    have hl := wdS_len nb l hw2
    by_cases c : nb < L
    · have ec : chr t L nb = nI (t nb) := by unfold chr; rw [if_pos c]
      have tl := ht nb c
      have cn : ¬ nI (t nb) = -1 := nI_ne1 (by omega)
      rw [ec]
      have y3' := y3
      obtain ⟨-, fo2, z2, h12⟩ := y3'
      simp (disch := first | decide | omega) only [rx_W, rx_wp_succ, rx_nx_stop, rx_nx_go, rx_lx_some, rx_fx_some, rx_ax_some, rx_qx_some, rx_ox_some, rx_vx_ref, rx_ix_ref, rx_ld_0, rx_ld_2, rx_ld_3, rx_cx_some, rx_nl, List.getElem?_cons_zero, List.getElem?_cons_succ, List.set_cons_zero, List.set_cons_succ, List.length_cons, List.length_nil, List.take_succ_cons, List.take_zero, List.drop_succ_cons, List.drop_zero, List.reverse_cons, List.reverse_nil, List.nil_append, List.cons_append, Option.toList_some, Option.toList_none, true_and, and_true, and_self, true_or, or_true, false_and, and_false, false_or, or_false, not_false_eq_true, Nat.reduceAdd, Nat.reduceLT, Nat.reduceLeDiff, Nat.reduceBEq, Nat.reduceEqDiff, Bool.or_false, Bool.false_or, if_true, if_false, Bool.false_eq_true, nq_eq, nq_lt, nq_le, nq_in_t, nq_bd, nq_ft, nq_clamp, nq_shl31, nq_shr31, nq_bitb, nq_add, nq_mul, fa_and, fa_or, nq_b0, nq_b1, nq_b01, ↓ni_lt_t, ↓ni_lt_f, ↓ni_le_t, ↓ni_le_f, ↓ni_eq_t, ↓ni_eq_f, ↓ni_beq_t, ↓ni_beq_f, it_X8_behindText, cn, h12, mO]
      refine rx_Cl_imp (c_X8_here hL ht (by omega) y3) (fun r h3 ⟨w1, nb', w2, w3, w4⟩ => ?_)
      have enb : nb' = nb := by
        have a := w2.1
        by_cases z : nb' = nb
        · exact z
        · exact absurd (w2.2.2.1 nb (Nat.le_refl _) (by omega)) (y2.2.2.2 c)
      subst enb
      rw [ec] at w4
      subst w4
      have s97 := sb97 (t nb') tl
      have ws := wdS_succ hw2
      rw [if_neg (y2.2.2.2 c)] at ws
      have w3' := w3
      obtain ⟨hi3, fo3, z3, h13⟩ := w3'
      have f03 := Fr_trans hf (Fr_trans y1 w1 (C := [98]) (fun _ z => z) (fun _ z => z)) (C := [98]) (fun _ z => z) (fun _ z => z)
      by_cases d : 97 ≤ t nb' ∧ t nb' < 101
      · have su : nI (t nb') - nI 97 = nI (t nb' - 97) := nq_sub d.1
        rw [decide_eq_true d, su] at s97
        by_cases d2 : l.length < 20
        · rw [if_pos ⟨d.1, d.2, d2⟩] at ws
          have hm3 := mIv_mN hi3
          have al := aftL_lt n0 n8 nw l hl.2
          have la : t nb' - 97 < 5 := by omega
          have l1 := led_lt (t nb' - 97) la n8 nw (aftL (v (41 * p)) (wq v p) l)
          have ee : sil (v (41 * p)) (wq v p) (led (wq v p) (t nb' - 97) (v (41 * p)) (aftL (v (41 * p)) (wq v p) l)) = aftL (v (41 * p)) (wq v p) (l ++ [t nb' - 97]) := by rw [aftL_app]; rfl
          have ih2 := fun h x => ih (nb' + 1) h (l ++ [t nb' - 97]) x (by have := y2.1; omega) (by omega)
          rw [List.length_append] at ih2
          have f1 : ∀ c, Fr h3 (rx_up h3 98 c) [98] := fun c => Fr_up (Fr_rfl _ _) (by simp)
          simp (disch := first | decide | omega) only [rx_W, rx_wp_succ, rx_nx_stop, rx_nx_go, rx_lx_some, rx_fx_some, rx_ax_some, rx_qx_some, rx_ox_some, rx_vx_ref, rx_ix_ref, rx_ld_0, rx_ld_2, rx_ld_3, rx_cx_some, rx_nl, List.getElem?_cons_zero, List.getElem?_cons_succ, List.set_cons_zero, List.set_cons_succ, List.length_cons, List.length_nil, List.take_succ_cons, List.take_zero, List.drop_succ_cons, List.drop_zero, List.reverse_cons, List.reverse_nil, List.nil_append, List.cons_append, Option.toList_some, Option.toList_none, true_and, and_true, and_self, true_or, or_true, false_and, and_false, false_or, or_false, not_false_eq_true, Nat.reduceAdd, Nat.reduceLT, Nat.reduceLeDiff, Nat.reduceBEq, Nat.reduceEqDiff, Bool.or_false, Bool.false_or, if_true, if_false, Bool.false_eq_true, nq_eq, nq_lt, nq_le, nq_in_t, nq_bd, nq_ft, nq_clamp, nq_shl31, nq_shr31, nq_bitb, nq_add, nq_mul, fa_and, fa_or, nq_b0, nq_b1, nq_b01, ↓ni_lt_t, ↓ni_lt_f, ↓ni_le_t, ↓ni_le_f, ↓ni_eq_t, ↓ni_eq_f, ↓ni_beq_t, ↓ni_beq_f, it_X8_behindText, su, q_X8_within, s97, h13, mO, q_X8_ledTo hm3, led_8 n8 la nz, q_X8_onSilently hm3 hp n8 nz nw, ee, rx_ft]
          exact ih2 _ _ (Fr_trans f03 (f1 _) (fun _ z => z) (fun _ z => z)) ⟨mIv_98 (f1 _) hi3 (rd_eq _ _ _), fo3, z3, rd_eq _ _ _⟩ ws
        · rw [if_neg (by omega)] at ws
          have l20 : l.length = 20 := by omega
          simp (disch := first | decide | omega) only [rx_W, rx_wp_succ, rx_nx_stop, rx_nx_go, rx_lx_some, rx_fx_some, rx_ax_some, rx_qx_some, rx_ox_some, rx_vx_ref, rx_ix_ref, rx_ld_0, rx_ld_2, rx_ld_3, rx_cx_some, rx_nl, List.getElem?_cons_zero, List.getElem?_cons_succ, List.set_cons_zero, List.set_cons_succ, List.length_cons, List.length_nil, List.take_succ_cons, List.take_zero, List.drop_succ_cons, List.drop_zero, List.reverse_cons, List.reverse_nil, List.nil_append, List.cons_append, Option.toList_some, Option.toList_none, true_and, and_true, and_self, true_or, or_true, false_and, and_false, false_or, or_false, not_false_eq_true, Nat.reduceAdd, Nat.reduceLT, Nat.reduceLeDiff, Nat.reduceBEq, Nat.reduceEqDiff, Bool.or_false, Bool.false_or, if_true, if_false, Bool.false_eq_true, nq_eq, nq_lt, nq_le, nq_in_t, nq_bd, nq_ft, nq_clamp, nq_shl31, nq_shr31, nq_bitb, nq_add, nq_mul, fa_and, fa_or, nq_b0, nq_b1, nq_b01, ↓ni_lt_t, ↓ni_lt_f, ↓ni_le_t, ↓ni_le_f, ↓ni_eq_t, ↓ni_eq_f, ↓ni_beq_t, ↓ni_beq_f, it_X8_behindText, su, q_X8_within, s97, l20]
          exact hq2 h3 nb' f03 w3 ⟨c, ⟨l, hw2⟩, ws⟩
      · rw [decide_eq_false d] at s97
        rw [if_neg (by omega)] at ws
        simp (disch := first | decide | omega) only [rx_W, rx_wp_succ, rx_nx_stop, rx_nx_go, rx_lx_some, rx_fx_some, rx_ax_some, rx_qx_some, rx_ox_some, rx_vx_ref, rx_ix_ref, rx_ld_0, rx_ld_2, rx_ld_3, rx_cx_some, rx_nl, List.getElem?_cons_zero, List.getElem?_cons_succ, List.set_cons_zero, List.set_cons_succ, List.length_cons, List.length_nil, List.take_succ_cons, List.take_zero, List.drop_succ_cons, List.drop_zero, List.reverse_cons, List.reverse_nil, List.nil_append, List.cons_append, Option.toList_some, Option.toList_none, true_and, and_true, and_self, true_or, or_true, false_and, and_false, false_or, or_false, not_false_eq_true, Nat.reduceAdd, Nat.reduceLT, Nat.reduceLeDiff, Nat.reduceBEq, Nat.reduceEqDiff, Bool.or_false, Bool.false_or, if_true, if_false, Bool.false_eq_true, nq_eq, nq_lt, nq_le, nq_in_t, nq_bd, nq_ft, nq_clamp, nq_shl31, nq_shr31, nq_bitb, nq_add, nq_mul, fa_and, fa_or, nq_b0, nq_b1, nq_b01, ↓ni_lt_t, ↓ni_lt_f, ↓ni_le_t, ↓ni_le_f, ↓ni_eq_t, ↓ni_eq_f, ↓ni_beq_t, ↓ni_beq_f, it_X8_behindText, q_X8_within, s97]
        exact hq2 h3 nb' f03 w3 ⟨c, ⟨l, hw2⟩, ws⟩
    · have ec : chr t L nb = -1 := by unfold chr; rw [if_neg c]
      have enb : nb = L := by have := y2.2.1; omega
      subst enb
      rw [ec]
      simp (disch := first | decide | omega) only [rx_W, rx_wp_succ, rx_nx_stop, rx_nx_go, rx_lx_some, rx_fx_some, rx_ax_some, rx_qx_some, rx_ox_some, rx_vx_ref, rx_ix_ref, rx_ld_0, rx_ld_2, rx_ld_3, rx_cx_some, rx_nl, List.getElem?_cons_zero, List.getElem?_cons_succ, List.set_cons_zero, List.set_cons_succ, List.length_cons, List.length_nil, List.take_succ_cons, List.take_zero, List.drop_succ_cons, List.drop_zero, List.reverse_cons, List.reverse_nil, List.nil_append, List.cons_append, Option.toList_some, Option.toList_none, true_and, and_true, and_self, true_or, or_true, false_and, and_false, false_or, or_false, not_false_eq_true, Nat.reduceAdd, Nat.reduceLT, Nat.reduceLeDiff, Nat.reduceBEq, Nat.reduceEqDiff, Bool.or_false, Bool.false_or, if_true, if_false, Bool.false_eq_true, nq_eq, nq_lt, nq_le, nq_in_t, nq_bd, nq_ft, nq_clamp, nq_shl31, nq_shr31, nq_bitb, nq_add, nq_mul, fa_and, fa_or, nq_b0, nq_b1, nq_b01, ↓ni_lt_t, ↓ni_lt_f, ↓ni_le_t, ↓ni_le_f, ↓ni_eq_t, ↓ni_eq_f, ↓ni_beq_t, ↓ni_beq_f, it_X8_behindText]
      exact hq1 h2 l (Fr_trans hf y1 (fun _ z => z) (fun _ z => z)) y3.1 hw2
theorem m_bt {h : rx_H} (hi : mIv h v u np L t cs) (hv : wfV v) (hL : L ≤ 100) (ht : ∀ i, i < L → t i < 128) (hp : p < 4) {K : Option Value → rx_H → Prop}
    (hq1 : ∀ h' l, Fr h h' [98] → mIv h' v u np L t cs → wdS t L = some l → K (some (.int (nI (aftL (v (41 * p)) (wq v p) l)))) h')
    (hq2 : ∀ h' i, Fr h h' [98] → mIx h' v u np L t cs i → wdF t L i → K (some (.int (-1))) h') : rx_Cl 152 [.ref 98, .int (nI p)] h K := by
  obtain ⟨pl, fo, z, h1⟩ := hi.1
  obtain ⟨n0, n8, nw, nz, -⟩ := hv p hp
  have t1 : 1 < 2 ^ v (41 * p) := Nat.one_lt_two_pow (by omega)
  have f1 : ∀ c, Fr h (rx_up h 98 c) [98] := fun c => Fr_up (Fr_rfl _ _) (by simp)
  apply en_X8_behindText _ _ 60 [14]
  simp (disch := first | decide | omega) only [rx_W, rx_wp_succ, rx_nx_stop, rx_nx_go, rx_lx_some, rx_fx_some, rx_ax_some, rx_qx_some, rx_ox_some, rx_vx_ref, rx_ix_ref, rx_ld_0, rx_ld_2, rx_ld_3, rx_cx_some, rx_nl, List.getElem?_cons_zero, List.getElem?_cons_succ, List.set_cons_zero, List.set_cons_succ, List.length_cons, List.length_nil, List.take_succ_cons, List.take_zero, List.drop_succ_cons, List.drop_zero, List.reverse_cons, List.reverse_nil, List.nil_append, List.cons_append, Option.toList_some, Option.toList_none, true_and, and_true, and_self, true_or, or_true, false_and, and_false, false_or, or_false, not_false_eq_true, Nat.reduceAdd, Nat.reduceLT, Nat.reduceLeDiff, Nat.reduceBEq, Nat.reduceEqDiff, Bool.or_false, Bool.false_or, if_true, if_false, Bool.false_eq_true, nq_eq, nq_lt, nq_le, nq_in_t, nq_bd, nq_ft, nq_clamp, nq_shl31, nq_shr31, nq_bitb, nq_add, nq_mul, fa_and, fa_or, nq_b0, nq_b1, nq_b01, ↓ni_lt_t, ↓ni_lt_f, ↓ni_le_t, ↓ni_le_f, ↓ni_eq_t, ↓ni_eq_f, ↓ni_beq_t, ↓ni_beq_f, it_X8_behindText, h1, mO, q_X8_onSilently (mIv_mN hi) hp n8 nz nw, rx_ft]
  exact l_X8_bt (h0 := h) hv hL ht hp _ hq1 hq2 L 0 _ [] _ (by omega) (by omega) (f1 _) ⟨mIv_98 (f1 _) hi (rd_eq _ _ _), fo, z, rd_eq _ _ _⟩ rfl
end BT
/-- what `behind` tells of a set -/
def bhF (n : Nat) (w : Nat → Nat) (x k : Nat) : Int32 := if k = 0 then nI x else if k = 1 then nI (poN w n x) else if k = 2 then fwI n w x n else if x &&& lst n w = 0 then nI 0 else nI 1
section MP
variable {h : rx_H} {v : Nat → Nat} {u : Nat → Nat → Nat} {np L : Nat} {t : Nat → Nat} {cs : Nat → Int32}
theorem m_behind_bad (hi : mIv h v u np L t cs) {p n : Int32} (hb : (inR p 4 && inR n 4) = false) : rx_Cl 155 [.ref 98, .int p, .int n] h (mP h (v, u, np, L, t, rfs 0 cs) (.int (rcode 0))) := by
  obtain ⟨pl, fo, z, h1⟩ := hi.1
  apply en_X8_behind _ _ _ 60 []
  cases c : inR p 4 with
  | false =>
    simp (disch := first | decide | omega) only [rx_W, rx_wp_succ, rx_nx_stop, rx_nx_go, rx_lx_some, rx_fx_some, rx_ax_some, rx_qx_some, rx_ox_some, rx_vx_ref, rx_ix_ref, rx_ld_0, rx_ld_2, rx_ld_3, rx_cx_some, rx_nl, List.getElem?_cons_zero, List.getElem?_cons_succ, List.set_cons_zero, List.set_cons_succ, List.length_cons, List.length_nil, List.take_succ_cons, List.take_zero, List.drop_succ_cons, List.drop_zero, List.reverse_cons, List.reverse_nil, List.nil_append, List.cons_append, Option.toList_some, Option.toList_none, true_and, and_true, and_self, true_or, or_true, false_and, and_false, false_or, or_false, not_false_eq_true, Nat.reduceAdd, Nat.reduceLT, Nat.reduceLeDiff, Nat.reduceBEq, Nat.reduceEqDiff, Bool.or_false, Bool.false_or, if_true, if_false, Bool.false_eq_true, nq_eq, nq_lt, nq_le, nq_in_t, nq_bd, nq_ft, nq_clamp, nq_shl31, nq_shr31, nq_bitb, nq_add, nq_mul, fa_and, fa_or, nq_b0, nq_b1, nq_b01, ↓ni_lt_t, ↓ni_lt_f, ↓ni_le_t, ↓ni_le_f, ↓ni_eq_t, ↓ni_eq_f, ↓ni_beq_t, ↓ni_beq_f, it_X8_behind, q_X8_isProcess, c, h1, mO]
    refine m_cnt hi (c := 0) (by omega) rfl (fun h' y1 y2 => ?_)
    simp (disch := first | decide | omega) only [rx_W, rx_wp_succ, rx_nx_stop, rx_nx_go, rx_lx_some, rx_fx_some, rx_ax_some, rx_qx_some, rx_ox_some, rx_vx_ref, rx_ix_ref, rx_ld_0, rx_ld_2, rx_ld_3, rx_cx_some, rx_nl, List.getElem?_cons_zero, List.getElem?_cons_succ, List.set_cons_zero, List.set_cons_succ, List.length_cons, List.length_nil, List.take_succ_cons, List.take_zero, List.drop_succ_cons, List.drop_zero, List.reverse_cons, List.reverse_nil, List.nil_append, List.cons_append, Option.toList_some, Option.toList_none, true_and, and_true, and_self, true_or, or_true, false_and, and_false, false_or, or_false, not_false_eq_true, Nat.reduceAdd, Nat.reduceLT, Nat.reduceLeDiff, Nat.reduceBEq, Nat.reduceEqDiff, Bool.or_false, Bool.false_or, if_true, if_false, Bool.false_eq_true, it_X8_behind]
    exact ⟨rfl, y1, y2⟩
  | true =>
    rw [c, Bool.true_and] at hb
    simp (disch := first | decide | omega) only [rx_W, rx_wp_succ, rx_nx_stop, rx_nx_go, rx_lx_some, rx_fx_some, rx_ax_some, rx_qx_some, rx_ox_some, rx_vx_ref, rx_ix_ref, rx_ld_0, rx_ld_2, rx_ld_3, rx_cx_some, rx_nl, List.getElem?_cons_zero, List.getElem?_cons_succ, List.set_cons_zero, List.set_cons_succ, List.length_cons, List.length_nil, List.take_succ_cons, List.take_zero, List.drop_succ_cons, List.drop_zero, List.reverse_cons, List.reverse_nil, List.nil_append, List.cons_append, Option.toList_some, Option.toList_none, true_and, and_true, and_self, true_or, or_true, false_and, and_false, false_or, or_false, not_false_eq_true, Nat.reduceAdd, Nat.reduceLT, Nat.reduceLeDiff, Nat.reduceBEq, Nat.reduceEqDiff, Bool.or_false, Bool.false_or, if_true, if_false, Bool.false_eq_true, nq_eq, nq_lt, nq_le, nq_in_t, nq_bd, nq_ft, nq_clamp, nq_shl31, nq_shr31, nq_bitb, nq_add, nq_mul, fa_and, fa_or, nq_b0, nq_b1, nq_b01, ↓ni_lt_t, ↓ni_lt_f, ↓ni_le_t, ↓ni_le_f, ↓ni_eq_t, ↓ni_eq_f, ↓ni_beq_t, ↓ni_beq_f, it_X8_behind, q_X8_isProcess, q_X8_within, c, hb, h1, mO]
    refine m_cnt hi (c := 0) (by omega) rfl (fun h' y1 y2 => ?_)
    simp (disch := first | decide | omega) only [rx_W, rx_wp_succ, rx_nx_stop, rx_nx_go, rx_lx_some, rx_fx_some, rx_ax_some, rx_qx_some, rx_ox_some, rx_vx_ref, rx_ix_ref, rx_ld_0, rx_ld_2, rx_ld_3, rx_cx_some, rx_nl, List.getElem?_cons_zero, List.getElem?_cons_succ, List.set_cons_zero, List.set_cons_succ, List.length_cons, List.length_nil, List.take_succ_cons, List.take_zero, List.drop_succ_cons, List.drop_zero, List.reverse_cons, List.reverse_nil, List.nil_append, List.cons_append, Option.toList_some, Option.toList_none, true_and, and_true, and_self, true_or, or_true, false_and, and_false, false_or, or_false, not_false_eq_true, Nat.reduceAdd, Nat.reduceLT, Nat.reduceLeDiff, Nat.reduceBEq, Nat.reduceEqDiff, Bool.or_false, Bool.false_or, if_true, if_false, Bool.false_eq_true, it_X8_behind]
    exact ⟨rfl, y1, y2⟩
variable {p k : Nat}
theorem m_behind_no (hi : mIv h v u np L t cs) (hv : wfV v) (hL : L ≤ 100) (ht : ∀ i, i < L → t i < 128) (hp : p < 4) (hk : k < 4) {i : Nat} (hw : wdF t L i) : rx_Cl 155 [.ref 98, .int (nI p), .int (nI k)] h (mP h (v, u, np, L, t, cs) (.int (-10 - nI i))) := by
  obtain ⟨pl, fo, z, h1⟩ := hi.1
  apply en_X8_behind _ _ _ 60 [29]
  simp (disch := first | decide | omega) only [rx_W, rx_wp_succ, rx_nx_stop, rx_nx_go, rx_lx_some, rx_fx_some, rx_ax_some, rx_qx_some, rx_ox_some, rx_vx_ref, rx_ix_ref, rx_ld_0, rx_ld_2, rx_ld_3, rx_cx_some, rx_nl, List.getElem?_cons_zero, List.getElem?_cons_succ, List.set_cons_zero, List.set_cons_succ, List.length_cons, List.length_nil, List.take_succ_cons, List.take_zero, List.drop_succ_cons, List.drop_zero, List.reverse_cons, List.reverse_nil, List.nil_append, List.cons_append, Option.toList_some, Option.toList_none, true_and, and_true, and_self, true_or, or_true, false_and, and_false, false_or, or_false, not_false_eq_true, Nat.reduceAdd, Nat.reduceLT, Nat.reduceLeDiff, Nat.reduceBEq, Nat.reduceEqDiff, Bool.or_false, Bool.false_or, if_true, if_false, Bool.false_eq_true, nq_eq, nq_lt, nq_le, nq_in_t, nq_bd, nq_ft, nq_clamp, nq_shl31, nq_shr31, nq_bitb, nq_add, nq_mul, fa_and, fa_or, nq_b0, nq_b1, nq_b01, ↓ni_lt_t, ↓ni_lt_f, ↓ni_le_t, ↓ni_le_f, ↓ni_eq_t, ↓ni_eq_f, ↓ni_beq_t, ↓ni_beq_f, it_X8_behind, q_X8_isProcess, q_X8_within, inR_of hp, inR_of hk, h1, mO]
  refine m_bt hi hv hL ht hp (fun h2 l y1 y2 y3 => (wdF_no hw y3).elim) (fun h2 i' y1 y2 y3 => ?_)
  have e := wdF_one hw y3
  subst e
  obtain ⟨y4, fo2, z2, h12⟩ := y2
  simp (disch := first | decide | omega) only [rx_W, rx_wp_succ, rx_nx_stop, rx_nx_go, rx_lx_some, rx_fx_some, rx_ax_some, rx_qx_some, rx_ox_some, rx_vx_ref, rx_ix_ref, rx_ld_0, rx_ld_2, rx_ld_3, rx_cx_some, rx_nl, List.getElem?_cons_zero, List.getElem?_cons_succ, List.set_cons_zero, List.set_cons_succ, List.length_cons, List.length_nil, List.take_succ_cons, List.take_zero, List.drop_succ_cons, List.drop_zero, List.reverse_cons, List.reverse_nil, List.nil_append, List.cons_append, Option.toList_some, Option.toList_none, true_and, and_true, and_self, true_or, or_true, false_and, and_false, false_or, or_false, not_false_eq_true, Nat.reduceAdd, Nat.reduceLT, Nat.reduceLeDiff, Nat.reduceBEq, Nat.reduceEqDiff, Bool.or_false, Bool.false_or, if_true, if_false, Bool.false_eq_true, nq_eq, nq_lt, nq_le, nq_in_t, nq_bd, nq_ft, nq_clamp, nq_shl31, nq_shr31, nq_bitb, nq_add, nq_mul, fa_and, fa_or, nq_b0, nq_b1, nq_b01, ↓ni_lt_t, ↓ni_lt_f, ↓ni_le_t, ↓ni_le_f, ↓ni_eq_t, ↓ni_eq_f, ↓ni_beq_t, ↓ni_beq_f, it_X8_behind]
  apply rx_wp_sound 60 [40]
  simp (disch := first | decide | omega) only [rx_W, rx_wp_succ, rx_nx_stop, rx_nx_go, rx_lx_some, rx_fx_some, rx_ax_some, rx_qx_some, rx_ox_some, rx_vx_ref, rx_ix_ref, rx_ld_0, rx_ld_2, rx_ld_3, rx_cx_some, rx_nl, List.getElem?_cons_zero, List.getElem?_cons_succ, List.set_cons_zero, List.set_cons_succ, List.length_cons, List.length_nil, List.take_succ_cons, List.take_zero, List.drop_succ_cons, List.drop_zero, List.reverse_cons, List.reverse_nil, List.nil_append, List.cons_append, Option.toList_some, Option.toList_none, true_and, and_true, and_self, true_or, or_true, false_and, and_false, false_or, or_false, not_false_eq_true, Nat.reduceAdd, Nat.reduceLT, Nat.reduceLeDiff, Nat.reduceBEq, Nat.reduceEqDiff, Bool.or_false, Bool.false_or, if_true, if_false, Bool.false_eq_true, it_X8_behind, h12, mO]
  apply rx_wp_sound 60 []
  simp (disch := first | decide | omega) only [rx_W, rx_wp_succ, rx_nx_stop, rx_nx_go, rx_lx_some, rx_fx_some, rx_ax_some, rx_qx_some, rx_ox_some, rx_vx_ref, rx_ix_ref, rx_ld_0, rx_ld_2, rx_ld_3, rx_cx_some, rx_nl, List.getElem?_cons_zero, List.getElem?_cons_succ, List.set_cons_zero, List.set_cons_succ, List.length_cons, List.length_nil, List.take_succ_cons, List.take_zero, List.drop_succ_cons, List.drop_zero, List.reverse_cons, List.reverse_nil, List.nil_append, List.cons_append, Option.toList_some, Option.toList_none, true_and, and_true, and_self, true_or, or_true, false_and, and_false, false_or, or_false, not_false_eq_true, Nat.reduceAdd, Nat.reduceLT, Nat.reduceLeDiff, Nat.reduceBEq, Nat.reduceEqDiff, Bool.or_false, Bool.false_or, if_true, if_false, Bool.false_eq_true, it_X8_behind]
  exact ⟨rfl, Fr_mA y1 (by simp), y4⟩
theorem m_behind_ok (hi : mIv h v u np L t cs) (hv : wfV v) (hL : L ≤ 100) (ht : ∀ i, i < L → t i < 128) (hp : p < 4) (hk : k < 4) {l : List Nat} (hw : wdS t L = some l) : rx_Cl 155 [.ref 98, .int (nI p), .int (nI k)] h (mP h (v, u, np, L, t, cs) (.int (bhF (v (41 * p)) (wq v p) (aftL (v (41 * p)) (wq v p) l) k))) := by
  obtain ⟨pl, fo, z, h1⟩ := hi.1
  obtain ⟨n0, n8, nw, nz, -⟩ := hv p hp
  have p8 : 2 ^ v (41 * p) ≤ 2 ^ 8 := Nat.pow_le_pow_right (by omega) n8
  have hw8 := wfP_256 (hv p hp)
  have al := aftL_lt n0 n8 nw l (wdS_len L l hw).2
  apply en_X8_behind _ _ _ 60 [29]
  simp (disch := first | decide | omega) only [rx_W, rx_wp_succ, rx_nx_stop, rx_nx_go, rx_lx_some, rx_fx_some, rx_ax_some, rx_qx_some, rx_ox_some, rx_vx_ref, rx_ix_ref, rx_ld_0, rx_ld_2, rx_ld_3, rx_cx_some, rx_nl, List.getElem?_cons_zero, List.getElem?_cons_succ, List.set_cons_zero, List.set_cons_succ, List.length_cons, List.length_nil, List.take_succ_cons, List.take_zero, List.drop_succ_cons, List.drop_zero, List.reverse_cons, List.reverse_nil, List.nil_append, List.cons_append, Option.toList_some, Option.toList_none, true_and, and_true, and_self, true_or, or_true, false_and, and_false, false_or, or_false, not_false_eq_true, Nat.reduceAdd, Nat.reduceLT, Nat.reduceLeDiff, Nat.reduceBEq, Nat.reduceEqDiff, Bool.or_false, Bool.false_or, if_true, if_false, Bool.false_eq_true, nq_eq, nq_lt, nq_le, nq_in_t, nq_bd, nq_ft, nq_clamp, nq_shl31, nq_shr31, nq_bitb, nq_add, nq_mul, fa_and, fa_or, nq_b0, nq_b1, nq_b01, ↓ni_lt_t, ↓ni_lt_f, ↓ni_le_t, ↓ni_le_f, ↓ni_eq_t, ↓ni_eq_f, ↓ni_beq_t, ↓ni_beq_f, it_X8_behind, q_X8_isProcess, q_X8_within, inR_of hp, inR_of hk, h1, mO]
  refine m_bt hi hv hL ht hp (fun h2 l' y1 y2 y3 => ?_) (fun h2 i' y1 y2 y3 => (wdF_no y3 hw).elim)
  rw [hw] at y3
  cases y3
  simp (disch := first | decide | omega) only [rx_W, rx_wp_succ, rx_nx_stop, rx_nx_go, rx_lx_some, rx_fx_some, rx_ax_some, rx_qx_some, rx_ox_some, rx_vx_ref, rx_ix_ref, rx_ld_0, rx_ld_2, rx_ld_3, rx_cx_some, rx_nl, List.getElem?_cons_zero, List.getElem?_cons_succ, List.set_cons_zero, List.set_cons_succ, List.length_cons, List.length_nil, List.take_succ_cons, List.take_zero, List.drop_succ_cons, List.drop_zero, List.reverse_cons, List.reverse_nil, List.nil_append, List.cons_append, Option.toList_some, Option.toList_none, true_and, and_true, and_self, true_or, or_true, false_and, and_false, false_or, or_false, not_false_eq_true, Nat.reduceAdd, Nat.reduceLT, Nat.reduceLeDiff, Nat.reduceBEq, Nat.reduceEqDiff, Bool.or_false, Bool.false_or, if_true, if_false, Bool.false_eq_true, nq_eq, nq_lt, nq_le, nq_in_t, nq_bd, nq_ft, nq_clamp, nq_shl31, nq_shr31, nq_bitb, nq_add, nq_mul, fa_and, fa_or, nq_b0, nq_b1, nq_b01, ↓ni_lt_t, ↓ni_lt_f, ↓ni_le_t, ↓ni_le_f, ↓ni_eq_t, ↓ni_eq_f, ↓ni_beq_t, ↓ni_beq_f, it_X8_behind]
  obtain ⟨pl2, fo2, z2, h12⟩ := y2.1
  have hm2 := mIv_mN y2
  have fin : ∀ x, x = bhF (v (41 * p)) (wq v p) (aftL (v (41 * p)) (wq v p) l) k → mP h (v, u, np, L, t, cs) (.int (bhF (v (41 * p)) (wq v p) (aftL (v (41 * p)) (wq v p) l) k)) (some (.int x)) h2 := fun x hx => ⟨by rw [hx], Fr_mA y1 (by simp), y2⟩
  generalize aftL (v (41 * p)) (wq v p) l = X at *
  have xn : ¬ nI X = -1 := nI_ne1 (by omega)
  have xl : X &&& lst (v (41 * p)) (wq v p) < 256 := Nat.lt_of_le_of_lt Nat.and_le_left (by omega)
  have hc : k = 0 ∨ k = 1 ∨ k = 2 ∨ k = 3 := by omega
  apply rx_wp_sound 60 [40]
  rcases hc with rfl | rfl | rfl | rfl
  · simp (disch := first | decide | omega) only [rx_W, rx_wp_succ, rx_nx_stop, rx_nx_go, rx_lx_some, rx_fx_some, rx_ax_some, rx_qx_some, rx_ox_some, rx_vx_ref, rx_ix_ref, rx_ld_0, rx_ld_2, rx_ld_3, rx_cx_some, rx_nl, List.getElem?_cons_zero, List.getElem?_cons_succ, List.set_cons_zero, List.set_cons_succ, List.length_cons, List.length_nil, List.take_succ_cons, List.take_zero, List.drop_succ_cons, List.drop_zero, List.reverse_cons, List.reverse_nil, List.nil_append, List.cons_append, Option.toList_some, Option.toList_none, true_and, and_true, and_self, true_or, or_true, false_and, and_false, false_or, or_false, not_false_eq_true, Nat.reduceAdd, Nat.reduceLT, Nat.reduceLeDiff, Nat.reduceBEq, Nat.reduceEqDiff, Bool.or_false, Bool.false_or, if_true, if_false, Bool.false_eq_true, nq_eq, nq_lt, nq_le, nq_in_t, nq_bd, nq_ft, nq_clamp, nq_shl31, nq_shr31, nq_bitb, nq_add, nq_mul, fa_and, fa_or, nq_b0, nq_b1, nq_b01, ↓ni_lt_t, ↓ni_lt_f, ↓ni_le_t, ↓ni_le_f, ↓ni_eq_t, ↓ni_eq_f, ↓ni_beq_t, ↓ni_beq_f, it_X8_behind, xn]
    exact fin _ rfl
  · simp (disch := first | decide | omega) only [rx_W, rx_wp_succ, rx_nx_stop, rx_nx_go, rx_lx_some, rx_fx_some, rx_ax_some, rx_qx_some, rx_ox_some, rx_vx_ref, rx_ix_ref, rx_ld_0, rx_ld_2, rx_ld_3, rx_cx_some, rx_nl, List.getElem?_cons_zero, List.getElem?_cons_succ, List.set_cons_zero, List.set_cons_succ, List.length_cons, List.length_nil, List.take_succ_cons, List.take_zero, List.drop_succ_cons, List.drop_zero, List.reverse_cons, List.reverse_nil, List.nil_append, List.cons_append, Option.toList_some, Option.toList_none, true_and, and_true, and_self, true_or, or_true, false_and, and_false, false_or, or_false, not_false_eq_true, Nat.reduceAdd, Nat.reduceLT, Nat.reduceLeDiff, Nat.reduceBEq, Nat.reduceEqDiff, Bool.or_false, Bool.false_or, if_true, if_false, Bool.false_eq_true, nq_eq, nq_lt, nq_le, nq_in_t, nq_bd, nq_ft, nq_clamp, nq_shl31, nq_shr31, nq_bitb, nq_add, nq_mul, fa_and, fa_or, nq_b0, nq_b1, nq_b01, ↓ni_lt_t, ↓ni_lt_f, ↓ni_le_t, ↓ni_le_f, ↓ni_eq_t, ↓ni_eq_f, ↓ni_beq_t, ↓ni_beq_f, it_X8_behind, xn, h12, mO, q_X8_offered hm2 hp n8 hw8]
    exact fin _ rfl
  · simp (disch := first | decide | omega) only [rx_W, rx_wp_succ, rx_nx_stop, rx_nx_go, rx_lx_some, rx_fx_some, rx_ax_some, rx_qx_some, rx_ox_some, rx_vx_ref, rx_ix_ref, rx_ld_0, rx_ld_2, rx_ld_3, rx_cx_some, rx_nl, List.getElem?_cons_zero, List.getElem?_cons_succ, List.set_cons_zero, List.set_cons_succ, List.length_cons, List.length_nil, List.take_succ_cons, List.take_zero, List.drop_succ_cons, List.drop_zero, List.reverse_cons, List.reverse_nil, List.nil_append, List.cons_append, Option.toList_some, Option.toList_none, true_and, and_true, and_self, true_or, or_true, false_and, and_false, false_or, or_false, not_false_eq_true, Nat.reduceAdd, Nat.reduceLT, Nat.reduceLeDiff, Nat.reduceBEq, Nat.reduceEqDiff, Bool.or_false, Bool.false_or, if_true, if_false, Bool.false_eq_true, nq_eq, nq_lt, nq_le, nq_in_t, nq_bd, nq_ft, nq_clamp, nq_shl31, nq_shr31, nq_bitb, nq_add, nq_mul, fa_and, fa_or, nq_b0, nq_b1, nq_b01, ↓ni_lt_t, ↓ni_lt_f, ↓ni_le_t, ↓ni_le_f, ↓ni_eq_t, ↓ni_eq_f, ↓ni_beq_t, ↓ni_beq_f, it_X8_behind, xn, h12, mO, q_X8_fewest hm2 hp n8 hw8]
    exact fin _ rfl
  · simp (disch := first | decide | omega) only [rx_W, rx_wp_succ, rx_nx_stop, rx_nx_go, rx_lx_some, rx_fx_some, rx_ax_some, rx_qx_some, rx_ox_some, rx_vx_ref, rx_ix_ref, rx_ld_0, rx_ld_2, rx_ld_3, rx_cx_some, rx_nl, List.getElem?_cons_zero, List.getElem?_cons_succ, List.set_cons_zero, List.set_cons_succ, List.length_cons, List.length_nil, List.take_succ_cons, List.take_zero, List.drop_succ_cons, List.drop_zero, List.reverse_cons, List.reverse_nil, List.nil_append, List.cons_append, Option.toList_some, Option.toList_none, true_and, and_true, and_self, true_or, or_true, false_and, and_false, false_or, or_false, not_false_eq_true, Nat.reduceAdd, Nat.reduceLT, Nat.reduceLeDiff, Nat.reduceBEq, Nat.reduceEqDiff, Bool.or_false, Bool.false_or, if_true, if_false, Bool.false_eq_true, nq_eq, nq_lt, nq_le, nq_in_t, nq_bd, nq_ft, nq_clamp, nq_shl31, nq_shr31, nq_bitb, nq_add, nq_mul, fa_and, fa_or, nq_b0, nq_b1, nq_b01, ↓ni_lt_t, ↓ni_lt_f, ↓ni_le_t, ↓ni_le_f, ↓ni_eq_t, ↓ni_eq_f, ↓ni_beq_t, ↓ni_beq_f, it_X8_behind, xn, h12, mO, q_X8_losts hm2 hp n8 hw8]
    split
    · next c => exact fin _ (by unfold bhF; rw [if_neg (by omega), if_neg (by omega), if_neg (by omega), if_pos c])
    · next c => exact fin _ (by unfold bhF; rw [if_neg (by omega), if_neg (by omega), if_neg (by omega), if_neg c])
end MP
