theorem mst_tot {n : Nat} {σ σ' : Ms} {i c : Nat} (hI : msI n σ i) (h : mst n σ i c = .inr σ') : tot σ.2.2.2.2.2 ≤ tot σ'.2.2.2.2.2 := by
  obtain ⟨any, st, fr, b, fb, W⟩ := σ
  obtain ⟨i1, i2, i3, i4, i5⟩ := hI
  unfold mst at h
  dsimp only at h i1 i2 i3 i4 i5
  split at h
  · split at h
    · cases h; exact Nat.le_refl _
    · cases h
  · split at h
    · split at h
      · cases h; exact Nat.le_refl _
      · cases h
    · split at h
      · split at h
        · split at h
          · cases h
          · cases h
            have a := (i2 (by omega)).1
            have c := i3 (by omega)
            have n8 := i4.2.1
            exact tot_or W (by omega) _
        · cases h
      · split at h
        · cases h; exact Nat.le_refl _
        · cases h
theorem mrd_tot {t : Nat → Nat} {n : Nat} {W : Nat → Nat} (hW : wfP n W) : ∀ i σ, mrd t n W i = .inr σ → tot W ≤ tot σ.2.2.2.2.2
  | 0, σ, h => by cases h; exact Nat.le_refl _
  | i + 1, σ, h => by
    cases c : mrd t n W i with
    | inl f => rw [show mrd t n W (i + 1) = .inl f from mrd_no c 1] at h; cases h
    | inr τ =>
      have ih := mrd_tot hW i τ c
      rw [mrd_succ c] at h
      split at h
      · cases h; exact ih
      · exact Nat.le_trans ih (mst_tot (msI_mrd hW i τ c) h)
theorem mres_ok {t : Nat → Nat} {n : Nat} {W W' : Nat → Nat} {L : Nat} (hW : wfP n W) (h : mres t n W L = .inr W') : wfP n W' ∧ tot W ≤ tot W' := by
  unfold mres at h
  cases c : mrd t n W L with
  | inl f => rw [c] at h; cases h
  | inr σ =>
    rw [c] at h
    have h : (if σ.1 = true ∧ σ.2.1 = 0 then (.inr σ.2.2.2.2.2 : Nat ⊕ (Nat → Nat)) else .inl L) = .inr W' := h
    split at h
    · cases h
      exact ⟨(msI_mrd hW L σ c).2.2.2.1, mrd_tot hW L σ c⟩
    · cases h
section KP
variable {h : rx_H} {v : Nat → Nat} {u : Nat → Nat → Nat} {np L : Nat} {t : Nat → Nat} {cs : Nat → Int32}
theorem k_leave_d (hc : cIv h v u np L t cs) (hn : np ≤ 5) {p n5 : Nat} {w5 : Nat → Nat} (hp : p < 4) (hd : pW h 64 n5 w5) : rx_Cl 93 [.ref 1, .int (nI p)] h (fun x h' => x = none ∧ FC h h' ∧ cIv h' v (pU u np v) (pN np) L t cs ∧ oF h' (68 + 8 * p) ∧ pW h' 64 n5 w5) := by
  have kl := k_leave hc hn hp
  have hc' := hc
  obtain ⟨c1, ⟨⟨fP2, i1, i2⟩, fO2, i3, i4⟩, c3, c4, c5, -⟩ := hc'
  have c5' := c5
  obtain ⟨nx, rn, rw, fR, -, a2, -⟩ := c5'
  have kk : rx_Cl 93 [.ref 1, .int (nI p)] h (fun x h' => pW h' 64 n5 w5) := by
    apply en_X7_leavePast _ _ 60 []
    simp (disch := first | decide | omega) only [rx_W, rx_wp_succ, rx_nx_stop, rx_nx_go, rx_lx_some, rx_fx_some, rx_ax_some, rx_qx_some, rx_ox_some, rx_vx_ref, rx_ix_ref, rx_ld_0, rx_ld_2, rx_ld_3, rx_cx_some, rx_nl, List.getElem?_cons_zero, List.getElem?_cons_succ, List.set_cons_zero, List.set_cons_succ, List.length_cons, List.length_nil, List.take_succ_cons, List.take_zero, List.drop_succ_cons, List.drop_zero, List.reverse_cons, List.reverse_nil, List.nil_append, List.cons_append, Option.toList_some, Option.toList_none, true_and, and_true, and_self, true_or, or_true, false_and, and_false, false_or, or_false, not_false_eq_true, Nat.reduceAdd, Nat.reduceLT, Nat.reduceLeDiff, Nat.reduceBEq, Nat.reduceEqDiff, Bool.or_false, Bool.false_or, if_true, if_false, Bool.false_eq_true, nq_eq, nq_lt, nq_le, nq_in_t, nq_bd, nq_ft, nq_clamp, nq_shl31, nq_shr31, nq_bitb, nq_add, nq_mul, fa_and, fa_or, nq_b0, nq_b1, nq_b01, ↓ni_lt_t, ↓ni_lt_f, ↓ni_le_t, ↓ni_le_f, ↓ni_eq_t, ↓ni_eq_f, ↓ni_beq_t, ↓ni_beq_f, it_X7_leavePast, c1, bO, a2, psO]
    refine rx_Cl_imp (c_X3_keep c5 hn i1 i2 c3) (fun x h' ⟨e, z1, z2⟩ => ?_)
    subst e
    have s1 : Sm h h' 0 3 := Sm_fr z1 (fun i hi => by have := psA_rg hi; omega)
    have s2 : Sm h h' 46 109 := Sm_fr z1 (fun i hi => by have := psA_rg hi; omega)
    have c1' := (s1 1 (by omega) (by omega)).trans c1
    have i3' := (s1 3 (by omega) (by omega)).trans i3
    have q4 := i4 p hp
    obtain ⟨fr, sb, lo, n, O, R, N, F, A, hfr, ho, hr', hz⟩ := oS_sm s2 (by omega) (by omega) (oI_oS (c4 p hp))
    simp (disch := first | decide | omega) only [rx_W, rx_wp_succ, rx_nx_stop, rx_nx_go, rx_lx_some, rx_fx_some, rx_ax_some, rx_qx_some, rx_ox_some, rx_vx_ref, rx_ix_ref, rx_ld_0, rx_ld_2, rx_ld_3, rx_cx_some, rx_nl, List.getElem?_cons_zero, List.getElem?_cons_succ, List.set_cons_zero, List.set_cons_succ, List.length_cons, List.length_nil, List.take_succ_cons, List.take_zero, List.drop_succ_cons, List.drop_zero, List.reverse_cons, List.reverse_nil, List.nil_append, List.cons_append, Option.toList_some, Option.toList_none, true_and, and_true, and_self, true_or, or_true, false_and, and_false, false_or, or_false, not_false_eq_true, Nat.reduceAdd, Nat.reduceLT, Nat.reduceLeDiff, Nat.reduceBEq, Nat.reduceEqDiff, Bool.or_false, Bool.false_or, if_true, if_false, Bool.false_eq_true, nq_eq, nq_lt, nq_le, nq_in_t, nq_bd, nq_ft, nq_clamp, nq_shl31, nq_shr31, nq_bitb, nq_add, nq_mul, fa_and, fa_or, nq_b0, nq_b1, nq_b01, ↓ni_lt_t, ↓ni_lt_f, ↓ni_le_t, ↓ni_le_f, ↓ni_eq_t, ↓ni_eq_f, ↓ni_beq_t, ↓ni_beq_f, it_X7_leavePast, c1', bO, i3', rwO, q4, ho.1, ho.2, rx_ft]
    exact pW_fr (A := [68 + 8 * p]) (Fr_up (Fr_rfl _ _) (by simp)) (by simp; omega) (by simp; omega) (pW_sm s2 (by omega) (by omega) hd)
  obtain ⟨hl, x1, hh1, m1, m2⟩ := kl
  obtain ⟨-, x2, hh2, m3, m4⟩ := kk
  obtain ⟨e1, e2⟩ := rx_R_det m1 _ _ m3
  subst e1
  subst e2
  exact ⟨hl, _, _, m1, m2.1, m2.2.1, m2.2.2.1, m2.2.2.2, m4⟩
theorem k_moves_bad (hc : cIv h v u np L t cs) {p : Int32} (hb : inR p 4 = false) : rx_Cl 81 [.ref 1, .int p] h (kP h (v, u, np, L, t, rfs 0 cs) (.int (rcode 0))) := by
  have b1 := hc.1
  apply en_X7_moves _ _ 60 [39]
  simp (disch := first | decide | omega) only [rx_W, rx_wp_succ, rx_nx_stop, rx_nx_go, rx_lx_some, rx_fx_some, rx_ax_some, rx_qx_some, rx_ox_some, rx_vx_ref, rx_ix_ref, rx_ld_0, rx_ld_2, rx_ld_3, rx_cx_some, rx_nl, List.getElem?_cons_zero, List.getElem?_cons_succ, List.set_cons_zero, List.set_cons_succ, List.length_cons, List.length_nil, List.take_succ_cons, List.take_zero, List.drop_succ_cons, List.drop_zero, List.reverse_cons, List.reverse_nil, List.nil_append, List.cons_append, Option.toList_some, Option.toList_none, true_and, and_true, and_self, true_or, or_true, false_and, and_false, false_or, or_false, not_false_eq_true, Nat.reduceAdd, Nat.reduceLT, Nat.reduceLeDiff, Nat.reduceBEq, Nat.reduceEqDiff, Bool.or_false, Bool.false_or, if_true, if_false, Bool.false_eq_true, nq_eq, nq_lt, nq_le, nq_in_t, nq_bd, nq_ft, nq_clamp, nq_shl31, nq_shr31, nq_bitb, nq_add, nq_mul, fa_and, fa_or, nq_b0, nq_b1, nq_b01, ↓ni_lt_t, ↓ni_lt_f, ↓ni_le_t, ↓ni_le_f, ↓ni_eq_t, ↓ni_eq_f, ↓ni_beq_t, ↓ni_beq_f, it_X7_moves, q_X7_isProcess, hb, b1, bO]
  refine k_ref hc (c := 0) (by omega) rfl (fun h' y1 y2 => ?_)
  simp (disch := first | decide | omega) only [rx_W, rx_wp_succ, rx_nx_stop, rx_nx_go, rx_lx_some, rx_fx_some, rx_ax_some, rx_qx_some, rx_ox_some, rx_vx_ref, rx_ix_ref, rx_ld_0, rx_ld_2, rx_ld_3, rx_cx_some, rx_nl, List.getElem?_cons_zero, List.getElem?_cons_succ, List.set_cons_zero, List.set_cons_succ, List.length_cons, List.length_nil, List.take_succ_cons, List.take_zero, List.drop_succ_cons, List.drop_zero, List.reverse_cons, List.reverse_nil, List.nil_append, List.cons_append, Option.toList_some, Option.toList_none, true_and, and_true, and_self, true_or, or_true, false_and, and_false, false_or, or_false, not_false_eq_true, Nat.reduceAdd, Nat.reduceLT, Nat.reduceLeDiff, Nat.reduceBEq, Nat.reduceEqDiff, Bool.or_false, Bool.false_or, if_true, if_false, Bool.false_eq_true, it_X7_moves]
  exact ⟨rfl, y1, y2⟩
variable {p : Nat}
/-- the text is read into the draft -/
theorem k_mv (hc : cIv h v u np L t cs) (hv : wfV v) (hL : L ≤ 100) (ht : ∀ i, i < L → t i < 128) (hp : p < 4) (Q : Option Value → rx_H → Prop)
    (hq1 : ∀ h' g, FC h h' → cIv h' v u np L t cs → g ≤ L → mres t (v (41 * p)) (wq v p) L = .inl g → rx_R 81 39 [.ref 1, .int (nI p), .int (nI g), .null] [] h' Q)
    (hq2 : ∀ h' W', FC h h' → cIv h' v u np L t cs → pW h' 64 (v (41 * p)) W' → mres t (v (41 * p)) (wq v p) L = .inr W' → rx_R 81 39 [.ref 1, .int (nI p), .int (-1), .null] [] h' Q) : rx_Cl 81 [.ref 1, .int (nI p)] h Q := by
  have hc' := hc
  obtain ⟨b1, ⟨⟨fP, p1, p2⟩, -⟩, b3, -, -, b6, -, b8, b9, n9, w9, b10⟩ := hc'
  have q1 := p2 p hp
  have pp := b3 p hp
  apply en_X7_moves _ _ 60 [39]
  simp (disch := first | decide | omega) only [rx_W, rx_wp_succ, rx_nx_stop, rx_nx_go, rx_lx_some, rx_fx_some, rx_ax_some, rx_qx_some, rx_ox_some, rx_vx_ref, rx_ix_ref, rx_ld_0, rx_ld_2, rx_ld_3, rx_cx_some, rx_nl, List.getElem?_cons_zero, List.getElem?_cons_succ, List.set_cons_zero, List.set_cons_succ, List.length_cons, List.length_nil, List.take_succ_cons, List.take_zero, List.drop_succ_cons, List.drop_zero, List.reverse_cons, List.reverse_nil, List.nil_append, List.cons_append, Option.toList_some, Option.toList_none, true_and, and_true, and_self, true_or, or_true, false_and, and_false, false_or, or_false, not_false_eq_true, Nat.reduceAdd, Nat.reduceLT, Nat.reduceLeDiff, Nat.reduceBEq, Nat.reduceEqDiff, Bool.or_false, Bool.false_or, if_true, if_false, Bool.false_eq_true, nq_eq, nq_lt, nq_le, nq_in_t, nq_bd, nq_ft, nq_clamp, nq_shl31, nq_shr31, nq_bitb, nq_add, nq_mul, fa_and, fa_or, nq_b0, nq_b1, nq_b01, ↓ni_lt_t, ↓ni_lt_f, ↓ni_le_t, ↓ni_le_f, ↓ni_eq_t, ↓ni_eq_f, ↓ni_beq_t, ↓ni_beq_f, it_X7_moves, q_X7_isProcess, inR_of hp, b1, bO, p1, rwO, q1, b10.1, b10.2.2]
  refine rx_Cl_imp (c_X4_become b10 pp (by omega)) (fun x h2 ⟨e, y1, y2⟩ => ?_)
  subst e
  have b1' := rd_fr y1 (by simp) b1
  have t2 := tI_sm (Sm_fr y1 (by simp)) b6
  have t2' := t2
  obtain ⟨⟨wl, st, fb, fr, b, h1⟩, -⟩ := t2'
  have c2 := cIv_w y1 (by simp) hc t2 (kI_sm (Sm_fr y1 (by simp)) b8) (pgI_sm (Sm_fr y1 (by simp)) b9) ⟨_, _, y2⟩
  simp (disch := first | decide | omega) only [rx_W, rx_wp_succ, rx_nx_stop, rx_nx_go, rx_lx_some, rx_fx_some, rx_ax_some, rx_qx_some, rx_ox_some, rx_vx_ref, rx_ix_ref, rx_ld_0, rx_ld_2, rx_ld_3, rx_cx_some, rx_nl, List.getElem?_cons_zero, List.getElem?_cons_succ, List.set_cons_zero, List.set_cons_succ, List.length_cons, List.length_nil, List.take_succ_cons, List.take_zero, List.drop_succ_cons, List.drop_zero, List.reverse_cons, List.reverse_nil, List.nil_append, List.cons_append, Option.toList_some, Option.toList_none, true_and, and_true, and_self, true_or, or_true, false_and, and_false, false_or, or_false, not_false_eq_true, Nat.reduceAdd, Nat.reduceLT, Nat.reduceLeDiff, Nat.reduceBEq, Nat.reduceEqDiff, Bool.or_false, Bool.false_or, if_true, if_false, Bool.false_eq_true, nq_eq, nq_lt, nq_le, nq_in_t, nq_bd, nq_ft, nq_clamp, nq_shl31, nq_shr31, nq_bitb, nq_add, nq_mul, fa_and, fa_or, nq_b0, nq_b1, nq_b01, ↓ni_lt_t, ↓ni_lt_f, ↓ni_le_t, ↓ni_le_f, ↓ni_eq_t, ↓ni_eq_f, ↓ni_beq_t, ↓ni_beq_f, it_X7_moves, b1', bO, h1, txO]
  refine rx_Cl_imp (c_X6_readMoves t2 hL ht (hv p hp) y2) (fun x h3 ⟨z1, z2, z3⟩ => ?_)
  have c8 := c2.2.2.2.2.2.2.2.1
  have c9 := c2.2.2.2.2.2.2.2.2.1
  rcases z3 with ⟨g, g1, g2, g3, g4⟩ | ⟨W', g1, g2, g3⟩
  · subst g3
    have c3 := cIv_w z1 (by simp) c2 z2 (kI_sm (Sm_fr z1 (by simp)) c8) (pgI_sm (Sm_fr z1 (by simp)) c9) g4
    simp (disch := first | decide | omega) only [rx_W, rx_wp_succ, rx_nx_stop, rx_nx_go, rx_lx_some, rx_fx_some, rx_ax_some, rx_qx_some, rx_ox_some, rx_vx_ref, rx_ix_ref, rx_ld_0, rx_ld_2, rx_ld_3, rx_cx_some, rx_nl, List.getElem?_cons_zero, List.getElem?_cons_succ, List.set_cons_zero, List.set_cons_succ, List.length_cons, List.length_nil, List.take_succ_cons, List.take_zero, List.drop_succ_cons, List.drop_zero, List.reverse_cons, List.reverse_nil, List.nil_append, List.cons_append, Option.toList_some, Option.toList_none, true_and, and_true, and_self, true_or, or_true, false_and, and_false, false_or, or_false, not_false_eq_true, Nat.reduceAdd, Nat.reduceLT, Nat.reduceLeDiff, Nat.reduceBEq, Nat.reduceEqDiff, Bool.or_false, Bool.false_or, if_true, if_false, Bool.false_eq_true, nq_eq, nq_lt, nq_le, nq_in_t, nq_bd, nq_ft, nq_clamp, nq_shl31, nq_shr31, nq_bitb, nq_add, nq_mul, fa_and, fa_or, nq_b0, nq_b1, nq_b01, ↓ni_lt_t, ↓ni_lt_f, ↓ni_le_t, ↓ni_le_f, ↓ni_eq_t, ↓ni_eq_f, ↓ni_beq_t, ↓ni_beq_f, it_X7_moves]
    exact hq1 h3 g (FC_trans (FC_fr y1 (by simp)) (FC_fr z1 (by simp))) c3 g1 g2
  · subst g2
    have c3 := cIv_w z1 (by simp) c2 z2 (kI_sm (Sm_fr z1 (by simp)) c8) (pgI_sm (Sm_fr z1 (by simp)) c9) ⟨_, _, g3⟩
    simp (disch := first | decide | omega) only [rx_W, rx_wp_succ, rx_nx_stop, rx_nx_go, rx_lx_some, rx_fx_some, rx_ax_some, rx_qx_some, rx_ox_some, rx_vx_ref, rx_ix_ref, rx_ld_0, rx_ld_2, rx_ld_3, rx_cx_some, rx_nl, List.getElem?_cons_zero, List.getElem?_cons_succ, List.set_cons_zero, List.set_cons_succ, List.length_cons, List.length_nil, List.take_succ_cons, List.take_zero, List.drop_succ_cons, List.drop_zero, List.reverse_cons, List.reverse_nil, List.nil_append, List.cons_append, Option.toList_some, Option.toList_none, true_and, and_true, and_self, true_or, or_true, false_and, and_false, false_or, or_false, not_false_eq_true, Nat.reduceAdd, Nat.reduceLT, Nat.reduceLeDiff, Nat.reduceBEq, Nat.reduceEqDiff, Bool.or_false, Bool.false_or, if_true, if_false, Bool.false_eq_true, nq_eq, nq_lt, nq_le, nq_in_t, nq_bd, nq_ft, nq_clamp, nq_shl31, nq_shr31, nq_bitb, nq_add, nq_mul, fa_and, fa_or, nq_b0, nq_b1, nq_b01, ↓ni_lt_t, ↓ni_lt_f, ↓ni_le_t, ↓ni_le_f, ↓ni_eq_t, ↓ni_eq_f, ↓ni_beq_t, ↓ni_beq_f, it_X7_moves]
    exact hq2 h3 W' (FC_trans (FC_fr y1 (by simp)) (FC_fr z1 (by simp))) c3 g3 g1
theorem k_moves_no (hc : cIv h v u np L t cs) (hv : wfV v) (hL : L ≤ 100) (ht : ∀ i, i < L → t i < 128) (hp : p < 4) {g : Nat} (hm : mres t (v (41 * p)) (wq v p) L = .inl g) : rx_Cl 81 [.ref 1, .int (nI p)] h (kP h (v, u, np, L, t, cs) (.int (-10 - nI g))) := by
  refine k_mv hc hv hL ht hp _ (fun h2 g' y1 y2 y3 y4 => ?_) (fun h2 W' y1 y2 y3 y4 => by rw [hm] at y4; cases y4)
  rw [hm] at y4
  cases y4
  have gn : ¬ nI g = -1 := nI_ne1 (by omega)
  apply rx_wp_sound 60 [47]
  simp (disch := first | decide | omega) only [rx_W, rx_wp_succ, rx_nx_stop, rx_nx_go, rx_lx_some, rx_fx_some, rx_ax_some, rx_qx_some, rx_ox_some, rx_vx_ref, rx_ix_ref, rx_ld_0, rx_ld_2, rx_ld_3, rx_cx_some, rx_nl, List.getElem?_cons_zero, List.getElem?_cons_succ, List.set_cons_zero, List.set_cons_succ, List.length_cons, List.length_nil, List.take_succ_cons, List.take_zero, List.drop_succ_cons, List.drop_zero, List.reverse_cons, List.reverse_nil, List.nil_append, List.cons_append, Option.toList_some, Option.toList_none, true_and, and_true, and_self, true_or, or_true, false_and, and_false, false_or, or_false, not_false_eq_true, Nat.reduceAdd, Nat.reduceLT, Nat.reduceLeDiff, Nat.reduceBEq, Nat.reduceEqDiff, Bool.or_false, Bool.false_or, if_true, if_false, Bool.false_eq_true, it_X7_moves, gn]
  apply rx_wp_sound 60 []
  simp (disch := first | decide | omega) only [rx_W, rx_wp_succ, rx_nx_stop, rx_nx_go, rx_lx_some, rx_fx_some, rx_ax_some, rx_qx_some, rx_ox_some, rx_vx_ref, rx_ix_ref, rx_ld_0, rx_ld_2, rx_ld_3, rx_cx_some, rx_nl, List.getElem?_cons_zero, List.getElem?_cons_succ, List.set_cons_zero, List.set_cons_succ, List.length_cons, List.length_nil, List.take_succ_cons, List.take_zero, List.drop_succ_cons, List.drop_zero, List.reverse_cons, List.reverse_nil, List.nil_append, List.cons_append, Option.toList_some, Option.toList_none, true_and, and_true, and_self, true_or, or_true, false_and, and_false, false_or, or_false, not_false_eq_true, Nat.reduceAdd, Nat.reduceLT, Nat.reduceLeDiff, Nat.reduceBEq, Nat.reduceEqDiff, Bool.or_false, Bool.false_or, if_true, if_false, Bool.false_eq_true, it_X7_moves]
  exact ⟨rfl, y1, y2⟩
theorem k_moves_ok (hc : cIv h v u np L t cs) (hv : wfV v) (hn : np ≤ 5) (hL : L ≤ 100) (ht : ∀ i, i < L → t i < 128) (hp : p < 4) {W' : Nat → Nat} (hm : mres t (v (41 * p)) (wq v p) L = .inr W') : rx_Cl 81 [.ref 1, .int (nI p)] h (kP h (setP v p (v (41 * p)) W', pU u np v, pN np, L, t, cs) (.int (nI (tot W' - tot (wq v p))))) := by
  refine k_mv hc hv hL ht hp _ (fun h2 g' y1 y2 y3 y4 => by rw [hm] at y4; cases y4) (fun h2 W2 y1 y2 y3 y4 => ?_)
  rw [hm] at y4
  cases y4
  obtain ⟨wfN, tle⟩ := mres_ok (hv p hp) hm
  have y2' := y2
  obtain ⟨b1, ⟨⟨fP, p1, p2⟩, -⟩, b3, -⟩ := y2'
  have q1 := p2 p hp
  have pp := b3 p hp
  apply rx_wp_sound 60 [47]
  simp (disch := first | decide | omega) only [rx_W, rx_wp_succ, rx_nx_stop, rx_nx_go, rx_lx_some, rx_fx_some, rx_ax_some, rx_qx_some, rx_ox_some, rx_vx_ref, rx_ix_ref, rx_ld_0, rx_ld_2, rx_ld_3, rx_cx_some, rx_nl, List.getElem?_cons_zero, List.getElem?_cons_succ, List.set_cons_zero, List.set_cons_succ, List.length_cons, List.length_nil, List.take_succ_cons, List.take_zero, List.drop_succ_cons, List.drop_zero, List.reverse_cons, List.reverse_nil, List.nil_append, List.cons_append, Option.toList_some, Option.toList_none, true_and, and_true, and_self, true_or, or_true, false_and, and_false, false_or, or_false, not_false_eq_true, Nat.reduceAdd, Nat.reduceLT, Nat.reduceLeDiff, Nat.reduceBEq, Nat.reduceEqDiff, Bool.or_false, Bool.false_or, if_true, if_false, Bool.false_eq_true, nq_eq, nq_lt, nq_le, nq_in_t, nq_bd, nq_ft, nq_clamp, nq_shl31, nq_shr31, nq_bitb, nq_add, nq_mul, fa_and, fa_or, nq_b0, nq_b1, nq_b01, ↓ni_lt_t, ↓ni_lt_f, ↓ni_le_t, ↓ni_le_f, ↓ni_eq_t, ↓ni_eq_f, ↓ni_beq_t, ↓ni_beq_f, it_X7_moves, b1, bO, p1, rwO, q1, pp.1, pp.2.2, y3.1, y3.2.2, nq_sub]
  refine rx_Cl_imp (k_leave_d y2 hn hp y3) (fun x h3 ⟨e, z1, z2, z3, z4⟩ => ?_)
  subst e
  have z2' := z2
  obtain ⟨j1, ⟨⟨fP3, j2, j3⟩, -⟩, j4, -⟩ := z2'
  have q3 := j3 p hp
  have pp3 := j4 p hp
  simp (disch := first | decide | omega) only [rx_W, rx_wp_succ, rx_nx_stop, rx_nx_go, rx_lx_some, rx_fx_some, rx_ax_some, rx_qx_some, rx_ox_some, rx_vx_ref, rx_ix_ref, rx_ld_0, rx_ld_2, rx_ld_3, rx_cx_some, rx_nl, List.getElem?_cons_zero, List.getElem?_cons_succ, List.set_cons_zero, List.set_cons_succ, List.length_cons, List.length_nil, List.take_succ_cons, List.take_zero, List.drop_succ_cons, List.drop_zero, List.reverse_cons, List.reverse_nil, List.nil_append, List.cons_append, Option.toList_some, Option.toList_none, true_and, and_true, and_self, true_or, or_true, false_and, and_false, false_or, or_false, not_false_eq_true, Nat.reduceAdd, Nat.reduceLT, Nat.reduceLeDiff, Nat.reduceBEq, Nat.reduceEqDiff, Bool.or_false, Bool.false_or, if_true, if_false, Bool.false_eq_true, nq_eq, nq_lt, nq_le, nq_in_t, nq_bd, nq_ft, nq_clamp, nq_shl31, nq_shr31, nq_bitb, nq_add, nq_mul, fa_and, fa_or, nq_b0, nq_b1, nq_b01, ↓ni_lt_t, ↓ni_lt_f, ↓ni_le_t, ↓ni_le_f, ↓ni_eq_t, ↓ni_eq_f, ↓ni_beq_t, ↓ni_beq_f, it_X7_moves, j1, bO, j2, rwO, q3, pp3.1, pp3.2.2]
  refine rx_Cl_imp (c_X4_become pp3 z4 (by omega)) (fun x h4 ⟨e, x1, x2⟩ => ?_)
  subst e
  obtain ⟨g5, g6⟩ := k_set hv wfN hp z2 z3 x1 x2
  simp (disch := first | decide | omega) only [rx_W, rx_wp_succ, rx_nx_stop, rx_nx_go, rx_lx_some, rx_fx_some, rx_ax_some, rx_qx_some, rx_ox_some, rx_vx_ref, rx_ix_ref, rx_ld_0, rx_ld_2, rx_ld_3, rx_cx_some, rx_nl, List.getElem?_cons_zero, List.getElem?_cons_succ, List.set_cons_zero, List.set_cons_succ, List.length_cons, List.length_nil, List.take_succ_cons, List.take_zero, List.drop_succ_cons, List.drop_zero, List.reverse_cons, List.reverse_nil, List.nil_append, List.cons_append, Option.toList_some, Option.toList_none, true_and, and_true, and_self, true_or, or_true, false_and, and_false, false_or, or_false, not_false_eq_true, Nat.reduceAdd, Nat.reduceLT, Nat.reduceLeDiff, Nat.reduceBEq, Nat.reduceEqDiff, Bool.or_false, Bool.false_or, if_true, if_false, Bool.false_eq_true, nq_eq, nq_lt, nq_le, nq_in_t, nq_bd, nq_ft, nq_clamp, nq_shl31, nq_shr31, nq_bitb, nq_add, nq_mul, fa_and, fa_or, nq_b0, nq_b1, nq_b01, ↓ni_lt_t, ↓ni_lt_f, ↓ni_le_t, ↓ni_le_f, ↓ni_eq_t, ↓ni_eq_f, ↓ni_beq_t, ↓ni_beq_f, it_X7_moves]
  exact ⟨rfl, FC_trans y1 (FC_trans z1 g5), g6⟩
/-! behind -/
theorem k_behind_bad (hc : cIv h v u np L t cs) {p n : Int32} (hb : (inR p 4 && inR n 4) = false) : rx_Cl 82 [.ref 1, .int p, .int n] h (kP h (v, u, np, L, t, rfs 0 cs) (.int (rcode 0))) := by
  have b1 := hc.1
  apply en_X7_behind _ _ _ 60 [31]
  have fin : ∀ K : Option Value → rx_H → Prop, (∀ h', FC h h' → cIv h' v u np L t (rfs 0 cs) → K (some (.int (rcode 0))) h') → rx_Cl 95 [.ref 1, .int (-2)] h K := fun K hK => k_ref hc (c := 0) (by omega) rfl hK
  cases c : inR p 4 with
  | false =>
    simp (disch := first | decide | omega) only [rx_W, rx_wp_succ, rx_nx_stop, rx_nx_go, rx_lx_some, rx_fx_some, rx_ax_some, rx_qx_some, rx_ox_some, rx_vx_ref, rx_ix_ref, rx_ld_0, rx_ld_2, rx_ld_3, rx_cx_some, rx_nl, List.getElem?_cons_zero, List.getElem?_cons_succ, List.set_cons_zero, List.set_cons_succ, List.length_cons, List.length_nil, List.take_succ_cons, List.take_zero, List.drop_succ_cons, List.drop_zero, List.reverse_cons, List.reverse_nil, List.nil_append, List.cons_append, Option.toList_some, Option.toList_none, true_and, and_true, and_self, true_or, or_true, false_and, and_false, false_or, or_false, not_false_eq_true, Nat.reduceAdd, Nat.reduceLT, Nat.reduceLeDiff, Nat.reduceBEq, Nat.reduceEqDiff, Bool.or_false, Bool.false_or, if_true, if_false, Bool.false_eq_true, nq_eq, nq_lt, nq_le, nq_in_t, nq_bd, nq_ft, nq_clamp, nq_shl31, nq_shr31, nq_bitb, nq_add, nq_mul, fa_and, fa_or, nq_b0, nq_b1, nq_b01, ↓ni_lt_t, ↓ni_lt_f, ↓ni_le_t, ↓ni_le_f, ↓ni_eq_t, ↓ni_eq_f, ↓ni_beq_t, ↓ni_beq_f, it_X7_behind, it_X7_behind_1, q_X7_isProcess, c, b1, bO]
    refine fin _ (fun h' y1 y2 => ?_)
    simp (disch := first | decide | omega) only [rx_W, rx_wp_succ, rx_nx_stop, rx_nx_go, rx_lx_some, rx_fx_some, rx_ax_some, rx_qx_some, rx_ox_some, rx_vx_ref, rx_ix_ref, rx_ld_0, rx_ld_2, rx_ld_3, rx_cx_some, rx_nl, List.getElem?_cons_zero, List.getElem?_cons_succ, List.set_cons_zero, List.set_cons_succ, List.length_cons, List.length_nil, List.take_succ_cons, List.take_zero, List.drop_succ_cons, List.drop_zero, List.reverse_cons, List.reverse_nil, List.nil_append, List.cons_append, Option.toList_some, Option.toList_none, true_and, and_true, and_self, true_or, or_true, false_and, and_false, false_or, or_false, not_false_eq_true, Nat.reduceAdd, Nat.reduceLT, Nat.reduceLeDiff, Nat.reduceBEq, Nat.reduceEqDiff, Bool.or_false, Bool.false_or, if_true, if_false, Bool.false_eq_true, it_X7_behind, it_X7_behind_1]
    exact ⟨rfl, y1, y2⟩
  | true =>
    rw [c, Bool.true_and] at hb
    rcases (inR_le (b := 3) (by omega)).2 hb with d | ⟨d1, d2⟩
    · simp (disch := first | decide | omega) only [rx_W, rx_wp_succ, rx_nx_stop, rx_nx_go, rx_lx_some, rx_fx_some, rx_ax_some, rx_qx_some, rx_ox_some, rx_vx_ref, rx_ix_ref, rx_ld_0, rx_ld_2, rx_ld_3, rx_cx_some, rx_nl, List.getElem?_cons_zero, List.getElem?_cons_succ, List.set_cons_zero, List.set_cons_succ, List.length_cons, List.length_nil, List.take_succ_cons, List.take_zero, List.drop_succ_cons, List.drop_zero, List.reverse_cons, List.reverse_nil, List.nil_append, List.cons_append, Option.toList_some, Option.toList_none, true_and, and_true, and_self, true_or, or_true, false_and, and_false, false_or, or_false, not_false_eq_true, Nat.reduceAdd, Nat.reduceLT, Nat.reduceLeDiff, Nat.reduceBEq, Nat.reduceEqDiff, Bool.or_false, Bool.false_or, if_true, if_false, Bool.false_eq_true, nq_eq, nq_lt, nq_le, nq_in_t, nq_bd, nq_ft, nq_clamp, nq_shl31, nq_shr31, nq_bitb, nq_add, nq_mul, fa_and, fa_or, nq_b0, nq_b1, nq_b01, ↓ni_lt_t, ↓ni_lt_f, ↓ni_le_t, ↓ni_le_f, ↓ni_eq_t, ↓ni_eq_f, ↓ni_beq_t, ↓ni_beq_f, it_X7_behind, it_X7_behind_1, q_X7_isProcess, c, d, b1, bO]
      refine fin _ (fun h' y1 y2 => ?_)
      simp (disch := first | decide | omega) only [rx_W, rx_wp_succ, rx_nx_stop, rx_nx_go, rx_lx_some, rx_fx_some, rx_ax_some, rx_qx_some, rx_ox_some, rx_vx_ref, rx_ix_ref, rx_ld_0, rx_ld_2, rx_ld_3, rx_cx_some, rx_nl, List.getElem?_cons_zero, List.getElem?_cons_succ, List.set_cons_zero, List.set_cons_succ, List.length_cons, List.length_nil, List.take_succ_cons, List.take_zero, List.drop_succ_cons, List.drop_zero, List.reverse_cons, List.reverse_nil, List.nil_append, List.cons_append, Option.toList_some, Option.toList_none, true_and, and_true, and_self, true_or, or_true, false_and, and_false, false_or, or_false, not_false_eq_true, Nat.reduceAdd, Nat.reduceLT, Nat.reduceLeDiff, Nat.reduceBEq, Nat.reduceEqDiff, Bool.or_false, Bool.false_or, if_true, if_false, Bool.false_eq_true, it_X7_behind, it_X7_behind_1]
      exact ⟨rfl, y1, y2⟩
    · simp (disch := first | decide | omega) only [rx_W, rx_wp_succ, rx_nx_stop, rx_nx_go, rx_lx_some, rx_fx_some, rx_ax_some, rx_qx_some, rx_ox_some, rx_vx_ref, rx_ix_ref, rx_ld_0, rx_ld_2, rx_ld_3, rx_cx_some, rx_nl, List.getElem?_cons_zero, List.getElem?_cons_succ, List.set_cons_zero, List.set_cons_succ, List.length_cons, List.length_nil, List.take_succ_cons, List.take_zero, List.drop_succ_cons, List.drop_zero, List.reverse_cons, List.reverse_nil, List.nil_append, List.cons_append, Option.toList_some, Option.toList_none, true_and, and_true, and_self, true_or, or_true, false_and, and_false, false_or, or_false, not_false_eq_true, Nat.reduceAdd, Nat.reduceLT, Nat.reduceLeDiff, Nat.reduceBEq, Nat.reduceEqDiff, Bool.or_false, Bool.false_or, if_true, if_false, Bool.false_eq_true, nq_eq, nq_lt, nq_le, nq_in_t, nq_bd, nq_ft, nq_clamp, nq_shl31, nq_shr31, nq_bitb, nq_add, nq_mul, fa_and, fa_or, nq_b0, nq_b1, nq_b01, ↓ni_lt_t, ↓ni_lt_f, ↓ni_le_t, ↓ni_le_f, ↓ni_eq_t, ↓ni_eq_f, ↓ni_beq_t, ↓ni_beq_f, it_X7_behind, it_X7_behind_1, q_X7_isProcess, c, d1, d2, b1, bO]
      refine fin _ (fun h' y1 y2 => ?_)
      simp (disch := first | decide | omega) only [rx_W, rx_wp_succ, rx_nx_stop, rx_nx_go, rx_lx_some, rx_fx_some, rx_ax_some, rx_qx_some, rx_ox_some, rx_vx_ref, rx_ix_ref, rx_ld_0, rx_ld_2, rx_ld_3, rx_cx_some, rx_nl, List.getElem?_cons_zero, List.getElem?_cons_succ, List.set_cons_zero, List.set_cons_succ, List.length_cons, List.length_nil, List.take_succ_cons, List.take_zero, List.drop_succ_cons, List.drop_zero, List.reverse_cons, List.reverse_nil, List.nil_append, List.cons_append, Option.toList_some, Option.toList_none, true_and, and_true, and_self, true_or, or_true, false_and, and_false, false_or, or_false, not_false_eq_true, Nat.reduceAdd, Nat.reduceLT, Nat.reduceLeDiff, Nat.reduceBEq, Nat.reduceEqDiff, Bool.or_false, Bool.false_or, if_true, if_false, Bool.false_eq_true, it_X7_behind, it_X7_behind_1]
      exact ⟨rfl, y1, y2⟩
variable {k : Nat}
theorem k_behind_no (hc : cIv h v u np L t cs) (hv : wfV v) (hL : L ≤ 100) (ht : ∀ i, i < L → t i < 128) (hp : p < 4) (hk : k < 4) {i : Nat} (hw : wdF t L i) : rx_Cl 82 [.ref 1, .int (nI p), .int (nI k)] h (kP h (v, u, np, L, t, cs) (.int (-10 - nI i))) := by
  have hc' := hc
  obtain ⟨b1, -, -, -, -, b6, -, b8, b9, b10⟩ := hc'
  have b6' := b6
  obtain ⟨⟨wl, st, fb, fr, b, h1⟩, -⟩ := b6'
  apply en_X7_behind _ _ _ 60 [31]
  simp (disch := first | decide | omega) only [rx_W, rx_wp_succ, rx_nx_stop, rx_nx_go, rx_lx_some, rx_fx_some, rx_ax_some, rx_qx_some, rx_ox_some, rx_vx_ref, rx_ix_ref, rx_ld_0, rx_ld_2, rx_ld_3, rx_cx_some, rx_nl, List.getElem?_cons_zero, List.getElem?_cons_succ, List.set_cons_zero, List.set_cons_succ, List.length_cons, List.length_nil, List.take_succ_cons, List.take_zero, List.drop_succ_cons, List.drop_zero, List.reverse_cons, List.reverse_nil, List.nil_append, List.cons_append, Option.toList_some, Option.toList_none, true_and, and_true, and_self, true_or, or_true, false_and, and_false, false_or, or_false, not_false_eq_true, Nat.reduceAdd, Nat.reduceLT, Nat.reduceLeDiff, Nat.reduceBEq, Nat.reduceEqDiff, Bool.or_false, Bool.false_or, if_true, if_false, Bool.false_eq_true, nq_eq, nq_lt, nq_le, nq_in_t, nq_bd, nq_ft, nq_clamp, nq_shl31, nq_shr31, nq_bitb, nq_add, nq_mul, fa_and, fa_or, nq_b0, nq_b1, nq_b01, ↓ni_lt_t, ↓ni_lt_f, ↓ni_le_t, ↓ni_le_f, ↓ni_eq_t, ↓ni_eq_f, ↓ni_beq_t, ↓ni_beq_f, it_X7_behind, it_X7_behind_1, q_X7_isProcess, inR_of hp, b1, bO, h1, txO]
  refine rx_Cl_imp (c_X6_readWord b6 hL ht) (fun x h2 ⟨y1, y2, y3⟩ => ?_)
  have c2 := cIv_w y1 (by simp) hc y2 (kI_sm (Sm_fr y1 (by simp)) b8) (pgI_sm (Sm_fr y1 (by simp)) b9) (dr_sm (Sm_fr y1 (by simp)) b10)
  rcases y3 with ⟨i', g1, g2⟩ | ⟨l, st', fb', fr', b', g', g1, -⟩
  · have e := wdF_one hw g1
    subst e
    subst g2
    have gn : ¬ nI i = -1 := nI_ne1 (by have := hw.1; omega)
    simp (disch := first | decide | omega) only [rx_W, rx_wp_succ, rx_nx_stop, rx_nx_go, rx_lx_some, rx_fx_some, rx_ax_some, rx_qx_some, rx_ox_some, rx_vx_ref, rx_ix_ref, rx_ld_0, rx_ld_2, rx_ld_3, rx_cx_some, rx_nl, List.getElem?_cons_zero, List.getElem?_cons_succ, List.set_cons_zero, List.set_cons_succ, List.length_cons, List.length_nil, List.take_succ_cons, List.take_zero, List.drop_succ_cons, List.drop_zero, List.reverse_cons, List.reverse_nil, List.nil_append, List.cons_append, Option.toList_some, Option.toList_none, true_and, and_true, and_self, true_or, or_true, false_and, and_false, false_or, or_false, not_false_eq_true, Nat.reduceAdd, Nat.reduceLT, Nat.reduceLeDiff, Nat.reduceBEq, Nat.reduceEqDiff, Bool.or_false, Bool.false_or, if_true, if_false, Bool.false_eq_true, nq_eq, nq_lt, nq_le, nq_in_t, nq_bd, nq_ft, nq_clamp, nq_shl31, nq_shr31, nq_bitb, nq_add, nq_mul, fa_and, fa_or, nq_b0, nq_b1, nq_b01, ↓ni_lt_t, ↓ni_lt_f, ↓ni_le_t, ↓ni_le_f, ↓ni_eq_t, ↓ni_eq_f, ↓ni_beq_t, ↓ni_beq_f, it_X7_behind, it_X7_behind_1]
    apply rx_wp_sound 60 [39]
    simp (disch := first | decide | omega) only [rx_W, rx_wp_succ, rx_nx_stop, rx_nx_go, rx_lx_some, rx_fx_some, rx_ax_some, rx_qx_some, rx_ox_some, rx_vx_ref, rx_ix_ref, rx_ld_0, rx_ld_2, rx_ld_3, rx_cx_some, rx_nl, List.getElem?_cons_zero, List.getElem?_cons_succ, List.set_cons_zero, List.set_cons_succ, List.length_cons, List.length_nil, List.take_succ_cons, List.take_zero, List.drop_succ_cons, List.drop_zero, List.reverse_cons, List.reverse_nil, List.nil_append, List.cons_append, Option.toList_some, Option.toList_none, true_and, and_true, and_self, true_or, or_true, false_and, and_false, false_or, or_false, not_false_eq_true, Nat.reduceAdd, Nat.reduceLT, Nat.reduceLeDiff, Nat.reduceBEq, Nat.reduceEqDiff, Bool.or_false, Bool.false_or, if_true, if_false, Bool.false_eq_true, it_X7_behind, it_X7_behind_1, gn]
    apply rx_wp_sound 60 []
    simp (disch := first | decide | omega) only [rx_W, rx_wp_succ, rx_nx_stop, rx_nx_go, rx_lx_some, rx_fx_some, rx_ax_some, rx_qx_some, rx_ox_some, rx_vx_ref, rx_ix_ref, rx_ld_0, rx_ld_2, rx_ld_3, rx_cx_some, rx_nl, List.getElem?_cons_zero, List.getElem?_cons_succ, List.set_cons_zero, List.set_cons_succ, List.length_cons, List.length_nil, List.take_succ_cons, List.take_zero, List.drop_succ_cons, List.drop_zero, List.reverse_cons, List.reverse_nil, List.nil_append, List.cons_append, Option.toList_some, Option.toList_none, true_and, and_true, and_self, true_or, or_true, false_and, and_false, false_or, or_false, not_false_eq_true, Nat.reduceAdd, Nat.reduceLT, Nat.reduceLeDiff, Nat.reduceBEq, Nat.reduceEqDiff, Bool.or_false, Bool.false_or, if_true, if_false, Bool.false_eq_true, it_X7_behind, it_X7_behind_1]
    exact ⟨rfl, FC_fr y1 (by simp), c2⟩
  · exact (wdF_no hw g1).elim
theorem l_X7_bh {n : Nat} {w : Nat → Nat} {l : List Nat} {g : Nat → Int32} {wI : Int32} {st fb fr b : Int32} (b1 : rx_rd h 1 = some (bO (cs 0) (cs 1) (cs 2))) (h1 : rx_rd h 46 = some (txO (nI L) (nI l.length) st fb fr b)) (h2 : rx_rd h 47 = some (.inl (0, 20, .inl g))) (hg : ∀ i x, l[i]? = some x → g i = nI x) (hl : l.length ≤ 20) (hl4 : ∀ x ∈ l, x < 4) (hok : oK h (68 + 8 * p) n w) (n0 : 1 ≤ n) (n8 : n ≤ 8) (nw : ∀ j, j < 40 → w j < 2 ^ n) {x3 : Int32} (Q : Option Value → rx_H → Prop)
    (hq : ∀ x, rx_R 82 95 [.ref 1, .int (nI p), .int wI, .int x3, .ref (68 + 8 * p), .int (nI (aftL n w l)), x] [] h Q) :
    ∀ j i, i + j = l.length → rx_R 82 58 [.ref 1, .int (nI p), .int wI, .int x3, .ref (68 + 8 * p), .int (nI (aftL n w (l.take i))), .int (nI i)] [] h Q
  | 0, i, e => by
    have e' : i = l.length := by omega
    rw [e', List.take_length]
    apply rx_wp_sound 60 [58, 95]
    simp (disch := first | decide | omega) only [rx_W, rx_wp_succ, rx_nx_stop, rx_nx_go, rx_lx_some, rx_fx_some, rx_ax_some, rx_qx_some, rx_ox_some, rx_vx_ref, rx_ix_ref, rx_ld_0, rx_ld_2, rx_ld_3, rx_cx_some, rx_nl, List.getElem?_cons_zero, List.getElem?_cons_succ, List.set_cons_zero, List.set_cons_succ, List.length_cons, List.length_nil, List.take_succ_cons, List.take_zero, List.drop_succ_cons, List.drop_zero, List.reverse_cons, List.reverse_nil, List.nil_append, List.cons_append, Option.toList_some, Option.toList_none, true_and, and_true, and_self, true_or, or_true, false_and, and_false, false_or, or_false, not_false_eq_true, Nat.reduceAdd, Nat.reduceLT, Nat.reduceLeDiff, Nat.reduceBEq, Nat.reduceEqDiff, Bool.or_false, Bool.false_or, if_true, if_false, Bool.false_eq_true, nq_eq, nq_lt, nq_le, nq_in_t, nq_bd, nq_ft, nq_clamp, nq_shl31, nq_shr31, nq_bitb, nq_add, nq_mul, fa_and, fa_or, nq_b0, nq_b1, nq_b01, ↓ni_lt_t, ↓ni_lt_f, ↓ni_le_t, ↓ni_le_f, ↓ni_eq_t, ↓ni_eq_f, ↓ni_beq_t, ↓ni_beq_f, it_X7_behind, it_X7_behind_1, b1, bO, h1, txO]
    exact hq _
  | j + 1, i, e => by
    have hil : i < l.length := by omega
    have hgi := hg i l[i] (List.getElem?_eq_getElem hil)
    have h4 := hl4 l[i] (List.getElem_mem hil)
    have ih := l_X7_bh b1 h1 h2 hg hl hl4 hok n0 n8 nw (x3 := x3) (wI := wI) Q hq j (i + 1) (by omega)
    rw [← List.take_append_getElem hil, aftL_app] at ih
    have al := aftL_lt n0 n8 nw (l.take i) (fun x hx => hl4 x (List.mem_of_mem_take hx))
    have hok' := hok
    obtain ⟨lo, O, R, N, F, A, ho, -⟩ := hok'
    apply rx_wp_sound 60 [58, 95]
    simp (disch := first | decide | omega) only [rx_W, rx_wp_succ, rx_nx_stop, rx_nx_go, rx_lx_some, rx_fx_some, rx_ax_some, rx_qx_some, rx_ox_some, rx_vx_ref, rx_ix_ref, rx_ld_0, rx_ld_2, rx_ld_3, rx_cx_some, rx_nl, List.getElem?_cons_zero, List.getElem?_cons_succ, List.set_cons_zero, List.set_cons_succ, List.length_cons, List.length_nil, List.take_succ_cons, List.take_zero, List.drop_succ_cons, List.drop_zero, List.reverse_cons, List.reverse_nil, List.nil_append, List.cons_append, Option.toList_some, Option.toList_none, true_and, and_true, and_self, true_or, or_true, false_and, and_false, false_or, or_false, not_false_eq_true, Nat.reduceAdd, Nat.reduceLT, Nat.reduceLeDiff, Nat.reduceBEq, Nat.reduceEqDiff, Bool.or_false, Bool.false_or, if_true, if_false, Bool.false_eq_true, nq_eq, nq_lt, nq_le, nq_in_t, nq_bd, nq_ft, nq_clamp, nq_shl31, nq_shr31, nq_bitb, nq_add, nq_mul, fa_and, fa_or, nq_b0, nq_b1, nq_b01, ↓ni_lt_t, ↓ni_lt_f, ↓ni_le_t, ↓ni_le_f, ↓ni_eq_t, ↓ni_eq_f, ↓ni_beq_t, ↓ni_beq_f, it_X7_behind, it_X7_behind_1, b1, bO, h1, txO, h2, hgi, ho.1, ho.2, q_X1_after hok n8 nw al]
    exact ih
theorem k_behind_ok (hc : cIv h v u np L t cs) (hv : wfV v) (hL : L ≤ 100) (ht : ∀ i, i < L → t i < 128) (hp : p < 4) (hk : k < 4) {l : List Nat} (hw : wdS t L = some l) : rx_Cl 82 [.ref 1, .int (nI p), .int (nI k)] h (kP h (v, u, np, L, t, cs) (.int (bhF (v (41 * p)) (wq v p) (aftL (v (41 * p)) (wq v p) l) k))) := by
  have hc' := hc
  obtain ⟨b1, -, -, -, -, b6, -, b8, b9, b10⟩ := hc'
  have b6' := b6
  obtain ⟨⟨wl, st, fb, fr, b, h1⟩, -⟩ := b6'
  obtain ⟨n0, n8, nw, nz, -⟩ := hv p hp
  have p8 : 2 ^ v (41 * p) ≤ 2 ^ 8 := Nat.pow_le_pow_right (by omega) n8
  obtain ⟨ll, l4⟩ := wdS_len L l hw
  have al := aftL_lt n0 n8 nw l l4
  apply en_X7_behind _ _ _ 60 [31]
  simp (disch := first | decide | omega) only [rx_W, rx_wp_succ, rx_nx_stop, rx_nx_go, rx_lx_some, rx_fx_some, rx_ax_some, rx_qx_some, rx_ox_some, rx_vx_ref, rx_ix_ref, rx_ld_0, rx_ld_2, rx_ld_3, rx_cx_some, rx_nl, List.getElem?_cons_zero, List.getElem?_cons_succ, List.set_cons_zero, List.set_cons_succ, List.length_cons, List.length_nil, List.take_succ_cons, List.take_zero, List.drop_succ_cons, List.drop_zero, List.reverse_cons, List.reverse_nil, List.nil_append, List.cons_append, Option.toList_some, Option.toList_none, true_and, and_true, and_self, true_or, or_true, false_and, and_false, false_or, or_false, not_false_eq_true, Nat.reduceAdd, Nat.reduceLT, Nat.reduceLeDiff, Nat.reduceBEq, Nat.reduceEqDiff, Bool.or_false, Bool.false_or, if_true, if_false, Bool.false_eq_true, nq_eq, nq_lt, nq_le, nq_in_t, nq_bd, nq_ft, nq_clamp, nq_shl31, nq_shr31, nq_bitb, nq_add, nq_mul, fa_and, fa_or, nq_b0, nq_b1, nq_b01, ↓ni_lt_t, ↓ni_lt_f, ↓ni_le_t, ↓ni_le_f, ↓ni_eq_t, ↓ni_eq_f, ↓ni_beq_t, ↓ni_beq_f, it_X7_behind, it_X7_behind_1, q_X7_isProcess, inR_of hp, b1, bO, h1, txO]
  refine rx_Cl_imp (c_X6_readWord b6 hL ht) (fun x h2 ⟨y1, y2, y3⟩ => ?_)
  have c2 := cIv_w y1 (by simp) hc y2 (kI_sm (Sm_fr y1 (by simp)) b8) (pgI_sm (Sm_fr y1 (by simp)) b9) (dr_sm (Sm_fr y1 (by simp)) b10)
  rcases y3 with ⟨i', g1, g2⟩ | ⟨l', st', fb', fr', b', g', g1, g2, g3, g4, g5⟩
  · exact (wdF_no g1 hw).elim
  · rw [hw] at g1
    cases g1
    subst g2
    have d1 := c2.1
    simp (disch := first | decide | omega) only [rx_W, rx_wp_succ, rx_nx_stop, rx_nx_go, rx_lx_some, rx_fx_some, rx_ax_some, rx_qx_some, rx_ox_some, rx_vx_ref, rx_ix_ref, rx_ld_0, rx_ld_2, rx_ld_3, rx_cx_some, rx_nl, List.getElem?_cons_zero, List.getElem?_cons_succ, List.set_cons_zero, List.set_cons_succ, List.length_cons, List.length_nil, List.take_succ_cons, List.take_zero, List.drop_succ_cons, List.drop_zero, List.reverse_cons, List.reverse_nil, List.nil_append, List.cons_append, Option.toList_some, Option.toList_none, true_and, and_true, and_self, true_or, or_true, false_and, and_false, false_or, or_false, not_false_eq_true, Nat.reduceAdd, Nat.reduceLT, Nat.reduceLeDiff, Nat.reduceBEq, Nat.reduceEqDiff, Bool.or_false, Bool.false_or, if_true, if_false, Bool.false_eq_true, nq_eq, nq_lt, nq_le, nq_in_t, nq_bd, nq_ft, nq_clamp, nq_shl31, nq_shr31, nq_bitb, nq_add, nq_mul, fa_and, fa_or, nq_b0, nq_b1, nq_b01, ↓ni_lt_t, ↓ni_lt_f, ↓ni_le_t, ↓ni_le_f, ↓ni_eq_t, ↓ni_eq_f, ↓ni_beq_t, ↓ni_beq_f, it_X7_behind, it_X7_behind_1]
    apply rx_wp_sound 60 [39, 58]
    simp (disch := first | decide | omega) only [rx_W, rx_wp_succ, rx_nx_stop, rx_nx_go, rx_lx_some, rx_fx_some, rx_ax_some, rx_qx_some, rx_ox_some, rx_vx_ref, rx_ix_ref, rx_ld_0, rx_ld_2, rx_ld_3, rx_cx_some, rx_nl, List.getElem?_cons_zero, List.getElem?_cons_succ, List.set_cons_zero, List.set_cons_succ, List.length_cons, List.length_nil, List.take_succ_cons, List.take_zero, List.drop_succ_cons, List.drop_zero, List.reverse_cons, List.reverse_nil, List.nil_append, List.cons_append, Option.toList_some, Option.toList_none, true_and, and_true, and_self, true_or, or_true, false_and, and_false, false_or, or_false, not_false_eq_true, Nat.reduceAdd, Nat.reduceLT, Nat.reduceLeDiff, Nat.reduceBEq, Nat.reduceEqDiff, Bool.or_false, Bool.false_or, if_true, if_false, Bool.false_eq_true, nq_eq, nq_lt, nq_le, nq_in_t, nq_bd, nq_ft, nq_clamp, nq_shl31, nq_shr31, nq_bitb, nq_add, nq_mul, fa_and, fa_or, nq_b0, nq_b1, nq_b01, ↓ni_lt_t, ↓ni_lt_f, ↓ni_le_t, ↓ni_le_f, ↓ni_eq_t, ↓ni_eq_f, ↓ni_beq_t, ↓ni_beq_f, it_X7_behind, it_X7_behind_1, d1, bO]
    refine rx_Cl_imp (k_outlook c2 hv hp) (fun x h3 ⟨e, z1, z2, z3, z4, _⟩ => ?_)
    subst e
    have e1 := z3.1
    have g3' := (z2 46 (by omega) (by omega)).trans g3
    have g4' := (z2 47 (by omega) (by omega)).trans g4
    have z4' := z4
    obtain ⟨lo, O, R, N, F, A, ho, -⟩ := z4'
    simp (disch := first | decide | omega) only [rx_W, rx_wp_succ, rx_nx_stop, rx_nx_go, rx_lx_some, rx_fx_some, rx_ax_some, rx_qx_some, rx_ox_some, rx_vx_ref, rx_ix_ref, rx_ld_0, rx_ld_2, rx_ld_3, rx_cx_some, rx_nl, List.getElem?_cons_zero, List.getElem?_cons_succ, List.set_cons_zero, List.set_cons_succ, List.length_cons, List.length_nil, List.take_succ_cons, List.take_zero, List.drop_succ_cons, List.drop_zero, List.reverse_cons, List.reverse_nil, List.nil_append, List.cons_append, Option.toList_some, Option.toList_none, true_and, and_true, and_self, true_or, or_true, false_and, and_false, false_or, or_false, not_false_eq_true, Nat.reduceAdd, Nat.reduceLT, Nat.reduceLeDiff, Nat.reduceBEq, Nat.reduceEqDiff, Bool.or_false, Bool.false_or, if_true, if_false, Bool.false_eq_true, nq_eq, nq_lt, nq_le, nq_in_t, nq_bd, nq_ft, nq_clamp, nq_shl31, nq_shr31, nq_bitb, nq_add, nq_mul, fa_and, fa_or, nq_b0, nq_b1, nq_b01, ↓ni_lt_t, ↓ni_lt_f, ↓ni_le_t, ↓ni_le_f, ↓ni_eq_t, ↓ni_eq_f, ↓ni_beq_t, ↓ni_beq_f, it_X7_behind, it_X7_behind_1, q_X1_start z4 n0 n8 nw, ho.1, ho.2]
    refine l_X7_bh (cs := cs) (l := l) e1 g3' g4' g5 ll l4 z4 n0 n8 nw _ (fun x => ?_) l.length 0 (by omega)
    have fin : ∀ x, x = bhF (v (41 * p)) (wq v p) (aftL (v (41 * p)) (wq v p) l) k → kP h (v, u, np, L, t, cs) (.int (bhF (v (41 * p)) (wq v p) (aftL (v (41 * p)) (wq v p) l) k)) (some (.int x)) h3 := fun x hx => ⟨by rw [hx], FC_trans (FC_fr y1 (by simp)) z1, z3⟩
    generalize aftL (v (41 * p)) (wq v p) l = X at *
    have hcc : k = 0 ∨ k = 1 ∨ k = 2 ∨ k = 3 := by omega
    apply rx_wp_sound 60 []
    rcases hcc with rfl | rfl | rfl | rfl
    · simp (disch := first | decide | omega) only [rx_W, rx_wp_succ, rx_nx_stop, rx_nx_go, rx_lx_some, rx_fx_some, rx_ax_some, rx_qx_some, rx_ox_some, rx_vx_ref, rx_ix_ref, rx_ld_0, rx_ld_2, rx_ld_3, rx_cx_some, rx_nl, List.getElem?_cons_zero, List.getElem?_cons_succ, List.set_cons_zero, List.set_cons_succ, List.length_cons, List.length_nil, List.take_succ_cons, List.take_zero, List.drop_succ_cons, List.drop_zero, List.reverse_cons, List.reverse_nil, List.nil_append, List.cons_append, Option.toList_some, Option.toList_none, true_and, and_true, and_self, true_or, or_true, false_and, and_false, false_or, or_false, not_false_eq_true, Nat.reduceAdd, Nat.reduceLT, Nat.reduceLeDiff, Nat.reduceBEq, Nat.reduceEqDiff, Bool.or_false, Bool.false_or, if_true, if_false, Bool.false_eq_true, nq_eq, nq_lt, nq_le, nq_in_t, nq_bd, nq_ft, nq_clamp, nq_shl31, nq_shr31, nq_bitb, nq_add, nq_mul, fa_and, fa_or, nq_b0, nq_b1, nq_b01, ↓ni_lt_t, ↓ni_lt_f, ↓ni_le_t, ↓ni_le_f, ↓ni_eq_t, ↓ni_eq_f, ↓ni_beq_t, ↓ni_beq_f, it_X7_behind, it_X7_behind_1]
      exact fin _ rfl
    · simp (disch := first | decide | omega) only [rx_W, rx_wp_succ, rx_nx_stop, rx_nx_go, rx_lx_some, rx_fx_some, rx_ax_some, rx_qx_some, rx_ox_some, rx_vx_ref, rx_ix_ref, rx_ld_0, rx_ld_2, rx_ld_3, rx_cx_some, rx_nl, List.getElem?_cons_zero, List.getElem?_cons_succ, List.set_cons_zero, List.set_cons_succ, List.length_cons, List.length_nil, List.take_succ_cons, List.take_zero, List.drop_succ_cons, List.drop_zero, List.reverse_cons, List.reverse_nil, List.nil_append, List.cons_append, Option.toList_some, Option.toList_none, true_and, and_true, and_self, true_or, or_true, false_and, and_false, false_or, or_false, not_false_eq_true, Nat.reduceAdd, Nat.reduceLT, Nat.reduceLeDiff, Nat.reduceBEq, Nat.reduceEqDiff, Bool.or_false, Bool.false_or, if_true, if_false, Bool.false_eq_true, nq_eq, nq_lt, nq_le, nq_in_t, nq_bd, nq_ft, nq_clamp, nq_shl31, nq_shr31, nq_bitb, nq_add, nq_mul, fa_and, fa_or, nq_b0, nq_b1, nq_b01, ↓ni_lt_t, ↓ni_lt_f, ↓ni_le_t, ↓ni_le_f, ↓ni_eq_t, ↓ni_eq_f, ↓ni_beq_t, ↓ni_beq_f, it_X7_behind, it_X7_behind_1, ho.1, ho.2, q_X1_possibleNext z4 n8]
      exact fin _ rfl
    · simp (disch := first | decide | omega) only [rx_W, rx_wp_succ, rx_nx_stop, rx_nx_go, rx_lx_some, rx_fx_some, rx_ax_some, rx_qx_some, rx_ox_some, rx_vx_ref, rx_ix_ref, rx_ld_0, rx_ld_2, rx_ld_3, rx_cx_some, rx_nl, List.getElem?_cons_zero, List.getElem?_cons_succ, List.set_cons_zero, List.set_cons_succ, List.length_cons, List.length_nil, List.take_succ_cons, List.take_zero, List.drop_succ_cons, List.drop_zero, List.reverse_cons, List.reverse_nil, List.nil_append, List.cons_append, Option.toList_some, Option.toList_none, true_and, and_true, and_self, true_or, or_true, false_and, and_false, false_or, or_false, not_false_eq_true, Nat.reduceAdd, Nat.reduceLT, Nat.reduceLeDiff, Nat.reduceBEq, Nat.reduceEqDiff, Bool.or_false, Bool.false_or, if_true, if_false, Bool.false_eq_true, nq_eq, nq_lt, nq_le, nq_in_t, nq_bd, nq_ft, nq_clamp, nq_shl31, nq_shr31, nq_bitb, nq_add, nq_mul, fa_and, fa_or, nq_b0, nq_b1, nq_b01, ↓ni_lt_t, ↓ni_lt_f, ↓ni_le_t, ↓ni_le_f, ↓ni_eq_t, ↓ni_eq_f, ↓ni_beq_t, ↓ni_beq_f, it_X7_behind, it_X7_behind_1, ho.1, ho.2, q_X1_fewestOffered z4 n8]
      exact fin _ rfl
    · simp (disch := first | decide | omega) only [rx_W, rx_wp_succ, rx_nx_stop, rx_nx_go, rx_lx_some, rx_fx_some, rx_ax_some, rx_qx_some, rx_ox_some, rx_vx_ref, rx_ix_ref, rx_ld_0, rx_ld_2, rx_ld_3, rx_cx_some, rx_nl, List.getElem?_cons_zero, List.getElem?_cons_succ, List.set_cons_zero, List.set_cons_succ, List.length_cons, List.length_nil, List.take_succ_cons, List.take_zero, List.drop_succ_cons, List.drop_zero, List.reverse_cons, List.reverse_nil, List.nil_append, List.cons_append, Option.toList_some, Option.toList_none, true_and, and_true, and_self, true_or, or_true, false_and, and_false, false_or, or_false, not_false_eq_true, Nat.reduceAdd, Nat.reduceLT, Nat.reduceLeDiff, Nat.reduceBEq, Nat.reduceEqDiff, Bool.or_false, Bool.false_or, if_true, if_false, Bool.false_eq_true, nq_eq, nq_lt, nq_le, nq_in_t, nq_bd, nq_ft, nq_clamp, nq_shl31, nq_shr31, nq_bitb, nq_add, nq_mul, fa_and, fa_or, nq_b0, nq_b1, nq_b01, ↓ni_lt_t, ↓ni_lt_f, ↓ni_le_t, ↓ni_le_f, ↓ni_eq_t, ↓ni_eq_f, ↓ni_beq_t, ↓ni_beq_f, it_X7_behind, it_X7_behind_1, ho.1, ho.2, q_X1_isLostIn z4 n8]
      by_cases c : X &&& lst (v (41 * p)) (wq v p) = 0
      · simp (disch := first | decide | omega) only [rx_W, rx_wp_succ, rx_nx_stop, rx_nx_go, rx_lx_some, rx_fx_some, rx_ax_some, rx_qx_some, rx_ox_some, rx_vx_ref, rx_ix_ref, rx_ld_0, rx_ld_2, rx_ld_3, rx_cx_some, rx_nl, List.getElem?_cons_zero, List.getElem?_cons_succ, List.set_cons_zero, List.set_cons_succ, List.length_cons, List.length_nil, List.take_succ_cons, List.take_zero, List.drop_succ_cons, List.drop_zero, List.reverse_cons, List.reverse_nil, List.nil_append, List.cons_append, Option.toList_some, Option.toList_none, true_and, and_true, and_self, true_or, or_true, false_and, and_false, false_or, or_false, not_false_eq_true, Nat.reduceAdd, Nat.reduceLT, Nat.reduceLeDiff, Nat.reduceBEq, Nat.reduceEqDiff, Bool.or_false, Bool.false_or, if_true, if_false, Bool.false_eq_true, nq_eq, nq_lt, nq_le, nq_in_t, nq_bd, nq_ft, nq_clamp, nq_shl31, nq_shr31, nq_bitb, nq_add, nq_mul, fa_and, fa_or, nq_b0, nq_b1, nq_b01, ↓ni_lt_t, ↓ni_lt_f, ↓ni_le_t, ↓ni_le_f, ↓ni_eq_t, ↓ni_eq_f, ↓ni_beq_t, ↓ni_beq_f, c, decide_true, Bool.not_true]
        exact fin _ (by unfold bhF; rw [if_neg (by omega), if_neg (by omega), if_neg (by omega), if_pos c])
      · simp (disch := first | decide | omega) only [rx_W, rx_wp_succ, rx_nx_stop, rx_nx_go, rx_lx_some, rx_fx_some, rx_ax_some, rx_qx_some, rx_ox_some, rx_vx_ref, rx_ix_ref, rx_ld_0, rx_ld_2, rx_ld_3, rx_cx_some, rx_nl, List.getElem?_cons_zero, List.getElem?_cons_succ, List.set_cons_zero, List.set_cons_succ, List.length_cons, List.length_nil, List.take_succ_cons, List.take_zero, List.drop_succ_cons, List.drop_zero, List.reverse_cons, List.reverse_nil, List.nil_append, List.cons_append, Option.toList_some, Option.toList_none, true_and, and_true, and_self, true_or, or_true, false_and, and_false, false_or, or_false, not_false_eq_true, Nat.reduceAdd, Nat.reduceLT, Nat.reduceLeDiff, Nat.reduceBEq, Nat.reduceEqDiff, Bool.or_false, Bool.false_or, if_true, if_false, Bool.false_eq_true, nq_eq, nq_lt, nq_le, nq_in_t, nq_bd, nq_ft, nq_clamp, nq_shl31, nq_shr31, nq_bitb, nq_add, nq_mul, fa_and, fa_or, nq_b0, nq_b1, nq_b01, ↓ni_lt_t, ↓ni_lt_f, ↓ni_le_t, ↓ni_le_f, ↓ni_eq_t, ↓ni_eq_f, ↓ni_beq_t, ↓ni_beq_f, c, decide_false, Bool.not_false]
        exact fin _ (by unfold bhF; rw [if_neg (by omega), if_neg (by omega), if_neg (by omega), if_neg c])
end KP
