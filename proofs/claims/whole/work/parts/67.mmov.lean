/-! ===== the reference's moves ===== -/
theorem mres_flt {t : Nat → Nat} {n : Nat} {W : Nat → Nat} {L nb g : Nat} {σ : Ms} (h : mrd t n W nb = .inr σ) (hnb : nb ≤ L) (h1 : nb < L → ¬ t nb = 32 ∧ mst n σ nb (t nb) = .inl g) (h2 : nb = L → ¬ (σ.1 = true ∧ σ.2.1 = 0) ∧ g = L) : mres t n W L = .inl g := by
  by_cases c : nb < L
  · obtain ⟨a1, a2⟩ := h1 c
    have := mrd_succ h
    rw [if_neg a1, a2] at this
    exact mres_no (by omega) this
  · have e : nb = L := by omega
    obtain ⟨b1, b2⟩ := h2 e
    subst e
    unfold mres
    rw [h]
    show (if σ.1 = true ∧ σ.2.1 = 0 then (.inr σ.2.2.2.2.2 : Nat ⊕ (Nat → Nat)) else .inl nb) = _
    rw [if_neg b1, b2]
theorem mrd_nb {t : Nat → Nat} {n : Nat} {W : Nat → Nat} {L i nb : Nat} {σ : Ms} (h : mrd t n W i = .inr σ) (hn : isNb t L i nb) : mrd t n W nb = .inr σ := by
  have := mrd_blank h (nb - i) (fun k k1 k2 => hn.2.2.1 k k1 (by have := hn.1; omega))
  rw [show i + (nb - i) = nb by have := hn.1; omega] at this
  exact this
section MV
variable {h : rx_H} {v : Nat → Nat} {u : Nat → Nat → Nat} {np L : Nat} {t : Nat → Nat} {cs : Nat → Int32} {p n : Nat} {W0 W : Nat → Nat}
def mvP (h : rx_H) (v : Nat → Nat) (u : Nat → Nat → Nat) (np L : Nat) (t : Nat → Nat) (cs : Nat → Int32) (p n : Nat) (W0 W : Nat → Nat) (i : Nat) : Option Value → rx_H → Prop := fun r h' => Fr h h' [98, 99] ∧
  ((r = some (.int (nI 0)) ∧ ∃ g, g ≤ L ∧ mres t n W0 L = .inl g ∧ mIx h' (setP v p n W) u np L t cs g) ∨
   (r = some (.int (nI 1)) ∧ ∃ i' W' fr b fb, i < i' ∧ i' ≤ L ∧ mrd t n W0 i' = .inr (true, 0, fr, b, fb, W') ∧ tot W' = tot W + 1 ∧ mIx h' (setP v p n W') u np L t cs i'))
theorem mvP_0 {h' : rx_H} {i g : Nat} (h1 : Fr h h' [98]) (h2 : g ≤ L) (h3 : mres t n W0 L = .inl g) (h4 : mIx h' (setP v p n W) u np L t cs g) : mvP h v u np L t cs p n W0 W i (some (.int (nI 0))) h' := ⟨Fr_sub h1 (by simp), Or.inl ⟨rfl, g, h2, h3, h4⟩⟩
theorem c_X8_moved (hv : wfV v) (hL : L ≤ 100) (ht : ∀ i, i < L → t i < 128) (hp : p < 4) (hW0 : wfP n W0) {any : Bool} {fr0 b0 fb0 i : Nat} (hiL : i ≤ L) (hm : mrd t n W0 i = .inr (any, 0, fr0, b0, fb0, W)) (ha : any = false ∨ (i < L ∧ ¬ t i = 32)) (hx : mIx h (setP v p n W) u np L t cs i) :
    rx_Cl 149 [.ref 98, .int (nI p)] h (mvP h v u np L t cs p n W0 W i) := by
  have hI := msI_mrd hW0 i _ hm
  have wf : wfP n W := hI.2.2.2.1
  have hv2 : wfV (setP v p n W) := wfV_set hv wf
  have n8 := wf.2.1
  have tl := wf.2.2.2.2
  have hw8 := wfP_256 wf
  have en := setP_n v p n W
  have hw3 : ∀ j, j < 40 → wq (setP v p n W) p j < 256 := fun j hj => by rw [setP_w v p n W hj]; exact hw8 j hj
  have et : tot (wq (setP v p n W) p) = tot W := tot_cong (fun j hj => setP_w v p n W hj)
  have hx' := hx
  obtain ⟨-, fo, z, h1⟩ := hx'
  apply en_X8_moved _ _ 60 [10]
  simp (disch := first | decide | omega) only [rx_W, rx_wp_succ, rx_nx_stop, rx_nx_go, rx_lx_some, rx_fx_some, rx_ax_some, rx_qx_some, rx_ox_some, rx_vx_ref, rx_ix_ref, rx_ld_0, rx_ld_2, rx_ld_3, rx_cx_some, rx_nl, List.getElem?_cons_zero, List.getElem?_cons_succ, List.set_cons_zero, List.set_cons_succ, List.length_cons, List.length_nil, List.take_succ_cons, List.take_zero, List.drop_succ_cons, List.drop_zero, List.reverse_cons, List.reverse_nil, List.nil_append, List.cons_append, Option.toList_some, Option.toList_none, true_and, and_true, and_self, true_or, or_true, false_and, and_false, false_or, or_false, not_false_eq_true, Nat.reduceAdd, Nat.reduceLT, Nat.reduceLeDiff, Nat.reduceBEq, Nat.reduceEqDiff, Bool.or_false, Bool.false_or, if_true, if_false, Bool.false_eq_true, nq_eq, nq_lt, nq_le, nq_in_t, nq_bd, nq_ft, nq_clamp, nq_shl31, nq_shr31, nq_bitb, nq_add, nq_mul, fa_and, fa_or, nq_b0, nq_b1, nq_b01, ↓ni_lt_t, ↓ni_lt_f, ↓ni_le_t, ↓ni_le_f, ↓ni_eq_t, ↓ni_eq_f, ↓ni_beq_t, ↓ni_beq_f, it_X8_moved, it_X8_moved_1, h1, mO]
  refine rx_Cl_imp (c_X8_here hL ht hiL hx) (fun r h2 ⟨y1, nb, y2, y3, y4⟩ => ?_)
  subst y4
  have y3' := y3
  obtain ⟨hi2, fo2, z2, h12⟩ := y3'
  simp (disch := first | decide | omega) only [rx_W, rx_wp_succ, rx_nx_stop, rx_nx_go, rx_lx_some, rx_fx_some, rx_ax_some, rx_qx_some, rx_ox_some, rx_vx_ref, rx_ix_ref, rx_ld_0, rx_ld_2, rx_ld_3, rx_cx_some, rx_nl, List.getElem?_cons_zero, List.getElem?_cons_succ, List.set_cons_zero, List.set_cons_succ, List.length_cons, List.length_nil, List.take_succ_cons, List.take_zero, List.drop_succ_cons, List.drop_zero, List.reverse_cons, List.reverse_nil, List.nil_append, List.cons_append, Option.toList_some, Option.toList_none, true_and, and_true, and_self, true_or, or_true, false_and, and_false, false_or, or_false, not_false_eq_true, Nat.reduceAdd, Nat.reduceLT, Nat.reduceLeDiff, Nat.reduceBEq, Nat.reduceEqDiff, Bool.or_false, Bool.false_or, if_true, if_false, Bool.false_eq_true, nq_eq, nq_lt, nq_le, nq_in_t, nq_bd, nq_ft, nq_clamp, nq_shl31, nq_shr31, nq_bitb, nq_add, nq_mul, fa_and, fa_or, nq_b0, nq_b1, nq_b01, ↓ni_lt_t, ↓ni_lt_f, ↓ni_le_t, ↓ni_le_f, ↓ni_eq_t, ↓ni_eq_f, ↓ni_beq_t, ↓ni_beq_f, it_X8_moved, it_X8_moved_1, h12, mO]
  have m1 := mrd_nb hm y2
  have nbL := y2.2.1
  have flt1 : (nb < L → mst n (any, 0, fr0, b0, fb0, W) nb (t nb) = .inl nb) → mres t n W0 L = .inl nb := fun hh => mres_flt m1 nbL (fun c => ⟨y2.2.2.2 c, hh c⟩) (fun e => ⟨fun z => by
    rcases ha with a | ⟨a1, a2⟩
    · have z1 : any = true := z.1
      rw [a] at z1; cases z1
    · have := y2.2.2.1 i (Nat.le_refl _) (by omega)
      exact a2 this, e⟩)
  by_cases c24 : tot W = 24
  · apply rx_wp_sound 60 []
    simp (disch := first | decide | omega) only [rx_W, rx_wp_succ, rx_nx_stop, rx_nx_go, rx_lx_some, rx_fx_some, rx_ax_some, rx_qx_some, rx_ox_some, rx_vx_ref, rx_ix_ref, rx_ld_0, rx_ld_2, rx_ld_3, rx_cx_some, rx_nl, List.getElem?_cons_zero, List.getElem?_cons_succ, List.set_cons_zero, List.set_cons_succ, List.length_cons, List.length_nil, List.take_succ_cons, List.take_zero, List.drop_succ_cons, List.drop_zero, List.reverse_cons, List.reverse_nil, List.nil_append, List.cons_append, Option.toList_some, Option.toList_none, true_and, and_true, and_self, true_or, or_true, false_and, and_false, false_or, or_false, not_false_eq_true, Nat.reduceAdd, Nat.reduceLT, Nat.reduceLeDiff, Nat.reduceBEq, Nat.reduceEqDiff, Bool.or_false, Bool.false_or, if_true, if_false, Bool.false_eq_true, nq_eq, nq_lt, nq_le, nq_in_t, nq_bd, nq_ft, nq_clamp, nq_shl31, nq_shr31, nq_bitb, nq_add, nq_mul, fa_and, fa_or, nq_b0, nq_b1, nq_b01, ↓ni_lt_t, ↓ni_lt_f, ↓ni_le_t, ↓ni_le_f, ↓ni_eq_t, ↓ni_eq_f, ↓ni_beq_t, ↓ni_beq_f, it_X8_moved, it_X8_moved_1, h12, mO, q_X8_movesOf (mIv_mN hi2) hp hw3, et, c24]
    exact mvP_0 y1 nbL (flt1 (fun c => by unfold mst; dsimp only; rw [if_pos rfl, if_neg (by omega)])) y3
  apply rx_wp_sound 60 [28]
  simp (disch := first | decide | omega) only [rx_W, rx_wp_succ, rx_nx_stop, rx_nx_go, rx_lx_some, rx_fx_some, rx_ax_some, rx_qx_some, rx_ox_some, rx_vx_ref, rx_ix_ref, rx_ld_0, rx_ld_2, rx_ld_3, rx_cx_some, rx_nl, List.getElem?_cons_zero, List.getElem?_cons_succ, List.set_cons_zero, List.set_cons_succ, List.length_cons, List.length_nil, List.take_succ_cons, List.take_zero, List.drop_succ_cons, List.drop_zero, List.reverse_cons, List.reverse_nil, List.nil_append, List.cons_append, Option.toList_some, Option.toList_none, true_and, and_true, and_self, true_or, or_true, false_and, and_false, false_or, or_false, not_false_eq_true, Nat.reduceAdd, Nat.reduceLT, Nat.reduceLeDiff, Nat.reduceBEq, Nat.reduceEqDiff, Bool.or_false, Bool.false_or, if_true, if_false, Bool.false_eq_true, nq_eq, nq_lt, nq_le, nq_in_t, nq_bd, nq_ft, nq_clamp, nq_shl31, nq_shr31, nq_bitb, nq_add, nq_mul, fa_and, fa_or, nq_b0, nq_b1, nq_b01, ↓ni_lt_t, ↓ni_lt_f, ↓ni_le_t, ↓ni_le_f, ↓ni_eq_t, ↓ni_eq_f, ↓ni_beq_t, ↓ni_beq_f, it_X8_moved, it_X8_moved_1, h12, mO, q_X8_movesOf (mIv_mN hi2) hp hw3, et, c24]
  refine rx_Cl_imp (c_X8_statePassed hv2 hL ht hp nbL y3) (fun r h3 ⟨w1, nb1, w2, w3⟩ => ?_)
  have enb : nb1 = nb := by
    have a := w2.1
    by_cases z : nb1 = nb
    · exact z
    · have := w2.2.1
      exact absurd (w2.2.2.1 nb (Nat.le_refl _) (by omega)) (y2.2.2.2 (by omega))
  subst enb
  rw [en] at w3
  have f3 := Fr_trans y1 w1 (C := [98]) (fun _ z => z) (fun _ z => z)
  rcases w3 with ⟨fg, w3, e3⟩ | ⟨fg, w3, e3⟩
  · subst e3
    have fn : ¬ nI (t nb1 - 48) = -1 := nI_ne1 (by have := ht nb1 fg.1; omega)
    have m2 : mrd t n W0 (nb1 + 1) = .inr (true, 1, t nb1 - 48, b0, nb1, W) := by
      rw [mrd_succ m1, if_neg (y2.2.2.2 fg.1)]
      unfold mst
      dsimp only
      rw [if_pos rfl, if_pos ⟨fg.2, by omega⟩]
    have w3' := w3
    obtain ⟨hi3, fo3, z3, h13⟩ := w3'
    have nb1L := fg.1
    simp (disch := first | decide | omega) only [rx_W, rx_wp_succ, rx_nx_stop, rx_nx_go, rx_lx_some, rx_fx_some, rx_ax_some, rx_qx_some, rx_ox_some, rx_vx_ref, rx_ix_ref, rx_ld_0, rx_ld_2, rx_ld_3, rx_cx_some, rx_nl, List.getElem?_cons_zero, List.getElem?_cons_succ, List.set_cons_zero, List.set_cons_succ, List.length_cons, List.length_nil, List.take_succ_cons, List.take_zero, List.drop_succ_cons, List.drop_zero, List.reverse_cons, List.reverse_nil, List.nil_append, List.cons_append, Option.toList_some, Option.toList_none, true_and, and_true, and_self, true_or, or_true, false_and, and_false, false_or, or_false, not_false_eq_true, Nat.reduceAdd, Nat.reduceLT, Nat.reduceLeDiff, Nat.reduceBEq, Nat.reduceEqDiff, Bool.or_false, Bool.false_or, if_true, if_false, Bool.false_eq_true, nq_eq, nq_lt, nq_le, nq_in_t, nq_bd, nq_ft, nq_clamp, nq_shl31, nq_shr31, nq_bitb, nq_add, nq_mul, fa_and, fa_or, nq_b0, nq_b1, nq_b01, ↓ni_lt_t, ↓ni_lt_f, ↓ni_le_t, ↓ni_le_f, ↓ni_eq_t, ↓ni_eq_f, ↓ni_beq_t, ↓ni_beq_f, it_X8_moved, it_X8_moved_1]
    apply rx_wp_sound 60 [41]
    simp (disch := first | decide | omega) only [rx_W, rx_wp_succ, rx_nx_stop, rx_nx_go, rx_lx_some, rx_fx_some, rx_ax_some, rx_qx_some, rx_ox_some, rx_vx_ref, rx_ix_ref, rx_ld_0, rx_ld_2, rx_ld_3, rx_cx_some, rx_nl, List.getElem?_cons_zero, List.getElem?_cons_succ, List.set_cons_zero, List.set_cons_succ, List.length_cons, List.length_nil, List.take_succ_cons, List.take_zero, List.drop_succ_cons, List.drop_zero, List.reverse_cons, List.reverse_nil, List.nil_append, List.cons_append, Option.toList_some, Option.toList_none, true_and, and_true, and_self, true_or, or_true, false_and, and_false, false_or, or_false, not_false_eq_true, Nat.reduceAdd, Nat.reduceLT, Nat.reduceLeDiff, Nat.reduceBEq, Nat.reduceEqDiff, Bool.or_false, Bool.false_or, if_true, if_false, Bool.false_eq_true, nq_eq, nq_lt, nq_le, nq_in_t, nq_bd, nq_ft, nq_clamp, nq_shl31, nq_shr31, nq_bitb, nq_add, nq_mul, fa_and, fa_or, nq_b0, nq_b1, nq_b01, ↓ni_lt_t, ↓ni_lt_f, ↓ni_le_t, ↓ni_le_f, ↓ni_eq_t, ↓ni_eq_f, ↓ni_beq_t, ↓ni_beq_f, it_X8_moved, it_X8_moved_1, fn, h13, mO]
    refine rx_Cl_imp (c_X8_here hL ht (by omega) w3) (fun r h4 ⟨x1, nb3, x2, x3, x4⟩ => ?_)
    subst x4
    have f4 := Fr_trans f3 x1 (C := [98]) (fun _ z => z) (fun _ z => z)
    have m3 := mrd_nb m2 x2
    have nb3L := x2.2.1
    have x3' := x3
    obtain ⟨hi4, fo4, z4, h14⟩ := x3'
    have flt3 : (nb3 < L → kdB (t nb3) = false) → mres t n W0 L = .inl nb3 := fun hh => mres_flt m3 nb3L (fun c => ⟨x2.2.2.2 c, by unfold mst; dsimp only; rw [if_neg (by omega), if_pos rfl, hh c, if_neg (by simp)]⟩) (fun e => ⟨fun z => by
      have z2 : 1 = 0 := z.2
      omega, e⟩)
    simp (disch := first | decide | omega) only [rx_W, rx_wp_succ, rx_nx_stop, rx_nx_go, rx_lx_some, rx_fx_some, rx_ax_some, rx_qx_some, rx_ox_some, rx_vx_ref, rx_ix_ref, rx_ld_0, rx_ld_2, rx_ld_3, rx_cx_some, rx_nl, List.getElem?_cons_zero, List.getElem?_cons_succ, List.set_cons_zero, List.set_cons_succ, List.length_cons, List.length_nil, List.take_succ_cons, List.take_zero, List.drop_succ_cons, List.drop_zero, List.reverse_cons, List.reverse_nil, List.nil_append, List.cons_append, Option.toList_some, Option.toList_none, true_and, and_true, and_self, true_or, or_true, false_and, and_false, false_or, or_false, not_false_eq_true, Nat.reduceAdd, Nat.reduceLT, Nat.reduceLeDiff, Nat.reduceBEq, Nat.reduceEqDiff, Bool.or_false, Bool.false_or, if_true, if_false, Bool.false_eq_true, nq_eq, nq_lt, nq_le, nq_in_t, nq_bd, nq_ft, nq_clamp, nq_shl31, nq_shr31, nq_bitb, nq_add, nq_mul, fa_and, fa_or, nq_b0, nq_b1, nq_b01, ↓ni_lt_t, ↓ni_lt_f, ↓ni_le_t, ↓ni_le_f, ↓ni_eq_t, ↓ni_eq_f, ↓ni_beq_t, ↓ni_beq_f, it_X8_moved, it_X8_moved_1]
    -- the kind
    have kind : (nb3 < L ∧ kdB (t nb3) = true) → rx_R 149 78 [.ref 98, .int (nI p), .int (nI nb1), .int (nI (t nb1 - 48)), .int (nI (t nb3)), .int (nI (kdF (t nb3))), .null] [] h4 (mvP h v u np L t cs p n W0 W i) := by
      rintro ⟨c3, ck⟩
      have kl := kd_lt ck
      have m4 : mrd t n W0 (nb3 + 1) = .inr (true, 2, t nb1 - 48, kdF (t nb3), nb1, W) := by
        rw [mrd_succ m3, if_neg (x2.2.2.2 c3)]
        unfold mst
        dsimp only
        rw [if_neg (by omega), if_pos rfl, if_pos ck]
      have f5 : ∀ c, Fr h4 (rx_up h4 98 c) [98] := fun c => Fr_up (Fr_rfl _ _) (by simp)
      have mx5 : mIx (rx_up h4 98 (mO (nI np) (nI L) (nI (nb3 + 1)) fo4 z4)) (setP v p n W) u np L t cs (nb3 + 1) := ⟨mIv_98 (f5 _) hi4 (rd_eq _ _ _), fo4, z4, rd_eq _ _ _⟩
      apply rx_wp_sound 60 [95]
      simp (disch := first | decide | omega) only [rx_W, rx_wp_succ, rx_nx_stop, rx_nx_go, rx_lx_some, rx_fx_some, rx_ax_some, rx_qx_some, rx_ox_some, rx_vx_ref, rx_ix_ref, rx_ld_0, rx_ld_2, rx_ld_3, rx_cx_some, rx_nl, List.getElem?_cons_zero, List.getElem?_cons_succ, List.set_cons_zero, List.set_cons_succ, List.length_cons, List.length_nil, List.take_succ_cons, List.take_zero, List.drop_succ_cons, List.drop_zero, List.reverse_cons, List.reverse_nil, List.nil_append, List.cons_append, Option.toList_some, Option.toList_none, true_and, and_true, and_self, true_or, or_true, false_and, and_false, false_or, or_false, not_false_eq_true, Nat.reduceAdd, Nat.reduceLT, Nat.reduceLeDiff, Nat.reduceBEq, Nat.reduceEqDiff, Bool.or_false, Bool.false_or, if_true, if_false, Bool.false_eq_true, nq_eq, nq_lt, nq_le, nq_in_t, nq_bd, nq_ft, nq_clamp, nq_shl31, nq_shr31, nq_bitb, nq_add, nq_mul, fa_and, fa_or, nq_b0, nq_b1, nq_b01, ↓ni_lt_t, ↓ni_lt_f, ↓ni_le_t, ↓ni_le_f, ↓ni_eq_t, ↓ni_eq_f, ↓ni_beq_t, ↓ni_beq_f, it_X8_moved, it_X8_moved_1, h14, mO, rx_ft, rd_eq]
      refine rx_Cl_imp (c_X8_statePassed hv2 hL ht hp (by omega) mx5) (fun r h6 ⟨v1, nb4, v2, v3⟩ => ?_)
      rw [en] at v3
      have f6 := Fr_trans f4 (Fr_trans (f5 _) v1 (C := [98]) (fun _ z => z) (fun _ z => z)) (C := [98]) (fun _ z => z) (fun _ z => z)
      have m5 := mrd_nb m4 v2
      have nb4L := v2.2.1
      rcases v3 with ⟨fg4, v3, e4⟩ | ⟨fg4, v3, e4⟩
      · subst e4
        have fn4 : ¬ nI (t nb4 - 48) = -1 := nI_ne1 (by have := ht nb4 fg4.1; omega)
        have v3' := v3
        obtain ⟨hi6, fo6, z6, h16⟩ := v3'
        have hm6 := mIv_mN hi6
        have el : wq (setP v p n W) p ((t nb1 - 48) * 5 + kdF (t nb3)) = W ((t nb1 - 48) * 5 + kdF (t nb3)) := setP_w v p n W (by omega)
        have w6 := hw8 ((t nb1 - 48) * 5 + kdF (t nb3)) (by omega)
        have nb4l := fg4.1
        simp (disch := first | decide | omega) only [rx_W, rx_wp_succ, rx_nx_stop, rx_nx_go, rx_lx_some, rx_fx_some, rx_ax_some, rx_qx_some, rx_ox_some, rx_vx_ref, rx_ix_ref, rx_ld_0, rx_ld_2, rx_ld_3, rx_cx_some, rx_nl, List.getElem?_cons_zero, List.getElem?_cons_succ, List.set_cons_zero, List.set_cons_succ, List.length_cons, List.length_nil, List.take_succ_cons, List.take_zero, List.drop_succ_cons, List.drop_zero, List.reverse_cons, List.reverse_nil, List.nil_append, List.cons_append, Option.toList_some, Option.toList_none, true_and, and_true, and_self, true_or, or_true, false_and, and_false, false_or, or_false, not_false_eq_true, Nat.reduceAdd, Nat.reduceLT, Nat.reduceLeDiff, Nat.reduceBEq, Nat.reduceEqDiff, Bool.or_false, Bool.false_or, if_true, if_false, Bool.false_eq_true, nq_eq, nq_lt, nq_le, nq_in_t, nq_bd, nq_ft, nq_clamp, nq_shl31, nq_shr31, nq_bitb, nq_add, nq_mul, fa_and, fa_or, nq_b0, nq_b1, nq_b01, ↓ni_lt_t, ↓ni_lt_f, ↓ni_le_t, ↓ni_le_f, ↓ni_eq_t, ↓ni_eq_f, ↓ni_beq_t, ↓ni_beq_f, it_X8_moved, it_X8_moved_1]
        cases cb : (W ((t nb1 - 48) * 5 + kdF (t nb3))).testBit (t nb4 - 48) with
        | true =>
          have fl : mres t n W0 L = .inl nb1 := mres_flt m5 nb4L (fun c => ⟨v2.2.2.2 c, by unfold mst; dsimp only; rw [if_neg (by omega), if_neg (by omega), if_pos rfl, if_pos fg4.2, if_pos cb]⟩) (fun e => by omega)
          have f7 : ∀ c, Fr h6 (rx_up h6 98 c) [98] := fun c => Fr_up (Fr_rfl _ _) (by simp)
          apply rx_wp_sound 60 []
          simp (disch := first | decide | omega) only [rx_W, rx_wp_succ, rx_nx_stop, rx_nx_go, rx_lx_some, rx_fx_some, rx_ax_some, rx_qx_some, rx_ox_some, rx_vx_ref, rx_ix_ref, rx_ld_0, rx_ld_2, rx_ld_3, rx_cx_some, rx_nl, List.getElem?_cons_zero, List.getElem?_cons_succ, List.set_cons_zero, List.set_cons_succ, List.length_cons, List.length_nil, List.take_succ_cons, List.take_zero, List.drop_succ_cons, List.drop_zero, List.reverse_cons, List.reverse_nil, List.nil_append, List.cons_append, Option.toList_some, Option.toList_none, true_and, and_true, and_self, true_or, or_true, false_and, and_false, false_or, or_false, not_false_eq_true, Nat.reduceAdd, Nat.reduceLT, Nat.reduceLeDiff, Nat.reduceBEq, Nat.reduceEqDiff, Bool.or_false, Bool.false_or, if_true, if_false, Bool.false_eq_true, nq_eq, nq_lt, nq_le, nq_in_t, nq_bd, nq_ft, nq_clamp, nq_shl31, nq_shr31, nq_bitb, nq_add, nq_mul, fa_and, fa_or, nq_b0, nq_b1, nq_b01, ↓ni_lt_t, ↓ni_lt_f, ↓ni_le_t, ↓ni_le_f, ↓ni_eq_t, ↓ni_eq_f, ↓ni_beq_t, ↓ni_beq_f, it_X8_moved, it_X8_moved_1, fn4, h16, mO, q_X8_leadsOf hm6 hp, el, q_X8_has, cb, rx_ft]
          exact mvP_0 (Fr_trans f6 (f7 _) (fun _ z => z) (fun _ z => z)) (by omega) fl ⟨mIv_98 (f7 _) hi6 (rd_eq _ _ _), fo6, z6, rd_eq _ _ _⟩
        | false =>
          have m6 : mrd t n W0 (nb4 + 1) = .inr (true, 3, t nb1 - 48, kdF (t nb3), nb1, va_up W ((t nb1 - 48) * 5 + kdF (t nb3)) (W ((t nb1 - 48) * 5 + kdF (t nb3)) ||| 2 ^ (t nb4 - 48))) := by
            rw [mrd_succ m5, if_neg (v2.2.2.2 fg4.1)]
            unfold mst
            dsimp only
            rw [if_neg (by omega), if_neg (by omega), if_pos rfl, if_pos fg4.2, if_neg (by rw [cb]; simp)]
          apply rx_wp_sound 60 [137]
          simp (disch := first | decide | omega) only [rx_W, rx_wp_succ, rx_nx_stop, rx_nx_go, rx_lx_some, rx_fx_some, rx_ax_some, rx_qx_some, rx_ox_some, rx_vx_ref, rx_ix_ref, rx_ld_0, rx_ld_2, rx_ld_3, rx_cx_some, rx_nl, List.getElem?_cons_zero, List.getElem?_cons_succ, List.set_cons_zero, List.set_cons_succ, List.length_cons, List.length_nil, List.take_succ_cons, List.take_zero, List.drop_succ_cons, List.drop_zero, List.reverse_cons, List.reverse_nil, List.nil_append, List.cons_append, Option.toList_some, Option.toList_none, true_and, and_true, and_self, true_or, or_true, false_and, and_false, false_or, or_false, not_false_eq_true, Nat.reduceAdd, Nat.reduceLT, Nat.reduceLeDiff, Nat.reduceBEq, Nat.reduceEqDiff, Bool.or_false, Bool.false_or, if_true, if_false, Bool.false_eq_true, nq_eq, nq_lt, nq_le, nq_in_t, nq_bd, nq_ft, nq_clamp, nq_shl31, nq_shr31, nq_bitb, nq_add, nq_mul, fa_and, fa_or, nq_b0, nq_b1, nq_b01, ↓ni_lt_t, ↓ni_lt_f, ↓ni_le_t, ↓ni_le_f, ↓ni_eq_t, ↓ni_eq_f, ↓ni_beq_t, ↓ni_beq_f, it_X8_moved, it_X8_moved_1, fn4, h16, mO, q_X8_leadsOf hm6 hp, el, q_X8_has, cb]
          refine rx_Cl_imp (c_X8_here hL ht (by omega) v3) (fun r h7 ⟨u1, nb5, u2, u3, u4⟩ => ?_)
          subst u4
          have f7 := Fr_trans f6 u1 (C := [98]) (fun _ z => z) (fun _ z => z)
          have m7 := mrd_nb m6 u2
          have nb5L := u2.2.1
          have u3' := u3
          obtain ⟨hi7, fo7, z7, h17⟩ := u3'
          by_cases c5 : nb5 < L ∧ t nb5 = 59
          · have ec : chr t L nb5 = nI 59 := by unfold chr; rw [if_pos c5.1, c5.2]
            have m8 : mrd t n W0 (nb5 + 1) = .inr (true, 0, t nb1 - 48, kdF (t nb3), nb1, va_up W ((t nb1 - 48) * 5 + kdF (t nb3)) (W ((t nb1 - 48) * 5 + kdF (t nb3)) ||| 2 ^ (t nb4 - 48))) := by
              rw [mrd_succ m7, if_neg (u2.2.2.2 c5.1)]
              unfold mst
              dsimp only
              rw [if_neg (by omega), if_neg (by omega), if_neg (by omega), if_pos c5.2]
            rw [ec]
            have hi7' := hi7
            obtain ⟨-, ⟨g7, a1, a2⟩, -⟩ := hi7'
            have a3 := a2 (41 * p + 1 + 5 * (t nb1 - 48) + kdF (t nb3)) (by omega)
            have e7 : setP v p n W (41 * p + 1 + 5 * (t nb1 - 48) + kdF (t nb3)) = W ((t nb1 - 48) * 5 + kdF (t nb3)) := by
              rw [← el]
              unfold wq
              congr 1
              omega
            rw [e7] at a3
            have k1 : 41 * p + 1 + 5 * (t nb1 - 48) + kdF (t nb3) = 41 * p + 1 + ((t nb1 - 48) * 5 + kdF (t nb3)) := by omega
            simp (disch := first | decide | omega) only [rx_W, rx_wp_succ, rx_nx_stop, rx_nx_go, rx_lx_some, rx_fx_some, rx_ax_some, rx_qx_some, rx_ox_some, rx_vx_ref, rx_ix_ref, rx_ld_0, rx_ld_2, rx_ld_3, rx_cx_some, rx_nl, List.getElem?_cons_zero, List.getElem?_cons_succ, List.set_cons_zero, List.set_cons_succ, List.length_cons, List.length_nil, List.take_succ_cons, List.take_zero, List.drop_succ_cons, List.drop_zero, List.reverse_cons, List.reverse_nil, List.nil_append, List.cons_append, Option.toList_some, Option.toList_none, true_and, and_true, and_self, true_or, or_true, false_and, and_false, false_or, or_false, not_false_eq_true, Nat.reduceAdd, Nat.reduceLT, Nat.reduceLeDiff, Nat.reduceBEq, Nat.reduceEqDiff, Bool.or_false, Bool.false_or, if_true, if_false, Bool.false_eq_true, nq_eq, nq_lt, nq_le, nq_in_t, nq_bd, nq_ft, nq_clamp, nq_shl31, nq_shr31, nq_bitb, nq_add, nq_mul, fa_and, fa_or, nq_b0, nq_b1, nq_b01, ↓ni_lt_t, ↓ni_lt_f, ↓ni_le_t, ↓ni_le_f, ↓ni_eq_t, ↓ni_eq_f, ↓ni_beq_t, ↓ni_beq_f, it_X8_moved, it_X8_moved_1]
            apply rx_wp_sound 60 []
            simp (disch := first | decide | omega) only [rx_W, rx_wp_succ, rx_nx_stop, rx_nx_go, rx_lx_some, rx_fx_some, rx_ax_some, rx_qx_some, rx_ox_some, rx_vx_ref, rx_ix_ref, rx_ld_0, rx_ld_2, rx_ld_3, rx_cx_some, rx_nl, List.getElem?_cons_zero, List.getElem?_cons_succ, List.set_cons_zero, List.set_cons_succ, List.length_cons, List.length_nil, List.take_succ_cons, List.take_zero, List.drop_succ_cons, List.drop_zero, List.reverse_cons, List.reverse_nil, List.nil_append, List.cons_append, Option.toList_some, Option.toList_none, true_and, and_true, and_self, true_or, or_true, false_and, and_false, false_or, or_false, not_false_eq_true, Nat.reduceAdd, Nat.reduceLT, Nat.reduceLeDiff, Nat.reduceBEq, Nat.reduceEqDiff, Bool.or_false, Bool.false_or, if_true, if_false, Bool.false_eq_true, nq_eq, nq_lt, nq_le, nq_in_t, nq_bd, nq_ft, nq_clamp, nq_shl31, nq_shr31, nq_bitb, nq_add, nq_mul, fa_and, fa_or, nq_b0, nq_b1, nq_b01, ↓ni_lt_t, ↓ni_lt_f, ↓ni_le_t, ↓ni_le_f, ↓ni_eq_t, ↓ni_eq_f, ↓ni_beq_t, ↓ni_beq_f, it_X8_moved, it_X8_moved_1, h17, mO, rx_ft, rd_eq, rd_ne, q_X8_at, a1, a3, Nat.one_mul]
            have f8 : ∀ c, Fr h7 (rx_up h7 98 c) [98] := fun c => Fr_up (Fr_rfl _ _) (by simp)
            have f9 : ∀ c d, Fr (rx_up h7 98 c) (rx_up (rx_up h7 98 c) 99 d) [99] := fun c d => Fr_up (Fr_rfl _ _) (by simp)
            have mi8 : mIv (rx_up h7 98 (mO (nI np) (nI L) (nI (nb5 + 1)) fo7 z7)) (setP v p n W) u np L t cs := mIv_98 (f8 _) hi7 (rd_eq _ _ _)
            have tp : tot (va_up W ((t nb1 - 48) * 5 + kdF (t nb3)) (W ((t nb1 - 48) * 5 + kdF (t nb3)) ||| 2 ^ (t nb4 - 48))) = tot W + 1 := tot_put (by omega) (by omega) cb
            have o1 := x2.1
            have o2 := v2.1
            have o3 := u2.1
            have o4 := y2.1
            refine ⟨Fr_trans f7 (Fr_trans (f8 _) (f9 _ _) (C := [98, 99]) (by simp) (by simp)) (by simp) (fun _ z => z), Or.inr ⟨rfl, nb5 + 1, _, _, _, _, by omega, by omega, m8, tp, mIv_v (f9 _ _) mi8 ⟨_, rd_eq _ _ _, ?_⟩, fo7, z7, (rd_ne (by omega)).trans (rd_eq _ _ _)⟩⟩
            rw [k1, ← setP_up2 v p n W (by omega)]
            exact aN_upd a2 _ _
          · have fl : mres t n W0 L = .inl nb5 := mres_flt m7 nb5L (fun c => ⟨u2.2.2.2 c, by unfold mst; dsimp only; rw [if_neg (by omega), if_neg (by omega), if_neg (by omega), if_neg (fun z => c5 ⟨c, z⟩)]⟩) (fun e => ⟨fun z => by
              have z2 : 3 = 0 := z.2
              omega, e⟩)
            have ec : ¬ chr t L nb5 = nI 59 := by
              unfold chr
              by_cases c : nb5 < L
              · rw [if_pos c]
                exact fun z => c5 ⟨c, nI_inj (by have := ht nb5 c; omega) (by omega) z⟩
              · rw [if_neg c]
                exact fun z => nI_ne1 (k := 59) (by omega) z.symm
            simp (disch := first | decide | omega) only [rx_W, rx_wp_succ, rx_nx_stop, rx_nx_go, rx_lx_some, rx_fx_some, rx_ax_some, rx_qx_some, rx_ox_some, rx_vx_ref, rx_ix_ref, rx_ld_0, rx_ld_2, rx_ld_3, rx_cx_some, rx_nl, List.getElem?_cons_zero, List.getElem?_cons_succ, List.set_cons_zero, List.set_cons_succ, List.length_cons, List.length_nil, List.take_succ_cons, List.take_zero, List.drop_succ_cons, List.drop_zero, List.reverse_cons, List.reverse_nil, List.nil_append, List.cons_append, Option.toList_some, Option.toList_none, true_and, and_true, and_self, true_or, or_true, false_and, and_false, false_or, or_false, not_false_eq_true, Nat.reduceAdd, Nat.reduceLT, Nat.reduceLeDiff, Nat.reduceBEq, Nat.reduceEqDiff, Bool.or_false, Bool.false_or, if_true, if_false, Bool.false_eq_true, nq_eq, nq_lt, nq_le, nq_in_t, nq_bd, nq_ft, nq_clamp, nq_shl31, nq_shr31, nq_bitb, nq_add, nq_mul, fa_and, fa_or, nq_b0, nq_b1, nq_b01, ↓ni_lt_t, ↓ni_lt_f, ↓ni_le_t, ↓ni_le_f, ↓ni_eq_t, ↓ni_eq_f, ↓ni_beq_t, ↓ni_beq_f, it_X8_moved, it_X8_moved_1, ec]
            exact mvP_0 f7 nb5L fl u3
      · subst e4
        have fl : mres t n W0 L = .inl nb4 := mres_flt m5 nb4L (fun c => ⟨v2.2.2.2 c, by unfold mst; dsimp only; rw [if_neg (by omega), if_neg (by omega), if_pos rfl, if_neg (fun z => fg4 ⟨c, z⟩)]⟩) (fun e => ⟨fun z => by
          have z2 : 2 = 0 := z.2
          omega, e⟩)
        simp (disch := first | decide | omega) only [rx_W, rx_wp_succ, rx_nx_stop, rx_nx_go, rx_lx_some, rx_fx_some, rx_ax_some, rx_qx_some, rx_ox_some, rx_vx_ref, rx_ix_ref, rx_ld_0, rx_ld_2, rx_ld_3, rx_cx_some, rx_nl, List.getElem?_cons_zero, List.getElem?_cons_succ, List.set_cons_zero, List.set_cons_succ, List.length_cons, List.length_nil, List.take_succ_cons, List.take_zero, List.drop_succ_cons, List.drop_zero, List.reverse_cons, List.reverse_nil, List.nil_append, List.cons_append, Option.toList_some, Option.toList_none, true_and, and_true, and_self, true_or, or_true, false_and, and_false, false_or, or_false, not_false_eq_true, Nat.reduceAdd, Nat.reduceLT, Nat.reduceLeDiff, Nat.reduceBEq, Nat.reduceEqDiff, Bool.or_false, Bool.false_or, if_true, if_false, Bool.false_eq_true, nq_eq, nq_lt, nq_le, nq_in_t, nq_bd, nq_ft, nq_clamp, nq_shl31, nq_shr31, nq_bitb, nq_add, nq_mul, fa_and, fa_or, nq_b0, nq_b1, nq_b01, ↓ni_lt_t, ↓ni_lt_f, ↓ni_le_t, ↓ni_le_f, ↓ni_eq_t, ↓ni_eq_f, ↓ni_beq_t, ↓ni_beq_f, it_X8_moved, it_X8_moved_1]
        apply rx_wp_sound 60 []
        simp (disch := first | decide | omega) only [rx_W, rx_wp_succ, rx_nx_stop, rx_nx_go, rx_lx_some, rx_fx_some, rx_ax_some, rx_qx_some, rx_ox_some, rx_vx_ref, rx_ix_ref, rx_ld_0, rx_ld_2, rx_ld_3, rx_cx_some, rx_nl, List.getElem?_cons_zero, List.getElem?_cons_succ, List.set_cons_zero, List.set_cons_succ, List.length_cons, List.length_nil, List.take_succ_cons, List.take_zero, List.drop_succ_cons, List.drop_zero, List.reverse_cons, List.reverse_nil, List.nil_append, List.cons_append, Option.toList_some, Option.toList_none, true_and, and_true, and_self, true_or, or_true, false_and, and_false, false_or, or_false, not_false_eq_true, Nat.reduceAdd, Nat.reduceLT, Nat.reduceLeDiff, Nat.reduceBEq, Nat.reduceEqDiff, Bool.or_false, Bool.false_or, if_true, if_false, Bool.false_eq_true, nq_eq, nq_lt, nq_le, nq_in_t, nq_bd, nq_ft, nq_clamp, nq_shl31, nq_shr31, nq_bitb, nq_add, nq_mul, fa_and, fa_or, nq_b0, nq_b1, nq_b01, ↓ni_lt_t, ↓ni_lt_f, ↓ni_le_t, ↓ni_le_f, ↓ni_eq_t, ↓ni_eq_f, ↓ni_beq_t, ↓ni_beq_f, it_X8_moved, it_X8_moved_1]
        exact mvP_0 f6 nb4L fl v3
    by_cases c3 : nb3 < L
    · have ec : chr t L nb3 = nI (t nb3) := by unfold chr; rw [if_pos c3]
      rw [ec]
      have tl3 := ht nb3 c3
      by_cases ck : t nb3 = 105
      · have kb : kdB (t nb3) = true := by unfold kdB; rw [decide_eq_true ck]; rfl
        have kf : kdF (t nb3) = 4 := by unfold kdF; rw [if_pos ck]
        have key := kind ⟨c3, kb⟩
        rw [kf] at key
        apply rx_wp_sound 60 [78]
        rw [ck] at key ⊢
        simp (disch := first | decide | omega) only [rx_W, rx_wp_succ, rx_nx_stop, rx_nx_go, rx_lx_some, rx_fx_some, rx_ax_some, rx_qx_some, rx_ox_some, rx_vx_ref, rx_ix_ref, rx_ld_0, rx_ld_2, rx_ld_3, rx_cx_some, rx_nl, List.getElem?_cons_zero, List.getElem?_cons_succ, List.set_cons_zero, List.set_cons_succ, List.length_cons, List.length_nil, List.take_succ_cons, List.take_zero, List.drop_succ_cons, List.drop_zero, List.reverse_cons, List.reverse_nil, List.nil_append, List.cons_append, Option.toList_some, Option.toList_none, true_and, and_true, and_self, true_or, or_true, false_and, and_false, false_or, or_false, not_false_eq_true, Nat.reduceAdd, Nat.reduceLT, Nat.reduceLeDiff, Nat.reduceBEq, Nat.reduceEqDiff, Bool.or_false, Bool.false_or, if_true, if_false, Bool.false_eq_true, nq_eq, nq_lt, nq_le, nq_in_t, nq_bd, nq_ft, nq_clamp, nq_shl31, nq_shr31, nq_bitb, nq_add, nq_mul, fa_and, fa_or, nq_b0, nq_b1, nq_b01, ↓ni_lt_t, ↓ni_lt_f, ↓ni_le_t, ↓ni_le_f, ↓ni_eq_t, ↓ni_eq_f, ↓ni_beq_t, ↓ni_beq_f, it_X8_moved, it_X8_moved_1]
        exact key
      · have s97 := sb97 (t nb3) tl3
        by_cases d : 97 ≤ t nb3 ∧ t nb3 < 101
        · have kb : kdB (t nb3) = true := by unfold kdB; rw [decide_eq_true d, Bool.or_true]
          have kf : kdF (t nb3) = t nb3 - 97 := by unfold kdF; rw [if_neg ck]
          have su : nI (t nb3) - nI 97 = nI (t nb3 - 97) := nq_sub d.1
          rw [decide_eq_true d, su] at s97
          have key := kind ⟨c3, kb⟩
          rw [kf] at key
          apply rx_wp_sound 60 [78]
          simp (disch := first | decide | omega) only [rx_W, rx_wp_succ, rx_nx_stop, rx_nx_go, rx_lx_some, rx_fx_some, rx_ax_some, rx_qx_some, rx_ox_some, rx_vx_ref, rx_ix_ref, rx_ld_0, rx_ld_2, rx_ld_3, rx_cx_some, rx_nl, List.getElem?_cons_zero, List.getElem?_cons_succ, List.set_cons_zero, List.set_cons_succ, List.length_cons, List.length_nil, List.take_succ_cons, List.take_zero, List.drop_succ_cons, List.drop_zero, List.reverse_cons, List.reverse_nil, List.nil_append, List.cons_append, Option.toList_some, Option.toList_none, true_and, and_true, and_self, true_or, or_true, false_and, and_false, false_or, or_false, not_false_eq_true, Nat.reduceAdd, Nat.reduceLT, Nat.reduceLeDiff, Nat.reduceBEq, Nat.reduceEqDiff, Bool.or_false, Bool.false_or, if_true, if_false, Bool.false_eq_true, nq_eq, nq_lt, nq_le, nq_in_t, nq_bd, nq_ft, nq_clamp, nq_shl31, nq_shr31, nq_bitb, nq_add, nq_mul, fa_and, fa_or, nq_b0, nq_b1, nq_b01, ↓ni_lt_t, ↓ni_lt_f, ↓ni_le_t, ↓ni_le_f, ↓ni_eq_t, ↓ni_eq_f, ↓ni_beq_t, ↓ni_beq_f, it_X8_moved, it_X8_moved_1, ck, su, q_X8_within, s97]
          exact key
        · have kb : kdB (t nb3) = false := by unfold kdB; rw [decide_eq_false d, decide_eq_false ck]; rfl
          rw [decide_eq_false d] at s97
          apply rx_wp_sound 60 [78]
          simp (disch := first | decide | omega) only [rx_W, rx_wp_succ, rx_nx_stop, rx_nx_go, rx_lx_some, rx_fx_some, rx_ax_some, rx_qx_some, rx_ox_some, rx_vx_ref, rx_ix_ref, rx_ld_0, rx_ld_2, rx_ld_3, rx_cx_some, rx_nl, List.getElem?_cons_zero, List.getElem?_cons_succ, List.set_cons_zero, List.set_cons_succ, List.length_cons, List.length_nil, List.take_succ_cons, List.take_zero, List.drop_succ_cons, List.drop_zero, List.reverse_cons, List.reverse_nil, List.nil_append, List.cons_append, Option.toList_some, Option.toList_none, true_and, and_true, and_self, true_or, or_true, false_and, and_false, false_or, or_false, not_false_eq_true, Nat.reduceAdd, Nat.reduceLT, Nat.reduceLeDiff, Nat.reduceBEq, Nat.reduceEqDiff, Bool.or_false, Bool.false_or, if_true, if_false, Bool.false_eq_true, nq_eq, nq_lt, nq_le, nq_in_t, nq_bd, nq_ft, nq_clamp, nq_shl31, nq_shr31, nq_bitb, nq_add, nq_mul, fa_and, fa_or, nq_b0, nq_b1, nq_b01, ↓ni_lt_t, ↓ni_lt_f, ↓ni_le_t, ↓ni_le_f, ↓ni_eq_t, ↓ni_eq_f, ↓ni_beq_t, ↓ni_beq_f, it_X8_moved, it_X8_moved_1, ck, q_X8_within, s97]
          exact mvP_0 f4 nb3L (flt3 (fun _ => kb)) x3
    · have ec : chr t L nb3 = -1 := by unfold chr; rw [if_neg c3]
      rw [ec]
      have c105 : ¬ (-1 : Int32) = nI 105 := fun z => nI_ne1 (k := 105) (by omega) z.symm
      apply rx_wp_sound 60 [56, 59, 78]
      simp (disch := first | decide | omega) only [rx_W, rx_wp_succ, rx_nx_stop, rx_nx_go, rx_lx_some, rx_fx_some, rx_ax_some, rx_qx_some, rx_ox_some, rx_vx_ref, rx_ix_ref, rx_ld_0, rx_ld_2, rx_ld_3, rx_cx_some, rx_nl, List.getElem?_cons_zero, List.getElem?_cons_succ, List.set_cons_zero, List.set_cons_succ, List.length_cons, List.length_nil, List.take_succ_cons, List.take_zero, List.drop_succ_cons, List.drop_zero, List.reverse_cons, List.reverse_nil, List.nil_append, List.cons_append, Option.toList_some, Option.toList_none, true_and, and_true, and_self, true_or, or_true, false_and, and_false, false_or, or_false, not_false_eq_true, Nat.reduceAdd, Nat.reduceLT, Nat.reduceLeDiff, Nat.reduceBEq, Nat.reduceEqDiff, Bool.or_false, Bool.false_or, if_true, if_false, Bool.false_eq_true, it_X8_moved, it_X8_moved_1, c105]
      apply rx_wp_sound 60 [59, 78]
      simp (disch := first | decide | omega) only [rx_W, rx_wp_succ, rx_nx_stop, rx_nx_go, rx_lx_some, rx_fx_some, rx_ax_some, rx_qx_some, rx_ox_some, rx_vx_ref, rx_ix_ref, rx_ld_0, rx_ld_2, rx_ld_3, rx_cx_some, rx_nl, List.getElem?_cons_zero, List.getElem?_cons_succ, List.set_cons_zero, List.set_cons_succ, List.length_cons, List.length_nil, List.take_succ_cons, List.take_zero, List.drop_succ_cons, List.drop_zero, List.reverse_cons, List.reverse_nil, List.nil_append, List.cons_append, Option.toList_some, Option.toList_none, true_and, and_true, and_self, true_or, or_true, false_and, and_false, false_or, or_false, not_false_eq_true, Nat.reduceAdd, Nat.reduceLT, Nat.reduceLeDiff, Nat.reduceBEq, Nat.reduceEqDiff, Bool.or_false, Bool.false_or, if_true, if_false, Bool.false_eq_true, it_X8_moved, it_X8_moved_1]
      have s97 := sbm97
      generalize (-1 : Int32) - nI 97 = y at *
      apply rx_wp_sound 60 [78]
      simp (disch := first | decide | omega) only [rx_W, rx_wp_succ, rx_nx_stop, rx_nx_go, rx_lx_some, rx_fx_some, rx_ax_some, rx_qx_some, rx_ox_some, rx_vx_ref, rx_ix_ref, rx_ld_0, rx_ld_2, rx_ld_3, rx_cx_some, rx_nl, List.getElem?_cons_zero, List.getElem?_cons_succ, List.set_cons_zero, List.set_cons_succ, List.length_cons, List.length_nil, List.take_succ_cons, List.take_zero, List.drop_succ_cons, List.drop_zero, List.reverse_cons, List.reverse_nil, List.nil_append, List.cons_append, Option.toList_some, Option.toList_none, true_and, and_true, and_self, true_or, or_true, false_and, and_false, false_or, or_false, not_false_eq_true, Nat.reduceAdd, Nat.reduceLT, Nat.reduceLeDiff, Nat.reduceBEq, Nat.reduceEqDiff, Bool.or_false, Bool.false_or, if_true, if_false, Bool.false_eq_true, nq_eq, nq_lt, nq_le, nq_in_t, nq_bd, nq_ft, nq_clamp, nq_shl31, nq_shr31, nq_bitb, nq_add, nq_mul, fa_and, fa_or, nq_b0, nq_b1, nq_b01, ↓ni_lt_t, ↓ni_lt_f, ↓ni_le_t, ↓ni_le_f, ↓ni_eq_t, ↓ni_eq_f, ↓ni_beq_t, ↓ni_beq_f, it_X8_moved, it_X8_moved_1, c105, q_X8_within, s97]
      exact mvP_0 f4 nb3L (flt3 (fun z => absurd z c3)) x3
  · subst e3
    simp (disch := first | decide | omega) only [rx_W, rx_wp_succ, rx_nx_stop, rx_nx_go, rx_lx_some, rx_fx_some, rx_ax_some, rx_qx_some, rx_ox_some, rx_vx_ref, rx_ix_ref, rx_ld_0, rx_ld_2, rx_ld_3, rx_cx_some, rx_nl, List.getElem?_cons_zero, List.getElem?_cons_succ, List.set_cons_zero, List.set_cons_succ, List.length_cons, List.length_nil, List.take_succ_cons, List.take_zero, List.drop_succ_cons, List.drop_zero, List.reverse_cons, List.reverse_nil, List.nil_append, List.cons_append, Option.toList_some, Option.toList_none, true_and, and_true, and_self, true_or, or_true, false_and, and_false, false_or, or_false, not_false_eq_true, Nat.reduceAdd, Nat.reduceLT, Nat.reduceLeDiff, Nat.reduceBEq, Nat.reduceEqDiff, Bool.or_false, Bool.false_or, if_true, if_false, Bool.false_eq_true, nq_eq, nq_lt, nq_le, nq_in_t, nq_bd, nq_ft, nq_clamp, nq_shl31, nq_shr31, nq_bitb, nq_add, nq_mul, fa_and, fa_or, nq_b0, nq_b1, nq_b01, ↓ni_lt_t, ↓ni_lt_f, ↓ni_le_t, ↓ni_le_f, ↓ni_eq_t, ↓ni_eq_f, ↓ni_beq_t, ↓ni_beq_f, it_X8_moved, it_X8_moved_1]
    apply rx_wp_sound 60 []
    simp (disch := first | decide | omega) only [rx_W, rx_wp_succ, rx_nx_stop, rx_nx_go, rx_lx_some, rx_fx_some, rx_ax_some, rx_qx_some, rx_ox_some, rx_vx_ref, rx_ix_ref, rx_ld_0, rx_ld_2, rx_ld_3, rx_cx_some, rx_nl, List.getElem?_cons_zero, List.getElem?_cons_succ, List.set_cons_zero, List.set_cons_succ, List.length_cons, List.length_nil, List.take_succ_cons, List.take_zero, List.drop_succ_cons, List.drop_zero, List.reverse_cons, List.reverse_nil, List.nil_append, List.cons_append, Option.toList_some, Option.toList_none, true_and, and_true, and_self, true_or, or_true, false_and, and_false, false_or, or_false, not_false_eq_true, Nat.reduceAdd, Nat.reduceLT, Nat.reduceLeDiff, Nat.reduceBEq, Nat.reduceEqDiff, Bool.or_false, Bool.false_or, if_true, if_false, Bool.false_eq_true, nq_eq, nq_lt, nq_le, nq_in_t, nq_bd, nq_ft, nq_clamp, nq_shl31, nq_shr31, nq_bitb, nq_add, nq_mul, fa_and, fa_or, nq_b0, nq_b1, nq_b01, ↓ni_lt_t, ↓ni_lt_f, ↓ni_le_t, ↓ni_le_f, ↓ni_eq_t, ↓ni_eq_f, ↓ni_beq_t, ↓ni_beq_f, it_X8_moved, it_X8_moved_1]
    exact mvP_0 f3 nbL (flt1 (fun c => by unfold mst; dsimp only; rw [if_pos rfl, if_neg (fun z => fg ⟨c, z.1⟩)])) w3
end MV
