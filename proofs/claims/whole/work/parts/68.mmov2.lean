section MW
variable {h0 : rx_H} {pa le pl fo : Int32} {z : Int64} {a b : Nat → Nat}
theorem l_X8_ca (h1 : rx_rd h0 98 = some (mO pa le pl fo z)) (Q : Option Value → rx_H → Prop) (hq : ∀ h, Fr h0 h [99, 100] → aN h 99 164 b → aN h 100 164 a → Q none h) :
    ∀ j i h x y w, i + j = 164 → Fr h0 h [99, 100] → aN h 99 164 x → aN h 100 164 y → (∀ k, x k = if k < i then b k else a k) → (∀ k, y k = if k < i then a k else b k) → rx_R 150 2 [.ref 98, .int (nI i), w] [] h Q
  | 0, i, h, x, y, w, e, hf, hx, hy, ex, ey => by
    have e' : i = 164 := by omega
    subst e'
    apply rx_wp_sound 60 [2]
    simp (disch := first | decide | omega) only [rx_W, rx_wp_succ, rx_nx_stop, rx_nx_go, rx_lx_some, rx_fx_some, rx_ax_some, rx_qx_some, rx_ox_some, rx_vx_ref, rx_ix_ref, rx_ld_0, rx_ld_2, rx_ld_3, rx_cx_some, rx_nl, List.getElem?_cons_zero, List.getElem?_cons_succ, List.set_cons_zero, List.set_cons_succ, List.length_cons, List.length_nil, List.take_succ_cons, List.take_zero, List.drop_succ_cons, List.drop_zero, List.reverse_cons, List.reverse_nil, List.nil_append, List.cons_append, Option.toList_some, Option.toList_none, true_and, and_true, and_self, true_or, or_true, false_and, and_false, false_or, or_false, not_false_eq_true, Nat.reduceAdd, Nat.reduceLT, Nat.reduceLeDiff, Nat.reduceBEq, Nat.reduceEqDiff, Bool.or_false, Bool.false_or, if_true, if_false, Bool.false_eq_true, nq_eq, nq_lt, nq_le, nq_in_t, nq_bd, nq_ft, nq_clamp, nq_shl31, nq_shr31, nq_bitb, nq_add, nq_mul, fa_and, fa_or, nq_b0, nq_b1, nq_b01, ↓ni_lt_t, ↓ni_lt_f, ↓ni_le_t, ↓ni_le_f, ↓ni_eq_t, ↓ni_eq_f, ↓ni_beq_t, ↓ni_beq_f, it_X8_changesAside]
    exact hq h hf (aN_cong hx (fun k hk => by rw [ex k, if_pos hk])) (aN_cong hy (fun k hk => by rw [ey k, if_pos hk]))
  | j + 1, i, h, x, y, w, e, hf, hx, hy, ex, ey => by
    have h1' := rd_fr hf (by simp) h1
    obtain ⟨f, a1, a2⟩ := hx
    obtain ⟨g, b1, b2⟩ := hy
    have a3 := a2 i (by omega)
    have b3 := b2 i (by omega)
    rw [ex i, if_neg (by omega)] at a3
    rw [ey i, if_neg (by omega)] at b3
    apply rx_wp_sound 60 [2]
    simp (disch := first | decide | omega) only [rx_W, rx_wp_succ, rx_nx_stop, rx_nx_go, rx_lx_some, rx_fx_some, rx_ax_some, rx_qx_some, rx_ox_some, rx_vx_ref, rx_ix_ref, rx_ld_0, rx_ld_2, rx_ld_3, rx_cx_some, rx_nl, List.getElem?_cons_zero, List.getElem?_cons_succ, List.set_cons_zero, List.set_cons_succ, List.length_cons, List.length_nil, List.take_succ_cons, List.take_zero, List.drop_succ_cons, List.drop_zero, List.reverse_cons, List.reverse_nil, List.nil_append, List.cons_append, Option.toList_some, Option.toList_none, true_and, and_true, and_self, true_or, or_true, false_and, and_false, false_or, or_false, not_false_eq_true, Nat.reduceAdd, Nat.reduceLT, Nat.reduceLeDiff, Nat.reduceBEq, Nat.reduceEqDiff, Bool.or_false, Bool.false_or, if_true, if_false, Bool.false_eq_true, nq_eq, nq_lt, nq_le, nq_in_t, nq_bd, nq_ft, nq_clamp, nq_shl31, nq_shr31, nq_bitb, nq_add, nq_mul, fa_and, fa_or, nq_b0, nq_b1, nq_b01, ↓ni_lt_t, ↓ni_lt_f, ↓ni_le_t, ↓ni_le_f, ↓ni_eq_t, ↓ni_eq_f, ↓ni_beq_t, ↓ni_beq_f, it_X8_changesAside, h1', mO, a1, a3, b1, b3, rd_eq, rd_ne]
    refine l_X8_ca h1 Q hq j (i + 1) _ (va_up x i (b i)) (va_up y i (a i)) _ (by omega) (Fr_up (Fr_up hf (by simp)) (by simp)) ⟨_, (rd_ne (by omega)).trans (rd_eq _ _ _), aN_upd a2 _ _⟩ ⟨_, rd_eq _ _ _, aN_upd b2 _ _⟩ (fun k => ?_) (fun k => ?_)
    · by_cases c : k = i
      · rw [c, vu_eq, if_pos (by omega)]
      · rw [vu_ne c, ex k]
        by_cases d : k < i
        · rw [if_pos d, if_pos (by omega)]
        · rw [if_neg d, if_neg (by omega)]
    · by_cases c : k = i
      · rw [c, vu_eq, if_pos (by omega)]
      · rw [vu_ne c, ey k]
        by_cases d : k < i
        · rw [if_pos d, if_pos (by omega)]
        · rw [if_neg d, if_neg (by omega)]
theorem c_X8_changesAside {h : rx_H} (h1 : rx_rd h 98 = some (mO pa le pl fo z)) (ha : aN h 99 164 a) (hb : aN h 100 164 b) : rx_Cl 150 [.ref 98] h (fun r h' => r = none ∧ Fr h h' [99, 100] ∧ aN h' 99 164 b ∧ aN h' 100 164 a) := by
  apply en_X8_changesAside _ 60 [2]
  simp (disch := first | decide | omega) only [rx_W, rx_wp_succ, rx_nx_stop, rx_nx_go, rx_lx_some, rx_fx_some, rx_ax_some, rx_qx_some, rx_ox_some, rx_vx_ref, rx_ix_ref, rx_ld_0, rx_ld_2, rx_ld_3, rx_cx_some, rx_nl, List.getElem?_cons_zero, List.getElem?_cons_succ, List.set_cons_zero, List.set_cons_succ, List.length_cons, List.length_nil, List.take_succ_cons, List.take_zero, List.drop_succ_cons, List.drop_zero, List.reverse_cons, List.reverse_nil, List.nil_append, List.cons_append, Option.toList_some, Option.toList_none, true_and, and_true, and_self, true_or, or_true, false_and, and_false, false_or, or_false, not_false_eq_true, Nat.reduceAdd, Nat.reduceLT, Nat.reduceLeDiff, Nat.reduceBEq, Nat.reduceEqDiff, Bool.or_false, Bool.false_or, if_true, if_false, Bool.false_eq_true, nq_eq, nq_lt, nq_le, nq_in_t, nq_bd, nq_ft, nq_clamp, nq_shl31, nq_shr31, nq_bitb, nq_add, nq_mul, fa_and, fa_or, nq_b0, nq_b1, nq_b01, ↓ni_lt_t, ↓ni_lt_f, ↓ni_le_t, ↓ni_le_f, ↓ni_eq_t, ↓ni_eq_f, ↓ni_beq_t, ↓ni_beq_f, it_X8_changesAside]
  exact l_X8_ca h1 _ (fun h' y1 y2 y3 => ⟨rfl, y1, y2, y3⟩) 164 0 h a b _ (by omega) (Fr_rfl _ _) ha hb (fun k => by rw [if_neg (by omega)]) (fun k => by rw [if_neg (by omega)])
theorem l_X8_mc {p : Nat} (h1 : rx_rd h0 98 = some (mO pa le pl fo z)) (ha : aN h0 99 164 a) {x3 x4 : Value} (Q : Option Value → rx_H → Prop) (hq : ∀ h, Fr h0 h [100] → aN h 100 164 a → rx_R 151 41 [.ref 98, .int (nI p), .int (nI 164), x3, x4] [] h Q) :
    ∀ j i h y, i + j = 164 → Fr h0 h [100] → aN h 100 164 y → (∀ k, k < i → y k = a k) → rx_R 151 16 [.ref 98, .int (nI p), .int (nI i), x3, x4] [] h Q
  | 0, i, h, y, e, hf, hy, ey => by
    have e' : i = 164 := by omega
    subst e'
    apply rx_wp_sound 60 [16, 41]
    simp (disch := first | decide | omega) only [rx_W, rx_wp_succ, rx_nx_stop, rx_nx_go, rx_lx_some, rx_fx_some, rx_ax_some, rx_qx_some, rx_ox_some, rx_vx_ref, rx_ix_ref, rx_ld_0, rx_ld_2, rx_ld_3, rx_cx_some, rx_nl, List.getElem?_cons_zero, List.getElem?_cons_succ, List.set_cons_zero, List.set_cons_succ, List.length_cons, List.length_nil, List.take_succ_cons, List.take_zero, List.drop_succ_cons, List.drop_zero, List.reverse_cons, List.reverse_nil, List.nil_append, List.cons_append, Option.toList_some, Option.toList_none, true_and, and_true, and_self, true_or, or_true, false_and, and_false, false_or, or_false, not_false_eq_true, Nat.reduceAdd, Nat.reduceLT, Nat.reduceLeDiff, Nat.reduceBEq, Nat.reduceEqDiff, Bool.or_false, Bool.false_or, if_true, if_false, Bool.false_eq_true, nq_eq, nq_lt, nq_le, nq_in_t, nq_bd, nq_ft, nq_clamp, nq_shl31, nq_shr31, nq_bitb, nq_add, nq_mul, fa_and, fa_or, nq_b0, nq_b1, nq_b01, ↓ni_lt_t, ↓ni_lt_f, ↓ni_le_t, ↓ni_le_f, ↓ni_eq_t, ↓ni_eq_f, ↓ni_beq_t, ↓ni_beq_f, it_X8_moves, it_X8_moves_1]
    exact hq h hf (aN_cong hy ey)
  | j + 1, i, h, y, e, hf, hy, ey => by
    have h1' := rd_fr hf (by simp) h1
    obtain ⟨f, a1, a2⟩ := aN_fr hf (by simp) ha
    obtain ⟨g, b1, b2⟩ := hy
    apply rx_wp_sound 60 [16, 41]
    simp (disch := first | decide | omega) only [rx_W, rx_wp_succ, rx_nx_stop, rx_nx_go, rx_lx_some, rx_fx_some, rx_ax_some, rx_qx_some, rx_ox_some, rx_vx_ref, rx_ix_ref, rx_ld_0, rx_ld_2, rx_ld_3, rx_cx_some, rx_nl, List.getElem?_cons_zero, List.getElem?_cons_succ, List.set_cons_zero, List.set_cons_succ, List.length_cons, List.length_nil, List.take_succ_cons, List.take_zero, List.drop_succ_cons, List.drop_zero, List.reverse_cons, List.reverse_nil, List.nil_append, List.cons_append, Option.toList_some, Option.toList_none, true_and, and_true, and_self, true_or, or_true, false_and, and_false, false_or, or_false, not_false_eq_true, Nat.reduceAdd, Nat.reduceLT, Nat.reduceLeDiff, Nat.reduceBEq, Nat.reduceEqDiff, Bool.or_false, Bool.false_or, if_true, if_false, Bool.false_eq_true, nq_eq, nq_lt, nq_le, nq_in_t, nq_bd, nq_ft, nq_clamp, nq_shl31, nq_shr31, nq_bitb, nq_add, nq_mul, fa_and, fa_or, nq_b0, nq_b1, nq_b01, ↓ni_lt_t, ↓ni_lt_f, ↓ni_le_t, ↓ni_le_f, ↓ni_eq_t, ↓ni_eq_f, ↓ni_beq_t, ↓ni_beq_f, it_X8_moves, it_X8_moves_1, h1', mO, a1, a2, b1]
    refine l_X8_mc h1 ha Q hq j (i + 1) _ (va_up y i (a i)) (by omega) (Fr_up hf (by simp)) ⟨_, rd_eq _ _ _, aN_upd b2 _ _⟩ (fun k hk => ?_)
    by_cases c : k = i
    · rw [c, vu_eq]
    · rw [vu_ne c]; exact ey k (by omega)
end MW
section MP
variable {h : rx_H} {v : Nat → Nat} {u : Nat → Nat → Nat} {np L : Nat} {t : Nat → Nat} {cs : Nat → Int32}
theorem mIv_sw {h' : rx_H} {v' a : Nat → Nat} {A : List Nat} (hf : Fr h h' A) (hA : ∀ i ∈ A, i = 99 ∨ i = 100) (hi : mIv h v u np L t cs) (ha : aN h' 99 164 v') (hb : aN h' 100 164 a) : mIv h' v' u np L t cs := by
  obtain ⟨⟨pl, fo, z, h1⟩, h2, ⟨a3, h3⟩, ⟨U, h4, h4'⟩, ⟨f, h5, h5'⟩, ⟨g, h6, h6'⟩, ⟨a7, h7⟩, ⟨a8, h8⟩, ⟨a9, h9⟩, ⟨f1, k1⟩, ⟨f2, k2⟩, f3, k3⟩ := hi
  have no : ∀ i, (i < 99 ∨ 100 < i) → i ∉ A := fun i hi z => by have := hA i z; omega
  exact ⟨⟨pl, fo, z, rd_fr hf (no _ (by omega)) h1⟩, ha, ⟨a, hb⟩, ⟨U, aN_fr hf (no _ (by omega)) h4, h4'⟩, ⟨f, rd_fr hf (no _ (by omega)) h5, h5'⟩, ⟨g, rd_fr hf (no _ (by omega)) h6, h6'⟩, ⟨a7, aN_fr hf (no _ (by omega)) h7⟩, ⟨a8, aN_fr hf (no _ (by omega)) h8⟩, ⟨a9, aN_fr hf (no _ (by omega)) h9⟩, ⟨f1, rd_fr hf (no _ (by omega)) k1⟩, ⟨f2, rd_fr hf (no _ (by omega)) k2⟩, f3, rd_fr hf (no _ (by omega)) k3⟩
theorem m_moves_bad (hi : mIv h v u np L t cs) {p : Int32} (hb : inR p 4 = false) : rx_Cl 151 [.ref 98, .int p] h (mP h (v, u, np, L, t, rfs 0 cs) (.int (rcode 0))) := by
  obtain ⟨pl, fo, z, h1⟩ := hi.1
  apply en_X8_moves _ _ 60 [16]
  simp (disch := first | decide | omega) only [rx_W, rx_wp_succ, rx_nx_stop, rx_nx_go, rx_lx_some, rx_fx_some, rx_ax_some, rx_qx_some, rx_ox_some, rx_vx_ref, rx_ix_ref, rx_ld_0, rx_ld_2, rx_ld_3, rx_cx_some, rx_nl, List.getElem?_cons_zero, List.getElem?_cons_succ, List.set_cons_zero, List.set_cons_succ, List.length_cons, List.length_nil, List.take_succ_cons, List.take_zero, List.drop_succ_cons, List.drop_zero, List.reverse_cons, List.reverse_nil, List.nil_append, List.cons_append, Option.toList_some, Option.toList_none, true_and, and_true, and_self, true_or, or_true, false_and, and_false, false_or, or_false, not_false_eq_true, Nat.reduceAdd, Nat.reduceLT, Nat.reduceLeDiff, Nat.reduceBEq, Nat.reduceEqDiff, Bool.or_false, Bool.false_or, if_true, if_false, Bool.false_eq_true, nq_eq, nq_lt, nq_le, nq_in_t, nq_bd, nq_ft, nq_clamp, nq_shl31, nq_shr31, nq_bitb, nq_add, nq_mul, fa_and, fa_or, nq_b0, nq_b1, nq_b01, ↓ni_lt_t, ↓ni_lt_f, ↓ni_le_t, ↓ni_le_f, ↓ni_eq_t, ↓ni_eq_f, ↓ni_beq_t, ↓ni_beq_f, it_X8_moves, it_X8_moves_1, q_X8_isProcess, hb, h1, mO]
  refine m_cnt hi (c := 0) (by omega) rfl (fun h' y1 y2 => ?_)
  simp (disch := first | decide | omega) only [rx_W, rx_wp_succ, rx_nx_stop, rx_nx_go, rx_lx_some, rx_fx_some, rx_ax_some, rx_qx_some, rx_ox_some, rx_vx_ref, rx_ix_ref, rx_ld_0, rx_ld_2, rx_ld_3, rx_cx_some, rx_nl, List.getElem?_cons_zero, List.getElem?_cons_succ, List.set_cons_zero, List.set_cons_succ, List.length_cons, List.length_nil, List.take_succ_cons, List.take_zero, List.drop_succ_cons, List.drop_zero, List.reverse_cons, List.reverse_nil, List.nil_append, List.cons_append, Option.toList_some, Option.toList_none, true_and, and_true, and_self, true_or, or_true, false_and, and_false, false_or, or_false, not_false_eq_true, Nat.reduceAdd, Nat.reduceLT, Nat.reduceLeDiff, Nat.reduceBEq, Nat.reduceEqDiff, Bool.or_false, Bool.false_or, if_true, if_false, Bool.false_eq_true, it_X8_moves, it_X8_moves_1]
  exact ⟨rfl, y1, y2⟩
/-- how the reading ended -/
def mvE (h0 h : rx_H) (v : Nat → Nat) (u : Nat → Nat → Nat) (np L : Nat) (t : Nat → Nat) (cs : Nat → Int32) (p n : Nat) (W0 : Nat → Nat) (k : Nat) (wh : Bool) : Prop := Fr h0 h [98, 99] ∧ ((wh = true ∧ ∃ W', mres t n W0 L = .inr W' ∧ k + tot W0 = tot W' ∧ mIv h (setP v p n W') u np L t cs) ∨ (wh = false ∧ ∃ g W', g ≤ L ∧ mres t n W0 L = .inl g ∧ mIx h (setP v p n W') u np L t cs g))
theorem l_X8_mv {h0 : rx_H} {p n : Nat} {W0 : Nat → Nat} (hv : wfV v) (hL : L ≤ 100) (ht : ∀ i, i < L → t i < 128) (hp : p < 4) (hW0 : wfP n W0) (Q : Option Value → rx_H → Prop)
    (hq : ∀ h k (wh : Bool) x, mvE h0 h v u np L t cs p n W0 k wh → k ≤ 24 → rx_R 151 101 [.ref 98, .int (nI p), .int (nI k), .int (nI wh.toNat), x] [] h Q) :
    ∀ j i h k W' fr b fb, L ≤ i + j → i ≤ L → Fr h0 h [98, 99] → mrd t n W0 i = .inr (true, 0, fr, b, fb, W') → k + 1 + tot W0 = tot W' → mIx h (setP v p n W') u np L t cs i → rx_R 151 57 [.ref 98, .int (nI p), .int (nI k), .int (nI 0), .int (nI 1)] [] h Q := by
  intro j
  induction j with
  | zero =>
    intro i h k W' fr b fb e hiL hf hm hk hx
    have e' : i = L := by omega
    subst e'
    have tl := (msI_mrd hW0 i _ hm).2.2.2.1.2.2.2.2
    dsimp only at tl
    have hx' := hx
    obtain ⟨-, fo, z, h1⟩ := hx'
    apply rx_wp_sound 60 [57, 101]
    simp (disch := first | decide | omega) only [rx_W, rx_wp_succ, rx_nx_stop, rx_nx_go, rx_lx_some, rx_fx_some, rx_ax_some, rx_qx_some, rx_ox_some, rx_vx_ref, rx_ix_ref, rx_ld_0, rx_ld_2, rx_ld_3, rx_cx_some, rx_nl, List.getElem?_cons_zero, List.getElem?_cons_succ, List.set_cons_zero, List.set_cons_succ, List.length_cons, List.length_nil, List.take_succ_cons, List.take_zero, List.drop_succ_cons, List.drop_zero, List.reverse_cons, List.reverse_nil, List.nil_append, List.cons_append, Option.toList_some, Option.toList_none, true_and, and_true, and_self, true_or, or_true, false_and, and_false, false_or, or_false, not_false_eq_true, Nat.reduceAdd, Nat.reduceLT, Nat.reduceLeDiff, Nat.reduceBEq, Nat.reduceEqDiff, Bool.or_false, Bool.false_or, if_true, if_false, Bool.false_eq_true, nq_eq, nq_lt, nq_le, nq_in_t, nq_bd, nq_ft, nq_clamp, nq_shl31, nq_shr31, nq_bitb, nq_add, nq_mul, fa_and, fa_or, nq_b0, nq_b1, nq_b01, ↓ni_lt_t, ↓ni_lt_f, ↓ni_le_t, ↓ni_le_f, ↓ni_eq_t, ↓ni_eq_f, ↓ni_beq_t, ↓ni_beq_f, it_X8_moves, it_X8_moves_1, h1, mO]
    refine rx_Cl_imp (c_X8_here hL ht hiL hx) (fun r h2 ⟨y1, nb, y2, y3, y4⟩ => ?_)
    subst y4
    have enb : nb = i := by have := y2.1; have := y2.2.1; omega
    have ec : chr t i nb = -1 := by unfold chr; rw [if_neg (by omega)]
    rw [ec]
    have em : mres t n W0 i = .inr W' := by
      unfold mres
      rw [hm]
      show (if true = true ∧ 0 = 0 then (.inr W' : Nat ⊕ (Nat → Nat)) else .inl i) = _
      rw [if_pos ⟨rfl, rfl⟩]
    simp (disch := first | decide | omega) only [rx_W, rx_wp_succ, rx_nx_stop, rx_nx_go, rx_lx_some, rx_fx_some, rx_ax_some, rx_qx_some, rx_ox_some, rx_vx_ref, rx_ix_ref, rx_ld_0, rx_ld_2, rx_ld_3, rx_cx_some, rx_nl, List.getElem?_cons_zero, List.getElem?_cons_succ, List.set_cons_zero, List.set_cons_succ, List.length_cons, List.length_nil, List.take_succ_cons, List.take_zero, List.drop_succ_cons, List.drop_zero, List.reverse_cons, List.reverse_nil, List.nil_append, List.cons_append, Option.toList_some, Option.toList_none, true_and, and_true, and_self, true_or, or_true, false_and, and_false, false_or, or_false, not_false_eq_true, Nat.reduceAdd, Nat.reduceLT, Nat.reduceLeDiff, Nat.reduceBEq, Nat.reduceEqDiff, Bool.or_false, Bool.false_or, if_true, if_false, Bool.false_eq_true, nq_eq, nq_lt, nq_le, nq_in_t, nq_bd, nq_ft, nq_clamp, nq_shl31, nq_shr31, nq_bitb, nq_add, nq_mul, fa_and, fa_or, nq_b0, nq_b1, nq_b01, ↓ni_lt_t, ↓ni_lt_f, ↓ni_le_t, ↓ni_le_f, ↓ni_eq_t, ↓ni_eq_f, ↓ni_beq_t, ↓ni_beq_f, it_X8_moves, it_X8_moves_1]
    apply rx_wp_sound 60 [101]
    simp (disch := first | decide | omega) only [rx_W, rx_wp_succ, rx_nx_stop, rx_nx_go, rx_lx_some, rx_fx_some, rx_ax_some, rx_qx_some, rx_ox_some, rx_vx_ref, rx_ix_ref, rx_ld_0, rx_ld_2, rx_ld_3, rx_cx_some, rx_nl, List.getElem?_cons_zero, List.getElem?_cons_succ, List.set_cons_zero, List.set_cons_succ, List.length_cons, List.length_nil, List.take_succ_cons, List.take_zero, List.drop_succ_cons, List.drop_zero, List.reverse_cons, List.reverse_nil, List.nil_append, List.cons_append, Option.toList_some, Option.toList_none, true_and, and_true, and_self, true_or, or_true, false_and, and_false, false_or, or_false, not_false_eq_true, Nat.reduceAdd, Nat.reduceLT, Nat.reduceLeDiff, Nat.reduceBEq, Nat.reduceEqDiff, Bool.or_false, Bool.false_or, if_true, if_false, Bool.false_eq_true, nq_eq, nq_lt, nq_le, nq_in_t, nq_bd, nq_ft, nq_clamp, nq_shl31, nq_shr31, nq_bitb, nq_add, nq_mul, fa_and, fa_or, nq_b0, nq_b1, nq_b01, ↓ni_lt_t, ↓ni_lt_f, ↓ni_le_t, ↓ni_le_f, ↓ni_eq_t, ↓ni_eq_f, ↓ni_beq_t, ↓ni_beq_f, it_X8_moves, it_X8_moves_1]
    exact hq h2 (k + 1) true _ ⟨Fr_trans hf y1 (fun _ z => z) (by simp), Or.inl ⟨rfl, W', em, by omega, y3.1⟩⟩ (by omega)
  | succ j ih =>
    intro i h k W' fr b fb e hiL hf hm hk hx
    have tl := (msI_mrd hW0 i _ hm).2.2.2.1.2.2.2.2
    dsimp only at tl
    have hx' := hx
    obtain ⟨-, fo, z, h1⟩ := hx'
    apply rx_wp_sound 60 [57, 101]
    simp (disch := first | decide | omega) only [rx_W, rx_wp_succ, rx_nx_stop, rx_nx_go, rx_lx_some, rx_fx_some, rx_ax_some, rx_qx_some, rx_ox_some, rx_vx_ref, rx_ix_ref, rx_ld_0, rx_ld_2, rx_ld_3, rx_cx_some, rx_nl, List.getElem?_cons_zero, List.getElem?_cons_succ, List.set_cons_zero, List.set_cons_succ, List.length_cons, List.length_nil, List.take_succ_cons, List.take_zero, List.drop_succ_cons, List.drop_zero, List.reverse_cons, List.reverse_nil, List.nil_append, List.cons_append, Option.toList_some, Option.toList_none, true_and, and_true, and_self, true_or, or_true, false_and, and_false, false_or, or_false, not_false_eq_true, Nat.reduceAdd, Nat.reduceLT, Nat.reduceLeDiff, Nat.reduceBEq, Nat.reduceEqDiff, Bool.or_false, Bool.false_or, if_true, if_false, Bool.false_eq_true, nq_eq, nq_lt, nq_le, nq_in_t, nq_bd, nq_ft, nq_clamp, nq_shl31, nq_shr31, nq_bitb, nq_add, nq_mul, fa_and, fa_or, nq_b0, nq_b1, nq_b01, ↓ni_lt_t, ↓ni_lt_f, ↓ni_le_t, ↓ni_le_f, ↓ni_eq_t, ↓ni_eq_f, ↓ni_beq_t, ↓ni_beq_f, it_X8_moves, it_X8_moves_1, h1, mO]
    refine rx_Cl_imp (c_X8_here hL ht hiL hx) (fun r h2 ⟨y1, nb, y2, y3, y4⟩ => ?_)
    subst y4
    have m1 := mrd_nb hm y2
    have f2 := Fr_trans hf y1 (C := [98, 99]) (fun _ z => z) (by simp)
    by_cases c : nb < L
    · have cn : ¬ chr t L nb = -1 := by
        unfold chr
        rw [if_pos c]
        exact nI_ne1 (by have := ht nb c; omega)
      have y3' := y3
      obtain ⟨-, fo2, z2, h12⟩ := y3'
      simp (disch := first | decide | omega) only [rx_W, rx_wp_succ, rx_nx_stop, rx_nx_go, rx_lx_some, rx_fx_some, rx_ax_some, rx_qx_some, rx_ox_some, rx_vx_ref, rx_ix_ref, rx_ld_0, rx_ld_2, rx_ld_3, rx_cx_some, rx_nl, List.getElem?_cons_zero, List.getElem?_cons_succ, List.set_cons_zero, List.set_cons_succ, List.length_cons, List.length_nil, List.take_succ_cons, List.take_zero, List.drop_succ_cons, List.drop_zero, List.reverse_cons, List.reverse_nil, List.nil_append, List.cons_append, Option.toList_some, Option.toList_none, true_and, and_true, and_self, true_or, or_true, false_and, and_false, false_or, or_false, not_false_eq_true, Nat.reduceAdd, Nat.reduceLT, Nat.reduceLeDiff, Nat.reduceBEq, Nat.reduceEqDiff, Bool.or_false, Bool.false_or, if_true, if_false, Bool.false_eq_true, nq_eq, nq_lt, nq_le, nq_in_t, nq_bd, nq_ft, nq_clamp, nq_shl31, nq_shr31, nq_bitb, nq_add, nq_mul, fa_and, fa_or, nq_b0, nq_b1, nq_b01, ↓ni_lt_t, ↓ni_lt_f, ↓ni_le_t, ↓ni_le_f, ↓ni_eq_t, ↓ni_eq_f, ↓ni_beq_t, ↓ni_beq_f, it_X8_moves, it_X8_moves_1, cn, h12, mO]
      refine rx_Cl_imp (c_X8_moved hv hL ht hp hW0 (by omega) m1 (Or.inr ⟨c, y2.2.2.2 c⟩) y3) (fun r h3 ⟨w1, w2⟩ => ?_)
      have f3 := Fr_trans f2 w1 (C := [98, 99]) (fun _ z => z) (fun _ z => z)
      rcases w2 with ⟨e3, g, g1, g2, g3⟩ | ⟨e3, i', W2, fr2, b2, fb2, g1, g2, g3, g4, g5⟩
      · subst e3
        simp (disch := first | decide | omega) only [rx_W, rx_wp_succ, rx_nx_stop, rx_nx_go, rx_lx_some, rx_fx_some, rx_ax_some, rx_qx_some, rx_ox_some, rx_vx_ref, rx_ix_ref, rx_ld_0, rx_ld_2, rx_ld_3, rx_cx_some, rx_nl, List.getElem?_cons_zero, List.getElem?_cons_succ, List.set_cons_zero, List.set_cons_succ, List.length_cons, List.length_nil, List.take_succ_cons, List.take_zero, List.drop_succ_cons, List.drop_zero, List.reverse_cons, List.reverse_nil, List.nil_append, List.cons_append, Option.toList_some, Option.toList_none, true_and, and_true, and_self, true_or, or_true, false_and, and_false, false_or, or_false, not_false_eq_true, Nat.reduceAdd, Nat.reduceLT, Nat.reduceLeDiff, Nat.reduceBEq, Nat.reduceEqDiff, Bool.or_false, Bool.false_or, if_true, if_false, Bool.false_eq_true, nq_eq, nq_lt, nq_le, nq_in_t, nq_bd, nq_ft, nq_clamp, nq_shl31, nq_shr31, nq_bitb, nq_add, nq_mul, fa_and, fa_or, nq_b0, nq_b1, nq_b01, ↓ni_lt_t, ↓ni_lt_f, ↓ni_le_t, ↓ni_le_f, ↓ni_eq_t, ↓ni_eq_f, ↓ni_beq_t, ↓ni_beq_f, it_X8_moves, it_X8_moves_1]
        apply rx_wp_sound 60 [101]
        simp (disch := first | decide | omega) only [rx_W, rx_wp_succ, rx_nx_stop, rx_nx_go, rx_lx_some, rx_fx_some, rx_ax_some, rx_qx_some, rx_ox_some, rx_vx_ref, rx_ix_ref, rx_ld_0, rx_ld_2, rx_ld_3, rx_cx_some, rx_nl, List.getElem?_cons_zero, List.getElem?_cons_succ, List.set_cons_zero, List.set_cons_succ, List.length_cons, List.length_nil, List.take_succ_cons, List.take_zero, List.drop_succ_cons, List.drop_zero, List.reverse_cons, List.reverse_nil, List.nil_append, List.cons_append, Option.toList_some, Option.toList_none, true_and, and_true, and_self, true_or, or_true, false_and, and_false, false_or, or_false, not_false_eq_true, Nat.reduceAdd, Nat.reduceLT, Nat.reduceLeDiff, Nat.reduceBEq, Nat.reduceEqDiff, Bool.or_false, Bool.false_or, if_true, if_false, Bool.false_eq_true, nq_eq, nq_lt, nq_le, nq_in_t, nq_bd, nq_ft, nq_clamp, nq_shl31, nq_shr31, nq_bitb, nq_add, nq_mul, fa_and, fa_or, nq_b0, nq_b1, nq_b01, ↓ni_lt_t, ↓ni_lt_f, ↓ni_le_t, ↓ni_le_f, ↓ni_eq_t, ↓ni_eq_f, ↓ni_beq_t, ↓ni_beq_f, it_X8_moves, it_X8_moves_1]
        exact hq h3 (k + 1) false _ ⟨f3, Or.inr ⟨rfl, g, W', g1, g2, g3⟩⟩ (by omega)
      · subst e3
        simp (disch := first | decide | omega) only [rx_W, rx_wp_succ, rx_nx_stop, rx_nx_go, rx_lx_some, rx_fx_some, rx_ax_some, rx_qx_some, rx_ox_some, rx_vx_ref, rx_ix_ref, rx_ld_0, rx_ld_2, rx_ld_3, rx_cx_some, rx_nl, List.getElem?_cons_zero, List.getElem?_cons_succ, List.set_cons_zero, List.set_cons_succ, List.length_cons, List.length_nil, List.take_succ_cons, List.take_zero, List.drop_succ_cons, List.drop_zero, List.reverse_cons, List.reverse_nil, List.nil_append, List.cons_append, Option.toList_some, Option.toList_none, true_and, and_true, and_self, true_or, or_true, false_and, and_false, false_or, or_false, not_false_eq_true, Nat.reduceAdd, Nat.reduceLT, Nat.reduceLeDiff, Nat.reduceBEq, Nat.reduceEqDiff, Bool.or_false, Bool.false_or, if_true, if_false, Bool.false_eq_true, nq_eq, nq_lt, nq_le, nq_in_t, nq_bd, nq_ft, nq_clamp, nq_shl31, nq_shr31, nq_bitb, nq_add, nq_mul, fa_and, fa_or, nq_b0, nq_b1, nq_b01, ↓ni_lt_t, ↓ni_lt_f, ↓ni_le_t, ↓ni_le_f, ↓ni_eq_t, ↓ni_eq_f, ↓ni_beq_t, ↓ni_beq_f, it_X8_moves, it_X8_moves_1]
        exact ih i' h3 (k + 1) W2 fr2 b2 fb2 (by have := y2.1; omega) g2 f3 g3 (by omega) g5
    · have ec : chr t L nb = -1 := by unfold chr; rw [if_neg c]
      have enb : nb = L := by have := y2.2.1; omega
      subst enb
      rw [ec]
      have em : mres t n W0 nb = .inr W' := by
        unfold mres
        rw [m1]
        show (if true = true ∧ 0 = 0 then (.inr W' : Nat ⊕ (Nat → Nat)) else .inl nb) = _
        rw [if_pos ⟨rfl, rfl⟩]
      simp (disch := first | decide | omega) only [rx_W, rx_wp_succ, rx_nx_stop, rx_nx_go, rx_lx_some, rx_fx_some, rx_ax_some, rx_qx_some, rx_ox_some, rx_vx_ref, rx_ix_ref, rx_ld_0, rx_ld_2, rx_ld_3, rx_cx_some, rx_nl, List.getElem?_cons_zero, List.getElem?_cons_succ, List.set_cons_zero, List.set_cons_succ, List.length_cons, List.length_nil, List.take_succ_cons, List.take_zero, List.drop_succ_cons, List.drop_zero, List.reverse_cons, List.reverse_nil, List.nil_append, List.cons_append, Option.toList_some, Option.toList_none, true_and, and_true, and_self, true_or, or_true, false_and, and_false, false_or, or_false, not_false_eq_true, Nat.reduceAdd, Nat.reduceLT, Nat.reduceLeDiff, Nat.reduceBEq, Nat.reduceEqDiff, Bool.or_false, Bool.false_or, if_true, if_false, Bool.false_eq_true, nq_eq, nq_lt, nq_le, nq_in_t, nq_bd, nq_ft, nq_clamp, nq_shl31, nq_shr31, nq_bitb, nq_add, nq_mul, fa_and, fa_or, nq_b0, nq_b1, nq_b01, ↓ni_lt_t, ↓ni_lt_f, ↓ni_le_t, ↓ni_le_f, ↓ni_eq_t, ↓ni_eq_f, ↓ni_beq_t, ↓ni_beq_f, it_X8_moves, it_X8_moves_1]
      apply rx_wp_sound 60 [101]
      simp (disch := first | decide | omega) only [rx_W, rx_wp_succ, rx_nx_stop, rx_nx_go, rx_lx_some, rx_fx_some, rx_ax_some, rx_qx_some, rx_ox_some, rx_vx_ref, rx_ix_ref, rx_ld_0, rx_ld_2, rx_ld_3, rx_cx_some, rx_nl, List.getElem?_cons_zero, List.getElem?_cons_succ, List.set_cons_zero, List.set_cons_succ, List.length_cons, List.length_nil, List.take_succ_cons, List.take_zero, List.drop_succ_cons, List.drop_zero, List.reverse_cons, List.reverse_nil, List.nil_append, List.cons_append, Option.toList_some, Option.toList_none, true_and, and_true, and_self, true_or, or_true, false_and, and_false, false_or, or_false, not_false_eq_true, Nat.reduceAdd, Nat.reduceLT, Nat.reduceLeDiff, Nat.reduceBEq, Nat.reduceEqDiff, Bool.or_false, Bool.false_or, if_true, if_false, Bool.false_eq_true, nq_eq, nq_lt, nq_le, nq_in_t, nq_bd, nq_ft, nq_clamp, nq_shl31, nq_shr31, nq_bitb, nq_add, nq_mul, fa_and, fa_or, nq_b0, nq_b1, nq_b01, ↓ni_lt_t, ↓ni_lt_f, ↓ni_le_t, ↓ni_le_f, ↓ni_eq_t, ↓ni_eq_f, ↓ni_beq_t, ↓ni_beq_f, it_X8_moves, it_X8_moves_1]
      exact hq h2 (k + 1) true _ ⟨f2, Or.inl ⟨rfl, W', em, by omega, y3.1⟩⟩ (by omega)
variable {p : Nat}
theorem l_X8_mvs (hi : mIv h v u np L t cs) (hv : wfV v) (hL : L ≤ 100) (ht : ∀ i, i < L → t i < 128) (hp : p < 4) (Q : Option Value → rx_H → Prop)
    (hq : ∀ h2 k (wh : Bool) x, Fr h h2 [98, 99, 100] → aN h2 100 164 v → ((wh = true ∧ ∃ W', mres t (v (41 * p)) (wq v p) L = .inr W' ∧ k + tot (wq v p) = tot W' ∧ mIv h2 (setP v p (v (41 * p)) W') u np L t cs) ∨ (wh = false ∧ ∃ g W', g ≤ L ∧ mres t (v (41 * p)) (wq v p) L = .inl g ∧ mIx h2 (setP v p (v (41 * p)) W') u np L t cs g)) → k ≤ 24 → rx_R 151 101 [.ref 98, .int (nI p), .int (nI k), .int (nI wh.toNat), x] [] h2 Q) : rx_Cl 151 [.ref 98, .int (nI p)] h Q := by
  obtain ⟨pl, fo, z, h1⟩ := hi.1
  obtain ⟨a0, hA⟩ := hi.2.2.1
  apply en_X8_moves _ _ 60 [16]
  simp (disch := first | decide | omega) only [rx_W, rx_wp_succ, rx_nx_stop, rx_nx_go, rx_lx_some, rx_fx_some, rx_ax_some, rx_qx_some, rx_ox_some, rx_vx_ref, rx_ix_ref, rx_ld_0, rx_ld_2, rx_ld_3, rx_cx_some, rx_nl, List.getElem?_cons_zero, List.getElem?_cons_succ, List.set_cons_zero, List.set_cons_succ, List.length_cons, List.length_nil, List.take_succ_cons, List.take_zero, List.drop_succ_cons, List.drop_zero, List.reverse_cons, List.reverse_nil, List.nil_append, List.cons_append, Option.toList_some, Option.toList_none, true_and, and_true, and_self, true_or, or_true, false_and, and_false, false_or, or_false, not_false_eq_true, Nat.reduceAdd, Nat.reduceLT, Nat.reduceLeDiff, Nat.reduceBEq, Nat.reduceEqDiff, Bool.or_false, Bool.false_or, if_true, if_false, Bool.false_eq_true, nq_eq, nq_lt, nq_le, nq_in_t, nq_bd, nq_ft, nq_clamp, nq_shl31, nq_shr31, nq_bitb, nq_add, nq_mul, fa_and, fa_or, nq_b0, nq_b1, nq_b01, ↓ni_lt_t, ↓ni_lt_f, ↓ni_le_t, ↓ni_le_f, ↓ni_eq_t, ↓ni_eq_f, ↓ni_beq_t, ↓ni_beq_f, it_X8_moves, it_X8_moves_1, q_X8_isProcess, inR_of hp]
  refine l_X8_mc (h0 := h) h1 hi.2.1 _ (fun h2 y1 y2 => ?_) 164 0 h a0 (by omega) (Fr_rfl _ _) hA (fun k hk => by omega)
  have h12 := rd_fr y1 (by simp) h1
  have hi2 := mIv_sw y1 (by simp) hi (aN_fr y1 (by simp) hi.2.1) y2
  have f3 : ∀ c, Fr h2 (rx_up h2 98 c) [98] := fun c => Fr_up (Fr_rfl _ _) (by simp)
  have hx3 : mIx (rx_up h2 98 (mO (nI np) (nI L) (nI 0) fo z)) (setP v p (v (41 * p)) (wq v p)) u np L t cs 0 := by
    rw [setP_id]
    exact ⟨mIv_98 (f3 _) hi2 (rd_eq _ _ _), fo, z, rd_eq _ _ _⟩
  have g3 := Fr_trans y1 (f3 (mO (nI np) (nI L) (nI 0) fo z)) (C := [98, 99, 100]) (by simp) (by simp)
  have h100 := aN_fr (f3 (mO (nI np) (nI L) (nI 0) fo z)) (by simp) y2
  apply rx_wp_sound 60 [57]
  simp (disch := first | decide | omega) only [rx_W, rx_wp_succ, rx_nx_stop, rx_nx_go, rx_lx_some, rx_fx_some, rx_ax_some, rx_qx_some, rx_ox_some, rx_vx_ref, rx_ix_ref, rx_ld_0, rx_ld_2, rx_ld_3, rx_cx_some, rx_nl, List.getElem?_cons_zero, List.getElem?_cons_succ, List.set_cons_zero, List.set_cons_succ, List.length_cons, List.length_nil, List.take_succ_cons, List.take_zero, List.drop_succ_cons, List.drop_zero, List.reverse_cons, List.reverse_nil, List.nil_append, List.cons_append, Option.toList_some, Option.toList_none, true_and, and_true, and_self, true_or, or_true, false_and, and_false, false_or, or_false, not_false_eq_true, Nat.reduceAdd, Nat.reduceLT, Nat.reduceLeDiff, Nat.reduceBEq, Nat.reduceEqDiff, Bool.or_false, Bool.false_or, if_true, if_false, Bool.false_eq_true, nq_eq, nq_lt, nq_le, nq_in_t, nq_bd, nq_ft, nq_clamp, nq_shl31, nq_shr31, nq_bitb, nq_add, nq_mul, fa_and, fa_or, nq_b0, nq_b1, nq_b01, ↓ni_lt_t, ↓ni_lt_f, ↓ni_le_t, ↓ni_le_f, ↓ni_eq_t, ↓ni_eq_f, ↓ni_beq_t, ↓ni_beq_f, it_X8_moves, it_X8_moves_1, h12, mO, rx_ft, rd_eq]
  refine rx_Cl_imp (c_X8_moved hv hL ht hp (hv p hp) (any := false) (fr0 := 0) (b0 := 0) (fb0 := 0) (Nat.zero_le _) rfl (Or.inl rfl) hx3) (fun r h4 ⟨w1, w2⟩ => ?_)
  have g4 := Fr_trans g3 w1 (C := [98, 99, 100]) (fun _ z => z) (by simp)
  have h1004 := aN_fr w1 (by simp) h100
  rcases w2 with ⟨e3, g, g1, g2, g5⟩ | ⟨e3, i', W2, fr2, b2, fb2, g1, g2, g5, g6, g7⟩
  · subst e3
    simp (disch := first | decide | omega) only [rx_W, rx_wp_succ, rx_nx_stop, rx_nx_go, rx_lx_some, rx_fx_some, rx_ax_some, rx_qx_some, rx_ox_some, rx_vx_ref, rx_ix_ref, rx_ld_0, rx_ld_2, rx_ld_3, rx_cx_some, rx_nl, List.getElem?_cons_zero, List.getElem?_cons_succ, List.set_cons_zero, List.set_cons_succ, List.length_cons, List.length_nil, List.take_succ_cons, List.take_zero, List.drop_succ_cons, List.drop_zero, List.reverse_cons, List.reverse_nil, List.nil_append, List.cons_append, Option.toList_some, Option.toList_none, true_and, and_true, and_self, true_or, or_true, false_and, and_false, false_or, or_false, not_false_eq_true, Nat.reduceAdd, Nat.reduceLT, Nat.reduceLeDiff, Nat.reduceBEq, Nat.reduceEqDiff, Bool.or_false, Bool.false_or, if_true, if_false, Bool.false_eq_true, nq_eq, nq_lt, nq_le, nq_in_t, nq_bd, nq_ft, nq_clamp, nq_shl31, nq_shr31, nq_bitb, nq_add, nq_mul, fa_and, fa_or, nq_b0, nq_b1, nq_b01, ↓ni_lt_t, ↓ni_lt_f, ↓ni_le_t, ↓ni_le_f, ↓ni_eq_t, ↓ni_eq_f, ↓ni_beq_t, ↓ni_beq_f, it_X8_moves, it_X8_moves_1]
    apply rx_wp_sound 60 [101]
    simp (disch := first | decide | omega) only [rx_W, rx_wp_succ, rx_nx_stop, rx_nx_go, rx_lx_some, rx_fx_some, rx_ax_some, rx_qx_some, rx_ox_some, rx_vx_ref, rx_ix_ref, rx_ld_0, rx_ld_2, rx_ld_3, rx_cx_some, rx_nl, List.getElem?_cons_zero, List.getElem?_cons_succ, List.set_cons_zero, List.set_cons_succ, List.length_cons, List.length_nil, List.take_succ_cons, List.take_zero, List.drop_succ_cons, List.drop_zero, List.reverse_cons, List.reverse_nil, List.nil_append, List.cons_append, Option.toList_some, Option.toList_none, true_and, and_true, and_self, true_or, or_true, false_and, and_false, false_or, or_false, not_false_eq_true, Nat.reduceAdd, Nat.reduceLT, Nat.reduceLeDiff, Nat.reduceBEq, Nat.reduceEqDiff, Bool.or_false, Bool.false_or, if_true, if_false, Bool.false_eq_true, nq_eq, nq_lt, nq_le, nq_in_t, nq_bd, nq_ft, nq_clamp, nq_shl31, nq_shr31, nq_bitb, nq_add, nq_mul, fa_and, fa_or, nq_b0, nq_b1, nq_b01, ↓ni_lt_t, ↓ni_lt_f, ↓ni_le_t, ↓ni_le_f, ↓ni_eq_t, ↓ni_eq_f, ↓ni_beq_t, ↓ni_beq_f, it_X8_moves, it_X8_moves_1]
    exact hq h4 0 false _ g4 h1004 (Or.inr ⟨rfl, g, wq v p, g1, g2, g5⟩) (by omega)
  · subst e3
    simp (disch := first | decide | omega) only [rx_W, rx_wp_succ, rx_nx_stop, rx_nx_go, rx_lx_some, rx_fx_some, rx_ax_some, rx_qx_some, rx_ox_some, rx_vx_ref, rx_ix_ref, rx_ld_0, rx_ld_2, rx_ld_3, rx_cx_some, rx_nl, List.getElem?_cons_zero, List.getElem?_cons_succ, List.set_cons_zero, List.set_cons_succ, List.length_cons, List.length_nil, List.take_succ_cons, List.take_zero, List.drop_succ_cons, List.drop_zero, List.reverse_cons, List.reverse_nil, List.nil_append, List.cons_append, Option.toList_some, Option.toList_none, true_and, and_true, and_self, true_or, or_true, false_and, and_false, false_or, or_false, not_false_eq_true, Nat.reduceAdd, Nat.reduceLT, Nat.reduceLeDiff, Nat.reduceBEq, Nat.reduceEqDiff, Bool.or_false, Bool.false_or, if_true, if_false, Bool.false_eq_true, nq_eq, nq_lt, nq_le, nq_in_t, nq_bd, nq_ft, nq_clamp, nq_shl31, nq_shr31, nq_bitb, nq_add, nq_mul, fa_and, fa_or, nq_b0, nq_b1, nq_b01, ↓ni_lt_t, ↓ni_lt_f, ↓ni_le_t, ↓ni_le_f, ↓ni_eq_t, ↓ni_eq_f, ↓ni_beq_t, ↓ni_beq_f, it_X8_moves, it_X8_moves_1]
    exact l_X8_mv (h0 := h4) hv hL ht hp (hv p hp) _ (fun h5 k wh x ⟨q1, q2⟩ q3 => hq h5 k wh x (Fr_trans g4 q1 (fun _ z => z) (by simp)) (aN_fr q1 (by simp) h1004) q2 q3) L i' h4 0 W2 fr2 b2 fb2 (by omega) g2 (Fr_rfl _ _) g5 (by omega) g7
theorem m_moves_no (hi : mIv h v u np L t cs) (hv : wfV v) (hL : L ≤ 100) (ht : ∀ i, i < L → t i < 128) (hp : p < 4) {g : Nat} (hm : mres t (v (41 * p)) (wq v p) L = .inl g) : rx_Cl 151 [.ref 98, .int (nI p)] h (mP h (v, u, np, L, t, cs) (.int (-10 - nI g))) := by
  refine l_X8_mvs hi hv hL ht hp _ (fun h2 k wh x y1 y2 y3 y4 => ?_)
  rcases y3 with ⟨-, W', z1, -⟩ | ⟨rfl, g', W', z0, z1, z2⟩
  · rw [hm] at z1; cases z1
  · rw [hm] at z1
    cases z1
    obtain ⟨hi2, fo2, z2', h12⟩ := z2
    apply rx_wp_sound 60 [115]
    simp (disch := first | decide | omega) only [rx_W, rx_wp_succ, rx_nx_stop, rx_nx_go, rx_lx_some, rx_fx_some, rx_ax_some, rx_qx_some, rx_ox_some, rx_vx_ref, rx_ix_ref, rx_ld_0, rx_ld_2, rx_ld_3, rx_cx_some, rx_nl, List.getElem?_cons_zero, List.getElem?_cons_succ, List.set_cons_zero, List.set_cons_succ, List.length_cons, List.length_nil, List.take_succ_cons, List.take_zero, List.drop_succ_cons, List.drop_zero, List.reverse_cons, List.reverse_nil, List.nil_append, List.cons_append, Option.toList_some, Option.toList_none, true_and, and_true, and_self, true_or, or_true, false_and, and_false, false_or, or_false, not_false_eq_true, Nat.reduceAdd, Nat.reduceLT, Nat.reduceLeDiff, Nat.reduceBEq, Nat.reduceEqDiff, Bool.or_false, Bool.false_or, if_true, if_false, Bool.false_eq_true, nq_eq, nq_lt, nq_le, nq_in_t, nq_bd, nq_ft, nq_clamp, nq_shl31, nq_shr31, nq_bitb, nq_add, nq_mul, fa_and, fa_or, nq_b0, nq_b1, nq_b01, ↓ni_lt_t, ↓ni_lt_f, ↓ni_le_t, ↓ni_le_f, ↓ni_eq_t, ↓ni_eq_f, ↓ni_beq_t, ↓ni_beq_f, it_X8_moves, it_X8_moves_1, h12, mO]
    refine rx_Cl_imp (c_X8_changesAside h12 hi2.2.1 y2) (fun r h3 ⟨e3, x1, x2, x3⟩ => ?_)
    subst e3
    have h13 := rd_fr x1 (by simp) h12
    simp (disch := first | decide | omega) only [rx_W, rx_wp_succ, rx_nx_stop, rx_nx_go, rx_lx_some, rx_fx_some, rx_ax_some, rx_qx_some, rx_ox_some, rx_vx_ref, rx_ix_ref, rx_ld_0, rx_ld_2, rx_ld_3, rx_cx_some, rx_nl, List.getElem?_cons_zero, List.getElem?_cons_succ, List.set_cons_zero, List.set_cons_succ, List.length_cons, List.length_nil, List.take_succ_cons, List.take_zero, List.drop_succ_cons, List.drop_zero, List.reverse_cons, List.reverse_nil, List.nil_append, List.cons_append, Option.toList_some, Option.toList_none, true_and, and_true, and_self, true_or, or_true, false_and, and_false, false_or, or_false, not_false_eq_true, Nat.reduceAdd, Nat.reduceLT, Nat.reduceLeDiff, Nat.reduceBEq, Nat.reduceEqDiff, Bool.or_false, Bool.false_or, if_true, if_false, Bool.false_eq_true, nq_eq, nq_lt, nq_le, nq_in_t, nq_bd, nq_ft, nq_clamp, nq_shl31, nq_shr31, nq_bitb, nq_add, nq_mul, fa_and, fa_or, nq_b0, nq_b1, nq_b01, ↓ni_lt_t, ↓ni_lt_f, ↓ni_le_t, ↓ni_le_f, ↓ni_eq_t, ↓ni_eq_f, ↓ni_beq_t, ↓ni_beq_f, it_X8_moves, it_X8_moves_1, h13, mO, Bool.toNat_false]
    apply rx_wp_sound 60 []
    simp (disch := first | decide | omega) only [rx_W, rx_wp_succ, rx_nx_stop, rx_nx_go, rx_lx_some, rx_fx_some, rx_ax_some, rx_qx_some, rx_ox_some, rx_vx_ref, rx_ix_ref, rx_ld_0, rx_ld_2, rx_ld_3, rx_cx_some, rx_nl, List.getElem?_cons_zero, List.getElem?_cons_succ, List.set_cons_zero, List.set_cons_succ, List.length_cons, List.length_nil, List.take_succ_cons, List.take_zero, List.drop_succ_cons, List.drop_zero, List.reverse_cons, List.reverse_nil, List.nil_append, List.cons_append, Option.toList_some, Option.toList_none, true_and, and_true, and_self, true_or, or_true, false_and, and_false, false_or, or_false, not_false_eq_true, Nat.reduceAdd, Nat.reduceLT, Nat.reduceLeDiff, Nat.reduceBEq, Nat.reduceEqDiff, Bool.or_false, Bool.false_or, if_true, if_false, Bool.false_eq_true, it_X8_moves, it_X8_moves_1]
    exact ⟨rfl, Fr_mm (Fr_mA y1 (by simp)) (Fr_mA x1 (by simp)), mIv_sw x1 (by simp) hi2 x2 x3⟩
theorem m_moves_ok (hi : mIv h v u np L t cs) (hv : wfV v) (hn : np ≤ 5) (hL : L ≤ 100) (ht : ∀ i, i < L → t i < 128) (hp : p < 4) {W' : Nat → Nat} (hm : mres t (v (41 * p)) (wq v p) L = .inr W') : rx_Cl 151 [.ref 98, .int (nI p)] h (mP h (setP v p (v (41 * p)) W', pU u np v, pN np, L, t, cs) (.int (nI (tot W' - tot (wq v p))))) := by
  refine l_X8_mvs hi hv hL ht hp _ (fun h2 k wh x y1 y2 y3 y4 => ?_)
  rcases y3 with ⟨rfl, W2, z1, z2, z3⟩ | ⟨-, g', W', z0, z1, z2⟩
  · rw [hm] at z1
    cases z1
    obtain ⟨pl2, fo2, z2', h12⟩ := z3.1
    apply rx_wp_sound 60 []
    simp (disch := first | decide | omega) only [rx_W, rx_wp_succ, rx_nx_stop, rx_nx_go, rx_lx_some, rx_fx_some, rx_ax_some, rx_qx_some, rx_ox_some, rx_vx_ref, rx_ix_ref, rx_ld_0, rx_ld_2, rx_ld_3, rx_cx_some, rx_nl, List.getElem?_cons_zero, List.getElem?_cons_succ, List.set_cons_zero, List.set_cons_succ, List.length_cons, List.length_nil, List.take_succ_cons, List.take_zero, List.drop_succ_cons, List.drop_zero, List.reverse_cons, List.reverse_nil, List.nil_append, List.cons_append, Option.toList_some, Option.toList_none, true_and, and_true, and_self, true_or, or_true, false_and, and_false, false_or, or_false, not_false_eq_true, Nat.reduceAdd, Nat.reduceLT, Nat.reduceLeDiff, Nat.reduceBEq, Nat.reduceEqDiff, Bool.or_false, Bool.false_or, if_true, if_false, Bool.false_eq_true, nq_eq, nq_lt, nq_le, nq_in_t, nq_bd, nq_ft, nq_clamp, nq_shl31, nq_shr31, nq_bitb, nq_add, nq_mul, fa_and, fa_or, nq_b0, nq_b1, nq_b01, ↓ni_lt_t, ↓ni_lt_f, ↓ni_le_t, ↓ni_le_f, ↓ni_eq_t, ↓ni_eq_f, ↓ni_beq_t, ↓ni_beq_f, it_X8_moves, it_X8_moves_1, h12, mO]
    refine rx_Cl_imp (c_X8_changesAside h12 z3.2.1 y2) (fun r h3 ⟨e3, x1, x2, x3⟩ => ?_)
    subst e3
    have hi3 := mIv_sw x1 (by simp) z3 x2 x3
    obtain ⟨pl3, fo3, z3', h13⟩ := hi3.1
    simp (disch := first | decide | omega) only [rx_W, rx_wp_succ, rx_nx_stop, rx_nx_go, rx_lx_some, rx_fx_some, rx_ax_some, rx_qx_some, rx_ox_some, rx_vx_ref, rx_ix_ref, rx_ld_0, rx_ld_2, rx_ld_3, rx_cx_some, rx_nl, List.getElem?_cons_zero, List.getElem?_cons_succ, List.set_cons_zero, List.set_cons_succ, List.length_cons, List.length_nil, List.take_succ_cons, List.take_zero, List.drop_succ_cons, List.drop_zero, List.reverse_cons, List.reverse_nil, List.nil_append, List.cons_append, Option.toList_some, Option.toList_none, true_and, and_true, and_self, true_or, or_true, false_and, and_false, false_or, or_false, not_false_eq_true, Nat.reduceAdd, Nat.reduceLT, Nat.reduceLeDiff, Nat.reduceBEq, Nat.reduceEqDiff, Bool.or_false, Bool.false_or, if_true, if_false, Bool.false_eq_true, nq_eq, nq_lt, nq_le, nq_in_t, nq_bd, nq_ft, nq_clamp, nq_shl31, nq_shr31, nq_bitb, nq_add, nq_mul, fa_and, fa_or, nq_b0, nq_b1, nq_b01, ↓ni_lt_t, ↓ni_lt_f, ↓ni_le_t, ↓ni_le_f, ↓ni_eq_t, ↓ni_eq_f, ↓ni_beq_t, ↓ni_beq_f, it_X8_moves, it_X8_moves_1, h13, mO, Bool.toNat_true]
    refine rx_Cl_imp (m_leaves hi3 hn) (fun r h4 ⟨e4, w1, w2⟩ => ?_)
    subst e4
    obtain ⟨pl4, fo4, z4', h14⟩ := w2.1
    simp (disch := first | decide | omega) only [rx_W, rx_wp_succ, rx_nx_stop, rx_nx_go, rx_lx_some, rx_fx_some, rx_ax_some, rx_qx_some, rx_ox_some, rx_vx_ref, rx_ix_ref, rx_ld_0, rx_ld_2, rx_ld_3, rx_cx_some, rx_nl, List.getElem?_cons_zero, List.getElem?_cons_succ, List.set_cons_zero, List.set_cons_succ, List.length_cons, List.length_nil, List.take_succ_cons, List.take_zero, List.drop_succ_cons, List.drop_zero, List.reverse_cons, List.reverse_nil, List.nil_append, List.cons_append, Option.toList_some, Option.toList_none, true_and, and_true, and_self, true_or, or_true, false_and, and_false, false_or, or_false, not_false_eq_true, Nat.reduceAdd, Nat.reduceLT, Nat.reduceLeDiff, Nat.reduceBEq, Nat.reduceEqDiff, Bool.or_false, Bool.false_or, if_true, if_false, Bool.false_eq_true, nq_eq, nq_lt, nq_le, nq_in_t, nq_bd, nq_ft, nq_clamp, nq_shl31, nq_shr31, nq_bitb, nq_add, nq_mul, fa_and, fa_or, nq_b0, nq_b1, nq_b01, ↓ni_lt_t, ↓ni_lt_f, ↓ni_le_t, ↓ni_le_f, ↓ni_eq_t, ↓ni_eq_f, ↓ni_beq_t, ↓ni_beq_f, it_X8_moves, it_X8_moves_1, h14, mO]
    refine rx_Cl_imp (c_X8_changesAside h14 w2.2.1 (aN_fr w1 (by simp) x3)) (fun r h5 ⟨e5, u1, u2, u3⟩ => ?_)
    subst e5
    simp (disch := first | decide | omega) only [rx_W, rx_wp_succ, rx_nx_stop, rx_nx_go, rx_lx_some, rx_fx_some, rx_ax_some, rx_qx_some, rx_ox_some, rx_vx_ref, rx_ix_ref, rx_ld_0, rx_ld_2, rx_ld_3, rx_cx_some, rx_nl, List.getElem?_cons_zero, List.getElem?_cons_succ, List.set_cons_zero, List.set_cons_succ, List.length_cons, List.length_nil, List.take_succ_cons, List.take_zero, List.drop_succ_cons, List.drop_zero, List.reverse_cons, List.reverse_nil, List.nil_append, List.cons_append, Option.toList_some, Option.toList_none, true_and, and_true, and_self, true_or, or_true, false_and, and_false, false_or, or_false, not_false_eq_true, Nat.reduceAdd, Nat.reduceLT, Nat.reduceLeDiff, Nat.reduceBEq, Nat.reduceEqDiff, Bool.or_false, Bool.false_or, if_true, if_false, Bool.false_eq_true, nq_eq, nq_lt, nq_le, nq_in_t, nq_bd, nq_ft, nq_clamp, nq_shl31, nq_shr31, nq_bitb, nq_add, nq_mul, fa_and, fa_or, nq_b0, nq_b1, nq_b01, ↓ni_lt_t, ↓ni_lt_f, ↓ni_le_t, ↓ni_le_f, ↓ni_eq_t, ↓ni_eq_f, ↓ni_beq_t, ↓ni_beq_f, it_X8_moves, it_X8_moves_1]
    have ek : k = tot W' - tot (wq v p) := by omega
    rw [← ek]
    exact ⟨rfl, Fr_mm (Fr_mA y1 (by simp)) (Fr_mm (Fr_mA x1 (by simp)) (Fr_mm (Fr_mA w1 (by simp)) (Fr_mA u1 (by simp)))), mIv_sw u1 (by simp) w2 u2 u3⟩
  · rw [hm] at z1; cases z1
end MP
