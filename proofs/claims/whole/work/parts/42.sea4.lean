theorem sQ_fr {h h' : rx_H} {A : List Nat} {l : List eL} (hf : Fr h h' A) (hA : ∀ i ∈ A, i < 49 ∨ i = 50 ∨ i = 51 ∨ (55 < i ∧ i < 110)) (hq : sQ h l) : sQ h' l := by
  obtain ⟨P1, P2, P3, kk, h1, hP, hR, hB⟩ := hq
  obtain ⟨r1, r2, r3, r4, r5, f1, f2, f3, g1, g2, g3, g4⟩ := hR
  have hP' := hP
  obtain ⟨⟨o1, o2, o3, o4, o5, o6⟩, p1, p2, p3, q1, q2, q3⟩ := hP'
  have c1 := hf.1
  have c2 := hf.2.1
  refine ⟨P1, P2, P3, kk, (hf.2.2 49 (fun z => by have := hA _ z; omega)).trans h1, ?_, ⟨r1, by omega, by omega, by omega, r5, f1, f2, f3, (hf.2.2 P1 (fun z => by have := hA _ z; omega)).trans g1, (hf.2.2 P2 (fun z => by have := hA _ z; omega)).trans g2, (hf.2.2 P3 (fun z => by have := hA _ z; omega)).trans g3, g4⟩, ?_⟩
  · unfold okP
    rw [c1]
    exact hP
  · obtain ⟨sn, s1, s2⟩ := hB
    exact ⟨sn, aN_fr hf (fun z => by have := hA _ z; omega) s1, s2⟩
theorem nI_ne1 {k : Nat} (h : k < 2 ^ 31) : ¬ nI k = -1 := by
  rw [nI_neg1, nq_eq32 (by omega) (by omega)]
  omega
section RUN
variable {n1 n2 : Nat} {w1 w2 : Nat → Nat}
theorem l_X5_runA {h0 : rx_H} {q1 q2 m k x : Nat} {l : List eL} (hk1 : oK h0 q1 n1 w1) (hk2 : oK h0 q2 n2 w2) (hq1 : 56 ≤ q1 ∧ q1 + 5 ≤ 109) (hq2 : 56 ≤ q2 ∧ q2 + 5 ≤ 109) (hn1 : n1 ≤ 8) (hn2 : n2 ≤ 8) (hw1 : ∀ j, j < 40 → w1 j < 2 ^ n1) (hw2 : ∀ j, j < 40 → w2 j < 2 ^ n2) (hg : gL n1 n2 l) (hkl : k < l.length) (hm1 : x / 256 < 2 ^ n1) (hm2 : x % 256 < 2 ^ n2) (Q : Option Value → rx_H → Prop)
    (hq : ∀ h y, FS h0 h → sQ h (exA n1 w1 n2 w2 x k 4 l) → rx_R 50 145 [.ref 49, .ref q1, .ref q2, .int (nI m), .int (nI k), .int (nI (x / 256)), .int (nI (x % 256)), .int (nI 4), y] [] h Q) :
    ∀ j a h y, a + j = 4 → FS h0 h → sQ h (exA n1 w1 n2 w2 x k a l) → rx_R 50 95 [.ref 49, .ref q1, .ref q2, .int (nI m), .int (nI k), .int (nI (x / 256)), .int (nI (x % 256)), .int (nI a), y] [] h Q
  | 0, a, h, y, e, hf, hs => by
    have e' : a = 4 := by omega
    subst e'
    apply rx_wp_sound 40 [95, 145]
    simp (disch := first | decide | omega) only [rx_W, rx_wp_succ, rx_nx_stop, rx_nx_go, rx_lx_some, rx_fx_some, rx_ax_some, rx_qx_some, rx_ox_some, rx_vx_ref, rx_ix_ref, rx_ld_0, rx_ld_2, rx_ld_3, rx_cx_some, rx_nl, List.getElem?_cons_zero, List.getElem?_cons_succ, List.set_cons_zero, List.set_cons_succ, List.length_cons, List.length_nil, List.take_succ_cons, List.take_zero, List.drop_succ_cons, List.drop_zero, List.reverse_cons, List.reverse_nil, List.nil_append, List.cons_append, Option.toList_some, Option.toList_none, true_and, and_true, and_self, true_or, or_true, false_and, and_false, false_or, or_false, not_false_eq_true, Nat.reduceAdd, Nat.reduceLT, Nat.reduceLeDiff, Nat.reduceBEq, Nat.reduceEqDiff, Bool.or_false, Bool.false_or, if_true, if_false, Bool.false_eq_true, nq_eq, nq_lt, nq_le, nq_in_t, nq_bd, nq_ft, nq_clamp, nq_shl31, nq_shr31, nq_bitb, nq_add, nq_mul, fa_and, fa_or, nq_b0, nq_b1, nq_b01, ↓ni_lt_t, ↓ni_lt_f, ↓ni_le_t, ↓ni_le_f, ↓ni_eq_t, ↓ni_eq_f, ↓ni_beq_t, ↓ni_beq_f, it_X5_run, it_X5_run_1]
    exact hq h y hf hs
  | j + 1, a, h, y, e, hf, hs => by
    have ih := fun h y => l_X5_runA (m := m) hk1 hk2 hq1 hq2 hn1 hn2 hw1 hw2 hg hkl hm1 hm2 Q hq j (a + 1) h y (by omega)
    have hk1' := oK_sm (FS_sm hf) hq1.1 hq1.2 hk1
    have hk2' := oK_sm (FS_sm hf) hq2.1 hq2.2 hk2
    have e1 : exA n1 w1 n2 w2 x k (a + 1) l = sA n1 w1 n2 w2 x k a (exA n1 w1 n2 w2 x k a l) := rfl
    rw [e1] at ih
    unfold sA at ih
    have a1 := aft_lt hn1 hw1 (x / 256) (a := a) (by omega)
    have a2 := aft_lt hn2 hw2 (x % 256) (a := a) (by omega)
    have p8 : 2 ^ n1 ≤ 2 ^ 8 := Nat.pow_le_pow_right (by omega) hn1
    have d := pair_dm hn2 a1 a2
    have hs' := hs
    obtain ⟨P1, P2, P3, kk, h1, -⟩ := hs'
    have hk1c := hk1'
    obtain ⟨lo, O, R, N, F, A, ho, -⟩ := hk1c
    have hk2c := hk2'
    obtain ⟨lo', O', R', N', F', A', ho', -⟩ := hk2c
    by_cases c : aft n1 w1 (x / 256) a = 0
    · rw [if_pos c] at ih
      apply rx_wp_sound 60 [95, 145]
      simp (disch := first | decide | omega) only [rx_W, rx_wp_succ, rx_nx_stop, rx_nx_go, rx_lx_some, rx_fx_some, rx_ax_some, rx_qx_some, rx_ox_some, rx_vx_ref, rx_ix_ref, rx_ld_0, rx_ld_2, rx_ld_3, rx_cx_some, rx_nl, List.getElem?_cons_zero, List.getElem?_cons_succ, List.set_cons_zero, List.set_cons_succ, List.length_cons, List.length_nil, List.take_succ_cons, List.take_zero, List.drop_succ_cons, List.drop_zero, List.reverse_cons, List.reverse_nil, List.nil_append, List.cons_append, Option.toList_some, Option.toList_none, true_and, and_true, and_self, true_or, or_true, false_and, and_false, false_or, or_false, not_false_eq_true, Nat.reduceAdd, Nat.reduceLT, Nat.reduceLeDiff, Nat.reduceBEq, Nat.reduceEqDiff, Bool.or_false, Bool.false_or, if_true, if_false, Bool.false_eq_true, nq_eq, nq_lt, nq_le, nq_in_t, nq_bd, nq_ft, nq_clamp, nq_shl31, nq_shr31, nq_bitb, nq_add, nq_mul, fa_and, fa_or, nq_b0, nq_b1, nq_b01, ↓ni_lt_t, ↓ni_lt_f, ↓ni_le_t, ↓ni_le_f, ↓ni_eq_t, ↓ni_eq_f, ↓ni_beq_t, ↓ni_beq_f, it_X5_run, it_X5_run_1, q_X1_after hk1' hn1 hw1 hm1, ho.1, ho.2, c]
      exact ih _ _ hf hs
    · rw [if_neg c] at ih
      apply rx_wp_sound 60 [95, 145]
      simp (disch := first | decide | omega) only [rx_W, rx_wp_succ, rx_nx_stop, rx_nx_go, rx_lx_some, rx_fx_some, rx_ax_some, rx_qx_some, rx_ox_some, rx_vx_ref, rx_ix_ref, rx_ld_0, rx_ld_2, rx_ld_3, rx_cx_some, rx_nl, List.getElem?_cons_zero, List.getElem?_cons_succ, List.set_cons_zero, List.set_cons_succ, List.length_cons, List.length_nil, List.take_succ_cons, List.take_zero, List.drop_succ_cons, List.drop_zero, List.reverse_cons, List.reverse_nil, List.nil_append, List.cons_append, Option.toList_some, Option.toList_none, true_and, and_true, and_self, true_or, or_true, false_and, and_false, false_or, or_false, not_false_eq_true, Nat.reduceAdd, Nat.reduceLT, Nat.reduceLeDiff, Nat.reduceBEq, Nat.reduceEqDiff, Bool.or_false, Bool.false_or, if_true, if_false, Bool.false_eq_true, nq_eq, nq_lt, nq_le, nq_in_t, nq_bd, nq_ft, nq_clamp, nq_shl31, nq_shr31, nq_bitb, nq_add, nq_mul, fa_and, fa_or, nq_b0, nq_b1, nq_b01, ↓ni_lt_t, ↓ni_lt_f, ↓ni_le_t, ↓ni_le_f, ↓ni_eq_t, ↓ni_eq_f, ↓ni_beq_t, ↓ni_beq_f, it_X5_run, it_X5_run_1, q_X1_after hk1' hn1 hw1 hm1, q_X1_after hk2' hn2 hw2 hm2, ho.1, ho.2, ho'.1, ho'.2, c, h1, sO]
      refine rx_Cl_imp (c_X5_enqueue (k := k) hs (gL_exA hn1 hn2 hw1 hw2 hg hkl a (by omega)) hn1 d.1 d.2.1 (by omega) (fun _ => rfl)) (fun r h2 ⟨e2, z1, z2⟩ => ?_)
      subst e2
      simp (disch := first | decide | omega) only [rx_W, rx_wp_succ, rx_nx_stop, rx_nx_go, rx_lx_some, rx_fx_some, rx_ax_some, rx_qx_some, rx_ox_some, rx_vx_ref, rx_ix_ref, rx_ld_0, rx_ld_2, rx_ld_3, rx_cx_some, rx_nl, List.getElem?_cons_zero, List.getElem?_cons_succ, List.set_cons_zero, List.set_cons_succ, List.length_cons, List.length_nil, List.take_succ_cons, List.take_zero, List.drop_succ_cons, List.drop_zero, List.reverse_cons, List.reverse_nil, List.nil_append, List.cons_append, Option.toList_some, Option.toList_none, true_and, and_true, and_self, true_or, or_true, false_and, and_false, false_or, or_false, not_false_eq_true, Nat.reduceAdd, Nat.reduceLT, Nat.reduceLeDiff, Nat.reduceBEq, Nat.reduceEqDiff, Bool.or_false, Bool.false_or, if_true, if_false, Bool.false_eq_true, nq_eq, nq_lt, nq_le, nq_in_t, nq_bd, nq_ft, nq_clamp, nq_shl31, nq_shr31, nq_bitb, nq_add, nq_mul, fa_and, fa_or, nq_b0, nq_b1, nq_b01, ↓ni_lt_t, ↓ni_lt_f, ↓ni_le_t, ↓ni_le_f, ↓ni_eq_t, ↓ni_eq_f, ↓ni_beq_t, ↓ni_beq_f, it_X5_run, it_X5_run_1]
      exact ih _ _ (FS_trans hf z1) z2
def fnd (n1 : Nat) (w1 : Nat → Nat) (n2 : Nat) (w2 : Nat → Nat) (m k : Nat) (x y : Int32) : Prop := (x = -1 ∧ noF n1 w1 n2 w2 m k) ∨ ∃ k0 e, k0 < k ∧ k0 < 65536 ∧ x = nI k0 ∧ (bfs n1 w1 n2 w2 k0)[k0]? = some e ∧ y = nI (rsn n1 w1 n2 w2 e.1) ∧ isF n1 w1 n2 w2 m k0
theorem rsn_le (x : Nat) : rsn n1 w1 n2 w2 x ≤ 3 := by
  unfold rsn
  split
  · omega
  · split
    · omega
    · split <;> omega
theorem fnd_step {m k : Nat} {x y x' y' : Int32} {e : eL} (he : (bfs n1 w1 n2 w2 k)[k]? = some e) (hk : k < 65536) (h : fnd n1 w1 n2 w2 m k x y) (hx : x' = if rsn n1 w1 n2 w2 e.1 ≤ m ∧ x = -1 then nI k else x) (hy : y' = if rsn n1 w1 n2 w2 e.1 ≤ m ∧ x = -1 then nI (rsn n1 w1 n2 w2 e.1) else y) : fnd n1 w1 n2 w2 m (k + 1) x' y' := by
  rcases h with ⟨z1, z2⟩ | ⟨k0, f, f1, f2, f3, f4, f5, f6⟩
  · by_cases c : rsn n1 w1 n2 w2 e.1 ≤ m
    · rw [if_pos ⟨c, z1⟩] at hx hy
      exact Or.inr ⟨k, e, by omega, hk, hx, he, hy, e, he, c, z2⟩
    · rw [if_neg (fun z => c z.1)] at hx hy
      exact Or.inl ⟨hx.trans z1, noF_succ he z2 c⟩
  · have c : ¬ x = -1 := by rw [f3]; exact nI_ne1 (by omega)
    rw [if_neg (fun z => c z.2)] at hx hy
    exact Or.inr ⟨k0, f, by omega, f2, hx.trans f3, f4, hy.trans f5, f6⟩
/-- what a search by a mode leaves -/
def sEnd (n1 : Nat) (w1 : Nat → Nat) (n2 : Nat) (w2 : Nat → Nat) (h : rx_H) (mode : Nat) : Prop := ∃ K fF fW, sQ h (bfs n1 w1 n2 w2 K) ∧ rx_rd h 51 = some (.inl (0, 3, .inl fF)) ∧ rx_rd h 50 = some (.inl (0, 3, .inl fW)) ∧ ((isF n1 w1 n2 w2 mode K ∧ K < 65536 ∧ fF mode = nI K ∧ ∀ e : eL, (bfs n1 w1 n2 w2 K)[K]? = some e → fW mode = nI (rsn n1 w1 n2 w2 e.1)) ∨ (NF n1 w1 n2 w2 mode ∧ fF mode = -1)) ∧ ∀ m, mode ≤ m → m < 3 → (fF m = -1 ↔ NF n1 w1 n2 w2 m)
theorem l_X5_run {h0 : rx_H} {q1 q2 mode : Nat} (hmode : mode < 3) (hk1 : oK h0 q1 n1 w1) (hk2 : oK h0 q2 n2 w2) (hq1 : 56 ≤ q1 ∧ q1 + 5 ≤ 109) (hq2 : 56 ≤ q2 ∧ q2 + 5 ≤ 109) (h01 : 1 ≤ n1) (h02 : 1 ≤ n2) (hn1 : n1 ≤ 8) (hn2 : n2 ≤ 8) (hw1 : ∀ j, j < 40 → w1 j < 2 ^ n1) (hw2 : ∀ j, j < 40 → w2 j < 2 ^ n2) (Q : Option Value → rx_H → Prop)
    (hq : ∀ h, FT h0 h → sEnd n1 w1 n2 w2 h mode → Q none h) :
    ∀ j k h fF fW x5 x6 x7 x8, k + j = 65537 → FT h0 h → sQ h (bfs n1 w1 n2 w2 k) → rx_rd h 51 = some (.inl (0, 3, .inl fF)) → rx_rd h 50 = some (.inl (0, 3, .inl fW)) → (∀ m, m < 3 → fnd n1 w1 n2 w2 m k (fF m) (fW m)) → fF mode = -1 → rx_R 50 26 [.ref 49, .ref q1, .ref q2, .int (nI mode), .int (nI k), x5, x6, x7, x8] [] h Q := by
  intro j
  induction j with
  | zero =>
    intro k h fF fW x5 x6 x7 x8 e hf hs hF hW hfn hno
    have hg := gL_bfs h01 h02 hn1 hn2 hw1 hw2 k
    have hl := gL_len hn1 hg
    have hs' := hs
    obtain ⟨P1, P2, P3, kk, h1, -⟩ := hs'
    have hend : (bfs n1 w1 n2 w2 k)[k]? = none := List.getElem?_eq_none_iff.mpr (by omega)
    apply rx_wp_sound 60 [26, 95]
    simp (disch := first | decide | omega) only [rx_W, rx_wp_succ, rx_nx_stop, rx_nx_go, rx_lx_some, rx_fx_some, rx_ax_some, rx_qx_some, rx_ox_some, rx_vx_ref, rx_ix_ref, rx_ld_0, rx_ld_2, rx_ld_3, rx_cx_some, rx_nl, List.getElem?_cons_zero, List.getElem?_cons_succ, List.set_cons_zero, List.set_cons_succ, List.length_cons, List.length_nil, List.take_succ_cons, List.take_zero, List.drop_succ_cons, List.drop_zero, List.reverse_cons, List.reverse_nil, List.nil_append, List.cons_append, Option.toList_some, Option.toList_none, true_and, and_true, and_self, true_or, or_true, false_and, and_false, false_or, or_false, not_false_eq_true, Nat.reduceAdd, Nat.reduceLT, Nat.reduceLeDiff, Nat.reduceBEq, Nat.reduceEqDiff, Bool.or_false, Bool.false_or, if_true, if_false, Bool.false_eq_true, nq_eq, nq_lt, nq_le, nq_in_t, nq_bd, nq_ft, nq_clamp, nq_shl31, nq_shr31, nq_bitb, nq_add, nq_mul, fa_and, fa_or, nq_b0, nq_b1, nq_b01, ↓ni_lt_t, ↓ni_lt_f, ↓ni_le_t, ↓ni_le_f, ↓ni_eq_t, ↓ni_eq_f, ↓ni_beq_t, ↓ni_beq_f, it_X5_run, it_X5_run_1, h1, sO]
    refine hq h hf ⟨k, fF, fW, hs, hF, hW, Or.inr ⟨?_, hno⟩, fun m hm hm3 => ?_⟩
    · rcases hfn mode hmode with z | ⟨k0, f, f1, f2, f3, -⟩
      · exact noF_end n1 w1 n2 w2 hend z.2
      · rw [f3] at hno; exact absurd hno (nI_ne1 (by omega))
    · rcases hfn m hm3 with z | ⟨k0, f, f1, f2, f3, f4, f5, f6⟩
      · exact ⟨fun _ => noF_end n1 w1 n2 w2 hend z.2, fun _ => z.1⟩
      · exact ⟨fun z => absurd (f3.symm.trans z) (nI_ne1 (by omega)), fun z => (isF_NF n1 w1 n2 w2 f6 z).elim⟩
  | succ j ih =>
    intro k h fF fW x5 x6 x7 x8 e hf hs hF hW hfn hno
    have hg := gL_bfs h01 h02 hn1 hn2 hw1 hw2 k
    have hl := gL_len hn1 hg
    have hs' := hs
    obtain ⟨P1, P2, P3, kk, h1, hP, ⟨r1, r2, r3, r4, r5, f1, f2, f3, g1, g2, g3, g4⟩, hB⟩ := hs'
    by_cases hkl : k < (bfs n1 w1 n2 w2 k).length
    · obtain ⟨en, hen⟩ := get_of hkl
      obtain ⟨b1, b2, -⟩ := hg.1 k en hen
      have y1 := (g4 k en hen).1
      have p8 : 2 ^ n1 ≤ 2 ^ 8 := Nat.pow_le_pow_right (by omega) hn1
      have h2k : 2 ^ kk ≤ 2 ^ 10 := Nat.pow_le_pow_right (by omega) r1
      have em : en.1 - en.1 / 256 * 256 = en.1 % 256 := by omega
      have hk1' := oK_sm (FT_sm hf) hq1.1 hq1.2 hk1
      have hk2' := oK_sm (FT_sm hf) hq2.1 hq2.2 hk2
      have hr3 := rsn_le (n1 := n1) (w1 := w1) (n2 := n2) (w2 := w2) en.1
      apply rx_wp_sound 60 [26, 95]
      simp (disch := first | decide | omega) only [rx_W, rx_wp_succ, rx_nx_stop, rx_nx_go, rx_lx_some, rx_fx_some, rx_ax_some, rx_qx_some, rx_ox_some, rx_vx_ref, rx_ix_ref, rx_ld_0, rx_ld_2, rx_ld_3, rx_cx_some, rx_nl, List.getElem?_cons_zero, List.getElem?_cons_succ, List.set_cons_zero, List.set_cons_succ, List.length_cons, List.length_nil, List.take_succ_cons, List.take_zero, List.drop_succ_cons, List.drop_zero, List.reverse_cons, List.reverse_nil, List.nil_append, List.cons_append, Option.toList_some, Option.toList_none, true_and, and_true, and_self, true_or, or_true, false_and, and_false, false_or, or_false, not_false_eq_true, Nat.reduceAdd, Nat.reduceLT, Nat.reduceLeDiff, Nat.reduceBEq, Nat.reduceEqDiff, Bool.or_false, Bool.false_or, if_true, if_false, Bool.false_eq_true, nq_eq, nq_lt, nq_le, nq_in_t, nq_bd, nq_ft, nq_clamp, nq_shl31, nq_shr31, nq_bitb, nq_add, nq_mul, fa_and, fa_or, nq_b0, nq_b1, nq_b01, ↓ni_lt_t, ↓ni_lt_f, ↓ni_le_t, ↓ni_le_f, ↓ni_eq_t, ↓ni_eq_f, ↓ni_beq_t, ↓ni_beq_f, it_X5_run, it_X5_run_1, h1, sO, g1, y1, nq_div, nq_sub, em, q_X5_reasonAt hk1' hk2' hn1 hn2 b1 b2]
      refine rx_Cl_imp (c_X5_note (k := k) h1 hr3 hF hW) (fun r h2 ⟨e2, z1, gF, gW, z2, z3, z4⟩ => ?_)
      subst e2
      have h1' := (z1.2.2 49 (by simp)).trans h1
      have hs2 := sQ_fr z1 (by simp) hs
      have hf2 : FT h h2 := FT_fr z1 (by simp)
      have hfn2 : ∀ m, m < 3 → fnd n1 w1 n2 w2 m (k + 1) (gF m) (gW m) := fun m hm => fnd_step hen (by omega) (hfn m hm) (z4 m hm).1 (z4 m hm).2
      simp (disch := first | decide | omega) only [rx_W, rx_wp_succ, rx_nx_stop, rx_nx_go, rx_lx_some, rx_fx_some, rx_ax_some, rx_qx_some, rx_ox_some, rx_vx_ref, rx_ix_ref, rx_ld_0, rx_ld_2, rx_ld_3, rx_cx_some, rx_nl, List.getElem?_cons_zero, List.getElem?_cons_succ, List.set_cons_zero, List.set_cons_succ, List.length_cons, List.length_nil, List.take_succ_cons, List.take_zero, List.drop_succ_cons, List.drop_zero, List.reverse_cons, List.reverse_nil, List.nil_append, List.cons_append, Option.toList_some, Option.toList_none, true_and, and_true, and_self, true_or, or_true, false_and, and_false, false_or, or_false, not_false_eq_true, Nat.reduceAdd, Nat.reduceLT, Nat.reduceLeDiff, Nat.reduceBEq, Nat.reduceEqDiff, Bool.or_false, Bool.false_or, if_true, if_false, Bool.false_eq_true, nq_eq, nq_lt, nq_le, nq_in_t, nq_bd, nq_ft, nq_clamp, nq_shl31, nq_shr31, nq_bitb, nq_add, nq_mul, fa_and, fa_or, nq_b0, nq_b1, nq_b01, ↓ni_lt_t, ↓ni_lt_f, ↓ni_le_t, ↓ni_le_f, ↓ni_eq_t, ↓ni_eq_f, ↓ni_beq_t, ↓ni_beq_f, it_X5_run, it_X5_run_1, q_X5_foundIn h1' z2 hmode, h1', sO]
      have zm := (z4 mode hmode).1
      by_cases c : gF mode = -1
      · simp (disch := first | decide | omega) only [rx_W, rx_wp_succ, rx_nx_stop, rx_nx_go, rx_lx_some, rx_fx_some, rx_ax_some, rx_qx_some, rx_ox_some, rx_vx_ref, rx_ix_ref, rx_ld_0, rx_ld_2, rx_ld_3, rx_cx_some, rx_nl, List.getElem?_cons_zero, List.getElem?_cons_succ, List.set_cons_zero, List.set_cons_succ, List.length_cons, List.length_nil, List.take_succ_cons, List.take_zero, List.drop_succ_cons, List.drop_zero, List.reverse_cons, List.reverse_nil, List.nil_append, List.cons_append, Option.toList_some, Option.toList_none, true_and, and_true, and_self, true_or, or_true, false_and, and_false, false_or, or_false, not_false_eq_true, Nat.reduceAdd, Nat.reduceLT, Nat.reduceLeDiff, Nat.reduceBEq, Nat.reduceEqDiff, Bool.or_false, Bool.false_or, if_true, if_false, Bool.false_eq_true, nq_eq, nq_lt, nq_le, nq_in_t, nq_bd, nq_ft, nq_clamp, nq_shl31, nq_shr31, nq_bitb, nq_add, nq_mul, fa_and, fa_or, nq_b0, nq_b1, nq_b01, ↓ni_lt_t, ↓ni_lt_f, ↓ni_le_t, ↓ni_le_f, ↓ni_eq_t, ↓ni_eq_f, ↓ni_beq_t, ↓ni_beq_f, it_X5_run, it_X5_run_1, c, decide_true, Bool.not_true, Bool.toNat_false]
        refine l_X5_runA (h0 := h2) (m := mode) (oK_sm (FT_sm hf2) hq1.1 hq1.2 hk1') (oK_sm (FT_sm hf2) hq2.1 hq2.2 hk2') hq1 hq2 hn1 hn2 hw1 hw2 hg hkl b1 b2 Q (fun h3 y w1' w2' => ?_) 4 0 h2 x8 (by omega) (FS_rfl _) hs2
        apply rx_wp_sound 60 [26]
        simp (disch := first | decide | omega) only [rx_W, rx_wp_succ, rx_nx_stop, rx_nx_go, rx_lx_some, rx_fx_some, rx_ax_some, rx_qx_some, rx_ox_some, rx_vx_ref, rx_ix_ref, rx_ld_0, rx_ld_2, rx_ld_3, rx_cx_some, rx_nl, List.getElem?_cons_zero, List.getElem?_cons_succ, List.set_cons_zero, List.set_cons_succ, List.length_cons, List.length_nil, List.take_succ_cons, List.take_zero, List.drop_succ_cons, List.drop_zero, List.reverse_cons, List.reverse_nil, List.nil_append, List.cons_append, Option.toList_some, Option.toList_none, true_and, and_true, and_self, true_or, or_true, false_and, and_false, false_or, or_false, not_false_eq_true, Nat.reduceAdd, Nat.reduceLT, Nat.reduceLeDiff, Nat.reduceBEq, Nat.reduceEqDiff, Bool.or_false, Bool.false_or, if_true, if_false, Bool.false_eq_true, nq_eq, nq_lt, nq_le, nq_in_t, nq_bd, nq_ft, nq_clamp, nq_shl31, nq_shr31, nq_bitb, nq_add, nq_mul, fa_and, fa_or, nq_b0, nq_b1, nq_b01, ↓ni_lt_t, ↓ni_lt_f, ↓ni_le_t, ↓ni_le_f, ↓ni_eq_t, ↓ni_eq_f, ↓ni_beq_t, ↓ni_beq_f, it_X5_run, it_X5_run_1]
        rw [← bfs_succ hen] at w2'
        exact ih (k + 1) h3 gF gW _ _ _ _ (by omega) (FT_trans hf (FT_trans hf2 (FS_FT w1'))) w2' ((w1'.2 51 (by omega) (by omega)).trans z2) ((w1'.2 50 (by omega) (by omega)).trans z3) hfn2 c
      · simp (disch := first | decide | omega) only [rx_W, rx_wp_succ, rx_nx_stop, rx_nx_go, rx_lx_some, rx_fx_some, rx_ax_some, rx_qx_some, rx_ox_some, rx_vx_ref, rx_ix_ref, rx_ld_0, rx_ld_2, rx_ld_3, rx_cx_some, rx_nl, List.getElem?_cons_zero, List.getElem?_cons_succ, List.set_cons_zero, List.set_cons_succ, List.length_cons, List.length_nil, List.take_succ_cons, List.take_zero, List.drop_succ_cons, List.drop_zero, List.reverse_cons, List.reverse_nil, List.nil_append, List.cons_append, Option.toList_some, Option.toList_none, true_and, and_true, and_self, true_or, or_true, false_and, and_false, false_or, or_false, not_false_eq_true, Nat.reduceAdd, Nat.reduceLT, Nat.reduceLeDiff, Nat.reduceBEq, Nat.reduceEqDiff, Bool.or_false, Bool.false_or, if_true, if_false, Bool.false_eq_true, nq_eq, nq_lt, nq_le, nq_in_t, nq_bd, nq_ft, nq_clamp, nq_shl31, nq_shr31, nq_bitb, nq_add, nq_mul, fa_and, fa_or, nq_b0, nq_b1, nq_b01, ↓ni_lt_t, ↓ni_lt_f, ↓ni_le_t, ↓ni_le_f, ↓ni_eq_t, ↓ni_eq_f, ↓ni_beq_t, ↓ni_beq_f, it_X5_run, it_X5_run_1, c, decide_false, Bool.not_false, Bool.toNat_true]
        rw [hno] at zm
        have cr : rsn n1 w1 n2 w2 en.1 ≤ mode := by
          apply Classical.byContradiction
          intro z
          rw [if_neg (fun y => z y.1)] at zm
          exact c zm
        rw [if_pos ⟨cr, rfl⟩] at zm
        refine hq h2 (FT_trans hf hf2) ⟨k, gF, gW, hs2, z2, z3, Or.inl ⟨?_, by omega, zm, fun e' he' => ?_⟩, fun m hm hm3 => ?_⟩
        · rcases hfn mode hmode with z | ⟨k0, f, q1', q2', q3', -⟩
          · exact ⟨en, hen, cr, z.2⟩
          · rw [q3'] at hno; exact absurd hno (nI_ne1 (by omega))
        · rw [hen] at he'
          cases he'
          rw [(z4 mode hmode).2, if_pos ⟨cr, hno⟩]
        · have c2 : ¬ gF m = -1 := by
            rw [(z4 m hm3).1]
            split
            · exact nI_ne1 (by omega)
            · next cc => exact fun z => cc ⟨by omega, z⟩
          rcases hfn2 m hm3 with z | ⟨k0, f, q1', q2', q3', q4', q5', q6'⟩
          · exact absurd z.1 c2
          · exact ⟨fun z => absurd z c2, fun z => (isF_NF n1 w1 n2 w2 q6' z).elim⟩
    · have hend : (bfs n1 w1 n2 w2 k)[k]? = none := List.getElem?_eq_none_iff.mpr (by omega)
      apply rx_wp_sound 60 [26, 95]
      simp (disch := first | decide | omega) only [rx_W, rx_wp_succ, rx_nx_stop, rx_nx_go, rx_lx_some, rx_fx_some, rx_ax_some, rx_qx_some, rx_ox_some, rx_vx_ref, rx_ix_ref, rx_ld_0, rx_ld_2, rx_ld_3, rx_cx_some, rx_nl, List.getElem?_cons_zero, List.getElem?_cons_succ, List.set_cons_zero, List.set_cons_succ, List.length_cons, List.length_nil, List.take_succ_cons, List.take_zero, List.drop_succ_cons, List.drop_zero, List.reverse_cons, List.reverse_nil, List.nil_append, List.cons_append, Option.toList_some, Option.toList_none, true_and, and_true, and_self, true_or, or_true, false_and, and_false, false_or, or_false, not_false_eq_true, Nat.reduceAdd, Nat.reduceLT, Nat.reduceLeDiff, Nat.reduceBEq, Nat.reduceEqDiff, Bool.or_false, Bool.false_or, if_true, if_false, Bool.false_eq_true, nq_eq, nq_lt, nq_le, nq_in_t, nq_bd, nq_ft, nq_clamp, nq_shl31, nq_shr31, nq_bitb, nq_add, nq_mul, fa_and, fa_or, nq_b0, nq_b1, nq_b01, ↓ni_lt_t, ↓ni_lt_f, ↓ni_le_t, ↓ni_le_f, ↓ni_eq_t, ↓ni_eq_f, ↓ni_beq_t, ↓ni_beq_f, it_X5_run, it_X5_run_1, h1, sO]
      refine hq h hf ⟨k, fF, fW, hs, hF, hW, Or.inr ⟨?_, hno⟩, fun m hm hm3 => ?_⟩
      · rcases hfn mode hmode with z | ⟨k0, f, f1, f2, f3, -⟩
        · exact noF_end n1 w1 n2 w2 hend z.2
        · rw [f3] at hno; exact absurd hno (nI_ne1 (by omega))
      · rcases hfn m hm3 with z | ⟨k0, f, f1, f2, f3, f4, f5, f6⟩
        · exact ⟨fun _ => noF_end n1 w1 n2 w2 hend z.2, fun _ => z.1⟩
        · exact ⟨fun z => absurd (f3.symm.trans z) (nI_ne1 (by omega)), fun z => (isF_NF n1 w1 n2 w2 f6 z).elim⟩
/-- the search's cells between calls -/
def sI (h : rx_H) : Prop := ∃ l fF fW, sQ h l ∧ (∀ (i : Nat) (e : eL), l[i]? = some e → e.1 < 65536) ∧ rx_rd h 51 = some (.inl (0, 3, .inl fF)) ∧ rx_rd h 50 = some (.inl (0, 3, .inl fW))
theorem sEnd_sI (h01 : 1 ≤ n1) (h02 : 1 ≤ n2) (hn1 : n1 ≤ 8) (hn2 : n2 ≤ 8) (hw1 : ∀ j, j < 40 → w1 j < 2 ^ n1) (hw2 : ∀ j, j < 40 → w2 j < 2 ^ n2) {h : rx_H} {mode : Nat} (hs : sEnd n1 w1 n2 w2 h mode) : sI h := by
  obtain ⟨K, fF, fW, a, b, c, -⟩ := hs
  refine ⟨_, fF, fW, a, fun i e he => ?_, b, c⟩
  have p8 : 2 ^ n1 ≤ 2 ^ 8 := Nat.pow_le_pow_right (by omega) hn1
  have := ((gL_bfs h01 h02 hn1 hn2 hw1 hw2 K).1 i e he).1
  omega
theorem c_X5_run {h : rx_H} {q1 q2 mode : Nat} (hmode : mode < 3) (hs : sI h) (hk1 : oK h q1 n1 w1) (hk2 : oK h q2 n2 w2) (hq1 : 56 ≤ q1 ∧ q1 + 5 ≤ 109) (hq2 : 56 ≤ q2 ∧ q2 + 5 ≤ 109) (h01 : 1 ≤ n1) (h02 : 1 ≤ n2) (hn1 : n1 ≤ 8) (hn2 : n2 ≤ 8) (hw1 : ∀ j, j < 40 → w1 j < 2 ^ n1) (hw2 : ∀ j, j < 40 → w2 j < 2 ^ n2) :
    rx_Cl 50 [.ref 49, .ref q1, .ref q2, .int (nI mode)] h (fun r h' => r = none ∧ FT h h' ∧ sEnd n1 w1 n2 w2 h' mode) := by
  obtain ⟨l, fF, fW, s1, s2, s3, s4⟩ := hs
  have s1' := s1
  obtain ⟨P1, P2, P3, kk, h1, -⟩ := s1'
  have a1 := sil1_lt h01 hn1 hw1
  have a2 := sil1_lt h02 hn2 hw2
  have d := pair_dm hn2 a1.1 a2.1
  apply en_X5_run _ _ _ _ 60 [26]
  simp (disch := first | decide | omega) only [rx_W, rx_wp_succ, rx_nx_stop, rx_nx_go, rx_lx_some, rx_fx_some, rx_ax_some, rx_qx_some, rx_ox_some, rx_vx_ref, rx_ix_ref, rx_ld_0, rx_ld_2, rx_ld_3, rx_cx_some, rx_nl, List.getElem?_cons_zero, List.getElem?_cons_succ, List.set_cons_zero, List.set_cons_succ, List.length_cons, List.length_nil, List.take_succ_cons, List.take_zero, List.drop_succ_cons, List.drop_zero, List.reverse_cons, List.reverse_nil, List.nil_append, List.cons_append, Option.toList_some, Option.toList_none, true_and, and_true, and_self, true_or, or_true, false_and, and_false, false_or, or_false, not_false_eq_true, Nat.reduceAdd, Nat.reduceLT, Nat.reduceLeDiff, Nat.reduceBEq, Nat.reduceEqDiff, Bool.or_false, Bool.false_or, if_true, if_false, Bool.false_eq_true, nq_eq, nq_lt, nq_le, nq_in_t, nq_bd, nq_ft, nq_clamp, nq_shl31, nq_shr31, nq_bitb, nq_add, nq_mul, fa_and, fa_or, nq_b0, nq_b1, nq_b01, ↓ni_lt_t, ↓ni_lt_f, ↓ni_le_t, ↓ni_le_f, ↓ni_eq_t, ↓ni_eq_f, ↓ni_beq_t, ↓ni_beq_f, it_X5_run, it_X5_run_1, h1, sO]
  refine rx_Cl_imp (c_X5_forget s1 s2 s3) (fun r h2 ⟨e2, z1, z2, z3, g, z4, z5⟩ => ?_)
  subst e2
  have z3' := z3
  obtain ⟨P1', P2', P3', kk', h1', -⟩ := z3'
  have hk1' := oK_sm (FT_sm z1) hq1.1 hq1.2 hk1
  have hk2' := oK_sm (FT_sm z1) hq2.1 hq2.2 hk2
  have hk1c := hk1'
  obtain ⟨lo, O, R, N, F, A, ho, -⟩ := hk1c
  have hk2c := hk2'
  obtain ⟨lo', O', R', N', F', A', ho', -⟩ := hk2c
  simp (disch := first | decide | omega) only [rx_W, rx_wp_succ, rx_nx_stop, rx_nx_go, rx_lx_some, rx_fx_some, rx_ax_some, rx_qx_some, rx_ox_some, rx_vx_ref, rx_ix_ref, rx_ld_0, rx_ld_2, rx_ld_3, rx_cx_some, rx_nl, List.getElem?_cons_zero, List.getElem?_cons_succ, List.set_cons_zero, List.set_cons_succ, List.length_cons, List.length_nil, List.take_succ_cons, List.take_zero, List.drop_succ_cons, List.drop_zero, List.reverse_cons, List.reverse_nil, List.nil_append, List.cons_append, Option.toList_some, Option.toList_none, true_and, and_true, and_self, true_or, or_true, false_and, and_false, false_or, or_false, not_false_eq_true, Nat.reduceAdd, Nat.reduceLT, Nat.reduceLeDiff, Nat.reduceBEq, Nat.reduceEqDiff, Bool.or_false, Bool.false_or, if_true, if_false, Bool.false_eq_true, nq_eq, nq_lt, nq_le, nq_in_t, nq_bd, nq_ft, nq_clamp, nq_shl31, nq_shr31, nq_bitb, nq_add, nq_mul, fa_and, fa_or, nq_b0, nq_b1, nq_b01, ↓ni_lt_t, ↓ni_lt_f, ↓ni_le_t, ↓ni_le_f, ↓ni_eq_t, ↓ni_eq_f, ↓ni_beq_t, ↓ni_beq_f, it_X5_run, it_X5_run_1, q_X1_start hk1' h01 hn1 hw1, q_X1_start hk2' h02 hn2 hw2, ho.1, ho.2, ho'.1, ho'.2, h1', sO]
  refine rx_Cl_imp (c_X5_enqueue (k := 0) (a := 0) z3 (gL_nil n1 n2) hn1 d.1 d.2.1 (by omega) (fun z => by simp at z)) (fun r h3 ⟨e3, y1, y2⟩ => ?_)
  subst e3
  simp (disch := first | decide | omega) only [rx_W, rx_wp_succ, rx_nx_stop, rx_nx_go, rx_lx_some, rx_fx_some, rx_ax_some, rx_qx_some, rx_ox_some, rx_vx_ref, rx_ix_ref, rx_ld_0, rx_ld_2, rx_ld_3, rx_cx_some, rx_nl, List.getElem?_cons_zero, List.getElem?_cons_succ, List.set_cons_zero, List.set_cons_succ, List.length_cons, List.length_nil, List.take_succ_cons, List.take_zero, List.drop_succ_cons, List.drop_zero, List.reverse_cons, List.reverse_nil, List.nil_append, List.cons_append, Option.toList_some, Option.toList_none, true_and, and_true, and_self, true_or, or_true, false_and, and_false, false_or, or_false, not_false_eq_true, Nat.reduceAdd, Nat.reduceLT, Nat.reduceLeDiff, Nat.reduceBEq, Nat.reduceEqDiff, Bool.or_false, Bool.false_or, if_true, if_false, Bool.false_eq_true, nq_eq, nq_lt, nq_le, nq_in_t, nq_bd, nq_ft, nq_clamp, nq_shl31, nq_shr31, nq_bitb, nq_add, nq_mul, fa_and, fa_or, nq_b0, nq_b1, nq_b01, ↓ni_lt_t, ↓ni_lt_f, ↓ni_le_t, ↓ni_le_f, ↓ni_eq_t, ↓ni_eq_f, ↓ni_beq_t, ↓ni_beq_f, it_X5_run, it_X5_run_1]
  have y2 : sQ h3 (bfs n1 w1 n2 w2 0) := y2
  refine l_X5_run (h0 := h) hmode hk1 hk2 hq1 hq2 h01 h02 hn1 hn2 hw1 hw2 _ (fun h4 x1 x2 => ⟨rfl, x1, x2⟩) 65537 0 h3 g fW _ _ _ _ (by omega) (FT_trans z1 (FS_FT y1)) y2 ((y1.2 51 (by omega) (by omega)).trans z4) ((y1.2 50 (by omega) (by omega)).trans (z2.trans s4)) (fun m hm => Or.inl ⟨z5 m hm, fun i hi => by omega⟩) (z5 mode hmode)
end RUN
