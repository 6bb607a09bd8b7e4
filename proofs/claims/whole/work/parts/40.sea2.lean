/-- as FS, found and why too -/
def FT (h h' : rx_H) : Prop := h.1 ≤ h'.1 ∧ ∀ i, i < 110 → (i < 49 ∨ 55 < i) → rx_rd h' i = rx_rd h i
theorem FT_rfl (h : rx_H) : FT h h := ⟨Nat.le_refl _, fun _ _ _ => rfl⟩
theorem FT_trans {h h1 h2 : rx_H} (x : FT h h1) (y : FT h1 h2) : FT h h2 := ⟨Nat.le_trans x.1 y.1, fun i z1 z2 => (y.2 i z1 z2).trans (x.2 i z1 z2)⟩
theorem FT_sm {h h' : rx_H} (x : FT h h') : Sm h h' 56 109 := fun i z1 z2 => x.2 i (by omega) (by omega)
theorem FT_sl {h h' : rx_H} (x : FT h h') : Sm h h' 0 48 := fun i z1 z2 => x.2 i (by omega) (by omega)
theorem FS_FT {h h' : rx_H} (x : FS h h') : FT h h' := ⟨x.1, fun i z1 z2 => x.2 i z1 (by omega)⟩
theorem FT_fr {h h' : rx_H} {A : List Nat} (hf : Fr h h' A) (hA : ∀ i ∈ A, 48 < i ∧ i < 56 ∨ 109 < i) : FT h h' := ⟨Nat.le_of_eq hf.1.symm, fun i z1 z2 => hf.2.2 i (fun z => by have := hA i z; omega)⟩
theorem sn_up {sn : Nat → Nat} {l : List eL} {x k a : Nat} (hB : ∀ y, y < 65536 → (sn (y / 32)).testBit (y % 32) = inL l y) : ∀ y, y < 65536 → (va_up sn (x / 32) (sn (x / 32) ||| 2 ^ (x % 32)) (y / 32)).testBit (y % 32) = inL (l ++ [(x, k, a)]) y := by
  intro y hy
  rw [inL_app, ← hB y hy]
  unfold va_up
  by_cases e : y / 32 = x / 32
  · rw [if_pos e, Nat.testBit_or, Nat.testBit_two_pow, e]
    congr 1
    show decide (x % 32 = y % 32) = (x == y)
    by_cases e2 : x = y
    · subst e2; simp
    · have : ¬ x % 32 = y % 32 := by omega
      simp [this, e2]
  · rw [if_neg e]
    have : ¬ x = y := fun z => e (by rw [z])
    show _ = (_ || (x == y))
    simp [this]
theorem l_X5_enq {h : rx_H} {l : List eL} {P1 P2 P3 kk x k a : Nat} {pv : Int32} (h1 : rx_rd h 49 = some (sO P1 P2 P3 l.length)) (hP : okP h P1 P2 P3) (hR : sR h l P1 P2 P3 kk) (hB : sB h l) (hlt : l.length < 64 * 2 ^ kk) (hx : x < 65536) (ha : a < 4) (hpv : 0 < l.length → pv = nI k) (Q : Option Value → rx_H → Prop) (hq : ∀ h', FS h h' → sQ h' (l ++ [(x, k, a)]) → Q none h') :
    rx_R 55 49 [.ref 49, .int (nI x), .int pv, .int (nI a), .int (nI (2 ^ (x % 32)))] [] h Q := by
  obtain ⟨r1, r2, r3, r4, r5, f1, f2, f3, g1, g2, g3, g4⟩ := hR
  have hP' := hP
  obtain ⟨⟨o1, o2, o3, o4, o5, o6⟩, p1, p2, p3, q1, q2, q3⟩ := hP'
  obtain ⟨sn, ⟨f, s1, s2⟩, s3⟩ := hB
  have h2k : 2 ^ kk ≤ 2 ^ 10 := Nat.pow_le_pow_right (by omega) r1
  have ha' := fa_byte_small (n := a) (by omega)
  have s4 := s2 (x / 32) (by omega)
  apply rx_wp_sound 80 []
  simp (disch := first | decide | omega) only [rx_W, rx_wp_succ, rx_nx_stop, rx_nx_go, rx_lx_some, rx_fx_some, rx_ax_some, rx_qx_some, rx_ox_some, rx_vx_ref, rx_ix_ref, rx_ld_0, rx_ld_2, rx_ld_3, rx_cx_some, rx_nl, List.getElem?_cons_zero, List.getElem?_cons_succ, List.set_cons_zero, List.set_cons_succ, List.length_cons, List.length_nil, List.take_succ_cons, List.take_zero, List.drop_succ_cons, List.drop_zero, List.reverse_cons, List.reverse_nil, List.nil_append, List.cons_append, Option.toList_some, Option.toList_none, true_and, and_true, and_self, true_or, or_true, false_and, and_false, false_or, or_false, not_false_eq_true, Nat.reduceAdd, Nat.reduceLT, Nat.reduceLeDiff, Nat.reduceBEq, Nat.reduceEqDiff, Bool.or_false, Bool.false_or, if_true, if_false, Bool.false_eq_true, nq_eq, nq_lt, nq_le, nq_in_t, nq_bd, nq_ft, nq_clamp, nq_shl31, nq_shr31, nq_bitb, nq_add, nq_mul, fa_and, fa_or, nq_b0, nq_b1, nq_b01, ↓ni_lt_t, ↓ni_lt_f, ↓ni_le_t, ↓ni_le_f, ↓ni_eq_t, ↓ni_eq_f, ↓ni_beq_t, ↓ni_beq_f, it_X5_enqueue, h1, sO, g1, g2, g3, s1, s4, nq_div, rd_eq, rd_ne, rx_ft, ha']
  refine ⟨by omega, by omega, by omega, hq _ ?_ ?_⟩
  · exact FS_up (FS_up (FS_up (FS_up (FS_up (FS_rfl h) (by omega)) (by omega)) (by omega)) (by omega)) (by omega)
  refine ⟨P1, P2, P3, kk, ?_, hP, ⟨r1, r2, r3, r4, by simp; omega, upd f1 l.length (nI x), upd f2 l.length pv, upd f3 l.length (nI a), ?_, ?_, ?_, fun i e he => ?_⟩, va_up sn (x / 32) (sn (x / 32) ||| 2 ^ (x % 32)), ⟨upd f (x / 32) (nI (sn (x / 32) ||| 2 ^ (x % 32))), ?_, aN_upd s2 _ _⟩, sn_up s3⟩
  · rw [rd_eq, List.length_append]; rfl
  · rw [rd_ne (by omega), rd_ne (by omega), rd_ne (by omega), rd_eq]
  · rw [rd_ne (by omega), rd_ne (by omega), rd_eq]
  · rw [rd_ne (by omega), rd_eq]
  · rcases get_app.mp he with z | ⟨z1, z2⟩
    · have := get_lt z
      obtain ⟨y1, y2, y3, y4⟩ := g4 i e z
      unfold upd
      rw [if_neg (by omega), if_neg (by omega), if_neg (by omega)]
      exact ⟨y1, y2, y3, y4⟩
    · subst z1; subst z2
      unfold upd
      rw [if_pos rfl, if_pos rfl, if_pos rfl]
      exact ⟨rfl, hpv, rfl, ha⟩
  · rw [rd_ne (by omega), rd_ne (by omega), rd_ne (by omega), rd_ne (by omega), rd_eq]
theorem c_X5_enqueue {h : rx_H} {l : List eL} {n1 n2 x k a : Nat} {pv : Int32} (hq : sQ h l) (hg : gL n1 n2 l) (hn1 : n1 ≤ 8) (hx1 : x / 256 < 2 ^ n1) (hx2 : x % 256 < 2 ^ n2) (ha : a < 4) (hpv : 0 < l.length → pv = nI k) : rx_Cl 55 [.ref 49, .int (nI x), .int pv, .int (nI a)] h (fun r h' => r = none ∧ FS h h' ∧ sQ h' (enq l x k a)) := by
  have hq' := hq
  obtain ⟨P1, P2, P3, kk, h1, hP, hR, hB⟩ := hq'
  have p8 : 2 ^ n1 ≤ 2 ^ 8 := Nat.pow_le_pow_right (by omega) hn1
  have hx : x < 65536 := by omega
  have em : x - x / 32 * 32 = x % 32 := by omega
  have hB' := hB
  obtain ⟨sn, ⟨f, s1, s2⟩, s3⟩ := hB'
  have s4 := s2 (x / 32) (by omega)
  have s5 := s3 x hx
  have hR' := hR
  obtain ⟨r1, r2, r3, r4, r5, f1, f2, f3, g1, g2, g3, g4⟩ := hR'
  have h2k : 2 ^ kk ≤ 2 ^ 10 := Nat.pow_le_pow_right (by omega) r1
  have hl1 := gL_len hn1 hg
  cases hin : inL l x with
  | true =>
    rw [hin] at s5
    apply en_X5_enqueue _ _ _ _ 80 []
    simp (disch := first | decide | omega) only [rx_W, rx_wp_succ, rx_nx_stop, rx_nx_go, rx_lx_some, rx_fx_some, rx_ax_some, rx_qx_some, rx_ox_some, rx_vx_ref, rx_ix_ref, rx_ld_0, rx_ld_2, rx_ld_3, rx_cx_some, rx_nl, List.getElem?_cons_zero, List.getElem?_cons_succ, List.set_cons_zero, List.set_cons_succ, List.length_cons, List.length_nil, List.take_succ_cons, List.take_zero, List.drop_succ_cons, List.drop_zero, List.reverse_cons, List.reverse_nil, List.nil_append, List.cons_append, Option.toList_some, Option.toList_none, true_and, and_true, and_self, true_or, or_true, false_and, and_false, false_or, or_false, not_false_eq_true, Nat.reduceAdd, Nat.reduceLT, Nat.reduceLeDiff, Nat.reduceBEq, Nat.reduceEqDiff, Bool.or_false, Bool.false_or, if_true, if_false, Bool.false_eq_true, nq_eq, nq_lt, nq_le, nq_in_t, nq_bd, nq_ft, nq_clamp, nq_shl31, nq_shr31, nq_bitb, nq_add, nq_mul, fa_and, fa_or, nq_b0, nq_b1, nq_b01, ↓ni_lt_t, ↓ni_lt_f, ↓ni_le_t, ↓ni_le_f, ↓ni_eq_t, ↓ni_eq_f, ↓ni_beq_t, ↓ni_beq_f, it_X5_enqueue, h1, sO, s1, s4, nq_div, nq_sub, em, Nat.one_mul, nq_and_pow, s5]
    unfold enq
    rw [if_pos hin]
    exact ⟨FS_rfl h, hq⟩
  | false =>
    have hroom := gL_room hn1 hg hx1 hx2 hin
    have ee : enq l x k a = l ++ [(x, k, a)] := by
      unfold enq
      rw [if_neg (by rw [hin]; simp)]
    rw [hin] at s5
    rw [ee]
    by_cases hc : l.length = 64 * 2 ^ kk
    · apply en_X5_enqueue _ _ _ _ 80 [49]
      simp (disch := first | decide | omega) only [rx_W, rx_wp_succ, rx_nx_stop, rx_nx_go, rx_lx_some, rx_fx_some, rx_ax_some, rx_qx_some, rx_ox_some, rx_vx_ref, rx_ix_ref, rx_ld_0, rx_ld_2, rx_ld_3, rx_cx_some, rx_nl, List.getElem?_cons_zero, List.getElem?_cons_succ, List.set_cons_zero, List.set_cons_succ, List.length_cons, List.length_nil, List.take_succ_cons, List.take_zero, List.drop_succ_cons, List.drop_zero, List.reverse_cons, List.reverse_nil, List.nil_append, List.cons_append, Option.toList_some, Option.toList_none, true_and, and_true, and_self, true_or, or_true, false_and, and_false, false_or, or_false, not_false_eq_true, Nat.reduceAdd, Nat.reduceLT, Nat.reduceLeDiff, Nat.reduceBEq, Nat.reduceEqDiff, Bool.or_false, Bool.false_or, if_true, if_false, Bool.false_eq_true, nq_eq, nq_lt, nq_le, nq_in_t, nq_bd, nq_ft, nq_clamp, nq_shl31, nq_shr31, nq_bitb, nq_add, nq_mul, fa_and, fa_or, nq_b0, nq_b1, nq_b01, ↓ni_lt_t, ↓ni_lt_f, ↓ni_le_t, ↓ni_le_f, ↓ni_eq_t, ↓ni_eq_f, ↓ni_beq_t, ↓ni_beq_f, it_X5_enqueue, h1, sO, s1, s4, nq_div, nq_sub, em, Nat.one_mul, nq_and_pow, s5, g1, io_nI]
      refine rx_Cl_imp (c_X5_grow h1 hP hR hB hc hroom) (fun r h' ⟨e, z1, P1', P2', P3', kk', z2, z3, z4, z5, z6⟩ => ?_)
      subst e
      simp (disch := first | decide | omega) only [rx_W, rx_wp_succ, rx_nx_stop, rx_nx_go, rx_lx_some, rx_fx_some, rx_ax_some, rx_qx_some, rx_ox_some, rx_vx_ref, rx_ix_ref, rx_ld_0, rx_ld_2, rx_ld_3, rx_cx_some, rx_nl, List.getElem?_cons_zero, List.getElem?_cons_succ, List.set_cons_zero, List.set_cons_succ, List.length_cons, List.length_nil, List.take_succ_cons, List.take_zero, List.drop_succ_cons, List.drop_zero, List.reverse_cons, List.reverse_nil, List.nil_append, List.cons_append, Option.toList_some, Option.toList_none, true_and, and_true, and_self, true_or, or_true, false_and, and_false, false_or, or_false, not_false_eq_true, Nat.reduceAdd, Nat.reduceLT, Nat.reduceLeDiff, Nat.reduceBEq, Nat.reduceEqDiff, Bool.or_false, Bool.false_or, if_true, if_false, Bool.false_eq_true, it_X5_enqueue]
      exact l_X5_enq z2 z3 z4 z5 z6 hx ha hpv _ (fun h2 y1 y2 => ⟨rfl, FS_trans z1 y1, y2⟩)
    · have hc2 : l.length < 64 * 2 ^ kk := by omega
      apply en_X5_enqueue _ _ _ _ 80 [49]
      simp (disch := first | decide | omega) only [rx_W, rx_wp_succ, rx_nx_stop, rx_nx_go, rx_lx_some, rx_fx_some, rx_ax_some, rx_qx_some, rx_ox_some, rx_vx_ref, rx_ix_ref, rx_ld_0, rx_ld_2, rx_ld_3, rx_cx_some, rx_nl, List.getElem?_cons_zero, List.getElem?_cons_succ, List.set_cons_zero, List.set_cons_succ, List.length_cons, List.length_nil, List.take_succ_cons, List.take_zero, List.drop_succ_cons, List.drop_zero, List.reverse_cons, List.reverse_nil, List.nil_append, List.cons_append, Option.toList_some, Option.toList_none, true_and, and_true, and_self, true_or, or_true, false_and, and_false, false_or, or_false, not_false_eq_true, Nat.reduceAdd, Nat.reduceLT, Nat.reduceLeDiff, Nat.reduceBEq, Nat.reduceEqDiff, Bool.or_false, Bool.false_or, if_true, if_false, Bool.false_eq_true, nq_eq, nq_lt, nq_le, nq_in_t, nq_bd, nq_ft, nq_clamp, nq_shl31, nq_shr31, nq_bitb, nq_add, nq_mul, fa_and, fa_or, nq_b0, nq_b1, nq_b01, ↓ni_lt_t, ↓ni_lt_f, ↓ni_le_t, ↓ni_le_f, ↓ni_eq_t, ↓ni_eq_f, ↓ni_beq_t, ↓ni_beq_f, it_X5_enqueue, h1, sO, s1, s4, nq_div, nq_sub, em, Nat.one_mul, nq_and_pow, s5, g1, io_nI]
      exact l_X5_enq h1 hP hR hB hc2 hx ha hpv _ (fun h2 y1 y2 => ⟨rfl, y1, y2⟩)
