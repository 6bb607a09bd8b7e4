def mQ (h : rx_H) (pa le pl : Int32) (z : Int64) (l : List eL) : Prop := rx_rd h 98 = some (mO pa le pl (nI l.length) z) ∧ (∃ f1 f2, rx_rd h 107 = some (.inl (0, 65536, .inl f1)) ∧ rx_rd h 108 = some (.inl (0, 65536, .inl f2)) ∧ ∀ (i : Nat) (e : eL), l[i]? = some e → f1 i = nI e.1 ∧ f2 i = nI (4 * e.2.1 + e.2.2)) ∧ ∃ sn, aN h 109 2048 sn ∧ ∀ x, x < 65536 → (sn (x / 32)).testBit (x % 32) = inL l x
theorem c_X8_comes {h : rx_H} {pa le pl : Int32} {z : Int64} {l : List eL} {n1 n2 x k a : Nat} (hq : mQ h pa le pl z l) (hg : gL n1 n2 l) (hn1 : n1 ≤ 8) (hx1 : x / 256 < 2 ^ n1) (hx2 : x % 256 < 2 ^ n2) (ha : a < 4) (hk : k < 65536) : rx_Cl 157 [.ref 98, .int (nI x), .int (nI k), .int (nI a)] h (fun r h' => r = none ∧ Fr h h' [98, 107, 108, 109] ∧ mQ h' pa le pl z (if x / 256 = 0 then l else enq l x k a)) := by
  have hq' := hq
  obtain ⟨h1, ⟨f1, f2, g1, g2, g3⟩, sn, ⟨f, s1, s2⟩, s3⟩ := hq'
  have p8 : 2 ^ n1 ≤ 2 ^ 8 := Nat.pow_le_pow_right (by omega) hn1
  have hx : x < 65536 := by omega
  have e8 : x / 2 ^ 8 = x / 256 := rfl
  have e5 : x / 2 ^ 5 = x / 32 := rfl
  have e31 : x &&& 31 = x % 32 := Nat.and_two_pow_sub_one_eq_mod x 5
  have s4 := s2 (x / 32) (by omega)
  have s5 := s3 x hx
  have hl1 := gL_len hn1 hg
  apply en_X8_comes _ _ _ _ 80 []
  by_cases c1 : x / 256 = 0
  · simp (disch := first | decide | omega) only [rx_W, rx_wp_succ, rx_nx_stop, rx_nx_go, rx_lx_some, rx_fx_some, rx_ax_some, rx_qx_some, rx_ox_some, rx_vx_ref, rx_ix_ref, rx_ld_0, rx_ld_2, rx_ld_3, rx_cx_some, rx_nl, List.getElem?_cons_zero, List.getElem?_cons_succ, List.set_cons_zero, List.set_cons_succ, List.length_cons, List.length_nil, List.take_succ_cons, List.take_zero, List.drop_succ_cons, List.drop_zero, List.reverse_cons, List.reverse_nil, List.nil_append, List.cons_append, Option.toList_some, Option.toList_none, true_and, and_true, and_self, true_or, or_true, false_and, and_false, false_or, or_false, not_false_eq_true, Nat.reduceAdd, Nat.reduceLT, Nat.reduceLeDiff, Nat.reduceBEq, Nat.reduceEqDiff, Bool.or_false, Bool.false_or, if_true, if_false, Bool.false_eq_true, nq_eq, nq_lt, nq_le, nq_in_t, nq_bd, nq_ft, nq_clamp, nq_shl31, nq_shr31, nq_bitb, nq_add, nq_mul, fa_and, fa_or, nq_b0, nq_b1, nq_b01, ↓ni_lt_t, ↓ni_lt_f, ↓ni_le_t, ↓ni_le_f, ↓ni_eq_t, ↓ni_eq_f, ↓ni_beq_t, ↓ni_beq_f, it_X8_comes, e8, c1]
    exact ⟨Fr_rfl _ _, hq⟩
  · cases hin : inL l x with
    | true =>
      rw [hin] at s5
      simp (disch := first | decide | omega) only [rx_W, rx_wp_succ, rx_nx_stop, rx_nx_go, rx_lx_some, rx_fx_some, rx_ax_some, rx_qx_some, rx_ox_some, rx_vx_ref, rx_ix_ref, rx_ld_0, rx_ld_2, rx_ld_3, rx_cx_some, rx_nl, List.getElem?_cons_zero, List.getElem?_cons_succ, List.set_cons_zero, List.set_cons_succ, List.length_cons, List.length_nil, List.take_succ_cons, List.take_zero, List.drop_succ_cons, List.drop_zero, List.reverse_cons, List.reverse_nil, List.nil_append, List.cons_append, Option.toList_some, Option.toList_none, true_and, and_true, and_self, true_or, or_true, false_and, and_false, false_or, or_false, not_false_eq_true, Nat.reduceAdd, Nat.reduceLT, Nat.reduceLeDiff, Nat.reduceBEq, Nat.reduceEqDiff, Bool.or_false, Bool.false_or, if_true, if_false, Bool.false_eq_true, nq_eq, nq_lt, nq_le, nq_in_t, nq_bd, nq_ft, nq_clamp, nq_shl31, nq_shr31, nq_bitb, nq_add, nq_mul, fa_and, fa_or, nq_b0, nq_b1, nq_b01, ↓ni_lt_t, ↓ni_lt_f, ↓ni_le_t, ↓ni_le_f, ↓ni_eq_t, ↓ni_eq_f, ↓ni_beq_t, ↓ni_beq_f, it_X8_comes, e8, e5, e31, c1, h1, mO, s1, s4, q_X8_has32, s5]
      unfold enq
      rw [if_pos hin]
      exact ⟨Fr_rfl _ _, hq⟩
    | false =>
      have hroom := gL_room hn1 hg hx1 hx2 hin
      rw [hin] at s5
      simp (disch := first | decide | omega) only [rx_W, rx_wp_succ, rx_nx_stop, rx_nx_go, rx_lx_some, rx_fx_some, rx_ax_some, rx_qx_some, rx_ox_some, rx_vx_ref, rx_ix_ref, rx_ld_0, rx_ld_2, rx_ld_3, rx_cx_some, rx_nl, List.getElem?_cons_zero, List.getElem?_cons_succ, List.set_cons_zero, List.set_cons_succ, List.length_cons, List.length_nil, List.take_succ_cons, List.take_zero, List.drop_succ_cons, List.drop_zero, List.reverse_cons, List.reverse_nil, List.nil_append, List.cons_append, Option.toList_some, Option.toList_none, true_and, and_true, and_self, true_or, or_true, false_and, and_false, false_or, or_false, not_false_eq_true, Nat.reduceAdd, Nat.reduceLT, Nat.reduceLeDiff, Nat.reduceBEq, Nat.reduceEqDiff, Bool.or_false, Bool.false_or, if_true, if_false, Bool.false_eq_true, nq_eq, nq_lt, nq_le, nq_in_t, nq_bd, nq_ft, nq_clamp, nq_shl31, nq_shr31, nq_bitb, nq_add, nq_mul, fa_and, fa_or, nq_b0, nq_b1, nq_b01, ↓ni_lt_t, ↓ni_lt_f, ↓ni_le_t, ↓ni_le_f, ↓ni_eq_t, ↓ni_eq_f, ↓ni_beq_t, ↓ni_beq_f, it_X8_comes, e8, e5, e31, c1, h1, mO, s1, s4, g1, g2, q_X8_has32, s5, rd_eq, rd_ne, rx_ft, Nat.one_mul]
      unfold enq
      rw [if_neg (by rw [hin]; simp)]
      refine ⟨Fr_up (Fr_up (Fr_up (Fr_up (Fr_rfl _ _) (by simp)) (by simp)) (by simp)) (by simp), ?_, ⟨upd f1 l.length (nI x), upd f2 l.length (nI (4 * k + a)), ?_, ?_, fun i e he => ?_⟩, va_up sn (x / 32) (sn (x / 32) ||| 2 ^ (x % 32)), ⟨upd f (x / 32) (nI (sn (x / 32) ||| 2 ^ (x % 32))), ?_, aN_upd s2 _ _⟩, sn_up s3⟩
      · rw [rd_eq, List.length_append]; rfl
      · rw [rd_ne (by omega), rd_ne (by omega), rd_eq]
      · rw [rd_ne (by omega), rd_eq]
      · rcases get_app.mp he with y | ⟨y1, y2⟩
        · have := get_lt y
          unfold upd
          rw [if_neg (by omega), if_neg (by omega)]
          exact g3 i e y
        · subst y1; subst y2
          unfold upd
          rw [if_pos rfl, if_pos rfl]
          exact ⟨rfl, rfl⟩
      · rw [rd_ne (by omega), rd_ne (by omega), rd_ne (by omega), rd_eq]
theorem pair_or {A B : Nat} (hB : B < 256) : A * 2 ^ 8 ||| B = A * 256 + B := by
  have := Nat.two_pow_add_eq_or_of_lt (i := 8) hB A
  rw [Nat.mul_comm] at this
  rw [← this]
theorem mQ_mN {h h0 : rx_H} {pa le pl : Int32} {z : Int64} {l : List eL} {v : Nat → Nat} (hq : mQ h pa le pl z l) (hf : Fr h0 h [98, 107, 108, 109]) (hv : aN h0 99 164 v) : mN h v := ⟨⟨pa, le, pl, _, z, hq.1⟩, aN_fr hf (by simp) hv⟩
section FA
variable {h0 : rx_H} {v : Nat → Nat} {p q mode : Nat} {pa le pl : Int32} {z : Int64}
theorem l_X8_faA {k x : Nat} {l : List eL} (hv : aN h0 99 164 v) (hp : p < 4) (hq : q < 4) (hn1 : v (41 * p) ≤ 8) (hn2 : v (41 * q) ≤ 8) (hw1 : ∀ j, j < 40 → wq v p j < 2 ^ v (41 * p)) (hw2 : ∀ j, j < 40 → wq v q j < 2 ^ v (41 * q)) (hz1 : zr (v (41 * p)) (wq v p)) (hz2 : zr (v (41 * q)) (wq v q)) (hg : gL (v (41 * p)) (v (41 * q)) l) (hkl : k < l.length) (hm1 : x / 256 < 2 ^ v (41 * p)) (hm2 : x % 256 < 2 ^ v (41 * q)) (Q : Option Value → rx_H → Prop)
    (hQ : ∀ h, Fr h0 h [98, 107, 108, 109] → mQ h pa le pl z (exA (v (41 * p)) (wq v p) (v (41 * q)) (wq v q) x k 4 l) → rx_R 158 162 [.ref 98, .int (nI p), .int (nI q), .int (nI mode), .int (nI k), .int (nI (x / 256)), .int (nI (x % 256)), .int (nI 4)] [] h Q) :
    ∀ j a h, a + j = 4 → Fr h0 h [98, 107, 108, 109] → mQ h pa le pl z (exA (v (41 * p)) (wq v p) (v (41 * q)) (wq v q) x k a l) → rx_R 158 110 [.ref 98, .int (nI p), .int (nI q), .int (nI mode), .int (nI k), .int (nI (x / 256)), .int (nI (x % 256)), .int (nI a)] [] h Q
  | 0, a, h, e, hf, hs => by
    have e' : a = 4 := by omega
    subst e'
    apply rx_wp_sound 40 [110, 162]
    simp (disch := first | decide | omega) only [rx_W, rx_wp_succ, rx_nx_stop, rx_nx_go, rx_lx_some, rx_fx_some, rx_ax_some, rx_qx_some, rx_ox_some, rx_vx_ref, rx_ix_ref, rx_ld_0, rx_ld_2, rx_ld_3, rx_cx_some, rx_nl, List.getElem?_cons_zero, List.getElem?_cons_succ, List.set_cons_zero, List.set_cons_succ, List.length_cons, List.length_nil, List.take_succ_cons, List.take_zero, List.drop_succ_cons, List.drop_zero, List.reverse_cons, List.reverse_nil, List.nil_append, List.cons_append, Option.toList_some, Option.toList_none, true_and, and_true, and_self, true_or, or_true, false_and, and_false, false_or, or_false, not_false_eq_true, Nat.reduceAdd, Nat.reduceLT, Nat.reduceLeDiff, Nat.reduceBEq, Nat.reduceEqDiff, Bool.or_false, Bool.false_or, if_true, if_false, Bool.false_eq_true, nq_eq, nq_lt, nq_le, nq_in_t, nq_bd, nq_ft, nq_clamp, nq_shl31, nq_shr31, nq_bitb, nq_add, nq_mul, fa_and, fa_or, nq_b0, nq_b1, nq_b01, ↓ni_lt_t, ↓ni_lt_f, ↓ni_le_t, ↓ni_le_f, ↓ni_eq_t, ↓ni_eq_f, ↓ni_beq_t, ↓ni_beq_f, it_X8_faultAt, it_X8_faultAt_1]
    exact hQ h hf hs
  | j + 1, a, h, e, hf, hs => by
    have ih := fun h => l_X8_faA hv hp hq hn1 hn2 hw1 hw2 hz1 hz2 hg hkl hm1 hm2 Q hQ j (a + 1) h (by omega)
    have hm := mQ_mN hs hf hv
    have e1 : exA (v (41 * p)) (wq v p) (v (41 * q)) (wq v q) x k (a + 1) l = sA (v (41 * p)) (wq v p) (v (41 * q)) (wq v q) x k a (exA (v (41 * p)) (wq v p) (v (41 * q)) (wq v q) x k a l) := rfl
    have p8 : 2 ^ v (41 * p) ≤ 2 ^ 8 := Nat.pow_le_pow_right (by omega) hn1
    have p82 : 2 ^ v (41 * q) ≤ 2 ^ 8 := Nat.pow_le_pow_right (by omega) hn2
    have a1 := aft_lt hn1 hw1 (x / 256) (a := a) (by omega)
    have a2 := aft_lt hn2 hw2 (x % 256) (a := a) (by omega)
    have d := pair_dm hn2 a1 a2
    have hgl := gL_exA hn1 hn2 hw1 hw2 hg hkl a (x := x) (by omega)
    have l1 := led_lt a (by omega) hn1 hw1 (x / 256)
    have l2 := led_lt a (by omega) hn2 hw2 (x % 256)
    have la : a < 5 := by omega
    have eo : sil (v (41 * p)) (wq v p) (led (wq v p) a (v (41 * p)) (x / 256)) * 2 ^ 8 ||| sil (v (41 * q)) (wq v q) (led (wq v q) a (v (41 * q)) (x % 256)) = aft (v (41 * p)) (wq v p) (x / 256) a * 256 + aft (v (41 * q)) (wq v q) (x % 256) a := pair_or (A := aft (v (41 * p)) (wq v p) (x / 256) a) (B := aft (v (41 * q)) (wq v q) (x % 256) a) (by omega)
    have hkk : k < 65536 := by have := gL_len hn1 hg; omega
    apply rx_wp_sound 60 [110, 162]
    simp (disch := first | decide | omega) only [rx_W, rx_wp_succ, rx_nx_stop, rx_nx_go, rx_lx_some, rx_fx_some, rx_ax_some, rx_qx_some, rx_ox_some, rx_vx_ref, rx_ix_ref, rx_ld_0, rx_ld_2, rx_ld_3, rx_cx_some, rx_nl, List.getElem?_cons_zero, List.getElem?_cons_succ, List.set_cons_zero, List.set_cons_succ, List.length_cons, List.length_nil, List.take_succ_cons, List.take_zero, List.drop_succ_cons, List.drop_zero, List.reverse_cons, List.reverse_nil, List.nil_append, List.cons_append, Option.toList_some, Option.toList_none, true_and, and_true, and_self, true_or, or_true, false_and, and_false, false_or, or_false, not_false_eq_true, Nat.reduceAdd, Nat.reduceLT, Nat.reduceLeDiff, Nat.reduceBEq, Nat.reduceEqDiff, Bool.or_false, Bool.false_or, if_true, if_false, Bool.false_eq_true, nq_eq, nq_lt, nq_le, nq_in_t, nq_bd, nq_ft, nq_clamp, nq_shl31, nq_shr31, nq_bitb, nq_add, nq_mul, fa_and, fa_or, nq_b0, nq_b1, nq_b01, ↓ni_lt_t, ↓ni_lt_f, ↓ni_le_t, ↓ni_le_f, ↓ni_eq_t, ↓ni_eq_f, ↓ni_beq_t, ↓ni_beq_f, it_X8_faultAt, it_X8_faultAt_1, q_X8_ledTo hm, led_8 hn1 la hz1, led_8 hn2 la hz2, q_X8_onSilently hm hp hn1 hz1 hw1, q_X8_onSilently hm hq hn2 hz2 hw2, hs.1, mO, eo]
    refine rx_Cl_imp (c_X8_comes hs hgl hn1 d.1 d.2.1 (by omega) hkk) (fun r h2 ⟨e2, y1, y2⟩ => ?_)
    subst e2
    simp (disch := first | decide | omega) only [rx_W, rx_wp_succ, rx_nx_stop, rx_nx_go, rx_lx_some, rx_fx_some, rx_ax_some, rx_qx_some, rx_ox_some, rx_vx_ref, rx_ix_ref, rx_ld_0, rx_ld_2, rx_ld_3, rx_cx_some, rx_nl, List.getElem?_cons_zero, List.getElem?_cons_succ, List.set_cons_zero, List.set_cons_succ, List.length_cons, List.length_nil, List.take_succ_cons, List.take_zero, List.drop_succ_cons, List.drop_zero, List.reverse_cons, List.reverse_nil, List.nil_append, List.cons_append, Option.toList_some, Option.toList_none, true_and, and_true, and_self, true_or, or_true, false_and, and_false, false_or, or_false, not_false_eq_true, Nat.reduceAdd, Nat.reduceLT, Nat.reduceLeDiff, Nat.reduceBEq, Nat.reduceEqDiff, Bool.or_false, Bool.false_or, if_true, if_false, Bool.false_eq_true, nq_eq, nq_lt, nq_le, nq_in_t, nq_bd, nq_ft, nq_clamp, nq_shl31, nq_shr31, nq_bitb, nq_add, nq_mul, fa_and, fa_or, nq_b0, nq_b1, nq_b01, ↓ni_lt_t, ↓ni_lt_f, ↓ni_le_t, ↓ni_le_f, ↓ni_eq_t, ↓ni_eq_f, ↓ni_beq_t, ↓ni_beq_f, it_X8_faultAt, it_X8_faultAt_1]
    refine ih h2 (Fr_trans hf y1 (fun _ y => y) (fun _ y => y)) ?_
    rw [e1]
    rw [d.2.2.1] at y2
    unfold sA
    exact y2
theorem l_X8_fa (hv : aN h0 99 164 v) (hp : p < 4) (hq : q < 4) (hmode : mode < 3) (h01 : 1 ≤ v (41 * p)) (h02 : 1 ≤ v (41 * q)) (hn1 : v (41 * p) ≤ 8) (hn2 : v (41 * q) ≤ 8) (hw1 : ∀ j, j < 40 → wq v p j < 2 ^ v (41 * p)) (hw2 : ∀ j, j < 40 → wq v q j < 2 ^ v (41 * q)) (hz1 : zr (v (41 * p)) (wq v p)) (hz2 : zr (v (41 * q)) (wq v q)) (Q : Option Value → rx_H → Prop)
    (hQ : ∀ h K r, Fr h0 h [98, 107, 108, 109] → mQ h pa le pl z (bfs (v (41 * p)) (wq v p) (v (41 * q)) (wq v q) K) → ((isF (v (41 * p)) (wq v p) (v (41 * q)) (wq v q) mode K ∧ K < 65536 ∧ r = nI K) ∨ (NF (v (41 * p)) (wq v p) (v (41 * q)) (wq v q) mode ∧ r = -1)) → Q (some (.int r)) h) :
    ∀ j k h x5 x6 x7, k + j = 65537 → Fr h0 h [98, 107, 108, 109] → mQ h pa le pl z (bfs (v (41 * p)) (wq v p) (v (41 * q)) (wq v q) k) → noF (v (41 * p)) (wq v p) (v (41 * q)) (wq v q) mode k → rx_R 158 55 [.ref 98, .int (nI p), .int (nI q), .int (nI mode), .int (nI k), x5, x6, x7] [] h Q := by
  have p8 : 2 ^ v (41 * p) ≤ 2 ^ 8 := Nat.pow_le_pow_right (by omega) hn1
  have p82 : 2 ^ v (41 * q) ≤ 2 ^ 8 := Nat.pow_le_pow_right (by omega) hn2
  have hw1' : ∀ j, j < 40 → wq v p j < 256 := fun j hj => by have := hw1 j hj; omega
  have hw2' : ∀ j, j < 40 → wq v q j < 256 := fun j hj => by have := hw2 j hj; omega
  intro j
  induction j with
  | zero =>
    intro k h x5 x6 x7 e hf hs hno
    have hl := gL_len hn1 (gL_bfs h01 h02 hn1 hn2 hw1 hw2 k)
    have hend : (bfs (v (41 * p)) (wq v p) (v (41 * q)) (wq v q) k)[k]? = none := List.getElem?_eq_none_iff.mpr (by omega)
    apply rx_wp_sound 60 [55, 110]
    simp (disch := first | decide | omega) only [rx_W, rx_wp_succ, rx_nx_stop, rx_nx_go, rx_lx_some, rx_fx_some, rx_ax_some, rx_qx_some, rx_ox_some, rx_vx_ref, rx_ix_ref, rx_ld_0, rx_ld_2, rx_ld_3, rx_cx_some, rx_nl, List.getElem?_cons_zero, List.getElem?_cons_succ, List.set_cons_zero, List.set_cons_succ, List.length_cons, List.length_nil, List.take_succ_cons, List.take_zero, List.drop_succ_cons, List.drop_zero, List.reverse_cons, List.reverse_nil, List.nil_append, List.cons_append, Option.toList_some, Option.toList_none, true_and, and_true, and_self, true_or, or_true, false_and, and_false, false_or, or_false, not_false_eq_true, Nat.reduceAdd, Nat.reduceLT, Nat.reduceLeDiff, Nat.reduceBEq, Nat.reduceEqDiff, Bool.or_false, Bool.false_or, if_true, if_false, Bool.false_eq_true, nq_eq, nq_lt, nq_le, nq_in_t, nq_bd, nq_ft, nq_clamp, nq_shl31, nq_shr31, nq_bitb, nq_add, nq_mul, fa_and, fa_or, nq_b0, nq_b1, nq_b01, ↓ni_lt_t, ↓ni_lt_f, ↓ni_le_t, ↓ni_le_f, ↓ni_eq_t, ↓ni_eq_f, ↓ni_beq_t, ↓ni_beq_f, it_X8_faultAt, it_X8_faultAt_1, hs.1, mO]
    exact hQ h k _ hf hs (Or.inr ⟨noF_end _ _ _ _ hend hno, rfl⟩)
  | succ j ih =>
    intro k h x5 x6 x7 e hf hs hno
    have hg := gL_bfs h01 h02 hn1 hn2 hw1 hw2 k
    have hl := gL_len hn1 hg
    have hm := mQ_mN hs hf hv
    by_cases hkl : k < (bfs (v (41 * p)) (wq v p) (v (41 * q)) (wq v q) k).length
    · obtain ⟨en, hen⟩ := get_of hkl
      obtain ⟨b1, b2, -⟩ := hg.1 k en hen
      have hs' := hs
      obtain ⟨h1, ⟨f1, f2, g1, g2, g3⟩, -⟩ := hs'
      have y1 := (g3 k en hen).1
      have e8 : en.1 / 2 ^ 8 = en.1 / 256 := rfl
      have e255 : en.1 &&& 255 = en.1 % 256 := Nat.and_two_pow_sub_one_eq_mod en.1 8
      apply rx_wp_sound 60 [55, 110]
      simp (disch := first | decide | omega) only [rx_W, rx_wp_succ, rx_nx_stop, rx_nx_go, rx_lx_some, rx_fx_some, rx_ax_some, rx_qx_some, rx_ox_some, rx_vx_ref, rx_ix_ref, rx_ld_0, rx_ld_2, rx_ld_3, rx_cx_some, rx_nl, List.getElem?_cons_zero, List.getElem?_cons_succ, List.set_cons_zero, List.set_cons_succ, List.length_cons, List.length_nil, List.take_succ_cons, List.take_zero, List.drop_succ_cons, List.drop_zero, List.reverse_cons, List.reverse_nil, List.nil_append, List.cons_append, Option.toList_some, Option.toList_none, true_and, and_true, and_self, true_or, or_true, false_and, and_false, false_or, or_false, not_false_eq_true, Nat.reduceAdd, Nat.reduceLT, Nat.reduceLeDiff, Nat.reduceBEq, Nat.reduceEqDiff, Bool.or_false, Bool.false_or, if_true, if_false, Bool.false_eq_true, nq_eq, nq_lt, nq_le, nq_in_t, nq_bd, nq_ft, nq_clamp, nq_shl31, nq_shr31, nq_bitb, nq_add, nq_mul, fa_and, fa_or, nq_b0, nq_b1, nq_b01, ↓ni_lt_t, ↓ni_lt_f, ↓ni_le_t, ↓ni_le_f, ↓ni_eq_t, ↓ni_eq_f, ↓ni_beq_t, ↓ni_beq_f, it_X8_faultAt, it_X8_faultAt_1, h1, mO, g1, y1, e8, e255, q_X8_wrong hm hp hq h01 hn1 hn2 hw1' hw2' b1 b2 hmode]
      by_cases c : rsn (v (41 * p)) (wq v p) (v (41 * q)) (wq v q) en.1 ≤ mode
      · have ew : wrI (v (41 * p)) (wq v p) (v (41 * q)) (wq v q) mode en.1 = nI (rsn (v (41 * p)) (wq v p) (v (41 * q)) (wq v q) en.1) := by unfold wrI; rw [if_pos c]
        have c2 : ¬ nI (rsn (v (41 * p)) (wq v p) (v (41 * q)) (wq v q) en.1) = -1 := nI_ne1 (by omega)
        simp (disch := first | decide | omega) only [rx_W, rx_wp_succ, rx_nx_stop, rx_nx_go, rx_lx_some, rx_fx_some, rx_ax_some, rx_qx_some, rx_ox_some, rx_vx_ref, rx_ix_ref, rx_ld_0, rx_ld_2, rx_ld_3, rx_cx_some, rx_nl, List.getElem?_cons_zero, List.getElem?_cons_succ, List.set_cons_zero, List.set_cons_succ, List.length_cons, List.length_nil, List.take_succ_cons, List.take_zero, List.drop_succ_cons, List.drop_zero, List.reverse_cons, List.reverse_nil, List.nil_append, List.cons_append, Option.toList_some, Option.toList_none, true_and, and_true, and_self, true_or, or_true, false_and, and_false, false_or, or_false, not_false_eq_true, Nat.reduceAdd, Nat.reduceLT, Nat.reduceLeDiff, Nat.reduceBEq, Nat.reduceEqDiff, Bool.or_false, Bool.false_or, if_true, if_false, Bool.false_eq_true, nq_eq, nq_lt, nq_le, nq_in_t, nq_bd, nq_ft, nq_clamp, nq_shl31, nq_shr31, nq_bitb, nq_add, nq_mul, fa_and, fa_or, nq_b0, nq_b1, nq_b01, ↓ni_lt_t, ↓ni_lt_f, ↓ni_le_t, ↓ni_le_f, ↓ni_eq_t, ↓ni_eq_f, ↓ni_beq_t, ↓ni_beq_f, it_X8_faultAt, it_X8_faultAt_1, ew, c2]
        exact hQ h k _ hf hs (Or.inl ⟨⟨en, hen, c, hno⟩, by omega, rfl⟩)
      · have ew : wrI (v (41 * p)) (wq v p) (v (41 * q)) (wq v q) mode en.1 = -1 := by unfold wrI; rw [if_neg c]
        simp (disch := first | decide | omega) only [rx_W, rx_wp_succ, rx_nx_stop, rx_nx_go, rx_lx_some, rx_fx_some, rx_ax_some, rx_qx_some, rx_ox_some, rx_vx_ref, rx_ix_ref, rx_ld_0, rx_ld_2, rx_ld_3, rx_cx_some, rx_nl, List.getElem?_cons_zero, List.getElem?_cons_succ, List.set_cons_zero, List.set_cons_succ, List.length_cons, List.length_nil, List.take_succ_cons, List.take_zero, List.drop_succ_cons, List.drop_zero, List.reverse_cons, List.reverse_nil, List.nil_append, List.cons_append, Option.toList_some, Option.toList_none, true_and, and_true, and_self, true_or, or_true, false_and, and_false, false_or, or_false, not_false_eq_true, Nat.reduceAdd, Nat.reduceLT, Nat.reduceLeDiff, Nat.reduceBEq, Nat.reduceEqDiff, Bool.or_false, Bool.false_or, if_true, if_false, Bool.false_eq_true, nq_eq, nq_lt, nq_le, nq_in_t, nq_bd, nq_ft, nq_clamp, nq_shl31, nq_shr31, nq_bitb, nq_add, nq_mul, fa_and, fa_or, nq_b0, nq_b1, nq_b01, ↓ni_lt_t, ↓ni_lt_f, ↓ni_le_t, ↓ni_le_f, ↓ni_eq_t, ↓ni_eq_f, ↓ni_beq_t, ↓ni_beq_f, it_X8_faultAt, it_X8_faultAt_1, ew]
        refine l_X8_faA (h0 := h0) (mode := mode) hv hp hq hn1 hn2 hw1 hw2 hz1 hz2 hg hkl b1 b2 Q (fun h3 w1' w2' => ?_) 4 0 h (by omega) hf hs
        apply rx_wp_sound 60 [55]
        simp (disch := first | decide | omega) only [rx_W, rx_wp_succ, rx_nx_stop, rx_nx_go, rx_lx_some, rx_fx_some, rx_ax_some, rx_qx_some, rx_ox_some, rx_vx_ref, rx_ix_ref, rx_ld_0, rx_ld_2, rx_ld_3, rx_cx_some, rx_nl, List.getElem?_cons_zero, List.getElem?_cons_succ, List.set_cons_zero, List.set_cons_succ, List.length_cons, List.length_nil, List.take_succ_cons, List.take_zero, List.drop_succ_cons, List.drop_zero, List.reverse_cons, List.reverse_nil, List.nil_append, List.cons_append, Option.toList_some, Option.toList_none, true_and, and_true, and_self, true_or, or_true, false_and, and_false, false_or, or_false, not_false_eq_true, Nat.reduceAdd, Nat.reduceLT, Nat.reduceLeDiff, Nat.reduceBEq, Nat.reduceEqDiff, Bool.or_false, Bool.false_or, if_true, if_false, Bool.false_eq_true, nq_eq, nq_lt, nq_le, nq_in_t, nq_bd, nq_ft, nq_clamp, nq_shl31, nq_shr31, nq_bitb, nq_add, nq_mul, fa_and, fa_or, nq_b0, nq_b1, nq_b01, ↓ni_lt_t, ↓ni_lt_f, ↓ni_le_t, ↓ni_le_f, ↓ni_eq_t, ↓ni_eq_f, ↓ni_beq_t, ↓ni_beq_f, it_X8_faultAt, it_X8_faultAt_1]
        rw [← bfs_succ hen] at w2'
        exact ih (k + 1) h3 _ _ _ (by omega) w1' w2' (noF_succ hen hno c)
    · have hend : (bfs (v (41 * p)) (wq v p) (v (41 * q)) (wq v q) k)[k]? = none := List.getElem?_eq_none_iff.mpr (by omega)
      apply rx_wp_sound 60 [55, 110]
      simp (disch := first | decide | omega) only [rx_W, rx_wp_succ, rx_nx_stop, rx_nx_go, rx_lx_some, rx_fx_some, rx_ax_some, rx_qx_some, rx_ox_some, rx_vx_ref, rx_ix_ref, rx_ld_0, rx_ld_2, rx_ld_3, rx_cx_some, rx_nl, List.getElem?_cons_zero, List.getElem?_cons_succ, List.set_cons_zero, List.set_cons_succ, List.length_cons, List.length_nil, List.take_succ_cons, List.take_zero, List.drop_succ_cons, List.drop_zero, List.reverse_cons, List.reverse_nil, List.nil_append, List.cons_append, Option.toList_some, Option.toList_none, true_and, and_true, and_self, true_or, or_true, false_and, and_false, false_or, or_false, not_false_eq_true, Nat.reduceAdd, Nat.reduceLT, Nat.reduceLeDiff, Nat.reduceBEq, Nat.reduceEqDiff, Bool.or_false, Bool.false_or, if_true, if_false, Bool.false_eq_true, nq_eq, nq_lt, nq_le, nq_in_t, nq_bd, nq_ft, nq_clamp, nq_shl31, nq_shr31, nq_bitb, nq_add, nq_mul, fa_and, fa_or, nq_b0, nq_b1, nq_b01, ↓ni_lt_t, ↓ni_lt_f, ↓ni_le_t, ↓ni_le_f, ↓ni_eq_t, ↓ni_eq_f, ↓ni_beq_t, ↓ni_beq_f, it_X8_faultAt, it_X8_faultAt_1, hs.1, mO]
      exact hQ h k _ hf hs (Or.inr ⟨noF_end _ _ _ _ hend hno, rfl⟩)
theorem l_X8_fa0 {fo : Int32} {x5 x6 x7 : Value} (h1 : rx_rd h0 98 = some (mO pa le pl fo z)) (Q : Option Value → rx_H → Prop)
    (hQ : ∀ h f, Fr h0 h [109] → rx_rd h 109 = some (.inl (0, 2048, .inl f)) → (∀ m, m < 2048 → f m = nI 0) → rx_R 158 25 [.ref 98, .int (nI p), .int (nI q), .int (nI mode), .int (nI 2048), x5, x6, x7] [] h Q) :
    ∀ j i h f, i + j = 2048 → Fr h0 h [109] → rx_rd h 109 = some (.inl (0, 2048, .inl f)) → (∀ m, m < i → f m = nI 0) → rx_R 158 3 [.ref 98, .int (nI p), .int (nI q), .int (nI mode), .int (nI i), x5, x6, x7] [] h Q
  | 0, i, h, f, e, hf, ha, hz => by
    have e' : i = 2048 := by omega
    subst e'
    apply rx_wp_sound 60 [3, 25]
    simp (disch := first | decide | omega) only [rx_W, rx_wp_succ, rx_nx_stop, rx_nx_go, rx_lx_some, rx_fx_some, rx_ax_some, rx_qx_some, rx_ox_some, rx_vx_ref, rx_ix_ref, rx_ld_0, rx_ld_2, rx_ld_3, rx_cx_some, rx_nl, List.getElem?_cons_zero, List.getElem?_cons_succ, List.set_cons_zero, List.set_cons_succ, List.length_cons, List.length_nil, List.take_succ_cons, List.take_zero, List.drop_succ_cons, List.drop_zero, List.reverse_cons, List.reverse_nil, List.nil_append, List.cons_append, Option.toList_some, Option.toList_none, true_and, and_true, and_self, true_or, or_true, false_and, and_false, false_or, or_false, not_false_eq_true, Nat.reduceAdd, Nat.reduceLT, Nat.reduceLeDiff, Nat.reduceBEq, Nat.reduceEqDiff, Bool.or_false, Bool.false_or, if_true, if_false, Bool.false_eq_true, nq_eq, nq_lt, nq_le, nq_in_t, nq_bd, nq_ft, nq_clamp, nq_shl31, nq_shr31, nq_bitb, nq_add, nq_mul, fa_and, fa_or, nq_b0, nq_b1, nq_b01, ↓ni_lt_t, ↓ni_lt_f, ↓ni_le_t, ↓ni_le_f, ↓ni_eq_t, ↓ni_eq_f, ↓ni_beq_t, ↓ni_beq_f, it_X8_faultAt, it_X8_faultAt_1]
    exact hQ h f hf ha hz
  | j + 1, i, h, f, e, hf, ha, hz => by
    have h1' := (hf.2.2 98 (by simp)).trans h1
    apply rx_wp_sound 60 [3, 25]
    simp (disch := first | decide | omega) only [rx_W, rx_wp_succ, rx_nx_stop, rx_nx_go, rx_lx_some, rx_fx_some, rx_ax_some, rx_qx_some, rx_ox_some, rx_vx_ref, rx_ix_ref, rx_ld_0, rx_ld_2, rx_ld_3, rx_cx_some, rx_nl, List.getElem?_cons_zero, List.getElem?_cons_succ, List.set_cons_zero, List.set_cons_succ, List.length_cons, List.length_nil, List.take_succ_cons, List.take_zero, List.drop_succ_cons, List.drop_zero, List.reverse_cons, List.reverse_nil, List.nil_append, List.cons_append, Option.toList_some, Option.toList_none, true_and, and_true, and_self, true_or, or_true, false_and, and_false, false_or, or_false, not_false_eq_true, Nat.reduceAdd, Nat.reduceLT, Nat.reduceLeDiff, Nat.reduceBEq, Nat.reduceEqDiff, Bool.or_false, Bool.false_or, if_true, if_false, Bool.false_eq_true, nq_eq, nq_lt, nq_le, nq_in_t, nq_bd, nq_ft, nq_clamp, nq_shl31, nq_shr31, nq_bitb, nq_add, nq_mul, fa_and, fa_or, nq_b0, nq_b1, nq_b01, ↓ni_lt_t, ↓ni_lt_f, ↓ni_le_t, ↓ni_le_f, ↓ni_eq_t, ↓ni_eq_f, ↓ni_beq_t, ↓ni_beq_f, it_X8_faultAt, it_X8_faultAt_1, h1', mO, ha]
    refine l_X8_fa0 h1 Q hQ j (i + 1) _ (upd f i (nI 0)) (by omega) (Fr_up hf (by simp)) (rd_eq _ _ _) (fun m hm => ?_)
    unfold upd
    split
    · rfl
    · exact hz m (by omega)
def mSh (h : rx_H) : Prop := (∃ f, rx_rd h 107 = some (.inl (0, 65536, .inl f))) ∧ (∃ f, rx_rd h 108 = some (.inl (0, 65536, .inl f))) ∧ ∃ f, rx_rd h 109 = some (.inl (0, 2048, .inl f))
theorem c_X8_faultAt {fo : Int32} (h1 : rx_rd h0 98 = some (mO pa le pl fo z)) (hsh : mSh h0) (hv : aN h0 99 164 v) (hp : p < 4) (hq : q < 4) (hmode : mode < 3) (h01 : 1 ≤ v (41 * p)) (h02 : 1 ≤ v (41 * q)) (hn1 : v (41 * p) ≤ 8) (hn2 : v (41 * q) ≤ 8) (hw1 : ∀ j, j < 40 → wq v p j < 2 ^ v (41 * p)) (hw2 : ∀ j, j < 40 → wq v q j < 2 ^ v (41 * q)) (hz1 : zr (v (41 * p)) (wq v p)) (hz2 : zr (v (41 * q)) (wq v q)) :
    rx_Cl 158 [.ref 98, .int (nI p), .int (nI q), .int (nI mode)] h0 (fun r h' => Fr h0 h' [98, 107, 108, 109] ∧ ∃ K x, r = some (.int x) ∧ mQ h' pa le pl z (bfs (v (41 * p)) (wq v p) (v (41 * q)) (wq v q) K) ∧ ((isF (v (41 * p)) (wq v p) (v (41 * q)) (wq v q) mode K ∧ K < 65536 ∧ x = nI K) ∨ (NF (v (41 * p)) (wq v p) (v (41 * q)) (wq v q) mode ∧ x = -1))) := by
  obtain ⟨⟨f1, g1⟩, ⟨f2, g2⟩, f3, g3⟩ := hsh
  apply en_X8_faultAt _ _ _ _ 60 [3]
  simp (disch := first | decide | omega) only [rx_W, rx_wp_succ, rx_nx_stop, rx_nx_go, rx_lx_some, rx_fx_some, rx_ax_some, rx_qx_some, rx_ox_some, rx_vx_ref, rx_ix_ref, rx_ld_0, rx_ld_2, rx_ld_3, rx_cx_some, rx_nl, List.getElem?_cons_zero, List.getElem?_cons_succ, List.set_cons_zero, List.set_cons_succ, List.length_cons, List.length_nil, List.take_succ_cons, List.take_zero, List.drop_succ_cons, List.drop_zero, List.reverse_cons, List.reverse_nil, List.nil_append, List.cons_append, Option.toList_some, Option.toList_none, true_and, and_true, and_self, true_or, or_true, false_and, and_false, false_or, or_false, not_false_eq_true, Nat.reduceAdd, Nat.reduceLT, Nat.reduceLeDiff, Nat.reduceBEq, Nat.reduceEqDiff, Bool.or_false, Bool.false_or, if_true, if_false, Bool.false_eq_true, nq_eq, nq_lt, nq_le, nq_in_t, nq_bd, nq_ft, nq_clamp, nq_shl31, nq_shr31, nq_bitb, nq_add, nq_mul, fa_and, fa_or, nq_b0, nq_b1, nq_b01, ↓ni_lt_t, ↓ni_lt_f, ↓ni_le_t, ↓ni_le_f, ↓ni_eq_t, ↓ni_eq_f, ↓ni_beq_t, ↓ni_beq_f, it_X8_faultAt, it_X8_faultAt_1]
  refine l_X8_fa0 (h0 := h0) h1 _ (fun h f y1 y2 y3 => ?_) 2048 0 h0 f3 (by omega) (Fr_rfl _ _) g3 (fun m hm => by omega)
  have p8 : 2 ^ v (41 * p) ≤ 2 ^ 8 := Nat.pow_le_pow_right (by omega) hn1
  have p82 : 2 ^ v (41 * q) ≤ 2 ^ 8 := Nat.pow_le_pow_right (by omega) hn2
  have h1' := (y1.2.2 98 (by simp)).trans h1
  have a1 := sil1_lt h01 hn1 hw1
  have a2 := sil1_lt h02 hn2 hw2
  have d := pair_dm hn2 a1.1 a2.1
  have eo := pair_or (A := sil (v (41 * p)) (wq v p) 1) (B := sil (v (41 * q)) (wq v q) 1) (by omega)
  have t1 : 1 < 2 ^ v (41 * p) := Nat.one_lt_two_pow (by omega)
  have t2 : 1 < 2 ^ v (41 * q) := Nat.one_lt_two_pow (by omega)
  have y1' : Fr h0 (rx_up h 98 (mO pa le pl (nI 0) z)) [98, 107, 108, 109] := Fr_up (Fr_sub y1 (by simp)) (by simp)
  have hq0 : mQ (rx_up h 98 (mO pa le pl (nI 0) z)) pa le pl z [] := by
    refine ⟨rd_eq _ _ _, ⟨f1, f2, ?_, ?_, fun i e he => by simp at he⟩, fun _ => 0, ⟨f, (rd_ne (by omega)).trans y2, y3⟩, fun x hx => by simp; rfl⟩
    · rw [rd_ne (by omega), y1.2.2 107 (by simp)]; exact g1
    · rw [rd_ne (by omega), y1.2.2 108 (by simp)]; exact g2
  have hm := mQ_mN hq0 y1' hv
  unfold mO at hm
  apply rx_wp_sound 60 [55]
  simp (disch := first | decide | omega) only [rx_W, rx_wp_succ, rx_nx_stop, rx_nx_go, rx_lx_some, rx_fx_some, rx_ax_some, rx_qx_some, rx_ox_some, rx_vx_ref, rx_ix_ref, rx_ld_0, rx_ld_2, rx_ld_3, rx_cx_some, rx_nl, List.getElem?_cons_zero, List.getElem?_cons_succ, List.set_cons_zero, List.set_cons_succ, List.length_cons, List.length_nil, List.take_succ_cons, List.take_zero, List.drop_succ_cons, List.drop_zero, List.reverse_cons, List.reverse_nil, List.nil_append, List.cons_append, Option.toList_some, Option.toList_none, true_and, and_true, and_self, true_or, or_true, false_and, and_false, false_or, or_false, not_false_eq_true, Nat.reduceAdd, Nat.reduceLT, Nat.reduceLeDiff, Nat.reduceBEq, Nat.reduceEqDiff, Bool.or_false, Bool.false_or, if_true, if_false, Bool.false_eq_true, nq_eq, nq_lt, nq_le, nq_in_t, nq_bd, nq_ft, nq_clamp, nq_shl31, nq_shr31, nq_bitb, nq_add, nq_mul, fa_and, fa_or, nq_b0, nq_b1, nq_b01, ↓ni_lt_t, ↓ni_lt_f, ↓ni_le_t, ↓ni_le_f, ↓ni_eq_t, ↓ni_eq_f, ↓ni_beq_t, ↓ni_beq_f, it_X8_faultAt, it_X8_faultAt_1, h1', mO, rd_eq, rd_ne, rx_ft, q_X8_onSilently hm hp hn1 hz1 hw1, q_X8_onSilently hm hq hn2 hz2 hw2, eo]
  refine rx_Cl_imp (c_X8_comes (k := 0) (a := 0) hq0 (gL_nil _ _) hn1 d.1 d.2.1 (by omega) (by omega)) (fun r h2 ⟨e2, z1, z2⟩ => ?_)
  subst e2
  simp (disch := first | decide | omega) only [rx_W, rx_wp_succ, rx_nx_stop, rx_nx_go, rx_lx_some, rx_fx_some, rx_ax_some, rx_qx_some, rx_ox_some, rx_vx_ref, rx_ix_ref, rx_ld_0, rx_ld_2, rx_ld_3, rx_cx_some, rx_nl, List.getElem?_cons_zero, List.getElem?_cons_succ, List.set_cons_zero, List.set_cons_succ, List.length_cons, List.length_nil, List.take_succ_cons, List.take_zero, List.drop_succ_cons, List.drop_zero, List.reverse_cons, List.reverse_nil, List.nil_append, List.cons_append, Option.toList_some, Option.toList_none, true_and, and_true, and_self, true_or, or_true, false_and, and_false, false_or, or_false, not_false_eq_true, Nat.reduceAdd, Nat.reduceLT, Nat.reduceLeDiff, Nat.reduceBEq, Nat.reduceEqDiff, Bool.or_false, Bool.false_or, if_true, if_false, Bool.false_eq_true, nq_eq, nq_lt, nq_le, nq_in_t, nq_bd, nq_ft, nq_clamp, nq_shl31, nq_shr31, nq_bitb, nq_add, nq_mul, fa_and, fa_or, nq_b0, nq_b1, nq_b01, ↓ni_lt_t, ↓ni_lt_f, ↓ni_le_t, ↓ni_le_f, ↓ni_eq_t, ↓ni_eq_f, ↓ni_beq_t, ↓ni_beq_f, it_X8_faultAt, it_X8_faultAt_1]
  rw [d.2.2.1, if_neg a1.2] at z2
  have z2 : mQ h2 pa le pl z (bfs (v (41 * p)) (wq v p) (v (41 * q)) (wq v q) 0) := z2
  exact l_X8_fa (h0 := h0) hv hp hq hmode h01 h02 hn1 hn2 hw1 hw2 hz1 hz2 _ (fun h3 K r x1 x2 x3 => ⟨x1, K, r, rfl, x2, x3⟩) 65537 0 h2 _ _ _ (by omega) (Fr_trans y1' z1 (fun _ y => y) (fun _ y => y)) z2 (fun i hi => by omega)
end FA
