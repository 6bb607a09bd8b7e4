theorem vu_twice (f : Nat → Nat) (i x y : Nat) : va_up (va_up f i x) i y = va_up f i y := by
  funext k
  unfold va_up
  split <;> rfl
theorem vu_same {f : Nat → Nat} {i x : Nat} (h : f i = x) : va_up f i x = f := by
  funext k
  unfold va_up
  split
  · next e => rw [e, h]
  · rfl
section PC
variable {n : Nat} {w : Nat → Nat} {R : Nat} {Lk : Nat → Nat} {nd sc : Nat}
theorem l_X0_st {h : rx_H} (hk : rx_rd h 56 = some (kO nd sc)) (ha : aN h 59 16 Lk) {s : Nat} (hs : s < 16) (hR : R < 2 ^ 31) (hb : (Lk s &&& R).testBit s = true) (Q : Option Value → rx_H → Prop) (hq : Q (some (.int (nI (lb (Lk s &&& R))))) h) : ∀ j i, i + j = s → (∀ k, k < i → (Lk s &&& R).testBit k = false) → rx_R 6 2 [.ref 56, .int (nI s), .int (nI R), .int (nI i)] [] h Q
  | 0, i, e, hh => by
    have e' : i = s := by omega
    subst e'
    rw [lb_eq hs hb hh] at hq
    apply rx_wp_sound 60 [2]
    simp (disch := first | decide | omega) only [rx_W, rx_wp_succ, rx_nx_stop, rx_nx_go, rx_lx_some, rx_fx_some, rx_ax_some, rx_qx_some, rx_ox_some, rx_vx_ref, rx_ix_ref, rx_ld_0, rx_ld_2, rx_ld_3, rx_cx_some, rx_nl, List.getElem?_cons_zero, List.getElem?_cons_succ, List.set_cons_zero, List.set_cons_succ, List.length_cons, List.length_nil, List.take_succ_cons, List.take_zero, List.drop_succ_cons, List.drop_zero, List.reverse_cons, List.reverse_nil, List.nil_append, List.cons_append, Option.toList_some, Option.toList_none, true_and, and_true, and_self, true_or, or_true, false_and, and_false, false_or, or_false, not_false_eq_true, Nat.reduceAdd, Nat.reduceLT, Nat.reduceLeDiff, Nat.reduceBEq, Nat.reduceEqDiff, Bool.or_false, Bool.false_or, if_true, if_false, Bool.false_eq_true, nq_eq, nq_lt, nq_le, nq_in_t, nq_bd, nq_ft, nq_clamp, nq_shl31, nq_shr31, nq_bitb, nq_add, nq_mul, fa_and, fa_or, nq_b0, nq_b1, nq_b01, ↓ni_lt_t, ↓ni_lt_f, ↓ni_le_t, ↓ni_le_f, ↓ni_eq_t, ↓ni_eq_f, ↓ni_beq_t, ↓ni_beq_f, it_X0_standIn]
    exact hq
  | j + 1, i, e, hh => by
    have ih := l_X0_st hk ha hs hR hb Q hq j (i + 1) (by omega)
    obtain ⟨f, a1, a2⟩ := ha
    have b1 : Lk s &&& R < 2 ^ 31 := Nat.lt_of_le_of_lt Nat.and_le_right hR
    apply rx_wp_sound 60 [2]
    cases c : (Lk s &&& R).testBit i with
    | true =>
      rw [lb_eq (by omega) c hh] at hq
      simp (disch := first | decide | omega) only [rx_W, rx_wp_succ, rx_nx_stop, rx_nx_go, rx_lx_some, rx_fx_some, rx_ax_some, rx_qx_some, rx_ox_some, rx_vx_ref, rx_ix_ref, rx_ld_0, rx_ld_2, rx_ld_3, rx_cx_some, rx_nl, List.getElem?_cons_zero, List.getElem?_cons_succ, List.set_cons_zero, List.set_cons_succ, List.length_cons, List.length_nil, List.take_succ_cons, List.take_zero, List.drop_succ_cons, List.drop_zero, List.reverse_cons, List.reverse_nil, List.nil_append, List.cons_append, Option.toList_some, Option.toList_none, true_and, and_true, and_self, true_or, or_true, false_and, and_false, false_or, or_false, not_false_eq_true, Nat.reduceAdd, Nat.reduceLT, Nat.reduceLeDiff, Nat.reduceBEq, Nat.reduceEqDiff, Bool.or_false, Bool.false_or, if_true, if_false, Bool.false_eq_true, nq_eq, nq_lt, nq_le, nq_in_t, nq_bd, nq_ft, nq_clamp, nq_shl31, nq_shr31, nq_bitb, nq_add, nq_mul, fa_and, fa_or, nq_b0, nq_b1, nq_b01, ↓ni_lt_t, ↓ni_lt_f, ↓ni_le_t, ↓ni_le_f, ↓ni_eq_t, ↓ni_eq_f, ↓ni_beq_t, ↓ni_beq_f, it_X0_standIn, hk, kO, a1, a2, q_X7_has, c]
      exact hq
    | false =>
      simp (disch := first | decide | omega) only [rx_W, rx_wp_succ, rx_nx_stop, rx_nx_go, rx_lx_some, rx_fx_some, rx_ax_some, rx_qx_some, rx_ox_some, rx_vx_ref, rx_ix_ref, rx_ld_0, rx_ld_2, rx_ld_3, rx_cx_some, rx_nl, List.getElem?_cons_zero, List.getElem?_cons_succ, List.set_cons_zero, List.set_cons_succ, List.length_cons, List.length_nil, List.take_succ_cons, List.take_zero, List.drop_succ_cons, List.drop_zero, List.reverse_cons, List.reverse_nil, List.nil_append, List.cons_append, Option.toList_some, Option.toList_none, true_and, and_true, and_self, true_or, or_true, false_and, and_false, false_or, or_false, not_false_eq_true, Nat.reduceAdd, Nat.reduceLT, Nat.reduceLeDiff, Nat.reduceBEq, Nat.reduceEqDiff, Bool.or_false, Bool.false_or, if_true, if_false, Bool.false_eq_true, nq_eq, nq_lt, nq_le, nq_in_t, nq_bd, nq_ft, nq_clamp, nq_shl31, nq_shr31, nq_bitb, nq_add, nq_mul, fa_and, fa_or, nq_b0, nq_b1, nq_b01, ↓ni_lt_t, ↓ni_lt_f, ↓ni_le_t, ↓ni_le_f, ↓ni_eq_t, ↓ni_eq_f, ↓ni_beq_t, ↓ni_beq_f, it_X0_standIn, hk, kO, a1, a2, q_X7_has, c]
      refine ih (fun k hk' => ?_)
      by_cases e1 : k = i
      · subst e1; exact c
      · exact hh k (by omega)
theorem q_X0_standIn {h : rx_H} (hk : rx_rd h 56 = some (kO nd sc)) (ha : aN h 59 16 Lk) {s : Nat} (hs : s < 16) (hR : R < 2 ^ 31) (hb : (Lk s &&& R).testBit s = true) (Q : Option Value → rx_H → Prop) : rx_Cl 6 [.ref 56, .int (nI s), .int (nI R)] h Q = Q (some (.int (nI (lb (Lk s &&& R))))) h := by
  refine rx_Cl_eq ?_ Q
  apply en_X0_standIn _ _ _ 60 [2]
  simp (disch := first | decide | omega) only [rx_W, rx_wp_succ, rx_nx_stop, rx_nx_go, rx_lx_some, rx_fx_some, rx_ax_some, rx_qx_some, rx_ox_some, rx_vx_ref, rx_ix_ref, rx_ld_0, rx_ld_2, rx_ld_3, rx_cx_some, rx_nl, List.getElem?_cons_zero, List.getElem?_cons_succ, List.set_cons_zero, List.set_cons_succ, List.length_cons, List.length_nil, List.take_succ_cons, List.take_zero, List.drop_succ_cons, List.drop_zero, List.reverse_cons, List.reverse_nil, List.nil_append, List.cons_append, Option.toList_some, Option.toList_none, true_and, and_true, and_self, true_or, or_true, false_and, and_false, false_or, or_false, not_false_eq_true, Nat.reduceAdd, Nat.reduceLT, Nat.reduceLeDiff, Nat.reduceBEq, Nat.reduceEqDiff, Bool.or_false, Bool.false_or, if_true, if_false, Bool.false_eq_true, nq_eq, nq_lt, nq_le, nq_in_t, nq_bd, nq_ft, nq_clamp, nq_shl31, nq_shr31, nq_bitb, nq_add, nq_mul, fa_and, fa_or, nq_b0, nq_b1, nq_b01, ↓ni_lt_t, ↓ni_lt_f, ↓ni_le_t, ↓ni_le_f, ↓ni_eq_t, ↓ni_eq_f, ↓ni_beq_t, ↓ni_beq_f, it_X0_standIn]
  exact l_X0_st hk ha hs hR hb _ ⟨rfl, rfl⟩ s 0 (by omega) (fun k hk' => by omega)
variable {A : Nat → Nat}
theorem l_X0_pm1 {h0 : rx_H} {o s b : Nat} {Nb : Nat → Nat} (hp0 : pW h0 o n w) (ho : 65 < o) (hk0 : rx_rd h0 56 = some (kO nd sc)) (aK0 : aN h0 59 16 Lk) (aB0 : aN h0 60 8 Nb) (hA : A = fun s => Lk s &&& R) (hsp : pSpec n w R A) (hn : n ≤ 8) (hw : ∀ j, j < 40 → w j < 2 ^ n) (hNb : ∀ s, s < n → stB R A s = true → Nb s = nuF R A s) (hs : stB R A s = true) (hsn : s < n) (hb : b < 5) (Q : Option Value → rx_H → Prop)
    (hq : ∀ h, Fr h0 h [64, 65] → pW h 64 (nuF R A n) (prP n w R A s (b + 1)) → rx_R 5 64 [.ref 56, .ref o, .int (nI s), .int (nI R), .ref 64, .int (nI b), .int (nI n)] [] h Q) :
    ∀ j t h, t + j = n → Fr h0 h [64, 65] → pW h 64 (nuF R A n) (va_up (prP n w R A s b) (nuF R A s * 5 + b) (pmF n w R A s b t)) → rx_R 5 12 [.ref 56, .ref o, .int (nI s), .int (nI R), .ref 64, .int (nI b), .int (nI t)] [] h Q
  | 0, t, h, e, hf, hd => by
    have e' : t = n := by omega
    subst e'
    have hp := pW_fr hf (by simp; omega) (by simp; omega) hp0
    rw [prP_step hb] at hd
    apply rx_wp_sound 60 [12, 64]
    simp (disch := first | decide | omega) only [rx_W, rx_wp_succ, rx_nx_stop, rx_nx_go, rx_lx_some, rx_fx_some, rx_ax_some, rx_qx_some, rx_ox_some, rx_vx_ref, rx_ix_ref, rx_ld_0, rx_ld_2, rx_ld_3, rx_cx_some, rx_nl, List.getElem?_cons_zero, List.getElem?_cons_succ, List.set_cons_zero, List.set_cons_succ, List.length_cons, List.length_nil, List.take_succ_cons, List.take_zero, List.drop_succ_cons, List.drop_zero, List.reverse_cons, List.reverse_nil, List.nil_append, List.cons_append, Option.toList_some, Option.toList_none, true_and, and_true, and_self, true_or, or_true, false_and, and_false, false_or, or_false, not_false_eq_true, Nat.reduceAdd, Nat.reduceLT, Nat.reduceLeDiff, Nat.reduceBEq, Nat.reduceEqDiff, Bool.or_false, Bool.false_or, if_true, if_false, Bool.false_eq_true, nq_eq, nq_lt, nq_le, nq_in_t, nq_bd, nq_ft, nq_clamp, nq_shl31, nq_shr31, nq_bitb, nq_add, nq_mul, fa_and, fa_or, nq_b0, nq_b1, nq_b01, ↓ni_lt_t, ↓ni_lt_f, ↓ni_le_t, ↓ni_le_f, ↓ni_eq_t, ↓ni_eq_f, ↓ni_beq_t, ↓ni_beq_f, it_X0_pressMoves, hp.1, hp.2.2]
    exact hq h hf hd
  | j + 1, t, h, e, hf, hd => by
    have hp := pW_fr hf (by simp; omega) (by simp; omega) hp0
    have hk := (hf.2.2 56 (by simp)).trans hk0
    have aK := aN_fr hf (by simp) aK0
    have aB := aN_fr hf (by simp) aB0
    have ih := fun h => l_X0_pm1 hp0 ho hk0 aK0 aB0 hA hsp hn hw hNb hs hsn hb Q hq j (t + 1) h (by omega)
    have p8 : 2 ^ n ≤ 2 ^ 8 := Nat.pow_le_pow_right (by omega) hn
    have w1 := hw (s * 5 + b) (by omega)
    have e1 : pmF n w R A s b (t + 1) = pmF n w R A s b t ||| (if (w (s * 5 + b)).testBit t then 2 ^ nuF R A (lb (A t)) else 0) := rfl
    rw [e1] at ih
    apply rx_wp_sound 60 [12, 64]
    cases c : (w (s * 5 + b)).testBit t with
    | false =>
      rw [c, if_neg (by simp), Nat.or_zero] at ih
      simp (disch := first | decide | omega) only [rx_W, rx_wp_succ, rx_nx_stop, rx_nx_go, rx_lx_some, rx_fx_some, rx_ax_some, rx_qx_some, rx_ox_some, rx_vx_ref, rx_ix_ref, rx_ld_0, rx_ld_2, rx_ld_3, rx_cx_some, rx_nl, List.getElem?_cons_zero, List.getElem?_cons_succ, List.set_cons_zero, List.set_cons_succ, List.length_cons, List.length_nil, List.take_succ_cons, List.take_zero, List.drop_succ_cons, List.drop_zero, List.reverse_cons, List.reverse_nil, List.nil_append, List.cons_append, Option.toList_some, Option.toList_none, true_and, and_true, and_self, true_or, or_true, false_and, and_false, false_or, or_false, not_false_eq_true, Nat.reduceAdd, Nat.reduceLT, Nat.reduceLeDiff, Nat.reduceBEq, Nat.reduceEqDiff, Bool.or_false, Bool.false_or, if_true, if_false, Bool.false_eq_true, nq_eq, nq_lt, nq_le, nq_in_t, nq_bd, nq_ft, nq_clamp, nq_shl31, nq_shr31, nq_bitb, nq_add, nq_mul, fa_and, fa_or, nq_b0, nq_b1, nq_b01, ↓ni_lt_t, ↓ni_lt_f, ↓ni_le_t, ↓ni_le_f, ↓ni_eq_t, ↓ni_eq_f, ↓ni_beq_t, ↓ni_beq_f, it_X0_pressMoves, hp.1, hp.2.2, q_X4_stands hp, c]
      exact ih h hf hd
    | true =>
      rw [c, if_pos rfl] at ih
      have hR1 : R.testBit s = true := by
        unfold stB at hs
        rw [Bool.and_eq_true] at hs
        exact hs.1
      have hRt := reach_to hsp hR1 hb c
      obtain ⟨t1, t2, t3, t4, t5⟩ := rep_ok hsp hn hw hRt
      have t6 := nuF_rep hsp hn hw hRt
      have t7 := nuF_le (R := R) (A := A) n
      have t8 := nuF_le (R := R) (A := A) s
      have eA : A t = Lk t &&& R := by rw [hA]
      have n1 := hNb s hsn hs
      have n2 := hNb _ t4 t5
      rw [eA] at t2 t3 t4 t6 n2
      obtain ⟨f, a1, a2⟩ := aB
      have m1 := a2 s (by omega)
      rw [n1] at m1
      have m2 := a2 (lb (Lk t &&& R)) (by omega)
      rw [n2] at m2
      have hR31 : R < 2 ^ 31 := by have := hsp.2.1; omega
      have hd1 := hd.1
      have hd3 := hd.2.2
      simp (disch := first | decide | omega) only [rx_W, rx_wp_succ, rx_nx_stop, rx_nx_go, rx_lx_some, rx_fx_some, rx_ax_some, rx_qx_some, rx_ox_some, rx_vx_ref, rx_ix_ref, rx_ld_0, rx_ld_2, rx_ld_3, rx_cx_some, rx_nl, List.getElem?_cons_zero, List.getElem?_cons_succ, List.set_cons_zero, List.set_cons_succ, List.length_cons, List.length_nil, List.take_succ_cons, List.take_zero, List.drop_succ_cons, List.drop_zero, List.reverse_cons, List.reverse_nil, List.nil_append, List.cons_append, Option.toList_some, Option.toList_none, true_and, and_true, and_self, true_or, or_true, false_and, and_false, false_or, or_false, not_false_eq_true, Nat.reduceAdd, Nat.reduceLT, Nat.reduceLeDiff, Nat.reduceBEq, Nat.reduceEqDiff, Bool.or_false, Bool.false_or, if_true, if_false, Bool.false_eq_true, nq_eq, nq_lt, nq_le, nq_in_t, nq_bd, nq_ft, nq_clamp, nq_shl31, nq_shr31, nq_bitb, nq_add, nq_mul, fa_and, fa_or, nq_b0, nq_b1, nq_b01, ↓ni_lt_t, ↓ni_lt_f, ↓ni_le_t, ↓ni_le_f, ↓ni_eq_t, ↓ni_eq_f, ↓ni_beq_t, ↓ni_beq_f, it_X0_pressMoves, hp.1, hp.2.2, q_X4_stands hp, c, hk, kO, a1, m1, q_X0_standIn hk aK, hR31, t2, m2, hd1, hd3]
      have q1 := pmF_lt hsp hn hw hR1 hb t
      have p9 : 2 ^ nuF R A n ≤ 2 ^ 8 := Nat.pow_le_pow_right (by omega) (by omega)
      refine rx_Cl_imp (c_X4_put hd (by omega) (by rw [vu_eq]; omega) (by omega)) (fun r h2 ⟨e2, y1, y2⟩ => ?_)
      subst e2
      simp (disch := first | decide | omega) only [rx_W, rx_wp_succ, rx_nx_stop, rx_nx_go, rx_lx_some, rx_fx_some, rx_ax_some, rx_qx_some, rx_ox_some, rx_vx_ref, rx_ix_ref, rx_ld_0, rx_ld_2, rx_ld_3, rx_cx_some, rx_nl, List.getElem?_cons_zero, List.getElem?_cons_succ, List.set_cons_zero, List.set_cons_succ, List.length_cons, List.length_nil, List.take_succ_cons, List.take_zero, List.drop_succ_cons, List.drop_zero, List.reverse_cons, List.reverse_nil, List.nil_append, List.cons_append, Option.toList_some, Option.toList_none, true_and, and_true, and_self, true_or, or_true, false_and, and_false, false_or, or_false, not_false_eq_true, Nat.reduceAdd, Nat.reduceLT, Nat.reduceLeDiff, Nat.reduceBEq, Nat.reduceEqDiff, Bool.or_false, Bool.false_or, if_true, if_false, Bool.false_eq_true, nq_eq, nq_lt, nq_le, nq_in_t, nq_bd, nq_ft, nq_clamp, nq_shl31, nq_shr31, nq_bitb, nq_add, nq_mul, fa_and, fa_or, nq_b0, nq_b1, nq_b01, ↓ni_lt_t, ↓ni_lt_f, ↓ni_le_t, ↓ni_le_f, ↓ni_eq_t, ↓ni_eq_f, ↓ni_beq_t, ↓ni_beq_f, it_X0_pressMoves]
      rw [vu_eq, vu_twice, ← eA] at y2
      exact ih h2 (Fr_trans hf y1 (fun _ z => z) (fun _ z => z)) y2
theorem l_X0_pm {h0 : rx_H} {o s : Nat} {Nb : Nat → Nat} (hp0 : pW h0 o n w) (ho : 65 < o) (hk0 : rx_rd h0 56 = some (kO nd sc)) (aK0 : aN h0 59 16 Lk) (aB0 : aN h0 60 8 Nb) (hA : A = fun s => Lk s &&& R) (hsp : pSpec n w R A) (hn : n ≤ 8) (hw : ∀ j, j < 40 → w j < 2 ^ n) (hNb : ∀ s, s < n → stB R A s = true → Nb s = nuF R A s) (hs : stB R A s = true) (hsn : s < n) (Q : Option Value → rx_H → Prop)
    (hq : ∀ h, Fr h0 h [64, 65] → pW h 64 (nuF R A n) (prW n w R A (s + 1)) → Q none h) :
    ∀ j b h x, b + j = 5 → Fr h0 h [64, 65] → pW h 64 (nuF R A n) (prP n w R A s b) → rx_R 5 3 [.ref 56, .ref o, .int (nI s), .int (nI R), .ref 64, .int (nI b), x] [] h Q
  | 0, b, h, x, e, hf, hd => by
    have e' : b = 5 := by omega
    subst e'
    rw [prP_5 hs] at hd
    apply rx_wp_sound 60 [3, 12]
    simp (disch := first | decide | omega) only [rx_W, rx_wp_succ, rx_nx_stop, rx_nx_go, rx_lx_some, rx_fx_some, rx_ax_some, rx_qx_some, rx_ox_some, rx_vx_ref, rx_ix_ref, rx_ld_0, rx_ld_2, rx_ld_3, rx_cx_some, rx_nl, List.getElem?_cons_zero, List.getElem?_cons_succ, List.set_cons_zero, List.set_cons_succ, List.length_cons, List.length_nil, List.take_succ_cons, List.take_zero, List.drop_succ_cons, List.drop_zero, List.reverse_cons, List.reverse_nil, List.nil_append, List.cons_append, Option.toList_some, Option.toList_none, true_and, and_true, and_self, true_or, or_true, false_and, and_false, false_or, or_false, not_false_eq_true, Nat.reduceAdd, Nat.reduceLT, Nat.reduceLeDiff, Nat.reduceBEq, Nat.reduceEqDiff, Bool.or_false, Bool.false_or, if_true, if_false, Bool.false_eq_true, nq_eq, nq_lt, nq_le, nq_in_t, nq_bd, nq_ft, nq_clamp, nq_shl31, nq_shr31, nq_bitb, nq_add, nq_mul, fa_and, fa_or, nq_b0, nq_b1, nq_b01, ↓ni_lt_t, ↓ni_lt_f, ↓ni_le_t, ↓ni_le_f, ↓ni_eq_t, ↓ni_eq_f, ↓ni_beq_t, ↓ni_beq_f, it_X0_pressMoves]
    exact hq h hf hd
  | j + 1, b, h, x, e, hf, hd => by
    apply rx_wp_sound 60 [3, 12]
    simp (disch := first | decide | omega) only [rx_W, rx_wp_succ, rx_nx_stop, rx_nx_go, rx_lx_some, rx_fx_some, rx_ax_some, rx_qx_some, rx_ox_some, rx_vx_ref, rx_ix_ref, rx_ld_0, rx_ld_2, rx_ld_3, rx_cx_some, rx_nl, List.getElem?_cons_zero, List.getElem?_cons_succ, List.set_cons_zero, List.set_cons_succ, List.length_cons, List.length_nil, List.take_succ_cons, List.take_zero, List.drop_succ_cons, List.drop_zero, List.reverse_cons, List.reverse_nil, List.nil_append, List.cons_append, Option.toList_some, Option.toList_none, true_and, and_true, and_self, true_or, or_true, false_and, and_false, false_or, or_false, not_false_eq_true, Nat.reduceAdd, Nat.reduceLT, Nat.reduceLeDiff, Nat.reduceBEq, Nat.reduceEqDiff, Bool.or_false, Bool.false_or, if_true, if_false, Bool.false_eq_true, nq_eq, nq_lt, nq_le, nq_in_t, nq_bd, nq_ft, nq_clamp, nq_shl31, nq_shr31, nq_bitb, nq_add, nq_mul, fa_and, fa_or, nq_b0, nq_b1, nq_b01, ↓ni_lt_t, ↓ni_lt_f, ↓ni_le_t, ↓ni_le_f, ↓ni_eq_t, ↓ni_eq_f, ↓ni_beq_t, ↓ni_beq_f, it_X0_pressMoves]
    refine l_X0_pm1 (h0 := h0) (b := b) hp0 ho hk0 aK0 aB0 hA hsp hn hw hNb hs hsn (by omega) Q (fun h2 y1 y2 => ?_) n 0 h (by omega) hf ?_
    · apply rx_wp_sound 60 [3]
      simp (disch := first | decide | omega) only [rx_W, rx_wp_succ, rx_nx_stop, rx_nx_go, rx_lx_some, rx_fx_some, rx_ax_some, rx_qx_some, rx_ox_some, rx_vx_ref, rx_ix_ref, rx_ld_0, rx_ld_2, rx_ld_3, rx_cx_some, rx_nl, List.getElem?_cons_zero, List.getElem?_cons_succ, List.set_cons_zero, List.set_cons_succ, List.length_cons, List.length_nil, List.take_succ_cons, List.take_zero, List.drop_succ_cons, List.drop_zero, List.reverse_cons, List.reverse_nil, List.nil_append, List.cons_append, Option.toList_some, Option.toList_none, true_and, and_true, and_self, true_or, or_true, false_and, and_false, false_or, or_false, not_false_eq_true, Nat.reduceAdd, Nat.reduceLT, Nat.reduceLeDiff, Nat.reduceBEq, Nat.reduceEqDiff, Bool.or_false, Bool.false_or, if_true, if_false, Bool.false_eq_true, nq_eq, nq_lt, nq_le, nq_in_t, nq_bd, nq_ft, nq_clamp, nq_shl31, nq_shr31, nq_bitb, nq_add, nq_mul, fa_and, fa_or, nq_b0, nq_b1, nq_b01, ↓ni_lt_t, ↓ni_lt_f, ↓ni_le_t, ↓ni_le_f, ↓ni_eq_t, ↓ni_eq_f, ↓ni_beq_t, ↓ni_beq_f, it_X0_pressMoves]
      exact l_X0_pm hp0 ho hk0 aK0 aB0 hA hsp hn hw hNb hs hsn Q hq j (b + 1) h2 _ (by omega) y1 y2
    · rw [show pmF n w R A s b 0 = 0 from rfl, vu_same (prP_at (by omega))]
      exact hd
theorem c_X0_pressMoves {h : rx_H} {o s : Nat} {Nb : Nat → Nat} (hp : pW h o n w) (ho : 65 < o) (hk : rx_rd h 56 = some (kO nd sc)) (aK : aN h 59 16 Lk) (aB : aN h 60 8 Nb) (hA : A = fun s => Lk s &&& R) (hsp : pSpec n w R A) (hn : n ≤ 8) (hw : ∀ j, j < 40 → w j < 2 ^ n) (hNb : ∀ s, s < n → stB R A s = true → Nb s = nuF R A s) (hs : stB R A s = true) (hsn : s < n) (hd : pW h 64 (nuF R A n) (prW n w R A s)) :
    rx_Cl 5 [.ref 56, .ref o, .int (nI s), .int (nI R), .ref 64] h (fun r h' => r = none ∧ Fr h h' [64, 65] ∧ pW h' 64 (nuF R A n) (prW n w R A (s + 1))) := by
  apply en_X0_pressMoves _ _ _ _ _ 60 [3]
  simp (disch := first | decide | omega) only [rx_W, rx_wp_succ, rx_nx_stop, rx_nx_go, rx_lx_some, rx_fx_some, rx_ax_some, rx_qx_some, rx_ox_some, rx_vx_ref, rx_ix_ref, rx_ld_0, rx_ld_2, rx_ld_3, rx_cx_some, rx_nl, List.getElem?_cons_zero, List.getElem?_cons_succ, List.set_cons_zero, List.set_cons_succ, List.length_cons, List.length_nil, List.take_succ_cons, List.take_zero, List.drop_succ_cons, List.drop_zero, List.reverse_cons, List.reverse_nil, List.nil_append, List.cons_append, Option.toList_some, Option.toList_none, true_and, and_true, and_self, true_or, or_true, false_and, and_false, false_or, or_false, not_false_eq_true, Nat.reduceAdd, Nat.reduceLT, Nat.reduceLeDiff, Nat.reduceBEq, Nat.reduceEqDiff, Bool.or_false, Bool.false_or, if_true, if_false, Bool.false_eq_true, nq_eq, nq_lt, nq_le, nq_in_t, nq_bd, nq_ft, nq_clamp, nq_shl31, nq_shr31, nq_bitb, nq_add, nq_mul, fa_and, fa_or, nq_b0, nq_b1, nq_b01, ↓ni_lt_t, ↓ni_lt_f, ↓ni_le_t, ↓ni_le_f, ↓ni_eq_t, ↓ni_eq_f, ↓ni_beq_t, ↓ni_beq_f, it_X0_pressMoves]
  exact l_X0_pm hp ho hk aK aB hA hsp hn hw hNb hs hsn _ (fun h2 y1 y2 => ⟨rfl, y1, y2⟩) 5 0 h _ (by omega) (Fr_rfl _ _) (by rw [prP_0]; exact hd)
theorem l_X0_pr1 {h0 : rx_H} {o : Nat} (hp0 : pW h0 o n w) (ho : 65 < o) (hk0 : rx_rd h0 56 = some (kO nd sc)) (aK0 : aN h0 59 16 Lk) (hA : A = fun s => Lk s &&& R) (hsp : pSpec n w R A) (hn : n ≤ 8) (hw : ∀ j, j < 40 → w j < 2 ^ n) (Q : Option Value → rx_H → Prop)
    (hq : ∀ h Nb, Fr h0 h [60] → aN h 60 8 Nb → (∀ s, s < n → stB R A s = true → Nb s = nuF R A s) → rx_R 4 59 [.ref 56, .ref o, .ref 64, .int (nI R), .int (nI (nuF R A n)), .int (nI n)] [] h Q) :
    ∀ j s h Nb, s + j = n → Fr h0 h [60] → aN h 60 8 Nb → (∀ s', s' < s → stB R A s' = true → Nb s' = nuF R A s') → rx_R 4 11 [.ref 56, .ref o, .ref 64, .int (nI R), .int (nI (nuF R A s)), .int (nI s)] [] h Q
  | 0, s, h, Nb, e, hf, ha, hN => by
    have e' : s = n := by omega
    subst e'
    have hp := pW_fr hf (by simp; omega) (by simp; omega) hp0
    apply rx_wp_sound 60 [11, 59]
    simp (disch := first | decide | omega) only [rx_W, rx_wp_succ, rx_nx_stop, rx_nx_go, rx_lx_some, rx_fx_some, rx_ax_some, rx_qx_some, rx_ox_some, rx_vx_ref, rx_ix_ref, rx_ld_0, rx_ld_2, rx_ld_3, rx_cx_some, rx_nl, List.getElem?_cons_zero, List.getElem?_cons_succ, List.set_cons_zero, List.set_cons_succ, List.length_cons, List.length_nil, List.take_succ_cons, List.take_zero, List.drop_succ_cons, List.drop_zero, List.reverse_cons, List.reverse_nil, List.nil_append, List.cons_append, Option.toList_some, Option.toList_none, true_and, and_true, and_self, true_or, or_true, false_and, and_false, false_or, or_false, not_false_eq_true, Nat.reduceAdd, Nat.reduceLT, Nat.reduceLeDiff, Nat.reduceBEq, Nat.reduceEqDiff, Bool.or_false, Bool.false_or, if_true, if_false, Bool.false_eq_true, nq_eq, nq_lt, nq_le, nq_in_t, nq_bd, nq_ft, nq_clamp, nq_shl31, nq_shr31, nq_bitb, nq_add, nq_mul, fa_and, fa_or, nq_b0, nq_b1, nq_b01, ↓ni_lt_t, ↓ni_lt_f, ↓ni_le_t, ↓ni_le_f, ↓ni_eq_t, ↓ni_eq_f, ↓ni_beq_t, ↓ni_beq_f, it_X0_press, hp.1, hp.2.2]
    exact hq h Nb hf ha hN
  | j + 1, s, h, Nb, e, hf, ha, hN => by
    have hp := pW_fr hf (by simp; omega) (by simp; omega) hp0
    have hk := (hf.2.2 56 (by simp)).trans hk0
    have aK := aN_fr hf (by simp) aK0
    have ih := fun h Nb => l_X0_pr1 hp0 ho hk0 aK0 hA hsp hn hw Q hq j (s + 1) h Nb (by omega)
    have p8 : 2 ^ n ≤ 2 ^ 8 := Nat.pow_le_pow_right (by omega) hn
    have hR31 : R < 2 ^ 31 := by have := hsp.2.1; omega
    have eA : A s = Lk s &&& R := by rw [hA]
    have keep : stB R A s = false → rx_R 4 11 [.ref 56, .ref o, .ref 64, .int (nI R), .int (nI (nuF R A s)), .int (nI (s + 1))] [] h Q := by
      intro c
      have := ih h Nb hf ha (fun s' hs' z => ?_)
      · rw [nuF_no c] at this
        exact this
      · by_cases es : s' = s
        · subst es; rw [c] at z; cases z
        · exact hN s' (by omega) z
    apply rx_wp_sound 60 [11, 59]
    cases c1 : R.testBit s with
    | false =>
      simp (disch := first | decide | omega) only [rx_W, rx_wp_succ, rx_nx_stop, rx_nx_go, rx_lx_some, rx_fx_some, rx_ax_some, rx_qx_some, rx_ox_some, rx_vx_ref, rx_ix_ref, rx_ld_0, rx_ld_2, rx_ld_3, rx_cx_some, rx_nl, List.getElem?_cons_zero, List.getElem?_cons_succ, List.set_cons_zero, List.set_cons_succ, List.length_cons, List.length_nil, List.take_succ_cons, List.take_zero, List.drop_succ_cons, List.drop_zero, List.reverse_cons, List.reverse_nil, List.nil_append, List.cons_append, Option.toList_some, Option.toList_none, true_and, and_true, and_self, true_or, or_true, false_and, and_false, false_or, or_false, not_false_eq_true, Nat.reduceAdd, Nat.reduceLT, Nat.reduceLeDiff, Nat.reduceBEq, Nat.reduceEqDiff, Bool.or_false, Bool.false_or, if_true, if_false, Bool.false_eq_true, nq_eq, nq_lt, nq_le, nq_in_t, nq_bd, nq_ft, nq_clamp, nq_shl31, nq_shr31, nq_bitb, nq_add, nq_mul, fa_and, fa_or, nq_b0, nq_b1, nq_b01, ↓ni_lt_t, ↓ni_lt_f, ↓ni_le_t, ↓ni_le_f, ↓ni_eq_t, ↓ni_eq_f, ↓ni_beq_t, ↓ni_beq_f, it_X0_press, hp.1, hp.2.2, q_X7_has, c1]
      exact keep (by unfold stB; rw [c1]; rfl)
    | true =>
      obtain ⟨t1, t2, t3, t4, t5⟩ := rep_ok hsp hn hw c1
      rw [eA] at t2 t3
      by_cases c2 : lb (Lk s &&& R) = s
      · have hst : stB R A s = true := by unfold stB; rw [c1, eA, decide_eq_true c2]; rfl
        obtain ⟨f, a1, a2⟩ := ha
        have t8 := nuF_le (R := R) (A := A) s
        simp (disch := first | decide | omega) only [rx_W, rx_wp_succ, rx_nx_stop, rx_nx_go, rx_lx_some, rx_fx_some, rx_ax_some, rx_qx_some, rx_ox_some, rx_vx_ref, rx_ix_ref, rx_ld_0, rx_ld_2, rx_ld_3, rx_cx_some, rx_nl, List.getElem?_cons_zero, List.getElem?_cons_succ, List.set_cons_zero, List.set_cons_succ, List.length_cons, List.length_nil, List.take_succ_cons, List.take_zero, List.drop_succ_cons, List.drop_zero, List.reverse_cons, List.reverse_nil, List.nil_append, List.cons_append, Option.toList_some, Option.toList_none, true_and, and_true, and_self, true_or, or_true, false_and, and_false, false_or, or_false, not_false_eq_true, Nat.reduceAdd, Nat.reduceLT, Nat.reduceLeDiff, Nat.reduceBEq, Nat.reduceEqDiff, Bool.or_false, Bool.false_or, if_true, if_false, Bool.false_eq_true, nq_eq, nq_lt, nq_le, nq_in_t, nq_bd, nq_ft, nq_clamp, nq_shl31, nq_shr31, nq_bitb, nq_add, nq_mul, fa_and, fa_or, nq_b0, nq_b1, nq_b01, ↓ni_lt_t, ↓ni_lt_f, ↓ni_le_t, ↓ni_le_f, ↓ni_eq_t, ↓ni_eq_f, ↓ni_beq_t, ↓ni_beq_f, it_X0_press, hp.1, hp.2.2, q_X7_has, c1, hk, kO, q_X0_standIn hk aK, hR31, t2, c2, a1]
        have := ih _ (va_up Nb s (nuF R A s)) (Fr_up hf (by simp)) ⟨_, rd_eq _ _ _, aN_upd a2 _ _⟩ (fun s' hs' z => ?_)
        · rw [nuF_yes hst] at this
          exact this
        · by_cases es : s' = s
          · subst es; rw [vu_eq]
          · rw [vu_ne es]; exact hN s' (by omega) z
      · simp (disch := first | decide | omega) only [rx_W, rx_wp_succ, rx_nx_stop, rx_nx_go, rx_lx_some, rx_fx_some, rx_ax_some, rx_qx_some, rx_ox_some, rx_vx_ref, rx_ix_ref, rx_ld_0, rx_ld_2, rx_ld_3, rx_cx_some, rx_nl, List.getElem?_cons_zero, List.getElem?_cons_succ, List.set_cons_zero, List.set_cons_succ, List.length_cons, List.length_nil, List.take_succ_cons, List.take_zero, List.drop_succ_cons, List.drop_zero, List.reverse_cons, List.reverse_nil, List.nil_append, List.cons_append, Option.toList_some, Option.toList_none, true_and, and_true, and_self, true_or, or_true, false_and, and_false, false_or, or_false, not_false_eq_true, Nat.reduceAdd, Nat.reduceLT, Nat.reduceLeDiff, Nat.reduceBEq, Nat.reduceEqDiff, Bool.or_false, Bool.false_or, if_true, if_false, Bool.false_eq_true, nq_eq, nq_lt, nq_le, nq_in_t, nq_bd, nq_ft, nq_clamp, nq_shl31, nq_shr31, nq_bitb, nq_add, nq_mul, fa_and, fa_or, nq_b0, nq_b1, nq_b01, ↓ni_lt_t, ↓ni_lt_f, ↓ni_le_t, ↓ni_le_f, ↓ni_eq_t, ↓ni_eq_f, ↓ni_beq_t, ↓ni_beq_f, it_X0_press, hp.1, hp.2.2, q_X7_has, c1, hk, kO, q_X0_standIn hk aK, hR31, t2, c2]
        exact keep (by unfold stB; rw [c1, eA, decide_eq_false c2]; rfl)
theorem l_X0_pr2 {h0 : rx_H} {o : Nat} {Nb : Nat → Nat} {kp : Int32} (hp0 : pW h0 o n w) (ho : 65 < o) (hk0 : rx_rd h0 56 = some (kO nd sc)) (aK0 : aN h0 59 16 Lk) (aB0 : aN h0 60 8 Nb) (hA : A = fun s => Lk s &&& R) (hsp : pSpec n w R A) (hn : n ≤ 8) (hw : ∀ j, j < 40 → w j < 2 ^ n) (hNb : ∀ s, s < n → stB R A s = true → Nb s = nuF R A s) (Q : Option Value → rx_H → Prop)
    (hq : ∀ h, Fr h0 h [64, 65] → pW h 64 (nuF R A n) (prW n w R A n) → Q none h) :
    ∀ j s h, s + j = n → Fr h0 h [64, 65] → pW h 64 (nuF R A n) (prW n w R A s) → rx_R 4 68 [.ref 56, .ref o, .ref 64, .int (nI R), .int kp, .int (nI s)] [] h Q
  | 0, s, h, e, hf, hd => by
    have e' : s = n := by omega
    subst e'
    have hp := pW_fr hf (by simp; omega) (by simp; omega) hp0
    apply rx_wp_sound 60 [68]
    simp (disch := first | decide | omega) only [rx_W, rx_wp_succ, rx_nx_stop, rx_nx_go, rx_lx_some, rx_fx_some, rx_ax_some, rx_qx_some, rx_ox_some, rx_vx_ref, rx_ix_ref, rx_ld_0, rx_ld_2, rx_ld_3, rx_cx_some, rx_nl, List.getElem?_cons_zero, List.getElem?_cons_succ, List.set_cons_zero, List.set_cons_succ, List.length_cons, List.length_nil, List.take_succ_cons, List.take_zero, List.drop_succ_cons, List.drop_zero, List.reverse_cons, List.reverse_nil, List.nil_append, List.cons_append, Option.toList_some, Option.toList_none, true_and, and_true, and_self, true_or, or_true, false_and, and_false, false_or, or_false, not_false_eq_true, Nat.reduceAdd, Nat.reduceLT, Nat.reduceLeDiff, Nat.reduceBEq, Nat.reduceEqDiff, Bool.or_false, Bool.false_or, if_true, if_false, Bool.false_eq_true, nq_eq, nq_lt, nq_le, nq_in_t, nq_bd, nq_ft, nq_clamp, nq_shl31, nq_shr31, nq_bitb, nq_add, nq_mul, fa_and, fa_or, nq_b0, nq_b1, nq_b01, ↓ni_lt_t, ↓ni_lt_f, ↓ni_le_t, ↓ni_le_f, ↓ni_eq_t, ↓ni_eq_f, ↓ni_beq_t, ↓ni_beq_f, it_X0_press, hp.1, hp.2.2]
    exact hq h hf hd
  | j + 1, s, h, e, hf, hd => by
    have hp := pW_fr hf (by simp; omega) (by simp; omega) hp0
    have hk := (hf.2.2 56 (by simp)).trans hk0
    have aK := aN_fr hf (by simp) aK0
    have aB := aN_fr hf (by simp) aB0
    have ih := fun h => l_X0_pr2 (kp := kp) hp0 ho hk0 aK0 aB0 hA hsp hn hw hNb Q hq j (s + 1) h (by omega)
    have p8 : 2 ^ n ≤ 2 ^ 8 := Nat.pow_le_pow_right (by omega) hn
    have hR31 : R < 2 ^ 31 := by have := hsp.2.1; omega
    have eA : A s = Lk s &&& R := by rw [hA]
    have keep : stB R A s = false → rx_R 4 68 [.ref 56, .ref o, .ref 64, .int (nI R), .int kp, .int (nI (s + 1))] [] h Q := by
      intro c
      refine ih h hf ?_
      have : prW n w R A (s + 1) = prW n w R A s := by
        funext r
        show (if stB R A s = true ∧ r / 5 = nuF R A s then _ else prW n w R A s r) = _
        rw [if_neg (fun z => by rw [c] at z; cases z.1)]
      rw [this]
      exact hd
    apply rx_wp_sound 60 [68]
    cases c1 : R.testBit s with
    | false =>
      simp (disch := first | decide | omega) only [rx_W, rx_wp_succ, rx_nx_stop, rx_nx_go, rx_lx_some, rx_fx_some, rx_ax_some, rx_qx_some, rx_ox_some, rx_vx_ref, rx_ix_ref, rx_ld_0, rx_ld_2, rx_ld_3, rx_cx_some, rx_nl, List.getElem?_cons_zero, List.getElem?_cons_succ, List.set_cons_zero, List.set_cons_succ, List.length_cons, List.length_nil, List.take_succ_cons, List.take_zero, List.drop_succ_cons, List.drop_zero, List.reverse_cons, List.reverse_nil, List.nil_append, List.cons_append, Option.toList_some, Option.toList_none, true_and, and_true, and_self, true_or, or_true, false_and, and_false, false_or, or_false, not_false_eq_true, Nat.reduceAdd, Nat.reduceLT, Nat.reduceLeDiff, Nat.reduceBEq, Nat.reduceEqDiff, Bool.or_false, Bool.false_or, if_true, if_false, Bool.false_eq_true, nq_eq, nq_lt, nq_le, nq_in_t, nq_bd, nq_ft, nq_clamp, nq_shl31, nq_shr31, nq_bitb, nq_add, nq_mul, fa_and, fa_or, nq_b0, nq_b1, nq_b01, ↓ni_lt_t, ↓ni_lt_f, ↓ni_le_t, ↓ni_le_f, ↓ni_eq_t, ↓ni_eq_f, ↓ni_beq_t, ↓ni_beq_f, it_X0_press, hp.1, hp.2.2, q_X7_has, c1]
      exact keep (by unfold stB; rw [c1]; rfl)
    | true =>
      obtain ⟨t1, t2, t3, t4, t5⟩ := rep_ok hsp hn hw c1
      rw [eA] at t2 t3
      by_cases c2 : lb (Lk s &&& R) = s
      · have hst : stB R A s = true := by unfold stB; rw [c1, eA, decide_eq_true c2]; rfl
        simp (disch := first | decide | omega) only [rx_W, rx_wp_succ, rx_nx_stop, rx_nx_go, rx_lx_some, rx_fx_some, rx_ax_some, rx_qx_some, rx_ox_some, rx_vx_ref, rx_ix_ref, rx_ld_0, rx_ld_2, rx_ld_3, rx_cx_some, rx_nl, List.getElem?_cons_zero, List.getElem?_cons_succ, List.set_cons_zero, List.set_cons_succ, List.length_cons, List.length_nil, List.take_succ_cons, List.take_zero, List.drop_succ_cons, List.drop_zero, List.reverse_cons, List.reverse_nil, List.nil_append, List.cons_append, Option.toList_some, Option.toList_none, true_and, and_true, and_self, true_or, or_true, false_and, and_false, false_or, or_false, not_false_eq_true, Nat.reduceAdd, Nat.reduceLT, Nat.reduceLeDiff, Nat.reduceBEq, Nat.reduceEqDiff, Bool.or_false, Bool.false_or, if_true, if_false, Bool.false_eq_true, nq_eq, nq_lt, nq_le, nq_in_t, nq_bd, nq_ft, nq_clamp, nq_shl31, nq_shr31, nq_bitb, nq_add, nq_mul, fa_and, fa_or, nq_b0, nq_b1, nq_b01, ↓ni_lt_t, ↓ni_lt_f, ↓ni_le_t, ↓ni_le_f, ↓ni_eq_t, ↓ni_eq_f, ↓ni_beq_t, ↓ni_beq_f, it_X0_press, hp.1, hp.2.2, q_X7_has, c1, hk, kO, q_X0_standIn hk aK, hR31, t2, c2]
        refine rx_Cl_imp (c_X0_pressMoves hp ho hk aK aB hA hsp hn hw hNb hst (by omega) hd) (fun r h2 ⟨e2, y1, y2⟩ => ?_)
        subst e2
        simp (disch := first | decide | omega) only [rx_W, rx_wp_succ, rx_nx_stop, rx_nx_go, rx_lx_some, rx_fx_some, rx_ax_some, rx_qx_some, rx_ox_some, rx_vx_ref, rx_ix_ref, rx_ld_0, rx_ld_2, rx_ld_3, rx_cx_some, rx_nl, List.getElem?_cons_zero, List.getElem?_cons_succ, List.set_cons_zero, List.set_cons_succ, List.length_cons, List.length_nil, List.take_succ_cons, List.take_zero, List.drop_succ_cons, List.drop_zero, List.reverse_cons, List.reverse_nil, List.nil_append, List.cons_append, Option.toList_some, Option.toList_none, true_and, and_true, and_self, true_or, or_true, false_and, and_false, false_or, or_false, not_false_eq_true, Nat.reduceAdd, Nat.reduceLT, Nat.reduceLeDiff, Nat.reduceBEq, Nat.reduceEqDiff, Bool.or_false, Bool.false_or, if_true, if_false, Bool.false_eq_true, nq_eq, nq_lt, nq_le, nq_in_t, nq_bd, nq_ft, nq_clamp, nq_shl31, nq_shr31, nq_bitb, nq_add, nq_mul, fa_and, fa_or, nq_b0, nq_b1, nq_b01, ↓ni_lt_t, ↓ni_lt_f, ↓ni_le_t, ↓ni_le_f, ↓ni_eq_t, ↓ni_eq_f, ↓ni_beq_t, ↓ni_beq_f, it_X0_press]
        exact ih h2 (Fr_trans hf y1 (fun _ z => z) (fun _ z => z)) y2
      · simp (disch := first | decide | omega) only [rx_W, rx_wp_succ, rx_nx_stop, rx_nx_go, rx_lx_some, rx_fx_some, rx_ax_some, rx_qx_some, rx_ox_some, rx_vx_ref, rx_ix_ref, rx_ld_0, rx_ld_2, rx_ld_3, rx_cx_some, rx_nl, List.getElem?_cons_zero, List.getElem?_cons_succ, List.set_cons_zero, List.set_cons_succ, List.length_cons, List.length_nil, List.take_succ_cons, List.take_zero, List.drop_succ_cons, List.drop_zero, List.reverse_cons, List.reverse_nil, List.nil_append, List.cons_append, Option.toList_some, Option.toList_none, true_and, and_true, and_self, true_or, or_true, false_and, and_false, false_or, or_false, not_false_eq_true, Nat.reduceAdd, Nat.reduceLT, Nat.reduceLeDiff, Nat.reduceBEq, Nat.reduceEqDiff, Bool.or_false, Bool.false_or, if_true, if_false, Bool.false_eq_true, nq_eq, nq_lt, nq_le, nq_in_t, nq_bd, nq_ft, nq_clamp, nq_shl31, nq_shr31, nq_bitb, nq_add, nq_mul, fa_and, fa_or, nq_b0, nq_b1, nq_b01, ↓ni_lt_t, ↓ni_lt_f, ↓ni_le_t, ↓ni_le_f, ↓ni_eq_t, ↓ni_eq_f, ↓ni_beq_t, ↓ni_beq_f, it_X0_press, hp.1, hp.2.2, q_X7_has, c1, hk, kO, q_X0_standIn hk aK, hR31, t2, c2]
        exact keep (by unfold stB; rw [c1, eA, decide_eq_false c2]; rfl)
theorem c_X0_press {h : rx_H} {o n9 : Nat} {Nb w9 : Nat → Nat} (hp : pW h o n w) (ho : 65 < o) (hk : rx_rd h 56 = some (kO nd sc)) (aK : aN h 59 16 Lk) (aB : aN h 60 8 Nb) (hL : ∀ i, i < n → ∀ j, (Lk i).testBit j = true ↔ alk n w n w i j) (hn0 : 1 ≤ n) (hn : n ≤ 8) (hw : ∀ j, j < 40 → w j < 2 ^ n) (hd : pW h 64 n9 w9) :
    rx_Cl 4 [.ref 56, .ref o, .ref 64] h (fun r h' => r = none ∧ Fr h h' [60, 64, 65] ∧ ∃ R A, pSpec n w R A ∧ (∃ Nb, aN h' 60 8 Nb) ∧ pW h' 64 (nuF R A n) (prW n w R A n)) := by
  apply en_X0_press _ _ _ 60 [11]
  simp (disch := first | decide | omega) only [rx_W, rx_wp_succ, rx_nx_stop, rx_nx_go, rx_lx_some, rx_fx_some, rx_ax_some, rx_qx_some, rx_ox_some, rx_vx_ref, rx_ix_ref, rx_ld_0, rx_ld_2, rx_ld_3, rx_cx_some, rx_nl, List.getElem?_cons_zero, List.getElem?_cons_succ, List.set_cons_zero, List.set_cons_succ, List.length_cons, List.length_nil, List.take_succ_cons, List.take_zero, List.drop_succ_cons, List.drop_zero, List.reverse_cons, List.reverse_nil, List.nil_append, List.cons_append, Option.toList_some, Option.toList_none, true_and, and_true, and_self, true_or, or_true, false_and, and_false, false_or, or_false, not_false_eq_true, Nat.reduceAdd, Nat.reduceLT, Nat.reduceLeDiff, Nat.reduceBEq, Nat.reduceEqDiff, Bool.or_false, Bool.false_or, if_true, if_false, Bool.false_eq_true, nq_eq, nq_lt, nq_le, nq_in_t, nq_bd, nq_ft, nq_clamp, nq_shl31, nq_shr31, nq_bitb, nq_add, nq_mul, fa_and, fa_or, nq_b0, nq_b1, nq_b01, ↓ni_lt_t, ↓ni_lt_f, ↓ni_le_t, ↓ni_le_f, ↓ni_eq_t, ↓ni_eq_f, ↓ni_beq_t, ↓ni_beq_f, it_X0_press, hp.1, hp.2.2]
  refine rx_Cl_imp (c_X4_reached hp hn0 hn hw) (fun r h1 hr => ?_)
  obtain ⟨e1, R, r1, r2, r3⟩ := hr
  subst e1
  subst r3
  simp (disch := first | decide | omega) only [rx_W, rx_wp_succ, rx_nx_stop, rx_nx_go, rx_lx_some, rx_fx_some, rx_ax_some, rx_qx_some, rx_ox_some, rx_vx_ref, rx_ix_ref, rx_ld_0, rx_ld_2, rx_ld_3, rx_cx_some, rx_nl, List.getElem?_cons_zero, List.getElem?_cons_succ, List.set_cons_zero, List.set_cons_succ, List.length_cons, List.length_nil, List.take_succ_cons, List.take_zero, List.drop_succ_cons, List.drop_zero, List.reverse_cons, List.reverse_nil, List.nil_append, List.cons_append, Option.toList_some, Option.toList_none, true_and, and_true, and_self, true_or, or_true, false_and, and_false, false_or, or_false, not_false_eq_true, Nat.reduceAdd, Nat.reduceLT, Nat.reduceLeDiff, Nat.reduceBEq, Nat.reduceEqDiff, Bool.or_false, Bool.false_or, if_true, if_false, Bool.false_eq_true, nq_eq, nq_lt, nq_le, nq_in_t, nq_bd, nq_ft, nq_clamp, nq_shl31, nq_shr31, nq_bitb, nq_add, nq_mul, fa_and, fa_or, nq_b0, nq_b1, nq_b01, ↓ni_lt_t, ↓ni_lt_f, ↓ni_le_t, ↓ni_le_f, ↓ni_eq_t, ↓ni_eq_f, ↓ni_beq_t, ↓ni_beq_f, it_X0_press]
  have hsp : pSpec n w R (fun s => Lk s &&& R) := ⟨r1, r2, fun s hs j => by rw [Nat.testBit_and, Bool.and_eq_true, hL s hs j]⟩
  refine l_X0_pr1 (h0 := h1) hp ho hk aK rfl hsp hn hw _ (fun h2 Nb2 y1 y2 y3 => ?_) n 0 h1 Nb (by omega) (Fr_rfl _ _) aB (fun s hs => by omega)
  have hd2 := pW_fr y1 (by simp) (by simp) hd
  apply rx_wp_sound 60 [68]
  simp (disch := first | decide | omega) only [rx_W, rx_wp_succ, rx_nx_stop, rx_nx_go, rx_lx_some, rx_fx_some, rx_ax_some, rx_qx_some, rx_ox_some, rx_vx_ref, rx_ix_ref, rx_ld_0, rx_ld_2, rx_ld_3, rx_cx_some, rx_nl, List.getElem?_cons_zero, List.getElem?_cons_succ, List.set_cons_zero, List.set_cons_succ, List.length_cons, List.length_nil, List.take_succ_cons, List.take_zero, List.drop_succ_cons, List.drop_zero, List.reverse_cons, List.reverse_nil, List.nil_append, List.cons_append, Option.toList_some, Option.toList_none, true_and, and_true, and_self, true_or, or_true, false_and, and_false, false_or, or_false, not_false_eq_true, Nat.reduceAdd, Nat.reduceLT, Nat.reduceLeDiff, Nat.reduceBEq, Nat.reduceEqDiff, Bool.or_false, Bool.false_or, if_true, if_false, Bool.false_eq_true, nq_eq, nq_lt, nq_le, nq_in_t, nq_bd, nq_ft, nq_clamp, nq_shl31, nq_shr31, nq_bitb, nq_add, nq_mul, fa_and, fa_or, nq_b0, nq_b1, nq_b01, ↓ni_lt_t, ↓ni_lt_f, ↓ni_le_t, ↓ni_le_f, ↓ni_eq_t, ↓ni_eq_f, ↓ni_beq_t, ↓ni_beq_f, it_X0_press, hd2.1, hd2.2.2]
  refine rx_Cl_imp (c_X4_begin (m := nuF R (fun s => Lk s &&& R) n) hd2) (fun r h3 ⟨e3, z1, z2⟩ => ?_)
  subst e3
  simp (disch := first | decide | omega) only [rx_W, rx_wp_succ, rx_nx_stop, rx_nx_go, rx_lx_some, rx_fx_some, rx_ax_some, rx_qx_some, rx_ox_some, rx_vx_ref, rx_ix_ref, rx_ld_0, rx_ld_2, rx_ld_3, rx_cx_some, rx_nl, List.getElem?_cons_zero, List.getElem?_cons_succ, List.set_cons_zero, List.set_cons_succ, List.length_cons, List.length_nil, List.take_succ_cons, List.take_zero, List.drop_succ_cons, List.drop_zero, List.reverse_cons, List.reverse_nil, List.nil_append, List.cons_append, Option.toList_some, Option.toList_none, true_and, and_true, and_self, true_or, or_true, false_and, and_false, false_or, or_false, not_false_eq_true, Nat.reduceAdd, Nat.reduceLT, Nat.reduceLeDiff, Nat.reduceBEq, Nat.reduceEqDiff, Bool.or_false, Bool.false_or, if_true, if_false, Bool.false_eq_true, nq_eq, nq_lt, nq_le, nq_in_t, nq_bd, nq_ft, nq_clamp, nq_shl31, nq_shr31, nq_bitb, nq_add, nq_mul, fa_and, fa_or, nq_b0, nq_b1, nq_b01, ↓ni_lt_t, ↓ni_lt_f, ↓ni_le_t, ↓ni_le_f, ↓ni_eq_t, ↓ni_eq_f, ↓ni_beq_t, ↓ni_beq_f, it_X0_press]
  have f3 := Fr_trans y1 z1 (C := [60, 64, 65]) (by simp) (by simp)
  refine l_X0_pr2 (h0 := h3) (Nb := Nb2) (pW_fr f3 (by simp; omega) (by simp; omega) hp) ho ((f3.2.2 56 (by simp)).trans hk) (aN_fr f3 (by simp) aK) (aN_fr z1 (by simp) y2) rfl hsp hn hw y3 _ (fun h4 x1 x2 => ⟨rfl, Fr_trans f3 x1 (fun _ z => z) (by simp), R, _, hsp, ⟨Nb2, aN_fr x1 (by simp) (aN_fr z1 (by simp) y2)⟩, x2⟩) n 0 h3 (by omega) (Fr_rfl _ _) z2
end PC
