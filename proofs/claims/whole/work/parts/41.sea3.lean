theorem l_X5_forget {h0 : rx_H} {l : List eL} {P1 P2 P3 len : Nat} {f1 : Nat → Int32} (h1 : rx_rd h0 49 = some (sO P1 P2 P3 l.length)) (hP : ¬ P1 = 52) (g1 : rx_rd h0 P1 = some (.inl (0, len, .inl f1))) (hl : ∀ (i : Nat) (e : eL), l[i]? = some e → f1 i = nI e.1 ∧ e.1 < 65536) (hlen : l.length ≤ len) (hk : len ≤ 65536) (Q : Option Value → rx_H → Prop)
    (hq : ∀ h sn, Fr h0 h [52] → aN h 52 2048 sn → (∀ x, x < 65536 → (sn (x / 32)).testBit (x % 32) = true → inL l x = true ∧ ∀ (j : Nat) (e : eL), j < l.length → l[j]? = some e → ¬ e.1 / 32 = x / 32) → rx_R 54 31 [.ref 49, .int (nI l.length)] [] h Q) :
    ∀ j i h sn, i + j = l.length → Fr h0 h [52] → aN h 52 2048 sn → (∀ x, x < 65536 → (sn (x / 32)).testBit (x % 32) = true → inL l x = true ∧ ∀ (j : Nat) (e : eL), j < i → l[j]? = some e → ¬ e.1 / 32 = x / 32) → rx_R 54 2 [.ref 49, .int (nI i)] [] h Q
  | 0, i, h, sn, e, hf, ha, hs => by
    have e' : i = l.length := by omega
    subst e'
    have h1' := (hf.2.2 49 (by simp)).trans h1
    apply rx_wp_sound 40 [2, 31]
    simp (disch := first | decide | omega) only [rx_W, rx_wp_succ, rx_nx_stop, rx_nx_go, rx_lx_some, rx_fx_some, rx_ax_some, rx_qx_some, rx_ox_some, rx_vx_ref, rx_ix_ref, rx_ld_0, rx_ld_2, rx_ld_3, rx_cx_some, rx_nl, List.getElem?_cons_zero, List.getElem?_cons_succ, List.set_cons_zero, List.set_cons_succ, List.length_cons, List.length_nil, List.take_succ_cons, List.take_zero, List.drop_succ_cons, List.drop_zero, List.reverse_cons, List.reverse_nil, List.nil_append, List.cons_append, Option.toList_some, Option.toList_none, true_and, and_true, and_self, true_or, or_true, false_and, and_false, false_or, or_false, not_false_eq_true, Nat.reduceAdd, Nat.reduceLT, Nat.reduceLeDiff, Nat.reduceBEq, Nat.reduceEqDiff, Bool.or_false, Bool.false_or, if_true, if_false, Bool.false_eq_true, nq_eq, nq_lt, nq_le, nq_in_t, nq_bd, nq_ft, nq_clamp, nq_shl31, nq_shr31, nq_bitb, nq_add, nq_mul, fa_and, fa_or, nq_b0, nq_b1, nq_b01, ↓ni_lt_t, ↓ni_lt_f, ↓ni_le_t, ↓ni_le_f, ↓ni_eq_t, ↓ni_eq_f, ↓ni_beq_t, ↓ni_beq_f, it_X5_forget, h1', sO]
    exact hq h sn hf ha hs
  | j + 1, i, h, sn, e, hf, ha, hs => by
    have h1' := (hf.2.2 49 (by simp)).trans h1
    have g1' := (hf.2.2 P1 (by simp; omega)).trans g1
    obtain ⟨en, he⟩ := get_of (l := l) (i := i) (by omega)
    obtain ⟨y1, y2⟩ := hl i en he
    obtain ⟨f, a1, a2⟩ := ha
    apply rx_wp_sound 40 [2, 31]
    simp (disch := first | decide | omega) only [rx_W, rx_wp_succ, rx_nx_stop, rx_nx_go, rx_lx_some, rx_fx_some, rx_ax_some, rx_qx_some, rx_ox_some, rx_vx_ref, rx_ix_ref, rx_ld_0, rx_ld_2, rx_ld_3, rx_cx_some, rx_nl, List.getElem?_cons_zero, List.getElem?_cons_succ, List.set_cons_zero, List.set_cons_succ, List.length_cons, List.length_nil, List.take_succ_cons, List.take_zero, List.drop_succ_cons, List.drop_zero, List.reverse_cons, List.reverse_nil, List.nil_append, List.cons_append, Option.toList_some, Option.toList_none, true_and, and_true, and_self, true_or, or_true, false_and, and_false, false_or, or_false, not_false_eq_true, Nat.reduceAdd, Nat.reduceLT, Nat.reduceLeDiff, Nat.reduceBEq, Nat.reduceEqDiff, Bool.or_false, Bool.false_or, if_true, if_false, Bool.false_eq_true, nq_eq, nq_lt, nq_le, nq_in_t, nq_bd, nq_ft, nq_clamp, nq_shl31, nq_shr31, nq_bitb, nq_add, nq_mul, fa_and, fa_or, nq_b0, nq_b1, nq_b01, ↓ni_lt_t, ↓ni_lt_f, ↓ni_le_t, ↓ni_le_f, ↓ni_eq_t, ↓ni_eq_f, ↓ni_beq_t, ↓ni_beq_f, it_X5_forget, h1', sO, g1', y1, nq_div, a1]
    refine l_X5_forget h1 hP g1 hl hlen hk Q hq j (i + 1) _ (va_up sn (en.1 / 32) 0) (by omega) (Fr_up hf (by simp)) ⟨_, rd_eq _ _ _, aN_upd a2 _ _⟩ (fun x hx hb => ?_)
    unfold va_up at hb
    by_cases ex : x / 32 = en.1 / 32
    · rw [if_pos ex] at hb
      simp at hb
    · rw [if_neg ex] at hb
      obtain ⟨z1, z2⟩ := hs x hx hb
      refine ⟨z1, fun j e hj hje => ?_⟩
      by_cases ej : j = i
      · subst ej
        rw [he] at hje
        cases hje
        exact fun z => ex z.symm
      · exact z2 j e (by omega) hje
theorem nI_neg1 : (-1 : Int32) = nI 4294967295 := by decide +kernel
theorem c_X5_forget {h : rx_H} {l : List eL} (hq : sQ h l) (hx : ∀ (i : Nat) (e : eL), l[i]? = some e → e.1 < 65536) {fF : Nat → Int32} (hF : rx_rd h 51 = some (.inl (0, 3, .inl fF))) : rx_Cl 54 [.ref 49] h (fun r h' => r = none ∧ FT h h' ∧ rx_rd h' 50 = rx_rd h 50 ∧ sQ h' [] ∧ ∃ g, rx_rd h' 51 = some (.inl (0, 3, .inl g)) ∧ ∀ j, j < 3 → g j = -1) := by
  obtain ⟨P1, P2, P3, kk, h1, hP, hR, hB⟩ := hq
  have hR' := hR
  obtain ⟨r1, r2, r3, r4, r5, f1, f2, f3, g1, g2, g3, g4⟩ := hR'
  have hP' := hP
  obtain ⟨⟨o1, o2, o3, o4, o5, o6⟩, p1, p2, p3, q1, q2, q3⟩ := hP'
  have h2k : 2 ^ kk ≤ 2 ^ 10 := Nat.pow_le_pow_right (by omega) r1
  obtain ⟨sn, s1, s2⟩ := hB
  apply en_X5_forget _ 40 [2]
  simp (disch := first | decide | omega) only [rx_W, rx_wp_succ, rx_nx_stop, rx_nx_go, rx_lx_some, rx_fx_some, rx_ax_some, rx_qx_some, rx_ox_some, rx_vx_ref, rx_ix_ref, rx_ld_0, rx_ld_2, rx_ld_3, rx_cx_some, rx_nl, List.getElem?_cons_zero, List.getElem?_cons_succ, List.set_cons_zero, List.set_cons_succ, List.length_cons, List.length_nil, List.take_succ_cons, List.take_zero, List.drop_succ_cons, List.drop_zero, List.reverse_cons, List.reverse_nil, List.nil_append, List.cons_append, Option.toList_some, Option.toList_none, true_and, and_true, and_self, true_or, or_true, false_and, and_false, false_or, or_false, not_false_eq_true, Nat.reduceAdd, Nat.reduceLT, Nat.reduceLeDiff, Nat.reduceBEq, Nat.reduceEqDiff, Bool.or_false, Bool.false_or, if_true, if_false, Bool.false_eq_true, nq_eq, nq_lt, nq_le, nq_in_t, nq_bd, nq_ft, nq_clamp, nq_shl31, nq_shr31, nq_bitb, nq_add, nq_mul, fa_and, fa_or, nq_b0, nq_b1, nq_b01, ↓ni_lt_t, ↓ni_lt_f, ↓ni_le_t, ↓ni_le_f, ↓ni_eq_t, ↓ni_eq_f, ↓ni_beq_t, ↓ni_beq_f, it_X5_forget]
  refine l_X5_forget (h0 := h) h1 (by omega) g1 (fun i e he => ⟨(g4 i e he).1, hx i e he⟩) r5 (by omega) _ (fun h2 sn2 z1 z2 z3 => ?_) l.length 0 h sn (by omega) (Fr_rfl _ _) s1 (fun x hx hb => ⟨by rw [← s2 x hx]; exact hb, fun j e hj => by omega⟩)
  have h1' := (z1.2.2 49 (by simp)).trans h1
  have hF' := (z1.2.2 51 (by simp)).trans hF
  apply rx_wp_sound 40 []
  simp (disch := first | decide | omega) only [rx_W, rx_wp_succ, rx_nx_stop, rx_nx_go, rx_lx_some, rx_fx_some, rx_ax_some, rx_qx_some, rx_ox_some, rx_vx_ref, rx_ix_ref, rx_ld_0, rx_ld_2, rx_ld_3, rx_cx_some, rx_nl, List.getElem?_cons_zero, List.getElem?_cons_succ, List.set_cons_zero, List.set_cons_succ, List.length_cons, List.length_nil, List.take_succ_cons, List.take_zero, List.drop_succ_cons, List.drop_zero, List.reverse_cons, List.reverse_nil, List.nil_append, List.cons_append, Option.toList_some, Option.toList_none, true_and, and_true, and_self, true_or, or_true, false_and, and_false, false_or, or_false, not_false_eq_true, Nat.reduceAdd, Nat.reduceLT, Nat.reduceLeDiff, Nat.reduceBEq, Nat.reduceEqDiff, Bool.or_false, Bool.false_or, if_true, if_false, Bool.false_eq_true, nq_eq, nq_lt, nq_le, nq_in_t, nq_bd, nq_ft, nq_clamp, nq_shl31, nq_shr31, nq_bitb, nq_add, nq_mul, fa_and, fa_or, nq_b0, nq_b1, nq_b01, ↓ni_lt_t, ↓ni_lt_f, ↓ni_le_t, ↓ni_le_f, ↓ni_eq_t, ↓ni_eq_f, ↓ni_beq_t, ↓ni_beq_f, it_X5_forget, h1', sO, rd_eq, rd_ne, rx_ft, nI_neg1]
  refine rx_Cl_imp (c_fill (a := 51) (k := 3) (v := 4294967295) (f := fF) (by omega) (by omega) (by rw [rd_ne (by omega)]; exact hF')) (fun r h3 ⟨e3, y1, y2⟩ => ?_)
  subst e3
  simp (disch := first | decide | omega) only [rx_W, rx_wp_succ, rx_nx_stop, rx_nx_go, rx_lx_some, rx_fx_some, rx_ax_some, rx_qx_some, rx_ox_some, rx_vx_ref, rx_ix_ref, rx_ld_0, rx_ld_2, rx_ld_3, rx_cx_some, rx_nl, List.getElem?_cons_zero, List.getElem?_cons_succ, List.set_cons_zero, List.set_cons_succ, List.length_cons, List.length_nil, List.take_succ_cons, List.take_zero, List.drop_succ_cons, List.drop_zero, List.reverse_cons, List.reverse_nil, List.nil_append, List.cons_append, Option.toList_some, Option.toList_none, true_and, and_true, and_self, true_or, or_true, false_and, and_false, false_or, or_false, not_false_eq_true, Nat.reduceAdd, Nat.reduceLT, Nat.reduceLeDiff, Nat.reduceBEq, Nat.reduceEqDiff, Bool.or_false, Bool.false_or, if_true, if_false, Bool.false_eq_true, it_X5_forget]
  have f3' : ∀ i, ¬ i = 49 → ¬ i = 51 → ¬ i = 52 → rx_rd h3 i = rx_rd h i := fun i i1 i2 i3 => (y1.2.2 i (by simp; omega)).trans ((rd_ne i1).trans (z1.2.2 i (by simp; omega)))
  have c1 : h3.1 = h.1 := y1.1.trans z1.1
  have c2 : h3.2.1 = h.2.1 := y1.2.1.trans z1.2.1
  obtain ⟨g, y3, y4⟩ := y2
  refine ⟨⟨by omega, fun i i1 i2 => f3' i (by omega) (by omega) (by omega)⟩, f3' 50 (by omega) (by omega) (by omega), ⟨P1, P2, P3, kk, ?_, ?_, ?_, ?_⟩, g, y3, y4⟩
  · rw [y1.2.2 49 (by simp), rd_eq]; rfl
  · unfold okP
    rw [c1]
    exact hP
  · refine ⟨r1, by omega, by omega, by omega, by simp, f1, f2, f3, (f3' P1 (by omega) (by omega) (by omega)).trans g1, (f3' P2 (by omega) (by omega) (by omega)).trans g2, (f3' P3 (by omega) (by omega) (by omega)).trans g3, fun i e he => by simp at he⟩
  · obtain ⟨f, z4, z5⟩ := z2
    refine ⟨sn2, ⟨f, (y1.2.2 52 (by simp)).trans ((rd_ne (by omega)).trans z4), z5⟩, fun x hx2 => ?_⟩
    have : inL [] x = false := rfl
    rw [this]
    cases hb : (sn2 (x / 32)).testBit (x % 32) with
    | false => rfl
    | true =>
      obtain ⟨y5, y6⟩ := z3 x hx2 hb
      obtain ⟨i, e, e1, e2⟩ := inL_iff.mp y5
      exact absurd (by rw [e2]) (y6 i e (get_lt e1) e1)
/-! ===== note, foundIn, reasonAt ===== -/
theorem l_X5_note {h0 : rx_H} {P1 P2 P3 sz k r : Nat} {fF0 fW0 : Nat → Int32} (h1 : rx_rd h0 49 = some (sO P1 P2 P3 sz)) (hr : r ≤ 3) (Q : Option Value → rx_H → Prop)
    (hq : ∀ h fF fW, Fr h0 h [50, 51] → rx_rd h 51 = some (.inl (0, 3, .inl fF)) → rx_rd h 50 = some (.inl (0, 3, .inl fW)) → (∀ m, m < 3 → fF m = (if r ≤ m ∧ fF0 m = -1 then nI k else fF0 m) ∧ fW m = (if r ≤ m ∧ fF0 m = -1 then nI r else fW0 m)) → Q none h) :
    ∀ j i h fF fW, i + j = 3 → r ≤ i → Fr h0 h [50, 51] → rx_rd h 51 = some (.inl (0, 3, .inl fF)) → rx_rd h 50 = some (.inl (0, 3, .inl fW)) → (∀ m, m < 3 → fF m = (if r ≤ m ∧ m < i ∧ fF0 m = -1 then nI k else fF0 m) ∧ fW m = (if r ≤ m ∧ m < i ∧ fF0 m = -1 then nI r else fW0 m)) → rx_R 57 2 [.ref 49, .int (nI k), .int (nI r), .int (nI i)] [] h Q
  | 0, i, h, fF, fW, e, hri, hf, hF, hW, hh => by
    have e' : i = 3 := by omega
    subst e'
    apply rx_wp_sound 40 [2]
    simp (disch := first | decide | omega) only [rx_W, rx_wp_succ, rx_nx_stop, rx_nx_go, rx_lx_some, rx_fx_some, rx_ax_some, rx_qx_some, rx_ox_some, rx_vx_ref, rx_ix_ref, rx_ld_0, rx_ld_2, rx_ld_3, rx_cx_some, rx_nl, List.getElem?_cons_zero, List.getElem?_cons_succ, List.set_cons_zero, List.set_cons_succ, List.length_cons, List.length_nil, List.take_succ_cons, List.take_zero, List.drop_succ_cons, List.drop_zero, List.reverse_cons, List.reverse_nil, List.nil_append, List.cons_append, Option.toList_some, Option.toList_none, true_and, and_true, and_self, true_or, or_true, false_and, and_false, false_or, or_false, not_false_eq_true, Nat.reduceAdd, Nat.reduceLT, Nat.reduceLeDiff, Nat.reduceBEq, Nat.reduceEqDiff, Bool.or_false, Bool.false_or, if_true, if_false, Bool.false_eq_true, nq_eq, nq_lt, nq_le, nq_in_t, nq_bd, nq_ft, nq_clamp, nq_shl31, nq_shr31, nq_bitb, nq_add, nq_mul, fa_and, fa_or, nq_b0, nq_b1, nq_b01, ↓ni_lt_t, ↓ni_lt_f, ↓ni_le_t, ↓ni_le_f, ↓ni_eq_t, ↓ni_eq_f, ↓ni_beq_t, ↓ni_beq_f, it_X5_note]
    refine hq h fF fW hf hF hW (fun m hm => ?_)
    have := hh m hm
    simp only [hm, true_and] at this
    exact this
  | j + 1, i, h, fF, fW, e, hri, hf, hF, hW, hh => by
    have h1' := (hf.2.2 49 (by simp)).trans h1
    have hi := hh i (by omega)
    rw [if_neg (by omega), if_neg (by omega)] at hi
    apply rx_wp_sound 40 [2]
    simp (disch := first | decide | omega) only [rx_W, rx_wp_succ, rx_nx_stop, rx_nx_go, rx_lx_some, rx_fx_some, rx_ax_some, rx_qx_some, rx_ox_some, rx_vx_ref, rx_ix_ref, rx_ld_0, rx_ld_2, rx_ld_3, rx_cx_some, rx_nl, List.getElem?_cons_zero, List.getElem?_cons_succ, List.set_cons_zero, List.set_cons_succ, List.length_cons, List.length_nil, List.take_succ_cons, List.take_zero, List.drop_succ_cons, List.drop_zero, List.reverse_cons, List.reverse_nil, List.nil_append, List.cons_append, Option.toList_some, Option.toList_none, true_and, and_true, and_self, true_or, or_true, false_and, and_false, false_or, or_false, not_false_eq_true, Nat.reduceAdd, Nat.reduceLT, Nat.reduceLeDiff, Nat.reduceBEq, Nat.reduceEqDiff, Bool.or_false, Bool.false_or, if_true, if_false, Bool.false_eq_true, nq_eq, nq_lt, nq_le, nq_in_t, nq_bd, nq_ft, nq_clamp, nq_shl31, nq_shr31, nq_bitb, nq_add, nq_mul, fa_and, fa_or, nq_b0, nq_b1, nq_b01, ↓ni_lt_t, ↓ni_lt_f, ↓ni_le_t, ↓ni_le_f, ↓ni_eq_t, ↓ni_eq_f, ↓ni_beq_t, ↓ni_beq_f, it_X5_note, h1', sO, hF, hi.1]
    split
    · next hc =>
      simp (disch := first | decide | omega) only [rx_W, rx_wp_succ, rx_nx_stop, rx_nx_go, rx_lx_some, rx_fx_some, rx_ax_some, rx_qx_some, rx_ox_some, rx_vx_ref, rx_ix_ref, rx_ld_0, rx_ld_2, rx_ld_3, rx_cx_some, rx_nl, List.getElem?_cons_zero, List.getElem?_cons_succ, List.set_cons_zero, List.set_cons_succ, List.length_cons, List.length_nil, List.take_succ_cons, List.take_zero, List.drop_succ_cons, List.drop_zero, List.reverse_cons, List.reverse_nil, List.nil_append, List.cons_append, Option.toList_some, Option.toList_none, true_and, and_true, and_self, true_or, or_true, false_and, and_false, false_or, or_false, not_false_eq_true, Nat.reduceAdd, Nat.reduceLT, Nat.reduceLeDiff, Nat.reduceBEq, Nat.reduceEqDiff, Bool.or_false, Bool.false_or, if_true, if_false, Bool.false_eq_true, nq_eq, nq_lt, nq_le, nq_in_t, nq_bd, nq_ft, nq_clamp, nq_shl31, nq_shr31, nq_bitb, nq_add, nq_mul, fa_and, fa_or, nq_b0, nq_b1, nq_b01, ↓ni_lt_t, ↓ni_lt_f, ↓ni_le_t, ↓ni_le_f, ↓ni_eq_t, ↓ni_eq_f, ↓ni_beq_t, ↓ni_beq_f, it_X5_note, h1', sO, hF, hW, rd_eq, rd_ne]
      refine l_X5_note h1 hr Q hq j (i + 1) _ (upd fF i (nI k)) (upd fW i (nI r)) (by omega) (by omega) (Fr_up (Fr_up hf (by simp)) (by simp)) ((rd_ne (by omega)).trans (rd_eq _ _ _)) (rd_eq _ _ _) (fun m hm => ?_)
      unfold upd
      by_cases em : m = i
      · subst em
        rw [if_pos rfl, if_pos rfl, if_pos ⟨hri, by omega, hc⟩, if_pos ⟨hri, by omega, hc⟩]
        exact ⟨rfl, rfl⟩
      · rw [if_neg em, if_neg em]
        have := hh m hm
        have e2 : (m < i + 1) = (m < i) := by apply propext; omega
        simp only [e2]
        exact this
    · next hc =>
      refine l_X5_note h1 hr Q hq j (i + 1) _ fF fW (by omega) (by omega) hf hF hW (fun m hm => ?_)
      by_cases em : m = i
      · subst em
        rw [if_neg (fun z => hc z.2.2), if_neg (fun z => hc z.2.2)]
        exact hi
      · have := hh m hm
        have e2 : (m < i + 1) = (m < i) := by apply propext; omega
        simp only [e2]
        exact this
theorem c_X5_note {h : rx_H} {P1 P2 P3 sz k r : Nat} {fF fW : Nat → Int32} (h1 : rx_rd h 49 = some (sO P1 P2 P3 sz)) (hr : r ≤ 3) (hF : rx_rd h 51 = some (.inl (0, 3, .inl fF))) (hW : rx_rd h 50 = some (.inl (0, 3, .inl fW))) :
    rx_Cl 57 [.ref 49, .int (nI k), .int (nI r)] h (fun rr h' => rr = none ∧ Fr h h' [50, 51] ∧ ∃ gF gW, rx_rd h' 51 = some (.inl (0, 3, .inl gF)) ∧ rx_rd h' 50 = some (.inl (0, 3, .inl gW)) ∧ ∀ m, m < 3 → gF m = (if r ≤ m ∧ fF m = -1 then nI k else fF m) ∧ gW m = (if r ≤ m ∧ fF m = -1 then nI r else fW m)) := by
  apply en_X5_note _ _ _ 40 [2]
  simp (disch := first | decide | omega) only [rx_W, rx_wp_succ, rx_nx_stop, rx_nx_go, rx_lx_some, rx_fx_some, rx_ax_some, rx_qx_some, rx_ox_some, rx_vx_ref, rx_ix_ref, rx_ld_0, rx_ld_2, rx_ld_3, rx_cx_some, rx_nl, List.getElem?_cons_zero, List.getElem?_cons_succ, List.set_cons_zero, List.set_cons_succ, List.length_cons, List.length_nil, List.take_succ_cons, List.take_zero, List.drop_succ_cons, List.drop_zero, List.reverse_cons, List.reverse_nil, List.nil_append, List.cons_append, Option.toList_some, Option.toList_none, true_and, and_true, and_self, true_or, or_true, false_and, and_false, false_or, or_false, not_false_eq_true, Nat.reduceAdd, Nat.reduceLT, Nat.reduceLeDiff, Nat.reduceBEq, Nat.reduceEqDiff, Bool.or_false, Bool.false_or, if_true, if_false, Bool.false_eq_true, nq_eq, nq_lt, nq_le, nq_in_t, nq_bd, nq_ft, nq_clamp, nq_shl31, nq_shr31, nq_bitb, nq_add, nq_mul, fa_and, fa_or, nq_b0, nq_b1, nq_b01, ↓ni_lt_t, ↓ni_lt_f, ↓ni_le_t, ↓ni_le_f, ↓ni_eq_t, ↓ni_eq_f, ↓ni_beq_t, ↓ni_beq_f, it_X5_note]
  exact l_X5_note h1 hr _ (fun h' gF gW y1 y2 y3 y4 => ⟨rfl, y1, gF, gW, y2, y3, y4⟩) (3 - r) r h fF fW (by omega) (by omega) (Fr_rfl _ _) hF hW (fun m hm => by rw [if_neg (by omega), if_neg (by omega)]; exact ⟨rfl, rfl⟩)
theorem q_X5_foundIn {h : rx_H} {P1 P2 P3 sz m : Nat} {fF : Nat → Int32} (h1 : rx_rd h 49 = some (sO P1 P2 P3 sz)) (hF : rx_rd h 51 = some (.inl (0, 3, .inl fF))) (hm : m < 3) (Q : Option Value → rx_H → Prop) : rx_Cl 51 [.ref 49, .int (nI m)] h Q = Q (some (.int (nI (!decide (fF m = -1)).toNat))) h := by
  refine rx_Cl_eq ?_ Q
  apply en_X5_foundIn _ _ 40 []
  simp (disch := first | decide | omega) only [rx_W, rx_wp_succ, rx_nx_stop, rx_nx_go, rx_lx_some, rx_fx_some, rx_ax_some, rx_qx_some, rx_ox_some, rx_vx_ref, rx_ix_ref, rx_ld_0, rx_ld_2, rx_ld_3, rx_cx_some, rx_nl, List.getElem?_cons_zero, List.getElem?_cons_succ, List.set_cons_zero, List.set_cons_succ, List.length_cons, List.length_nil, List.take_succ_cons, List.take_zero, List.drop_succ_cons, List.drop_zero, List.reverse_cons, List.reverse_nil, List.nil_append, List.cons_append, Option.toList_some, Option.toList_none, true_and, and_true, and_self, true_or, or_true, false_and, and_false, false_or, or_false, not_false_eq_true, Nat.reduceAdd, Nat.reduceLT, Nat.reduceLeDiff, Nat.reduceBEq, Nat.reduceEqDiff, Bool.or_false, Bool.false_or, if_true, if_false, Bool.false_eq_true, nq_eq, nq_lt, nq_le, nq_in_t, nq_bd, nq_ft, nq_clamp, nq_shl31, nq_shr31, nq_bitb, nq_add, nq_mul, fa_and, fa_or, nq_b0, nq_b1, nq_b01, ↓ni_lt_t, ↓ni_lt_f, ↓ni_le_t, ↓ni_le_f, ↓ni_eq_t, ↓ni_eq_f, ↓ni_beq_t, ↓ni_beq_f, it_X5_foundIn, h1, sO, hF]
  by_cases hc : fF m = -1
  · simp [hc]
  · simp [hc]
theorem q_X5_reasonAt {h : rx_H} {q1 n1 q2 n2 : Nat} {w1 w2 : Nat → Nat} (hk : oK h q1 n1 w1) (hk2 : oK h q2 n2 w2) (hn : n1 ≤ 8) (hn2 : n2 ≤ 8) {x : Nat} (hm : x / 256 < 2 ^ n1) (hm2 : x % 256 < 2 ^ n2) (Q : Option Value → rx_H → Prop) : rx_Cl 58 [.ref q1, .ref q2, .int (nI (x / 256)), .int (nI (x % 256))] h Q = Q (some (.int (nI (rsn n1 w1 n2 w2 x)))) h := by
  have hk' := hk
  obtain ⟨lo, O, R, N, F, A, ho, -⟩ := hk'
  have hk2' := hk2
  obtain ⟨lo', O', R', N', F', A', ho', -⟩ := hk2'
  have p8 : 2 ^ n1 ≤ 2 ^ 8 := Nat.pow_le_pow_right (by omega) hn
  have p82 : 2 ^ n2 ≤ 2 ^ 8 := Nat.pow_le_pow_right (by omega) hn2
  refine rx_Cl_eq ?_ Q
  unfold rsn
  apply en_X5_reasonAt _ _ _ _ 40 []
  by_cases c1 : x % 256 = 0
  · simp (disch := first | decide | omega) only [rx_W, rx_wp_succ, rx_nx_stop, rx_nx_go, rx_lx_some, rx_fx_some, rx_ax_some, rx_qx_some, rx_ox_some, rx_vx_ref, rx_ix_ref, rx_ld_0, rx_ld_2, rx_ld_3, rx_cx_some, rx_nl, List.getElem?_cons_zero, List.getElem?_cons_succ, List.set_cons_zero, List.set_cons_succ, List.length_cons, List.length_nil, List.take_succ_cons, List.take_zero, List.drop_succ_cons, List.drop_zero, List.reverse_cons, List.reverse_nil, List.nil_append, List.cons_append, Option.toList_some, Option.toList_none, true_and, and_true, and_self, true_or, or_true, false_and, and_false, false_or, or_false, not_false_eq_true, Nat.reduceAdd, Nat.reduceLT, Nat.reduceLeDiff, Nat.reduceBEq, Nat.reduceEqDiff, Bool.or_false, Bool.false_or, if_true, if_false, Bool.false_eq_true, nq_eq, nq_lt, nq_le, nq_in_t, nq_bd, nq_ft, nq_clamp, nq_shl31, nq_shr31, nq_bitb, nq_add, nq_mul, fa_and, fa_or, nq_b0, nq_b1, nq_b01, ↓ni_lt_t, ↓ni_lt_f, ↓ni_le_t, ↓ni_le_f, ↓ni_eq_t, ↓ni_eq_f, ↓ni_beq_t, ↓ni_beq_f, it_X5_reasonAt, c1]
  · simp (disch := first | decide | omega) only [rx_W, rx_wp_succ, rx_nx_stop, rx_nx_go, rx_lx_some, rx_fx_some, rx_ax_some, rx_qx_some, rx_ox_some, rx_vx_ref, rx_ix_ref, rx_ld_0, rx_ld_2, rx_ld_3, rx_cx_some, rx_nl, List.getElem?_cons_zero, List.getElem?_cons_succ, List.set_cons_zero, List.set_cons_succ, List.length_cons, List.length_nil, List.take_succ_cons, List.take_zero, List.drop_succ_cons, List.drop_zero, List.reverse_cons, List.reverse_nil, List.nil_append, List.cons_append, Option.toList_some, Option.toList_none, true_and, and_true, and_self, true_or, or_true, false_and, and_false, false_or, or_false, not_false_eq_true, Nat.reduceAdd, Nat.reduceLT, Nat.reduceLeDiff, Nat.reduceBEq, Nat.reduceEqDiff, Bool.or_false, Bool.false_or, if_true, if_false, Bool.false_eq_true, nq_eq, nq_lt, nq_le, nq_in_t, nq_bd, nq_ft, nq_clamp, nq_shl31, nq_shr31, nq_bitb, nq_add, nq_mul, fa_and, fa_or, nq_b0, nq_b1, nq_b01, ↓ni_lt_t, ↓ni_lt_f, ↓ni_le_t, ↓ni_le_f, ↓ni_eq_t, ↓ni_eq_f, ↓ni_beq_t, ↓ni_beq_f, it_X5_reasonAt, c1, q_X1_refusesWithin hk hk2 hn hn2 hm hm2, ho.1, ho.2, ho'.1, ho'.2]
    cases c2 : rfB n1 w1 (x / 256) n2 w2 (x % 256) with
    | false => simp (disch := first | decide | omega) only [rx_W, rx_wp_succ, rx_nx_stop, rx_nx_go, rx_lx_some, rx_fx_some, rx_ax_some, rx_qx_some, rx_ox_some, rx_vx_ref, rx_ix_ref, rx_ld_0, rx_ld_2, rx_ld_3, rx_cx_some, rx_nl, List.getElem?_cons_zero, List.getElem?_cons_succ, List.set_cons_zero, List.set_cons_succ, List.length_cons, List.length_nil, List.take_succ_cons, List.take_zero, List.drop_succ_cons, List.drop_zero, List.reverse_cons, List.reverse_nil, List.nil_append, List.cons_append, Option.toList_some, Option.toList_none, true_and, and_true, and_self, true_or, or_true, false_and, and_false, false_or, or_false, not_false_eq_true, Nat.reduceAdd, Nat.reduceLT, Nat.reduceLeDiff, Nat.reduceBEq, Nat.reduceEqDiff, Bool.or_false, Bool.false_or, if_true, if_false, Bool.false_eq_true, nq_eq, nq_lt, nq_le, nq_in_t, nq_bd, nq_ft, nq_clamp, nq_shl31, nq_shr31, nq_bitb, nq_add, nq_mul, fa_and, fa_or, nq_b0, nq_b1, nq_b01, ↓ni_lt_t, ↓ni_lt_f, ↓ni_le_t, ↓ni_le_f, ↓ni_eq_t, ↓ni_eq_f, ↓ni_beq_t, ↓ni_beq_f, it_X5_reasonAt, c2]
    | true =>
      simp (disch := first | decide | omega) only [rx_W, rx_wp_succ, rx_nx_stop, rx_nx_go, rx_lx_some, rx_fx_some, rx_ax_some, rx_qx_some, rx_ox_some, rx_vx_ref, rx_ix_ref, rx_ld_0, rx_ld_2, rx_ld_3, rx_cx_some, rx_nl, List.getElem?_cons_zero, List.getElem?_cons_succ, List.set_cons_zero, List.set_cons_succ, List.length_cons, List.length_nil, List.take_succ_cons, List.take_zero, List.drop_succ_cons, List.drop_zero, List.reverse_cons, List.reverse_nil, List.nil_append, List.cons_append, Option.toList_some, Option.toList_none, true_and, and_true, and_self, true_or, or_true, false_and, and_false, false_or, or_false, not_false_eq_true, Nat.reduceAdd, Nat.reduceLT, Nat.reduceLeDiff, Nat.reduceBEq, Nat.reduceEqDiff, Bool.or_false, Bool.false_or, if_true, if_false, Bool.false_eq_true, nq_eq, nq_lt, nq_le, nq_in_t, nq_bd, nq_ft, nq_clamp, nq_shl31, nq_shr31, nq_bitb, nq_add, nq_mul, fa_and, fa_or, nq_b0, nq_b1, nq_b01, ↓ni_lt_t, ↓ni_lt_f, ↓ni_le_t, ↓ni_le_f, ↓ni_eq_t, ↓ni_eq_f, ↓ni_beq_t, ↓ni_beq_f, it_X5_reasonAt, c2, q_X1_isLostIn hk hn hm, q_X1_isLostIn hk2 hn2 hm2, ho.1, ho.2, ho'.1, ho'.2]
      by_cases c3 : x / 256 &&& lst n1 w1 = 0
      · simp [c3]
      · by_cases c4 : x % 256 &&& lst n2 w2 = 0
        · simp [c3, c4]
        · simp [c3, c4]
