/-! ===== the word that leads to a pair ===== -/
def prn (l : List eL) (i : Nat) : Nat := (l[i]?.getD (0, 0, 0)).2.1
def ltr (l : List eL) (i : Nat) : Nat := (l[i]?.getD (0, 0, 0)).2.2
theorem prn_of {l : List eL} {i : Nat} {e : eL} (h : l[i]? = some e) : prn l i = e.2.1 := by unfold prn; rw [h]; rfl
theorem ltr_of {l : List eL} {i : Nat} {e : eL} (h : l[i]? = some e) : ltr l i = e.2.2 := by unfold ltr; rw [h]; rfl
def wln (l : List eL) : Nat → Nat → Nat
  | 0, _ => 0
  | f + 1, i => if i = 0 then 0 else wln l f (prn l i) + 1
theorem wln_fuel {l : List eL} {n1 n2 : Nat} (hg : gL n1 n2 l) : ∀ (f g i : Nat), i ≤ f → i ≤ g → i < l.length → wln l f i = wln l g i
  | 0, g, i, h1, h2, h3 => by
    have : i = 0 := by omega
    subst this
    cases g <;> rfl
  | f + 1, 0, i, h1, h2, h3 => by
    have : i = 0 := by omega
    subst this
    rfl
  | f + 1, g + 1, i, h1, h2, h3 => by
    show (if i = 0 then 0 else wln l f (prn l i) + 1) = (if i = 0 then 0 else wln l g (prn l i) + 1)
    split
    · rfl
    · next h0 =>
      obtain ⟨e, he⟩ := get_of h3
      have := (hg.1 i e he).2.2.2 (by omega)
      rw [prn_of he, wln_fuel hg f g e.2.1 (by omega) (by omega) (by omega)]
def dp (l : List eL) (i : Nat) : Nat := wln l i i
theorem dp_0 (l : List eL) : dp l 0 = 0 := rfl
theorem dp_pos {l : List eL} {n1 n2 i : Nat} (hg : gL n1 n2 l) (hi : 0 < i) (hl : i < l.length) : dp l i = dp l (prn l i) + 1 ∧ prn l i < i := by
  obtain ⟨e, he⟩ := get_of hl
  have h1 := (hg.1 i e he).2.2.2 hi
  rw [prn_of he]
  refine ⟨?_, h1⟩
  unfold dp
  have : i = i - 1 + 1 := by omega
  rw [this]
  show (if i - 1 + 1 = 0 then 0 else wln l (i - 1) (prn l (i - 1 + 1)) + 1) = _
  rw [← this, if_neg (by omega), prn_of he, wln_fuel hg (i - 1) e.2.1 e.2.1 (by omega) (by omega) (by omega)]
theorem dp_le {l : List eL} {n1 n2 : Nat} (hg : gL n1 n2 l) : ∀ n i, i < n → i < l.length → dp l i ≤ i
  | 0, i, h, _ => by omega
  | n + 1, i, h, hl => by
    rcases Nat.eq_zero_or_pos i with z | z
    · subst z; exact Nat.le_refl _
    · have := dp_pos hg z hl
      have h2 := dp_le hg n (prn l i) (by omega) (by omega)
      omega
def anc (l : List eL) : Nat → Nat → Nat
  | 0, i => i
  | s + 1, i => anc l s (prn l i)
section WL
variable {h : rx_H} {l : List eL} {n1 n2 P1 P2 P3 kk mode : Nat}
theorem l_X5_wl (hg : gL n1 n2 l) (hl : l.length ≤ 65536) (h1 : rx_rd h 49 = some (sO P1 P2 P3 l.length)) (hR : sR h l P1 P2 P3 kk) (Q : Option Value → rx_H → Prop) : ∀ n at0 len, dp l at0 = n → len + n < 65536 → at0 < l.length → Q (some (.int (nI (len + n)))) h → rx_R 52 9 [.ref 49, .int (nI mode), .int (nI len), .int (nI at0)] [] h Q
  | 0, at0, len, e, hlen, hat, hq => by
    have e0 : at0 = 0 := by
      rcases Nat.eq_zero_or_pos at0 with z | z
      · exact z
      · have := dp_pos hg z hat
        omega
    subst e0
    apply rx_wp_sound 60 [9]
    simp (disch := first | decide | omega) only [rx_W, rx_wp_succ, rx_nx_stop, rx_nx_go, rx_lx_some, rx_fx_some, rx_ax_some, rx_qx_some, rx_ox_some, rx_vx_ref, rx_ix_ref, rx_ld_0, rx_ld_2, rx_ld_3, rx_cx_some, rx_nl, List.getElem?_cons_zero, List.getElem?_cons_succ, List.set_cons_zero, List.set_cons_succ, List.length_cons, List.length_nil, List.take_succ_cons, List.take_zero, List.drop_succ_cons, List.drop_zero, List.reverse_cons, List.reverse_nil, List.nil_append, List.cons_append, Option.toList_some, Option.toList_none, true_and, and_true, and_self, true_or, or_true, false_and, and_false, false_or, or_false, not_false_eq_true, Nat.reduceAdd, Nat.reduceLT, Nat.reduceLeDiff, Nat.reduceBEq, Nat.reduceEqDiff, Bool.or_false, Bool.false_or, if_true, if_false, Bool.false_eq_true, nq_eq, nq_lt, nq_le, nq_in_t, nq_bd, nq_ft, nq_clamp, nq_shl31, nq_shr31, nq_bitb, nq_add, nq_mul, fa_and, fa_or, nq_b0, nq_b1, nq_b01, ↓ni_lt_t, ↓ni_lt_f, ↓ni_le_t, ↓ni_le_f, ↓ni_eq_t, ↓ni_eq_f, ↓ni_beq_t, ↓ni_beq_f, it_X5_wordLength]
    exact hq
  | n + 1, at0, len, e, hlen, hat, hq => by
    have e0 : 0 < at0 := by
      rcases Nat.eq_zero_or_pos at0 with z | z
      · subst z; rw [dp_0] at e; omega
      · exact z
    have hd := dp_pos hg e0 hat
    have hR' := hR
    obtain ⟨r1, r2, r3, r4, r5, f1, f2, f3, g1, g2, g3, g4⟩ := hR'
    obtain ⟨en, hen⟩ := get_of hat
    have y2 := (g4 at0 en hen).2.1 e0
    rw [← prn_of hen] at y2
    apply rx_wp_sound 60 [9]
    simp (disch := first | decide | omega) only [rx_W, rx_wp_succ, rx_nx_stop, rx_nx_go, rx_lx_some, rx_fx_some, rx_ax_some, rx_qx_some, rx_ox_some, rx_vx_ref, rx_ix_ref, rx_ld_0, rx_ld_2, rx_ld_3, rx_cx_some, rx_nl, List.getElem?_cons_zero, List.getElem?_cons_succ, List.set_cons_zero, List.set_cons_succ, List.length_cons, List.length_nil, List.take_succ_cons, List.take_zero, List.drop_succ_cons, List.drop_zero, List.reverse_cons, List.reverse_nil, List.nil_append, List.cons_append, Option.toList_some, Option.toList_none, true_and, and_true, and_self, true_or, or_true, false_and, and_false, false_or, or_false, not_false_eq_true, Nat.reduceAdd, Nat.reduceLT, Nat.reduceLeDiff, Nat.reduceBEq, Nat.reduceEqDiff, Bool.or_false, Bool.false_or, if_true, if_false, Bool.false_eq_true, nq_eq, nq_lt, nq_le, nq_in_t, nq_bd, nq_ft, nq_clamp, nq_shl31, nq_shr31, nq_bitb, nq_add, nq_mul, fa_and, fa_or, nq_b0, nq_b1, nq_b01, ↓ni_lt_t, ↓ni_lt_f, ↓ni_le_t, ↓ni_le_f, ↓ni_eq_t, ↓ni_eq_f, ↓ni_beq_t, ↓ni_beq_f, it_X5_wordLength, h1, sO, g2, y2]
    exact l_X5_wl hg hl h1 hR Q n (prn l at0) (len + 1) (by omega) (by omega) (by omega) (by rw [show len + 1 + n = len + (n + 1) by omega]; exact hq)
theorem q_X5_wordLength {K : Nat} {fF : Nat → Int32} (hg : gL n1 n2 l) (hl : l.length ≤ 65536) (h1 : rx_rd h 49 = some (sO P1 P2 P3 l.length)) (hR : sR h l P1 P2 P3 kk) (hF : rx_rd h 51 = some (.inl (0, 3, .inl fF))) (hm : mode < 3) (hK : fF mode = nI K) (hKl : K < l.length) (Q : Option Value → rx_H → Prop) : rx_Cl 52 [.ref 49, .int (nI mode)] h Q = Q (some (.int (nI (dp l K)))) h := by
  have hd := dp_le hg (K + 1) K (by omega) hKl
  refine rx_Cl_eq ?_ Q
  apply en_X5_wordLength _ _ 60 [9]
  simp (disch := first | decide | omega) only [rx_W, rx_wp_succ, rx_nx_stop, rx_nx_go, rx_lx_some, rx_fx_some, rx_ax_some, rx_qx_some, rx_ox_some, rx_vx_ref, rx_ix_ref, rx_ld_0, rx_ld_2, rx_ld_3, rx_cx_some, rx_nl, List.getElem?_cons_zero, List.getElem?_cons_succ, List.set_cons_zero, List.set_cons_succ, List.length_cons, List.length_nil, List.take_succ_cons, List.take_zero, List.drop_succ_cons, List.drop_zero, List.reverse_cons, List.reverse_nil, List.nil_append, List.cons_append, Option.toList_some, Option.toList_none, true_and, and_true, and_self, true_or, or_true, false_and, and_false, false_or, or_false, not_false_eq_true, Nat.reduceAdd, Nat.reduceLT, Nat.reduceLeDiff, Nat.reduceBEq, Nat.reduceEqDiff, Bool.or_false, Bool.false_or, if_true, if_false, Bool.false_eq_true, nq_eq, nq_lt, nq_le, nq_in_t, nq_bd, nq_ft, nq_clamp, nq_shl31, nq_shr31, nq_bitb, nq_add, nq_mul, fa_and, fa_or, nq_b0, nq_b1, nq_b01, ↓ni_lt_t, ↓ni_lt_f, ↓ni_le_t, ↓ni_le_f, ↓ni_eq_t, ↓ni_eq_f, ↓ni_beq_t, ↓ni_beq_f, it_X5_wordLength, h1, sO, hF, hK]
  refine l_X5_wl hg hl h1 hR _ (dp l K) K 0 rfl (by omega) hKl ?_
  rw [Nat.zero_add]
  exact ⟨rfl, rfl⟩
theorem l_X5_lf {steps A : Nat} (hg : gL n1 n2 l) (hl : l.length ≤ 65536) (h1 : rx_rd h 49 = some (sO P1 P2 P3 l.length)) (hR : sR h l P1 P2 P3 kk) (hP3 : ¬ P3 = 0) (hst : steps < 65536) (Q : Option Value → rx_H → Prop) (hq : Q (some (.int (nI (ltr l A)))) h) : ∀ j at0 i, i + j = steps → j < dp l at0 → at0 < l.length → anc l j at0 = A → rx_R 53 10 [.ref 49, .int (nI mode), .int (nI steps), .int (nI at0), .int (nI i)] [] h Q
  | 0, at0, i, e, hj, hat, hA => by
    have e' : i = steps := by omega
    subst e'
    have e0 : 0 < at0 := by
      rcases Nat.eq_zero_or_pos at0 with z | z
      · subst z; rw [dp_0] at hj; omega
      · exact z
    have hA : at0 = A := hA
    subst hA
    have hR' := hR
    obtain ⟨r1, r2, r3, r4, r5, f1, f2, f3, g1, g2, g3, g4⟩ := hR'
    obtain ⟨en, hen⟩ := get_of hat
    have y3 := (g4 at0 en hen).2.2.1
    rw [← ltr_of hen] at y3
    apply rx_wp_sound 60 [10]
    simp (disch := first | decide | omega) only [rx_W, rx_wp_succ, rx_nx_stop, rx_nx_go, rx_lx_some, rx_fx_some, rx_ax_some, rx_qx_some, rx_ox_some, rx_vx_ref, rx_ix_ref, rx_ld_0, rx_ld_2, rx_ld_3, rx_cx_some, rx_nl, List.getElem?_cons_zero, List.getElem?_cons_succ, List.set_cons_zero, List.set_cons_succ, List.length_cons, List.length_nil, List.take_succ_cons, List.take_zero, List.drop_succ_cons, List.drop_zero, List.reverse_cons, List.reverse_nil, List.nil_append, List.cons_append, Option.toList_some, Option.toList_none, true_and, and_true, and_self, true_or, or_true, false_and, and_false, false_or, or_false, not_false_eq_true, Nat.reduceAdd, Nat.reduceLT, Nat.reduceLeDiff, Nat.reduceBEq, Nat.reduceEqDiff, Bool.or_false, Bool.false_or, if_true, if_false, Bool.false_eq_true, nq_eq, nq_lt, nq_le, nq_in_t, nq_bd, nq_ft, nq_clamp, nq_shl31, nq_shr31, nq_bitb, nq_add, nq_mul, fa_and, fa_or, nq_b0, nq_b1, nq_b01, ↓ni_lt_t, ↓ni_lt_f, ↓ni_le_t, ↓ni_le_f, ↓ni_eq_t, ↓ni_eq_f, ↓ni_beq_t, ↓ni_beq_f, it_X5_letterFromEnd, h1, sO, g3, y3]
    exact ⟨hP3, hq⟩
  | j + 1, at0, i, e, hj, hat, hA => by
    have e0 : 0 < at0 := by
      rcases Nat.eq_zero_or_pos at0 with z | z
      · subst z; rw [dp_0] at hj; omega
      · exact z
    have hd := dp_pos hg e0 hat
    have hR' := hR
    obtain ⟨r1, r2, r3, r4, r5, f1, f2, f3, g1, g2, g3, g4⟩ := hR'
    obtain ⟨en, hen⟩ := get_of hat
    have y2 := (g4 at0 en hen).2.1 e0
    rw [← prn_of hen] at y2
    apply rx_wp_sound 60 [10]
    simp (disch := first | decide | omega) only [rx_W, rx_wp_succ, rx_nx_stop, rx_nx_go, rx_lx_some, rx_fx_some, rx_ax_some, rx_qx_some, rx_ox_some, rx_vx_ref, rx_ix_ref, rx_ld_0, rx_ld_2, rx_ld_3, rx_cx_some, rx_nl, List.getElem?_cons_zero, List.getElem?_cons_succ, List.set_cons_zero, List.set_cons_succ, List.length_cons, List.length_nil, List.take_succ_cons, List.take_zero, List.drop_succ_cons, List.drop_zero, List.reverse_cons, List.reverse_nil, List.nil_append, List.cons_append, Option.toList_some, Option.toList_none, true_and, and_true, and_self, true_or, or_true, false_and, and_false, false_or, or_false, not_false_eq_true, Nat.reduceAdd, Nat.reduceLT, Nat.reduceLeDiff, Nat.reduceBEq, Nat.reduceEqDiff, Bool.or_false, Bool.false_or, if_true, if_false, Bool.false_eq_true, nq_eq, nq_lt, nq_le, nq_in_t, nq_bd, nq_ft, nq_clamp, nq_shl31, nq_shr31, nq_bitb, nq_add, nq_mul, fa_and, fa_or, nq_b0, nq_b1, nq_b01, ↓ni_lt_t, ↓ni_lt_f, ↓ni_le_t, ↓ni_le_f, ↓ni_eq_t, ↓ni_eq_f, ↓ni_beq_t, ↓ni_beq_f, it_X5_letterFromEnd, h1, sO, g2, y2]
    exact l_X5_lf hg hl h1 hR hP3 hst Q hq j (prn l at0) (i + 1) (by omega) (by omega) (by omega) hA
theorem q_X5_letterFromEnd {K steps : Nat} {fF : Nat → Int32} (hg : gL n1 n2 l) (hl : l.length ≤ 65536) (h1 : rx_rd h 49 = some (sO P1 P2 P3 l.length)) (hP : okP h P1 P2 P3) (hR : sR h l P1 P2 P3 kk) (hF : rx_rd h 51 = some (.inl (0, 3, .inl fF))) (hm : mode < 3) (hK : fF mode = nI K) (hKl : K < l.length) (hst : steps < dp l K) (Q : Option Value → rx_H → Prop) : rx_Cl 53 [.ref 49, .int (nI mode), .int (nI steps)] h Q = Q (some (.int (nI (ltr l (anc l steps K))))) h := by
  have hd := dp_le hg (K + 1) K (by omega) hKl
  refine rx_Cl_eq ?_ Q
  apply en_X5_letterFromEnd _ _ _ 60 [10]
  simp (disch := first | decide | omega) only [rx_W, rx_wp_succ, rx_nx_stop, rx_nx_go, rx_lx_some, rx_fx_some, rx_ax_some, rx_qx_some, rx_ox_some, rx_vx_ref, rx_ix_ref, rx_ld_0, rx_ld_2, rx_ld_3, rx_cx_some, rx_nl, List.getElem?_cons_zero, List.getElem?_cons_succ, List.set_cons_zero, List.set_cons_succ, List.length_cons, List.length_nil, List.take_succ_cons, List.take_zero, List.drop_succ_cons, List.drop_zero, List.reverse_cons, List.reverse_nil, List.nil_append, List.cons_append, Option.toList_some, Option.toList_none, true_and, and_true, and_self, true_or, or_true, false_and, and_false, false_or, or_false, not_false_eq_true, Nat.reduceAdd, Nat.reduceLT, Nat.reduceLeDiff, Nat.reduceBEq, Nat.reduceEqDiff, Bool.or_false, Bool.false_or, if_true, if_false, Bool.false_eq_true, nq_eq, nq_lt, nq_le, nq_in_t, nq_bd, nq_ft, nq_clamp, nq_shl31, nq_shr31, nq_bitb, nq_add, nq_mul, fa_and, fa_or, nq_b0, nq_b1, nq_b01, ↓ni_lt_t, ↓ni_lt_f, ↓ni_le_t, ↓ni_le_f, ↓ni_eq_t, ↓ni_eq_f, ↓ni_beq_t, ↓ni_beq_f, it_X5_letterFromEnd, h1, sO, hF, hK]
  exact l_X5_lf hg hl h1 hR (by have := hP.1; omega) (by omega) _ ⟨rfl, rfl⟩ steps K 0 (by omega) hst hKl rfl
end WL
theorem nI_dec (a : Nat) : nI (a + 1) + -1 = nI a := by
  rw [← nq_add, Int32.add_assoc, show nI 1 + -1 = (0 : Int32) by decide +kernel, Int32.add_zero]
theorem ge_neg1 {k : Int32} (h : -1 ≤ k) : k = -1 ∨ ∃ n, n < 2 ^ 31 ∧ k = nI n := by
  by_cases c : 0 ≤ k
  · exact Or.inr (nq_of c)
  · left
    have h1 := Int32.le_iff_toInt_le.mp h
    have h2 : ¬ (0 : Int32).toInt ≤ k.toInt := fun z => c (Int32.le_iff_toInt_le.mpr z)
    have e1 : (-1 : Int32).toInt = -1 := by decide +kernel
    have e2 : (0 : Int32).toInt = 0 := by decide +kernel
    apply (fa_eq _ _).mpr
    rw [e1] at h1 ⊢
    rw [e2] at h2
    omega
section ML
variable {h : rx_H} {l : List eL} {n1 n2 p q mode K : Nat} {pa le pl : Int32} {z : Int64}
theorem l_X8_fl1 (hg : gL n1 n2 l) (hl : l.length ≤ 65536) (hs : mQ h pa le pl z l) {k : Int32} {x8 : Value} (Q : Option Value → rx_H → Prop) : ∀ d e n, dp l e = d → n + d < 65536 → e < l.length → rx_R 161 73 [.ref 98, .int (nI p), .int (nI q), .int (nI mode), .int k, .int (nI K), .int (nI (n + d)), .int (nI 0), x8] [] h Q → rx_R 161 51 [.ref 98, .int (nI p), .int (nI q), .int (nI mode), .int k, .int (nI K), .int (nI n), .int (nI e), x8] [] h Q
  | 0, e, n, hd, hn, he, hq => by
    have e0 : e = 0 := by
      rcases Nat.eq_zero_or_pos e with z | z
      · exact z
      · have := dp_pos hg z he
        omega
    subst e0
    apply rx_wp_sound 60 [51, 73]
    simp (disch := first | decide | omega) only [rx_W, rx_wp_succ, rx_nx_stop, rx_nx_go, rx_lx_some, rx_fx_some, rx_ax_some, rx_qx_some, rx_ox_some, rx_vx_ref, rx_ix_ref, rx_ld_0, rx_ld_2, rx_ld_3, rx_cx_some, rx_nl, List.getElem?_cons_zero, List.getElem?_cons_succ, List.set_cons_zero, List.set_cons_succ, List.length_cons, List.length_nil, List.take_succ_cons, List.take_zero, List.drop_succ_cons, List.drop_zero, List.reverse_cons, List.reverse_nil, List.nil_append, List.cons_append, Option.toList_some, Option.toList_none, true_and, and_true, and_self, true_or, or_true, false_and, and_false, false_or, or_false, not_false_eq_true, Nat.reduceAdd, Nat.reduceLT, Nat.reduceLeDiff, Nat.reduceBEq, Nat.reduceEqDiff, Bool.or_false, Bool.false_or, if_true, if_false, Bool.false_eq_true, nq_eq, nq_lt, nq_le, nq_in_t, nq_bd, nq_ft, nq_clamp, nq_shl31, nq_shr31, nq_bitb, nq_add, nq_mul, fa_and, fa_or, nq_b0, nq_b1, nq_b01, ↓ni_lt_t, ↓ni_lt_f, ↓ni_le_t, ↓ni_le_f, ↓ni_eq_t, ↓ni_eq_f, ↓ni_beq_t, ↓ni_beq_f, it_X8_fault, it_X8_fault_1]
    exact hq
  | d + 1, e, n, hd, hn, he, hq => by
    have e0 : 0 < e := by
      rcases Nat.eq_zero_or_pos e with z | z
      · subst z; rw [dp_0] at hd; omega
      · exact z
    have hdp := dp_pos hg e0 he
    have hs' := hs
    obtain ⟨h1, ⟨f1, f2, g1, g2, g3⟩, -⟩ := hs'
    obtain ⟨en, hen⟩ := get_of he
    have y2 := (g3 e en hen).2
    have b4 := (hg.1 e en hen).2.2.1
    have b5 := (hg.1 e en hen).2.2.2 e0
    have ed : (4 * en.2.1 + en.2.2) / 4 = prn l e := by rw [prn_of hen]; omega
    apply rx_wp_sound 60 [51, 73]
    simp (disch := first | decide | omega) only [rx_W, rx_wp_succ, rx_nx_stop, rx_nx_go, rx_lx_some, rx_fx_some, rx_ax_some, rx_qx_some, rx_ox_some, rx_vx_ref, rx_ix_ref, rx_ld_0, rx_ld_2, rx_ld_3, rx_cx_some, rx_nl, List.getElem?_cons_zero, List.getElem?_cons_succ, List.set_cons_zero, List.set_cons_succ, List.length_cons, List.length_nil, List.take_succ_cons, List.take_zero, List.drop_succ_cons, List.drop_zero, List.reverse_cons, List.reverse_nil, List.nil_append, List.cons_append, Option.toList_some, Option.toList_none, true_and, and_true, and_self, true_or, or_true, false_and, and_false, false_or, or_false, not_false_eq_true, Nat.reduceAdd, Nat.reduceLT, Nat.reduceLeDiff, Nat.reduceBEq, Nat.reduceEqDiff, Bool.or_false, Bool.false_or, if_true, if_false, Bool.false_eq_true, nq_eq, nq_lt, nq_le, nq_in_t, nq_bd, nq_ft, nq_clamp, nq_shl31, nq_shr31, nq_bitb, nq_add, nq_mul, fa_and, fa_or, nq_b0, nq_b1, nq_b01, ↓ni_lt_t, ↓ni_lt_f, ↓ni_le_t, ↓ni_le_f, ↓ni_eq_t, ↓ni_eq_f, ↓ni_beq_t, ↓ni_beq_f, it_X8_fault, it_X8_fault_1, h1, mO, g2, y2, nq_div, ed]
    exact l_X8_fl1 hg hl hs Q d (prn l e) (n + 1) (by omega) (by omega) (by omega) (by rw [show n + 1 + d = n + (d + 1) by omega]; exact hq)
theorem l_X8_fl2 {nn kk A : Nat} (hg : gL n1 n2 l) (hl : l.length ≤ 65536) (hs : mQ h pa le pl z l) (hkk : kk < 65536) (Q : Option Value → rx_H → Prop) (hq : Q (some (.int (nI (ltr l A)))) h) : ∀ j e, j < dp l e → e < l.length → anc l j e = A → rx_R 161 110 [.ref 98, .int (nI p), .int (nI q), .int (nI mode), .int (nI kk), .int (nI K), .int (nI nn), .int (nI e), .int (nI (kk + j))] [] h Q
  | 0, e, hj, he, hA => by
    have e0 : 0 < e := by
      rcases Nat.eq_zero_or_pos e with z | z
      · subst z; rw [dp_0] at hj; omega
      · exact z
    have hA : e = A := hA
    subst hA
    have hs' := hs
    obtain ⟨h1, ⟨f1, f2, g1, g2, g3⟩, -⟩ := hs'
    obtain ⟨en, hen⟩ := get_of he
    have y2 := (g3 e en hen).2
    have b4 := (hg.1 e en hen).2.2.1
    have b5 := (hg.1 e en hen).2.2.2 e0
    have ed : 4 * en.2.1 + en.2.2 - (4 * en.2.1 + en.2.2) / 4 * 4 = ltr l e := by rw [ltr_of hen]; omega
    apply rx_wp_sound 60 [110]
    simp (disch := first | decide | omega) only [rx_W, rx_wp_succ, rx_nx_stop, rx_nx_go, rx_lx_some, rx_fx_some, rx_ax_some, rx_qx_some, rx_ox_some, rx_vx_ref, rx_ix_ref, rx_ld_0, rx_ld_2, rx_ld_3, rx_cx_some, rx_nl, List.getElem?_cons_zero, List.getElem?_cons_succ, List.set_cons_zero, List.set_cons_succ, List.length_cons, List.length_nil, List.take_succ_cons, List.take_zero, List.drop_succ_cons, List.drop_zero, List.reverse_cons, List.reverse_nil, List.nil_append, List.cons_append, Option.toList_some, Option.toList_none, true_and, and_true, and_self, true_or, or_true, false_and, and_false, false_or, or_false, not_false_eq_true, Nat.reduceAdd, Nat.reduceLT, Nat.reduceLeDiff, Nat.reduceBEq, Nat.reduceEqDiff, Bool.or_false, Bool.false_or, if_true, if_false, Bool.false_eq_true, nq_eq, nq_lt, nq_le, nq_in_t, nq_bd, nq_ft, nq_clamp, nq_shl31, nq_shr31, nq_bitb, nq_add, nq_mul, fa_and, fa_or, nq_b0, nq_b1, nq_b01, ↓ni_lt_t, ↓ni_lt_f, ↓ni_le_t, ↓ni_le_f, ↓ni_eq_t, ↓ni_eq_f, ↓ni_beq_t, ↓ni_beq_f, it_X8_fault, it_X8_fault_1, h1, mO, g2, y2, nq_div, nq_sub, ed]
    exact hq
  | j + 1, e, hj, he, hA => by
    have e0 : 0 < e := by
      rcases Nat.eq_zero_or_pos e with z | z
      · subst z; rw [dp_0] at hj; omega
      · exact z
    have hdp := dp_pos hg e0 he
    have hd := dp_le hg (e + 1) e (by omega) he
    have hs' := hs
    obtain ⟨h1, ⟨f1, f2, g1, g2, g3⟩, -⟩ := hs'
    obtain ⟨en, hen⟩ := get_of he
    have y2 := (g3 e en hen).2
    have b4 := (hg.1 e en hen).2.2.1
    have b5 := (hg.1 e en hen).2.2.2 e0
    have ed : (4 * en.2.1 + en.2.2) / 4 = prn l e := by rw [prn_of hen]; omega
    have ei : nI (kk + (j + 1)) + -1 = nI (kk + j) := nI_dec (kk + j)
    apply rx_wp_sound 60 [110]
    simp (disch := first | decide | omega) only [rx_W, rx_wp_succ, rx_nx_stop, rx_nx_go, rx_lx_some, rx_fx_some, rx_ax_some, rx_qx_some, rx_ox_some, rx_vx_ref, rx_ix_ref, rx_ld_0, rx_ld_2, rx_ld_3, rx_cx_some, rx_nl, List.getElem?_cons_zero, List.getElem?_cons_succ, List.set_cons_zero, List.set_cons_succ, List.length_cons, List.length_nil, List.take_succ_cons, List.take_zero, List.drop_succ_cons, List.drop_zero, List.reverse_cons, List.reverse_nil, List.nil_append, List.cons_append, Option.toList_some, Option.toList_none, true_and, and_true, and_self, true_or, or_true, false_and, and_false, false_or, or_false, not_false_eq_true, Nat.reduceAdd, Nat.reduceLT, Nat.reduceLeDiff, Nat.reduceBEq, Nat.reduceEqDiff, Bool.or_false, Bool.false_or, if_true, if_false, Bool.false_eq_true, nq_eq, nq_lt, nq_le, nq_in_t, nq_bd, nq_ft, nq_clamp, nq_shl31, nq_shr31, nq_bitb, nq_add, nq_mul, fa_and, fa_or, nq_b0, nq_b1, nq_b01, ↓ni_lt_t, ↓ni_lt_f, ↓ni_le_t, ↓ni_le_f, ↓ni_eq_t, ↓ni_eq_f, ↓ni_beq_t, ↓ni_beq_f, it_X8_fault, it_X8_fault_1, h1, mO, g2, y2, nq_div, ed, ei]
    exact l_X8_fl2 hg hl hs hkk Q hq j (prn l e) (by omega) (by omega) hA
/-- the k-th letter of the word that leads to K, or how many there are -/
def fwA (l : List eL) (K : Nat) (k : Int32) : Int32 := if k = -1 then nI (dp l K) else if dp l K ≤ k.toNatClampNeg then -5 else nI (ltr l (anc l (dp l K - 1 - k.toNatClampNeg) K))
theorem l_X8_fw (hg : gL n1 n2 l) (hl : l.length ≤ 65536) (hs : mQ h pa le pl z l) {k : Int32} (hk : -1 ≤ k) (hK : K < l.length) {x6 x7 x8 : Value} (Q : Option Value → rx_H → Prop) (hq : Q (some (.int (fwA l K k))) h) : rx_R 161 44 [.ref 98, .int (nI p), .int (nI q), .int (nI mode), .int k, .int (nI K), x6, x7, x8] [] h Q := by
  have hd := dp_le hg (K + 1) K (by omega) hK
  apply rx_wp_sound 60 [51]
  simp (disch := first | decide | omega) only [rx_W, rx_wp_succ, rx_nx_stop, rx_nx_go, rx_lx_some, rx_fx_some, rx_ax_some, rx_qx_some, rx_ox_some, rx_vx_ref, rx_ix_ref, rx_ld_0, rx_ld_2, rx_ld_3, rx_cx_some, rx_nl, List.getElem?_cons_zero, List.getElem?_cons_succ, List.set_cons_zero, List.set_cons_succ, List.length_cons, List.length_nil, List.take_succ_cons, List.take_zero, List.drop_succ_cons, List.drop_zero, List.reverse_cons, List.reverse_nil, List.nil_append, List.cons_append, Option.toList_some, Option.toList_none, true_and, and_true, and_self, true_or, or_true, false_and, and_false, false_or, or_false, not_false_eq_true, Nat.reduceAdd, Nat.reduceLT, Nat.reduceLeDiff, Nat.reduceBEq, Nat.reduceEqDiff, Bool.or_false, Bool.false_or, if_true, if_false, Bool.false_eq_true, nq_eq, nq_lt, nq_le, nq_in_t, nq_bd, nq_ft, nq_clamp, nq_shl31, nq_shr31, nq_bitb, nq_add, nq_mul, fa_and, fa_or, nq_b0, nq_b1, nq_b01, ↓ni_lt_t, ↓ni_lt_f, ↓ni_le_t, ↓ni_le_f, ↓ni_eq_t, ↓ni_eq_f, ↓ni_beq_t, ↓ni_beq_f, it_X8_fault, it_X8_fault_1]
  refine l_X8_fl1 hg hl hs Q (dp l K) K 0 rfl (by omega) hK ?_
  rw [Nat.zero_add]
  rcases ge_neg1 hk with c | ⟨kk, c1, c2⟩
  · subst c
    unfold fwA at hq
    rw [if_pos rfl] at hq
    apply rx_wp_sound 60 [110]
    simp (disch := first | decide | omega) only [rx_W, rx_wp_succ, rx_nx_stop, rx_nx_go, rx_lx_some, rx_fx_some, rx_ax_some, rx_qx_some, rx_ox_some, rx_vx_ref, rx_ix_ref, rx_ld_0, rx_ld_2, rx_ld_3, rx_cx_some, rx_nl, List.getElem?_cons_zero, List.getElem?_cons_succ, List.set_cons_zero, List.set_cons_succ, List.length_cons, List.length_nil, List.take_succ_cons, List.take_zero, List.drop_succ_cons, List.drop_zero, List.reverse_cons, List.reverse_nil, List.nil_append, List.cons_append, Option.toList_some, Option.toList_none, true_and, and_true, and_self, true_or, or_true, false_and, and_false, false_or, or_false, not_false_eq_true, Nat.reduceAdd, Nat.reduceLT, Nat.reduceLeDiff, Nat.reduceBEq, Nat.reduceEqDiff, Bool.or_false, Bool.false_or, if_true, if_false, Bool.false_eq_true, nq_eq, nq_lt, nq_le, nq_in_t, nq_bd, nq_ft, nq_clamp, nq_shl31, nq_shr31, nq_bitb, nq_add, nq_mul, fa_and, fa_or, nq_b0, nq_b1, nq_b01, ↓ni_lt_t, ↓ni_lt_f, ↓ni_le_t, ↓ni_le_f, ↓ni_eq_t, ↓ni_eq_f, ↓ni_beq_t, ↓ni_beq_f, it_X8_fault, it_X8_fault_1]
    exact hq
  · subst c2
    have c3 := nI_ne1 c1
    unfold fwA at hq
    rw [if_neg c3, nq_clamp c1] at hq
    by_cases c4 : dp l K ≤ kk
    · rw [if_pos c4] at hq
      apply rx_wp_sound 60 [110]
      simp (disch := first | decide | omega) only [rx_W, rx_wp_succ, rx_nx_stop, rx_nx_go, rx_lx_some, rx_fx_some, rx_ax_some, rx_qx_some, rx_ox_some, rx_vx_ref, rx_ix_ref, rx_ld_0, rx_ld_2, rx_ld_3, rx_cx_some, rx_nl, List.getElem?_cons_zero, List.getElem?_cons_succ, List.set_cons_zero, List.set_cons_succ, List.length_cons, List.length_nil, List.take_succ_cons, List.take_zero, List.drop_succ_cons, List.drop_zero, List.reverse_cons, List.reverse_nil, List.nil_append, List.cons_append, Option.toList_some, Option.toList_none, true_and, and_true, and_self, true_or, or_true, false_and, and_false, false_or, or_false, not_false_eq_true, Nat.reduceAdd, Nat.reduceLT, Nat.reduceLeDiff, Nat.reduceBEq, Nat.reduceEqDiff, Bool.or_false, Bool.false_or, if_true, if_false, Bool.false_eq_true, nq_eq, nq_lt, nq_le, nq_in_t, nq_bd, nq_ft, nq_clamp, nq_shl31, nq_shr31, nq_bitb, nq_add, nq_mul, fa_and, fa_or, nq_b0, nq_b1, nq_b01, ↓ni_lt_t, ↓ni_lt_f, ↓ni_le_t, ↓ni_le_f, ↓ni_eq_t, ↓ni_eq_f, ↓ni_beq_t, ↓ni_beq_f, it_X8_fault, it_X8_fault_1, c3]
      exact hq
    · rw [if_neg c4] at hq
      apply rx_wp_sound 60 [110]
      simp (disch := first | decide | omega) only [rx_W, rx_wp_succ, rx_nx_stop, rx_nx_go, rx_lx_some, rx_fx_some, rx_ax_some, rx_qx_some, rx_ox_some, rx_vx_ref, rx_ix_ref, rx_ld_0, rx_ld_2, rx_ld_3, rx_cx_some, rx_nl, List.getElem?_cons_zero, List.getElem?_cons_succ, List.set_cons_zero, List.set_cons_succ, List.length_cons, List.length_nil, List.take_succ_cons, List.take_zero, List.drop_succ_cons, List.drop_zero, List.reverse_cons, List.reverse_nil, List.nil_append, List.cons_append, Option.toList_some, Option.toList_none, true_and, and_true, and_self, true_or, or_true, false_and, and_false, false_or, or_false, not_false_eq_true, Nat.reduceAdd, Nat.reduceLT, Nat.reduceLeDiff, Nat.reduceBEq, Nat.reduceEqDiff, Bool.or_false, Bool.false_or, if_true, if_false, Bool.false_eq_true, nq_eq, nq_lt, nq_le, nq_in_t, nq_bd, nq_ft, nq_clamp, nq_shl31, nq_shr31, nq_bitb, nq_add, nq_mul, fa_and, fa_or, nq_b0, nq_b1, nq_b01, ↓ni_lt_t, ↓ni_lt_f, ↓ni_le_t, ↓ni_le_f, ↓ni_eq_t, ↓ni_eq_f, ↓ni_beq_t, ↓ni_beq_f, it_X8_fault, it_X8_fault_1, c3, nq_sub]
      have := l_X8_fl2 (p := p) (q := q) (mode := mode) (K := K) (nn := dp l K) (kk := kk) hg hl hs (by omega) Q hq (dp l K - 1 - kk) K (by omega) hK rfl
      rw [show kk + (dp l K - 1 - kk) = dp l K - 1 by omega] at this
      exact this
end ML
