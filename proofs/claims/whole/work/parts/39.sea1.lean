/-! ===== frames by intervals; new cells ===== -/
def Sm (h h' : rx_H) (a b : Nat) : Prop := ∀ i, a ≤ i → i ≤ b → rx_rd h' i = rx_rd h i
theorem Sm_sub {h h' : rx_H} {a b c d : Nat} (hs : Sm h h' a b) (h1 : a ≤ c) (h2 : d ≤ b) : Sm h h' c d := fun i x y => hs i (by omega) (by omega)
theorem Sm_fr {h h' : rx_H} {A : List Nat} {a b : Nat} (hf : Fr h h' A) (hA : ∀ i ∈ A, i < a ∨ b < i) : Sm h h' a b := fun i x y => hf.2.2 i (fun z => by have := hA i z; omega)
theorem Sm_trans {h h1 h2 : rx_H} {a b : Nat} (x : Sm h h1 a b) (y : Sm h1 h2 a b) : Sm h h2 a b := fun i z1 z2 => (y i z1 z2).trans (x i z1 z2)
theorem aN_sm {h h' : rx_H} {i k : Nat} {w : Nat → Nat} {a b : Nat} (hs : Sm h h' a b) (h1 : a ≤ i) (h2 : i ≤ b) (ha : aN h i k w) : aN h' i k w := by
  obtain ⟨f, h3, h4⟩ := ha
  exact ⟨f, (hs i h1 h2).trans h3, h4⟩
theorem pW_sm {h h' : rx_H} {o n : Nat} {w : Nat → Nat} {a b : Nat} (hs : Sm h h' a b) (h1 : a ≤ o) (h2 : o + 1 ≤ b) (hp : pW h o n w) : pW h' o n w := ⟨(hs o h1 (by omega)).trans hp.1, aN_sm hs (by omega) h2 hp.2.1, hp.2.2⟩
theorem oO_sm {h h' : rx_H} {q fr sb lo n a b : Nat} (hs : Sm h h' a b) (h1 : a ≤ q) (h2 : q ≤ b) (ho : oO h q fr sb lo n) : oO h' q fr sb lo n := ⟨(hs q h1 h2).trans ho.1, ho.2⟩
theorem oR_sm {h h' : rx_H} {q a b : Nat} {O R N F A : Nat → Nat} (hs : Sm h h' a b) (h1 : a ≤ q) (h2 : q + 5 ≤ b) (ho : oR h q O R N F A) : oR h' q O R N F A := ⟨aN_sm hs (by omega) (by omega) ho.1, aN_sm hs (by omega) (by omega) ho.2.1, aN_sm hs (by omega) (by omega) ho.2.2.1, aN_sm hs (by omega) (by omega) ho.2.2.2.1, aN_sm hs (by omega) (by omega) ho.2.2.2.2⟩
theorem oK_sm {h h' : rx_H} {q n a b : Nat} {w : Nat → Nat} (hs : Sm h h' a b) (h1 : a ≤ q) (h2 : q + 5 ≤ b) (hk : oK h q n w) : oK h' q n w := by
  obtain ⟨lo, O, R, N, F, A, ho, hr, hh⟩ := hk
  exact ⟨lo, O, R, N, F, A, oO_sm hs h1 (by omega) ho, oR_sm hs h1 h2 hr, hh⟩
theorem oS_sm {h h' : rx_H} {q a b : Nat} (hs : Sm h h' a b) (h1 : a ≤ q) (h2 : q + 5 ≤ b) (hk : oS h q) : oS h' q := by
  obtain ⟨fr, sb, lo, n, O, R, N, F, A, hfr, ho, hr, hh⟩ := hk
  exact ⟨fr, sb, lo, n, O, R, N, F, A, hfr, oO_sm hs h1 (by omega) ho, oR_sm hs h1 h2 hr, hh⟩
theorem rd_nw_eq (h : rx_H) (k : Nat) (c : rx_C) : rx_rd (rx_nw h k c) h.1 = some c := if_pos rfl
theorem rd_nw_ne {h : rx_H} {k i : Nat} {c : rx_C} (e : ¬ i = h.1) : rx_rd (rx_nw h k c) i = rx_rd h i := if_neg e
theorem up_1 (h : rx_H) (i : Nat) (c : rx_C) : (rx_up h i c).1 = h.1 := rfl
theorem up_2 (h : rx_H) (i : Nat) (c : rx_C) : (rx_up h i c).2.1 = h.2.1 := rfl
theorem nq_nb {a : Nat} (h : a ≤ 134217728) : (¬ (a < 0 ∨ 134217728 < a)) = True := eq_true (by omega)
/-! ===== Arrays.copyOf ===== -/
theorem io_nI (k : Nat) : Int32.ofNat k = nI k := rfl
theorem c_copyI {h : rx_H} {a k m : Nat} {f : Nat → Int32} (ha : ¬ a = 0) (h1 : rx_rd h a = some (.inl (0, k, .inl f))) (hk : k < m) (hm : m ≤ 65536) (hal : a < h.1) : rx_Cl 171 [.ref a, .int (nI m)] h (fun r h' => r = some (.ref h.1) ∧ h'.1 = h.1 + 1 ∧ h'.2.1 = h.2.1 + m ∧ (∀ i, ¬ i = h.1 → rx_rd h' i = rx_rd h i) ∧ ∃ g, rx_rd h' h.1 = some (.inl (0, m, .inl g)) ∧ ∀ j, j < k → g j = f j) := by
  have e1 : ¬ a = h.1 := by omega
  have e2 : ¬ h.1 = 0 := by omega
  have e3 : ¬ m = k := by omega
  have e4 : ¬ m < k := by omega
  have e5 : k ≤ m := by omega
  apply en_J7_copyOf_59c91 _ _ 40 []
  simp (disch := first | decide | omega) only [rx_W, rx_wp_succ, rx_nx_stop, rx_nx_go, rx_lx_some, rx_fx_some, rx_ax_some, rx_qx_some, rx_ox_some, rx_vx_ref, rx_ix_ref, rx_ld_0, rx_ld_2, rx_ld_3, rx_cx_some, rx_nl, List.getElem?_cons_zero, List.getElem?_cons_succ, List.set_cons_zero, List.set_cons_succ, List.length_cons, List.length_nil, List.take_succ_cons, List.take_zero, List.drop_succ_cons, List.drop_zero, List.reverse_cons, List.reverse_nil, List.nil_append, List.cons_append, Option.toList_some, Option.toList_none, true_and, and_true, and_self, true_or, or_true, false_and, and_false, false_or, or_false, not_false_eq_true, Nat.reduceAdd, Nat.reduceLT, Nat.reduceLeDiff, Nat.reduceBEq, Nat.reduceEqDiff, Bool.or_false, Bool.false_or, if_true, if_false, Bool.false_eq_true, nq_eq, nq_lt, nq_le, nq_in_t, nq_bd, nq_ft, nq_clamp, nq_shl31, nq_shr31, nq_bitb, nq_add, nq_mul, fa_and, fa_or, nq_b0, nq_b1, nq_b01, ↓ni_lt_t, ↓ni_lt_f, ↓ni_le_t, ↓ni_le_f, ↓ni_eq_t, ↓ni_eq_f, ↓ni_beq_t, ↓ni_beq_f, it_J7_copyOf_59c91, io_nI, h1, ha, e1, e2, e3, e4, e5, nq_nb, rd_nw_eq, rd_nw_ne, rx_cpx, nI_pos, Nat.zero_add, Nat.le_refl]
  refine ⟨rfl, rfl, fun i hi => (rd_ne hi).trans (rd_nw_ne hi), _, rd_eq _ _ _, fun j hj => ?_⟩
  unfold va_cpy
  rw [if_pos (by omega)]
  simp only [Nat.zero_add, Nat.sub_zero]
theorem c_copyB {h : rx_H} {a k m : Nat} {f : Nat → Int32} (ha : ¬ a = 0) (h1 : rx_rd h a = some (.inl (1, k, .inl f))) (hk : k < m) (hm : m ≤ 65536) (hal : a < h.1) (hf : ∀ j, j < k → ∃ c, c < 4 ∧ f j = nI c) : rx_Cl 170 [.ref a, .int (nI m)] h (fun r h' => r = some (.ref h.1) ∧ h'.1 = h.1 + 1 ∧ h'.2.1 = h.2.1 + m ∧ (∀ i, ¬ i = h.1 → rx_rd h' i = rx_rd h i) ∧ ∃ g, rx_rd h' h.1 = some (.inl (1, m, .inl g)) ∧ ∀ j, j < k → g j = f j) := by
  have e1 : ¬ a = h.1 := by omega
  have e2 : ¬ h.1 = 0 := by omega
  have e3 : ¬ m = k := by omega
  have e4 : ¬ m < k := by omega
  have e5 : k ≤ m := by omega
  have e6 : (∀ j, j < k → fits .byte (.int (f j)) = true) = True := eq_true (fun j hj => by
    obtain ⟨c, c1, c2⟩ := hf j hj
    rw [c2]
    have : ∀ c, c < 4 → fits .byte (.int (nI c)) = true := by decide +kernel
    exact this c c1)
  apply en_J7_copyOf_9075b _ _ 40 []
  simp (disch := first | decide | omega) only [rx_W, rx_wp_succ, rx_nx_stop, rx_nx_go, rx_lx_some, rx_fx_some, rx_ax_some, rx_qx_some, rx_ox_some, rx_vx_ref, rx_ix_ref, rx_ld_0, rx_ld_2, rx_ld_3, rx_cx_some, rx_nl, List.getElem?_cons_zero, List.getElem?_cons_succ, List.set_cons_zero, List.set_cons_succ, List.length_cons, List.length_nil, List.take_succ_cons, List.take_zero, List.drop_succ_cons, List.drop_zero, List.reverse_cons, List.reverse_nil, List.nil_append, List.cons_append, Option.toList_some, Option.toList_none, true_and, and_true, and_self, true_or, or_true, false_and, and_false, false_or, or_false, not_false_eq_true, Nat.reduceAdd, Nat.reduceLT, Nat.reduceLeDiff, Nat.reduceBEq, Nat.reduceEqDiff, Bool.or_false, Bool.false_or, if_true, if_false, Bool.false_eq_true, nq_eq, nq_lt, nq_le, nq_in_t, nq_bd, nq_ft, nq_clamp, nq_shl31, nq_shr31, nq_bitb, nq_add, nq_mul, fa_and, fa_or, nq_b0, nq_b1, nq_b01, ↓ni_lt_t, ↓ni_lt_f, ↓ni_le_t, ↓ni_le_f, ↓ni_eq_t, ↓ni_eq_f, ↓ni_beq_t, ↓ni_beq_f, it_J7_copyOf_9075b, io_nI, h1, ha, e1, e2, e3, e4, e5, e6, nq_nb, rd_nw_eq, rd_nw_ne, rx_cpx, nI_pos, Nat.zero_add, Nat.le_refl]
  refine ⟨rfl, rfl, fun i hi => (rd_ne hi).trans (rd_nw_ne hi), _, rd_eq _ _ _, fun j hj => ?_⟩
  unfold va_cpy
  rw [if_pos (by omega)]
  simp only [Nat.zero_add, Nat.sub_zero]
/-! ===== Search: its object ===== -/
def sO (P1 P2 P3 sz : Nat) : rx_C := .inr (5, [.ref 50, .ref 51, .ref 52, .ref P1, .ref P2, .ref P3, .int (nI sz)])
def okP (h : rx_H) (P1 P2 P3 : Nat) : Prop := (52 < P1 ∧ P1 < h.1 ∧ 52 < P2 ∧ P2 < h.1 ∧ 52 < P3 ∧ P3 < h.1) ∧ (P1 < 56 ∨ 109 < P1) ∧ (P2 < 56 ∨ 109 < P2) ∧ (P3 < 56 ∨ 109 < P3) ∧ ¬ P1 = P2 ∧ ¬ P1 = P3 ∧ ¬ P2 = P3
/-- the rows of the queue, kk times doubled -/
def sR (h : rx_H) (l : List eL) (P1 P2 P3 kk : Nat) : Prop := kk ≤ 10 ∧ 110 ≤ h.1 ∧ h.1 ≤ 110 + 3 * kk ∧ h.2.1 ≤ 1048576 + 384 * 2 ^ kk ∧ l.length ≤ 64 * 2 ^ kk ∧ ∃ f1 f2 f3, rx_rd h P1 = some (.inl (0, 64 * 2 ^ kk, .inl f1)) ∧ rx_rd h P2 = some (.inl (0, 64 * 2 ^ kk, .inl f2)) ∧ rx_rd h P3 = some (.inl (1, 64 * 2 ^ kk, .inl f3)) ∧ ∀ (i : Nat) (e : eL), l[i]? = some e → f1 i = nI e.1 ∧ (0 < i → f2 i = nI e.2.1) ∧ f3 i = nI e.2.2 ∧ e.2.2 < 4
def sB (h : rx_H) (l : List eL) : Prop := ∃ sn, aN h 52 2048 sn ∧ ∀ x, x < 65536 → (sn (x / 32)).testBit (x % 32) = inL l x
def sQ (h : rx_H) (l : List eL) : Prop := ∃ P1 P2 P3 kk, rx_rd h 49 = some (sO P1 P2 P3 l.length) ∧ okP h P1 P2 P3 ∧ sR h l P1 P2 P3 kk ∧ sB h l
/-- only the queue's own cells changed, or new ones -/
def FS (h h' : rx_H) : Prop := h.1 ≤ h'.1 ∧ ∀ i, i < 110 → (i < 49 ∨ i = 50 ∨ i = 51 ∨ 55 < i) → rx_rd h' i = rx_rd h i
theorem FS_rfl (h : rx_H) : FS h h := ⟨Nat.le_refl _, fun _ _ _ => rfl⟩
theorem FS_trans {h h1 h2 : rx_H} (x : FS h h1) (y : FS h1 h2) : FS h h2 := ⟨Nat.le_trans x.1 y.1, fun i z1 z2 => (y.2 i z1 z2).trans (x.2 i z1 z2)⟩
theorem FS_sm {h h' : rx_H} (x : FS h h') : Sm h h' 56 109 := fun i z1 z2 => x.2 i (by omega) (by omega)
theorem FS_up {h h' : rx_H} {i : Nat} {c : rx_C} (x : FS h h') (hi : i = 49 ∨ (51 < i ∧ i < 56) ∨ 109 < i) : FS h (rx_up h' i c) := ⟨x.1, fun j z1 z2 => (rd_ne (by omega)).trans (x.2 j z1 z2)⟩
theorem c_X5_grow {h : rx_H} {l : List eL} {P1 P2 P3 kk : Nat} (h1 : rx_rd h 49 = some (sO P1 P2 P3 l.length)) (hP : okP h P1 P2 P3) (hR : sR h l P1 P2 P3 kk) (hB : sB h l) (hl : l.length = 64 * 2 ^ kk) (hlt : l.length < 65536) :
    rx_Cl 56 [.ref 49] h (fun r h' => r = none ∧ FS h h' ∧ ∃ P1' P2' P3' kk', rx_rd h' 49 = some (sO P1' P2' P3' l.length) ∧ okP h' P1' P2' P3' ∧ sR h' l P1' P2' P3' kk' ∧ sB h' l ∧ l.length < 64 * 2 ^ kk') := by
  obtain ⟨r1, r2, r3, r4, r5, f1, f2, f3, g1, g2, g3, g4⟩ := hR
  have hP' := hP
  obtain ⟨⟨o1, o2, o3, o4, o5, o6⟩, p1, p2, p3, q1, q2, q3⟩ := hP'
  have hk9 : kk ≤ 9 := by
    apply Nat.le_of_not_lt
    intro z
    have : kk = 10 := by omega
    subst this
    omega
  have h2k : 2 ^ kk ≤ 2 ^ 9 := Nat.pow_le_pow_right (by omega) hk9
  have e2 : 2 ^ (kk + 1) = 2 * 2 ^ kk := by rw [Nat.pow_succ]; omega
  have hT := Nat.two_pow_pos kk
  generalize h2 : 2 ^ kk = T at *
  have eN : ¬ 65536 < 2 * l.length := by omega
  have hN : l.length < 2 * l.length := by omega
  apply en_X5_grow _ 60 []
  simp (disch := first | decide | omega) only [rx_W, rx_wp_succ, rx_nx_stop, rx_nx_go, rx_lx_some, rx_fx_some, rx_ax_some, rx_qx_some, rx_ox_some, rx_vx_ref, rx_ix_ref, rx_ld_0, rx_ld_2, rx_ld_3, rx_cx_some, rx_nl, List.getElem?_cons_zero, List.getElem?_cons_succ, List.set_cons_zero, List.set_cons_succ, List.length_cons, List.length_nil, List.take_succ_cons, List.take_zero, List.drop_succ_cons, List.drop_zero, List.reverse_cons, List.reverse_nil, List.nil_append, List.cons_append, Option.toList_some, Option.toList_none, true_and, and_true, and_self, true_or, or_true, false_and, and_false, false_or, or_false, not_false_eq_true, Nat.reduceAdd, Nat.reduceLT, Nat.reduceLeDiff, Nat.reduceBEq, Nat.reduceEqDiff, Bool.or_false, Bool.false_or, if_true, if_false, Bool.false_eq_true, nq_eq, nq_lt, nq_le, nq_in_t, nq_bd, nq_ft, nq_clamp, nq_shl31, nq_shr31, nq_bitb, nq_add, nq_mul, fa_and, fa_or, nq_b0, nq_b1, nq_b01, ↓ni_lt_t, ↓ni_lt_f, ↓ni_le_t, ↓ni_le_f, ↓ni_eq_t, ↓ni_eq_f, ↓ni_beq_t, ↓ni_beq_f, it_X5_grow, h1, sO, eN]
  refine rx_Cl_imp (c_copyI (m := 2 * l.length) (by omega) g1 (by omega) (by omega) o2) (fun r ha ⟨ea, a1, a2, a3, ga, a4, a5⟩ => ?_)
  subst ea
  simp (disch := first | decide | omega) only [rx_W, rx_wp_succ, rx_nx_stop, rx_nx_go, rx_lx_some, rx_fx_some, rx_ax_some, rx_qx_some, rx_ox_some, rx_vx_ref, rx_ix_ref, rx_ld_0, rx_ld_2, rx_ld_3, rx_cx_some, rx_nl, List.getElem?_cons_zero, List.getElem?_cons_succ, List.set_cons_zero, List.set_cons_succ, List.length_cons, List.length_nil, List.take_succ_cons, List.take_zero, List.drop_succ_cons, List.drop_zero, List.reverse_cons, List.reverse_nil, List.nil_append, List.cons_append, Option.toList_some, Option.toList_none, true_and, and_true, and_self, true_or, or_true, false_and, and_false, false_or, or_false, not_false_eq_true, Nat.reduceAdd, Nat.reduceLT, Nat.reduceLeDiff, Nat.reduceBEq, Nat.reduceEqDiff, Bool.or_false, Bool.false_or, if_true, if_false, Bool.false_eq_true, nq_eq, nq_lt, nq_le, nq_in_t, nq_bd, nq_ft, nq_clamp, nq_shl31, nq_shr31, nq_bitb, nq_add, nq_mul, fa_and, fa_or, nq_b0, nq_b1, nq_b01, ↓ni_lt_t, ↓ni_lt_f, ↓ni_le_t, ↓ni_le_f, ↓ni_eq_t, ↓ni_eq_f, ↓ni_beq_t, ↓ni_beq_f, it_X5_grow, h1, sO, a3, rd_eq, rd_ne, rx_ft]
  have c2 := (rd_ne (h := ha) (i := 49) (c := .inr (5, [.ref 50, .ref 51, .ref 52, .ref h.1, .ref P2, .ref P3, .int (nI l.length)])) (show ¬ P2 = 49 by omega)).trans ((a3 P2 (by omega)).trans g2)
  refine rx_Cl_imp (c_copyI (m := 2 * l.length) (by omega) c2 (by omega) (by omega) (by show P2 < ha.1; omega)) (fun r hb ⟨eb, b1, b2, b3, gb, b4, b5⟩ => ?_)
  subst eb
  rw [up_1] at b1 b3 b4
  rw [up_2] at b2
  have b6 : ∀ i, ¬ i = 49 → ¬ i = ha.1 → ¬ i = h.1 → rx_rd hb i = rx_rd h i := fun i z1 z2 z3 => (b3 i z2).trans ((rd_ne z1).trans (a3 i z3))
  simp (disch := first | decide | omega) only [rx_W, rx_wp_succ, rx_nx_stop, rx_nx_go, rx_lx_some, rx_fx_some, rx_ax_some, rx_qx_some, rx_ox_some, rx_vx_ref, rx_ix_ref, rx_ld_0, rx_ld_2, rx_ld_3, rx_cx_some, rx_nl, List.getElem?_cons_zero, List.getElem?_cons_succ, List.set_cons_zero, List.set_cons_succ, List.length_cons, List.length_nil, List.take_succ_cons, List.take_zero, List.drop_succ_cons, List.drop_zero, List.reverse_cons, List.reverse_nil, List.nil_append, List.cons_append, Option.toList_some, Option.toList_none, true_and, and_true, and_self, true_or, or_true, false_and, and_false, false_or, or_false, not_false_eq_true, Nat.reduceAdd, Nat.reduceLT, Nat.reduceLeDiff, Nat.reduceBEq, Nat.reduceEqDiff, Bool.or_false, Bool.false_or, if_true, if_false, Bool.false_eq_true, nq_eq, nq_lt, nq_le, nq_in_t, nq_bd, nq_ft, nq_clamp, nq_shl31, nq_shr31, nq_bitb, nq_add, nq_mul, fa_and, fa_or, nq_b0, nq_b1, nq_b01, ↓ni_lt_t, ↓ni_lt_f, ↓ni_le_t, ↓ni_le_f, ↓ni_eq_t, ↓ni_eq_f, ↓ni_beq_t, ↓ni_beq_f, it_X5_grow, b3, rd_eq, rd_ne, rx_ft, up_1]
  have c3 := (rd_ne (h := hb) (i := 49) (c := .inr (5, [.ref 50, .ref 51, .ref 52, .ref h.1, .ref ha.1, .ref P3, .int (nI l.length)])) (show ¬ P3 = 49 by omega)).trans ((b6 P3 (by omega) (by omega) (by omega)).trans g3)
  refine rx_Cl_imp (c_copyB (m := 2 * l.length) (by omega) c3 (by omega) (by omega) (by show P3 < hb.1; omega) (fun j hj => ?_)) (fun r hc ⟨ec, d1, d2, d3, gc, d4, d5⟩ => ?_)
  · obtain ⟨e, he⟩ := get_of (l := l) (i := j) (by omega)
    exact ⟨e.2.2, (g4 j e he).2.2.2, (g4 j e he).2.2.1⟩
  subst ec
  rw [up_1] at d1 d3 d4
  rw [up_2] at d2
  simp (disch := first | decide | omega) only [rx_W, rx_wp_succ, rx_nx_stop, rx_nx_go, rx_lx_some, rx_fx_some, rx_ax_some, rx_qx_some, rx_ox_some, rx_vx_ref, rx_ix_ref, rx_ld_0, rx_ld_2, rx_ld_3, rx_cx_some, rx_nl, List.getElem?_cons_zero, List.getElem?_cons_succ, List.set_cons_zero, List.set_cons_succ, List.length_cons, List.length_nil, List.take_succ_cons, List.take_zero, List.drop_succ_cons, List.drop_zero, List.reverse_cons, List.reverse_nil, List.nil_append, List.cons_append, Option.toList_some, Option.toList_none, true_and, and_true, and_self, true_or, or_true, false_and, and_false, false_or, or_false, not_false_eq_true, Nat.reduceAdd, Nat.reduceLT, Nat.reduceLeDiff, Nat.reduceBEq, Nat.reduceEqDiff, Bool.or_false, Bool.false_or, if_true, if_false, Bool.false_eq_true, nq_eq, nq_lt, nq_le, nq_in_t, nq_bd, nq_ft, nq_clamp, nq_shl31, nq_shr31, nq_bitb, nq_add, nq_mul, fa_and, fa_or, nq_b0, nq_b1, nq_b01, ↓ni_lt_t, ↓ni_lt_f, ↓ni_le_t, ↓ni_le_f, ↓ni_eq_t, ↓ni_eq_f, ↓ni_beq_t, ↓ni_beq_f, it_X5_grow, d3, rd_eq, rd_ne, rx_ft, up_1]
  have d6 : ∀ i, ¬ i = 49 → ¬ i = ha.1 → ¬ i = h.1 → ¬ i = hb.1 → rx_rd hc i = rx_rd h i := fun i z1 z2 z3 z4 => (d3 i z4).trans ((rd_ne z1).trans (b6 i z1 z2 z3))
  have e9 : 2 * l.length = 64 * 2 ^ (kk + 1) := by rw [e2]; omega
  refine ⟨⟨by rw [up_1]; omega, fun i z1 z2 => (rd_ne (by omega)).trans (d6 i (by omega) (by omega) (by omega) (by omega))⟩, h.1, ha.1, hb.1, kk + 1, rfl, ?_, ?_, ?_, by omega⟩
  · unfold okP
    rw [up_1]
    omega
  · refine ⟨by omega, by rw [up_1]; omega, by rw [up_1]; omega, by rw [up_2]; omega, by omega, ga, gb, gc, ?_, ?_, ?_, fun i e he => ?_⟩
    · rw [rd_ne (by omega), d3 _ (by omega), rd_ne (by omega), b3 _ (by omega), rd_ne (by omega), a4, e9]
    · rw [rd_ne (by omega), d3 _ (by omega), rd_ne (by omega), b4, e9]
    · rw [rd_ne (by omega), d4, e9]
    · obtain ⟨z1, z2, z3, z4⟩ := g4 i e he
      have := get_lt he
      rw [a5 i (by omega), b5 i (by omega), d5 i (by omega)]
      exact ⟨z1, z2, z3, z4⟩
  · obtain ⟨sn, s1, s2⟩ := hB
    obtain ⟨f, t1, t2⟩ := s1
    exact ⟨sn, ⟨f, (rd_ne (by omega)).trans ((d6 52 (by omega) (by omega) (by omega) (by omega)).trans t1), t2⟩, s2⟩
