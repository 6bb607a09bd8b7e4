theorem rx_ft : (∀ x, rx_fit 0 (.int x) = true) ∧ (∀ x, rx_fit 2 (.ref x) = true) ∧ (∀ x, rx_fit 3 (.long x) = true) ∧ rx_fit 1 (.int (nI 0)) = true ∧ rx_fit 1 (.int (nI 1)) = true ∧ ∀ b : Bool, rx_fit 1 (.int (nI b.toNat)) = true := ⟨fun _ => rfl, fun _ => rfl, fun _ => rfl, by decide +kernel, by decide +kernel, fun b => by cases b <;> decide +kernel⟩
/-! ===== Outlook.look ===== -/
def stb (n : Nat) (w : Nat → Nat) : Nat := un (fun s => if w (s * 5 + 4) = 0 then 2 ^ s else 0) n
theorem stb_bit (n : Nat) (w : Nat → Nat) (s : Nat) : (stb n w).testBit s = true ↔ s < n ∧ w (s * 5 + 4) = 0 := by
  unfold stb
  rw [un_bit]
  constructor
  · rintro ⟨i, h1, h2⟩
    split at h2
    · next h3 => rw [← (bit_pow i s).mp h2]; exact ⟨h1, h3⟩
    · simp at h2
  · rintro ⟨h1, h2⟩
    exact ⟨s, h1, by rw [if_pos h2]; exact (bit_pow s s).mpr rfl⟩
theorem stb_lt (n : Nat) (w : Nat → Nat) : stb n w < 2 ^ n := un_lt n (fun i hi => by
  split
  · exact Nat.pow_lt_pow_right (by omega) hi
  · exact Nat.two_pow_pos n)
/-- the rows of an Outlook -/
def oR (h : rx_H) (q : Nat) (O R N F A : Nat → Nat) : Prop := aN h (q + 1) 8 O ∧ aN h (q + 2) 8 R ∧ aN h (q + 3) 256 N ∧ aN h (q + 4) 256 F ∧ aN h (q + 5) 256 A
/-- an Outlook, stale or not: its empty set's rows are empty -/
def oS (h : rx_H) (q : Nat) : Prop := ∃ fr sb lo n O R N F A, fr ≤ 1 ∧ oO h q fr sb lo n ∧ oR h q O R N F A ∧ N 0 = 0 ∧ F 0 = 0 ∧ A 0 = 0
/-- an Outlook that has looked at a process of n states with the rows w -/
def oK (h : rx_H) (q n : Nat) (w : Nat → Nat) : Prop := ∃ lo O R N F A, oO h q 1 (stb n w) lo n ∧ oR h q O R N F A ∧ (∀ s, s < n → O s = ofS w s) ∧ isLost w n lo ∧ lo < 2 ^ n ∧ (∀ s, s < n → isClo (led w 4 n) (2 ^ s) (R s) ∧ R s < 2 ^ n) ∧ (∀ m, m < 2 ^ n → N m = allS (nxS w R n) n m) ∧ (∀ m, m < 2 ^ n → F m = allS (ofD (stb n w) (ofS w)) n m) ∧ ∀ m, m < 2 ^ n → A m = allS (alD (stb n w) (ofS w)) n m
theorem allS_cong {o1 o2 : Nat → Nat} {n : Nat} (h : ∀ s, s < n → o1 s = o2 s) (m : Nat) : allS o1 n m = allS o2 n m := un_cong n (fun i hi => by rw [h i hi])
theorem l_X1_look {h0 : rx_H} {q o n fr lo : Nat} {w : Nat → Nat} (hp0 : pW h0 o n w) (hn : n ≤ 8) (hw : ∀ j, j < 40 → w j < 256) (hoq : o + 1 < q) (Q : Option Value → rx_H → Prop)
    (hq : ∀ h O, Fr h0 h [q, q + 1] → oO h q fr (stb n w) lo n → aN h (q + 1) 8 O → (∀ t, t < n → O t = ofS w t) → rx_R 13 61 [.ref q, .ref o, .int (nI n)] [] h Q) :
    ∀ j s h O, s + j = n → Fr h0 h [q, q + 1] → oO h q fr (un (fun s => if w (s * 5 + 4) = 0 then 2 ^ s else 0) s) lo n → aN h (q + 1) 8 O → (∀ t, t < s → O t = ofS w t) → rx_R 13 15 [.ref q, .ref o, .int (nI s)] [] h Q
  | 0, s, h, O, e, hf, ho, ha, hO => by
    have e' : s = n := by omega
    subst e'
    apply rx_wp_sound 60 [15, 61]
    simp (disch := first | decide | omega) only [rx_W, rx_wp_succ, rx_nx_stop, rx_nx_go, rx_lx_some, rx_fx_some, rx_ax_some, rx_qx_some, rx_ox_some, rx_vx_ref, rx_ix_ref, rx_ld_0, rx_ld_2, rx_ld_3, rx_cx_some, rx_nl, List.getElem?_cons_zero, List.getElem?_cons_succ, List.set_cons_zero, List.set_cons_succ, List.length_cons, List.length_nil, List.take_succ_cons, List.take_zero, List.drop_succ_cons, List.drop_zero, List.reverse_cons, List.reverse_nil, List.nil_append, List.cons_append, Option.toList_some, Option.toList_none, true_and, and_true, and_self, true_or, or_true, false_and, and_false, false_or, or_false, not_false_eq_true, Nat.reduceAdd, Nat.reduceLT, Nat.reduceLeDiff, Nat.reduceBEq, Nat.reduceEqDiff, Bool.or_false, Bool.false_or, if_true, if_false, Bool.false_eq_true, nq_eq, nq_lt, nq_le, nq_in_t, nq_bd, nq_ft, nq_clamp, nq_shl31, nq_shr31, nq_bitb, nq_add, nq_mul, fa_and, fa_or, nq_b0, nq_b1, nq_b01, ↓ni_lt_t, ↓ni_lt_f, ↓ni_le_t, ↓ni_le_f, ↓ni_eq_t, ↓ni_eq_f, ↓ni_beq_t, ↓ni_beq_f, it_X1_look, ho.1, ho.2]
    exact hq h O hf ho ha hO
  | j + 1, s, h, O, e, hf, ho, ha, hO => by
    have hp := pW_fr hf (by simp; omega) (by simp; omega) hp0
    have b1 := hw (s * 5 + 4) (by omega)
    obtain ⟨f, a1, a2⟩ := ha
    have hf1 : Fr h (rx_up h (q + 1) (.inl (0, 8, .inl (upd f s (nI (ofS w s)))))) [q, q + 1] := Fr_up (Fr_rfl _ _) (by simp)
    have hp1 := pW_fr hf1 (by simp; omega) (by simp; omega) hp
    have hO' : ∀ t, t < s + 1 → va_up O s (ofS w s) t = ofS w t := fun t ht => by
      by_cases et : t = s
      · rw [et, vu_eq]
      · rw [vu_ne et]; exact hO t (by omega)
    have ih := fun h' z1 z2 z3 => l_X1_look hp0 hn hw hoq Q hq j (s + 1) h' (va_up O s (ofS w s)) (by omega) z1 z2 z3 hO'
    rw [un_succ] at ih
    apply rx_wp_sound 60 [15, 61]
    simp (disch := first | decide | omega) only [rx_W, rx_wp_succ, rx_nx_stop, rx_nx_go, rx_lx_some, rx_fx_some, rx_ax_some, rx_qx_some, rx_ox_some, rx_vx_ref, rx_ix_ref, rx_ld_0, rx_ld_2, rx_ld_3, rx_cx_some, rx_nl, List.getElem?_cons_zero, List.getElem?_cons_succ, List.set_cons_zero, List.set_cons_succ, List.length_cons, List.length_nil, List.take_succ_cons, List.take_zero, List.drop_succ_cons, List.drop_zero, List.reverse_cons, List.reverse_nil, List.nil_append, List.cons_append, Option.toList_some, Option.toList_none, true_and, and_true, and_self, true_or, or_true, false_and, and_false, false_or, or_false, not_false_eq_true, Nat.reduceAdd, Nat.reduceLT, Nat.reduceLeDiff, Nat.reduceBEq, Nat.reduceEqDiff, Bool.or_false, Bool.false_or, if_true, if_false, Bool.false_eq_true, nq_eq, nq_lt, nq_le, nq_in_t, nq_bd, nq_ft, nq_clamp, nq_shl31, nq_shr31, nq_bitb, nq_add, nq_mul, fa_and, fa_or, nq_b0, nq_b1, nq_b01, ↓ni_lt_t, ↓ni_lt_f, ↓ni_le_t, ↓ni_le_f, ↓ni_eq_t, ↓ni_eq_f, ↓ni_beq_t, ↓ni_beq_f, it_X1_look, q_X4_offers hp, hw, ho.1, ho.2, hp.1, hp.2.2, a1]
    simp (disch := first | decide | omega) only [rx_W, rx_wp_succ, rx_nx_stop, rx_nx_go, rx_lx_some, rx_fx_some, rx_ax_some, rx_qx_some, rx_ox_some, rx_vx_ref, rx_ix_ref, rx_ld_0, rx_ld_2, rx_ld_3, rx_cx_some, rx_nl, List.getElem?_cons_zero, List.getElem?_cons_succ, List.set_cons_zero, List.set_cons_succ, List.length_cons, List.length_nil, List.take_succ_cons, List.take_zero, List.drop_succ_cons, List.drop_zero, List.reverse_cons, List.reverse_nil, List.nil_append, List.cons_append, Option.toList_some, Option.toList_none, true_and, and_true, and_self, true_or, or_true, false_and, and_false, false_or, or_false, not_false_eq_true, Nat.reduceAdd, Nat.reduceLT, Nat.reduceLeDiff, Nat.reduceBEq, Nat.reduceEqDiff, Bool.or_false, Bool.false_or, if_true, if_false, Bool.false_eq_true, nq_eq, nq_lt, nq_le, nq_in_t, nq_bd, nq_ft, nq_clamp, nq_shl31, nq_shr31, nq_bitb, nq_add, nq_mul, fa_and, fa_or, nq_b0, nq_b1, nq_b01, ↓ni_lt_t, ↓ni_lt_f, ↓ni_le_t, ↓ni_le_f, ↓ni_eq_t, ↓ni_eq_f, ↓ni_beq_t, ↓ni_beq_f, it_X1_look, q_X4_targets hp1, ho.1, ho.2, hp1.1, hp1.2.2, rd_ne, rx_ft, Nat.one_mul]
    split
    · next h1 =>
      rw [if_pos h1] at ih
      exact ih _ (Fr_up (Fr_trans hf hf1 (fun _ z => z) (fun _ z => z)) (by simp)) ⟨rd_eq _ _ _, ho.2⟩ ⟨_, (rd_ne (by omega)).trans (rd_eq _ _ _), aN_upd a2 _ _⟩
    · next h1 =>
      rw [if_neg h1, Nat.or_zero] at ih
      exact ih _ (Fr_trans hf hf1 (fun _ z => z) (fun _ z => z)) (oO_fr (A := [q + 1]) (Fr_up (Fr_rfl _ _) (by simp)) (by simp) ho) ⟨_, rd_eq _ _ _, aN_upd a2 _ _⟩
theorem c_X1_fillSingles {h : rx_H} {q o n fr sb lo : Nat} {w R O N F A : Nat → Nat} (ho : oO h q fr sb lo n) (hp : pW h o n w) (ha : oR h q O R N F A) (h0 : N 0 = 0 ∧ F 0 = 0 ∧ A 0 = 0) (hn : n ≤ 8) (hw : ∀ j, j < 40 → w j < 256) (hO : ∀ s, s < n → O s < 16) (hsb : sb < 256) (hoq : o + 1 < q) :
    rx_Cl 22 [.ref q, .ref o] h (fun r h' => r = none ∧ Fr h h' [q + 3, q + 4, q + 5] ∧ ∃ N F A, aN h' (q + 3) 256 N ∧ aN h' (q + 4) 256 F ∧ aN h' (q + 5) 256 A ∧ (∀ t, t < n → N (2 ^ t) = nxS w R n t ∧ F (2 ^ t) = ofD sb O t ∧ A (2 ^ t) = alD sb O t) ∧ N 0 = 0 ∧ F 0 = 0 ∧ A 0 = 0) := by
  apply en_X1_fillSingles _ _ 40 [2]
  simp (disch := first | decide | omega) only [rx_W, rx_wp_succ, rx_nx_stop, rx_nx_go, rx_lx_some, rx_fx_some, rx_ax_some, rx_qx_some, rx_ox_some, rx_vx_ref, rx_ix_ref, rx_ld_0, rx_ld_2, rx_ld_3, rx_cx_some, rx_nl, List.getElem?_cons_zero, List.getElem?_cons_succ, List.set_cons_zero, List.set_cons_succ, List.length_cons, List.length_nil, List.take_succ_cons, List.take_zero, List.drop_succ_cons, List.drop_zero, List.reverse_cons, List.reverse_nil, List.nil_append, List.cons_append, Option.toList_some, Option.toList_none, true_and, and_true, and_self, true_or, or_true, false_and, and_false, false_or, or_false, not_false_eq_true, Nat.reduceAdd, Nat.reduceLT, Nat.reduceLeDiff, Nat.reduceBEq, Nat.reduceEqDiff, Bool.or_false, Bool.false_or, if_true, if_false, Bool.false_eq_true, nq_eq, nq_lt, nq_le, nq_in_t, nq_bd, nq_ft, nq_clamp, nq_shl31, nq_shr31, nq_bitb, nq_add, nq_mul, fa_and, fa_or, nq_b0, nq_b1, nq_b01, ↓ni_lt_t, ↓ni_lt_f, ↓ni_le_t, ↓ni_le_f, ↓ni_eq_t, ↓ni_eq_f, ↓ni_beq_t, ↓ni_beq_f, it_X1_fillSingles, it_X1_fillSingles_1]
  exact l_X1_fs ho hp ha.2.1 ha.1 hn hw hO hsb hoq _ (fun h' N F A f1 a1 a2 a3 a4 a5 => ⟨rfl, f1, N, F, A, a1, a2, a3, a4, a5⟩) n 0 h N F A _ _ (by omega) (Fr_rfl _ _) ha.2.2.1 ha.2.2.2.1 ha.2.2.2.2 (fun t ht => by omega) h0
theorem c_X1_fillSets {h : rx_H} {q n fr sb lo : Nat} {o1 o2 o3 N F A : Nat → Nat} (ho : oO h q fr sb lo n) (hn : n ≤ 8) (aNx : aN h (q + 3) 256 N) (aF : aN h (q + 4) 256 F) (aA : aN h (q + 5) 256 A) (h1 : ∀ t, t < n → N (2 ^ t) = o1 t ∧ F (2 ^ t) = o2 t ∧ A (2 ^ t) = o3 t) (h0 : N 0 = 0 ∧ F 0 = 0 ∧ A 0 = 0) :
    rx_Cl 25 [.ref q] h (fun r h' => r = none ∧ Fr h h' [q + 3, q + 4, q + 5] ∧ ∃ N F A, aN h' (q + 3) 256 N ∧ aN h' (q + 4) 256 F ∧ aN h' (q + 5) 256 A ∧ ∀ m, m < 2 ^ n → N m = allS o1 n m ∧ F m = allS o2 n m ∧ A m = allS o3 n m) := by
  have p1 := Nat.one_le_two_pow (n := n)
  apply en_X1_fillSets _ 40 [2]
  simp (disch := first | decide | omega) only [rx_W, rx_wp_succ, rx_nx_stop, rx_nx_go, rx_lx_some, rx_fx_some, rx_ax_some, rx_qx_some, rx_ox_some, rx_vx_ref, rx_ix_ref, rx_ld_0, rx_ld_2, rx_ld_3, rx_cx_some, rx_nl, List.getElem?_cons_zero, List.getElem?_cons_succ, List.set_cons_zero, List.set_cons_succ, List.length_cons, List.length_nil, List.take_succ_cons, List.take_zero, List.drop_succ_cons, List.drop_zero, List.reverse_cons, List.reverse_nil, List.nil_append, List.cons_append, Option.toList_some, Option.toList_none, true_and, and_true, and_self, true_or, or_true, false_and, and_false, false_or, or_false, not_false_eq_true, Nat.reduceAdd, Nat.reduceLT, Nat.reduceLeDiff, Nat.reduceBEq, Nat.reduceEqDiff, Bool.or_false, Bool.false_or, if_true, if_false, Bool.false_eq_true, nq_eq, nq_lt, nq_le, nq_in_t, nq_bd, nq_ft, nq_clamp, nq_shl31, nq_shr31, nq_bitb, nq_add, nq_mul, fa_and, fa_or, nq_b0, nq_b1, nq_b01, ↓ni_lt_t, ↓ni_lt_f, ↓ni_le_t, ↓ni_le_f, ↓ni_eq_t, ↓ni_eq_f, ↓ni_beq_t, ↓ni_beq_f, it_X1_fillSets]
  refine l_X1_fillSets (o1 := o1) (o2 := o2) (o3 := o3) ho hn _ (fun h' N F A f1 a1 a2 a3 i1 i2 i3 => ⟨rfl, f1, N, F, A, a1, a2, a3, fun m hm => ⟨i1.1 m hm, i2.1 m hm, i3.1 m hm⟩⟩) (2 ^ n - 1) 1 h N F A _ _ (by omega) (by omega) (Fr_rfl _ _) aNx aF aA ⟨fun m hm => ?_, fun s hs => (h1 s hs).1⟩ ⟨fun m hm => ?_, fun s hs => (h1 s hs).2.1⟩ ⟨fun m hm => ?_, fun s hs => (h1 s hs).2.2⟩
  · rw [show m = 0 by omega, allS_0]; exact h0.1
  · rw [show m = 0 by omega, allS_0]; exact h0.2.1
  · rw [show m = 0 by omega, allS_0]; exact h0.2.2
theorem c_X1_look {h : rx_H} {q o n : Nat} {w : Nat → Nat} (hs : oS h q) (hp : pW h o n w) (hn : n ≤ 8) (hw : ∀ j, j < 40 → w j < 2 ^ n) (hoq : o + 1 < q) : rx_Cl 13 [.ref q, .ref o] h (fun r h' => r = none ∧ Fr h h' [q, q + 1, q + 2, q + 3, q + 4, q + 5] ∧ oK h' q n w) := by
  obtain ⟨fr, sb, lo, n0, O, R, N, F, A, hfr, ho, ha, h0⟩ := hs
  have p8 : 2 ^ n ≤ 2 ^ 8 := Nat.pow_le_pow_right (by omega) hn
  have hw' : ∀ j, j < 40 → w j < 256 := fun j hj => by have := hw j hj; omega
  apply en_X1_look _ _ 40 [15]
  simp (disch := first | decide | omega) only [rx_W, rx_wp_succ, rx_nx_stop, rx_nx_go, rx_lx_some, rx_fx_some, rx_ax_some, rx_qx_some, rx_ox_some, rx_vx_ref, rx_ix_ref, rx_ld_0, rx_ld_2, rx_ld_3, rx_cx_some, rx_nl, List.getElem?_cons_zero, List.getElem?_cons_succ, List.set_cons_zero, List.set_cons_succ, List.length_cons, List.length_nil, List.take_succ_cons, List.take_zero, List.drop_succ_cons, List.drop_zero, List.reverse_cons, List.reverse_nil, List.nil_append, List.cons_append, Option.toList_some, Option.toList_none, true_and, and_true, and_self, true_or, or_true, false_and, and_false, false_or, or_false, not_false_eq_true, Nat.reduceAdd, Nat.reduceLT, Nat.reduceLeDiff, Nat.reduceBEq, Nat.reduceEqDiff, Bool.or_false, Bool.false_or, if_true, if_false, Bool.false_eq_true, nq_eq, nq_lt, nq_le, nq_in_t, nq_bd, nq_ft, nq_clamp, nq_shl31, nq_shr31, nq_bitb, nq_add, nq_mul, fa_and, fa_or, nq_b0, nq_b1, nq_b01, ↓ni_lt_t, ↓ni_lt_f, ↓ni_le_t, ↓ni_le_f, ↓ni_eq_t, ↓ni_eq_f, ↓ni_beq_t, ↓ni_beq_f, it_X1_look, ho.1, ho.2, hp.1, hp.2.2, rd_eq, rd_ne, rx_ft]
  have f0 : ∀ c c', Fr h (rx_up (rx_up h q c) q c') [q] := fun c c' => Fr_up (Fr_up (Fr_rfl _ _) (by simp)) (by simp)
  refine l_X1_look (h0 := h) (fr := fr) (lo := lo) hp hn hw' hoq _ (fun h1 O1 f1 o1 a1 e1 => ?_) n 0 _ O (by omega) (Fr_sub (f0 _ _) (by simp)) ⟨rd_eq _ _ _, ho.2⟩ (aN_fr (f0 _ _) (by simp) ha.1) (fun t ht => by omega)
  have hp1 := pW_fr f1 (by simp; omega) (by simp; omega) hp
  apply rx_wp_sound 40 []
  simp (disch := first | decide | omega) only [rx_W, rx_wp_succ, rx_nx_stop, rx_nx_go, rx_lx_some, rx_fx_some, rx_ax_some, rx_qx_some, rx_ox_some, rx_vx_ref, rx_ix_ref, rx_ld_0, rx_ld_2, rx_ld_3, rx_cx_some, rx_nl, List.getElem?_cons_zero, List.getElem?_cons_succ, List.set_cons_zero, List.set_cons_succ, List.length_cons, List.length_nil, List.take_succ_cons, List.take_zero, List.drop_succ_cons, List.drop_zero, List.reverse_cons, List.reverse_nil, List.nil_append, List.cons_append, Option.toList_some, Option.toList_none, true_and, and_true, and_self, true_or, or_true, false_and, and_false, false_or, or_false, not_false_eq_true, Nat.reduceAdd, Nat.reduceLT, Nat.reduceLeDiff, Nat.reduceBEq, Nat.reduceEqDiff, Bool.or_false, Bool.false_or, if_true, if_false, Bool.false_eq_true, nq_eq, nq_lt, nq_le, nq_in_t, nq_bd, nq_ft, nq_clamp, nq_shl31, nq_shr31, nq_bitb, nq_add, nq_mul, fa_and, fa_or, nq_b0, nq_b1, nq_b01, ↓ni_lt_t, ↓ni_lt_f, ↓ni_le_t, ↓ni_le_f, ↓ni_eq_t, ↓ni_eq_f, ↓ni_beq_t, ↓ni_beq_f, it_X1_look, o1.1, o1.2]
  refine rx_Cl_imp (c_X1_findLost o1 hp1 hn hw') (fun r h2 ⟨e2, f2, S, s1, s2, o2⟩ => ?_)
  subst e2
  simp (disch := first | decide | omega) only [rx_W, rx_wp_succ, rx_nx_stop, rx_nx_go, rx_lx_some, rx_fx_some, rx_ax_some, rx_qx_some, rx_ox_some, rx_vx_ref, rx_ix_ref, rx_ld_0, rx_ld_2, rx_ld_3, rx_cx_some, rx_nl, List.getElem?_cons_zero, List.getElem?_cons_succ, List.set_cons_zero, List.set_cons_succ, List.length_cons, List.length_nil, List.take_succ_cons, List.take_zero, List.drop_succ_cons, List.drop_zero, List.reverse_cons, List.reverse_nil, List.nil_append, List.cons_append, Option.toList_some, Option.toList_none, true_and, and_true, and_self, true_or, or_true, false_and, and_false, false_or, or_false, not_false_eq_true, Nat.reduceAdd, Nat.reduceLT, Nat.reduceLeDiff, Nat.reduceBEq, Nat.reduceEqDiff, Bool.or_false, Bool.false_or, if_true, if_false, Bool.false_eq_true, nq_eq, nq_lt, nq_le, nq_in_t, nq_bd, nq_ft, nq_clamp, nq_shl31, nq_shr31, nq_bitb, nq_add, nq_mul, fa_and, fa_or, nq_b0, nq_b1, nq_b01, ↓ni_lt_t, ↓ni_lt_f, ↓ni_le_t, ↓ni_le_f, ↓ni_eq_t, ↓ni_eq_f, ↓ni_beq_t, ↓ni_beq_f, it_X1_look, o2.1, o2.2]
  have f12 := Fr_trans f1 f2 (C := [q, q + 1]) (fun _ z => z) (by simp)
  refine rx_Cl_imp (c_X1_findOnward o2 (pW_fr f2 (by simp; omega) (by simp; omega) hp1) (aN_fr f12 (by simp) ha.2.1) hn hw (by omega)) (fun r h3 ⟨e3, f3, R3, r1, r2⟩ => ?_)
  subst e3
  have o3 := oO_fr f3 (by simp) o2
  have f13 := Fr_trans f12 f3 (C := [q, q + 1, q + 2]) (by simp) (by simp)
  have f23 := Fr_trans f2 f3 (C := [q, q + 2]) (by simp) (by simp)
  simp (disch := first | decide | omega) only [rx_W, rx_wp_succ, rx_nx_stop, rx_nx_go, rx_lx_some, rx_fx_some, rx_ax_some, rx_qx_some, rx_ox_some, rx_vx_ref, rx_ix_ref, rx_ld_0, rx_ld_2, rx_ld_3, rx_cx_some, rx_nl, List.getElem?_cons_zero, List.getElem?_cons_succ, List.set_cons_zero, List.set_cons_succ, List.length_cons, List.length_nil, List.take_succ_cons, List.take_zero, List.drop_succ_cons, List.drop_zero, List.reverse_cons, List.reverse_nil, List.nil_append, List.cons_append, Option.toList_some, Option.toList_none, true_and, and_true, and_self, true_or, or_true, false_and, and_false, false_or, or_false, not_false_eq_true, Nat.reduceAdd, Nat.reduceLT, Nat.reduceLeDiff, Nat.reduceBEq, Nat.reduceEqDiff, Bool.or_false, Bool.false_or, if_true, if_false, Bool.false_eq_true, nq_eq, nq_lt, nq_le, nq_in_t, nq_bd, nq_ft, nq_clamp, nq_shl31, nq_shr31, nq_bitb, nq_add, nq_mul, fa_and, fa_or, nq_b0, nq_b1, nq_b01, ↓ni_lt_t, ↓ni_lt_f, ↓ni_le_t, ↓ni_le_f, ↓ni_eq_t, ↓ni_eq_f, ↓ni_beq_t, ↓ni_beq_f, it_X1_look, o3.1, o3.2]
  have hO16 : ∀ s, s < n → O1 s < 16 := fun s hs => by rw [e1 s hs]; exact ofS_lt w s
  have hst := stb_lt n w
  refine rx_Cl_imp (c_X1_fillSingles (N := N) (F := F) (A := A) o3 (pW_fr f13 (by simp; omega) (by simp; omega) hp) ⟨aN_fr f23 (by simp) a1, r1, aN_fr f13 (by simp) ha.2.2.1, aN_fr f13 (by simp) ha.2.2.2.1, aN_fr f13 (by simp) ha.2.2.2.2⟩ h0 hn hw' hO16 (by omega) hoq) (fun r h4 ⟨e4, f4, N4, F4, A4, b1, b2, b3, b4, b5⟩ => ?_)
  subst e4
  have o4 := oO_fr f4 (by simp) o3
  simp (disch := first | decide | omega) only [rx_W, rx_wp_succ, rx_nx_stop, rx_nx_go, rx_lx_some, rx_fx_some, rx_ax_some, rx_qx_some, rx_ox_some, rx_vx_ref, rx_ix_ref, rx_ld_0, rx_ld_2, rx_ld_3, rx_cx_some, rx_nl, List.getElem?_cons_zero, List.getElem?_cons_succ, List.set_cons_zero, List.set_cons_succ, List.length_cons, List.length_nil, List.take_succ_cons, List.take_zero, List.drop_succ_cons, List.drop_zero, List.reverse_cons, List.reverse_nil, List.nil_append, List.cons_append, Option.toList_some, Option.toList_none, true_and, and_true, and_self, true_or, or_true, false_and, and_false, false_or, or_false, not_false_eq_true, Nat.reduceAdd, Nat.reduceLT, Nat.reduceLeDiff, Nat.reduceBEq, Nat.reduceEqDiff, Bool.or_false, Bool.false_or, if_true, if_false, Bool.false_eq_true, nq_eq, nq_lt, nq_le, nq_in_t, nq_bd, nq_ft, nq_clamp, nq_shl31, nq_shr31, nq_bitb, nq_add, nq_mul, fa_and, fa_or, nq_b0, nq_b1, nq_b01, ↓ni_lt_t, ↓ni_lt_f, ↓ni_le_t, ↓ni_le_f, ↓ni_eq_t, ↓ni_eq_f, ↓ni_beq_t, ↓ni_beq_f, it_X1_look, o4.1, o4.2]
  refine rx_Cl_imp (c_X1_fillSets o4 hn b1 b2 b3 b4 b5) (fun r h5 ⟨e5, f5, N5, F5, A5, c1, c2, c3, c4⟩ => ?_)
  subst e5
  have o5 := oO_fr f5 (by simp) o4
  simp (disch := first | decide | omega) only [rx_W, rx_wp_succ, rx_nx_stop, rx_nx_go, rx_lx_some, rx_fx_some, rx_ax_some, rx_qx_some, rx_ox_some, rx_vx_ref, rx_ix_ref, rx_ld_0, rx_ld_2, rx_ld_3, rx_cx_some, rx_nl, List.getElem?_cons_zero, List.getElem?_cons_succ, List.set_cons_zero, List.set_cons_succ, List.length_cons, List.length_nil, List.take_succ_cons, List.take_zero, List.drop_succ_cons, List.drop_zero, List.reverse_cons, List.reverse_nil, List.nil_append, List.cons_append, Option.toList_some, Option.toList_none, true_and, and_true, and_self, true_or, or_true, false_and, and_false, false_or, or_false, not_false_eq_true, Nat.reduceAdd, Nat.reduceLT, Nat.reduceLeDiff, Nat.reduceBEq, Nat.reduceEqDiff, Bool.or_false, Bool.false_or, if_true, if_false, Bool.false_eq_true, nq_eq, nq_lt, nq_le, nq_in_t, nq_bd, nq_ft, nq_clamp, nq_shl31, nq_shr31, nq_bitb, nq_add, nq_mul, fa_and, fa_or, nq_b0, nq_b1, nq_b01, ↓ni_lt_t, ↓ni_lt_f, ↓ni_le_t, ↓ni_le_f, ↓ni_eq_t, ↓ni_eq_f, ↓ni_beq_t, ↓ni_beq_f, it_X1_look, o5.1, o5.2, rx_ft]
  have f6 : ∀ c, Fr h5 (rx_up h5 q c) [q] := fun c => Fr_up (Fr_rfl _ _) (by simp)
  have f35 := Fr_trans f4 f5 (C := [q + 3, q + 4, q + 5]) (fun _ z => z) (fun _ z => z)
  refine ⟨Fr_trans (Fr_trans f13 f35 (C := [q, q + 1, q + 2, q + 3, q + 4, q + 5]) (by simp) (by simp)) (f6 _) (fun _ z => z) (by simp), S, O1, R3, N5, F5, A5, ⟨rd_eq _ _ _, ho.2⟩, ⟨aN_fr (f6 _) (by simp) (aN_fr f35 (by simp) (aN_fr f23 (by simp) a1)), aN_fr (f6 _) (by simp) (aN_fr f35 (by simp) r1), aN_fr (f6 _) (by simp) c1, aN_fr (f6 _) (by simp) c2, aN_fr (f6 _) (by simp) c3⟩, e1, s1, s2, r2, fun m hm => (c4 m hm).1, fun m hm => ?_, fun m hm => ?_⟩
  · rw [(c4 m hm).2.1]
    exact allS_cong (fun s hs => by unfold ofD; rw [e1 s hs]) m
  · rw [(c4 m hm).2.2]
    exact allS_cong (fun s hs => by unfold alD; rw [e1 s hs]) m
