/-! ===== Outlook.look ===== -/
def stb (n : Nat) (w : Nat → Nat) : Nat := un (fun s => if w (s * 5 + 4) = 0 then 2 ^ s else 0) n
theorem stb_bit (n : Nat) (w : Nat → Nat) (s : Nat) : (stb n w).testBit s = true ↔ s < n ∧ w (s * 5 + 4) = 0 := by
  unfold stb
  rw [un_bit]
  constructor
  · rintro ⟨i, h1, h2⟩
    split at h2
    · next h3 => rw [← (bit_pow i s).mp h2]; exact ⟨h1, h3⟩
    · simp at h2
  · rintro ⟨h1, h2⟩
    exact ⟨s, h1, by rw [if_pos h2]; exact (bit_pow s s).mpr rfl⟩
theorem stb_lt (n : Nat) (w : Nat → Nat) : stb n w < 2 ^ n := un_lt n (fun i hi => by
  split
  · exact Nat.pow_lt_pow_right (by omega) hi
  · exact Nat.two_pow_pos n)
/-- the rows of an Outlook -/
def oR (h : rx_H) (q : Nat) (O R N F A : Nat → Nat) : Prop := aN h (q + 1) 8 O ∧ aN h (q + 2) 8 R ∧ aN h (q + 3) 256 N ∧ aN h (q + 4) 256 F ∧ aN h (q + 5) 256 A
/-- an Outlook, stale or not: its empty set's rows are empty -/
def oS (h : rx_H) (q : Nat) : Prop := ∃ fr sb lo n O R N F A, fr ≤ 1 ∧ oO h q fr sb lo n ∧ oR h q O R N F A ∧ N 0 = 0 ∧ F 0 = 0 ∧ A 0 = 0
/-- an Outlook that has looked at a process of n states with the rows w -/
def oK (h : rx_H) (q n : Nat) (w : Nat → Nat) : Prop := ∃ lo R N F A, oO h q 1 (stb n w) lo n ∧ oR h q (ofS w) R N F A ∧ isLost w n lo ∧ lo < 2 ^ n ∧ (∀ s, s < n → isClo (led w 4 n) (2 ^ s) (R s) ∧ R s < 2 ^ n) ∧ (∀ m, m < 2 ^ n → N m = allS (nxS w R n) n m) ∧ (∀ m, m < 2 ^ n → F m = allS (ofD (stb n w) (ofS w)) n m) ∧ ∀ m, m < 2 ^ n → A m = allS (alD (stb n w) (ofS w)) n m
theorem l_X1_look {h0 : rx_H} {q o n fr lo : Nat} {w : Nat → Nat} (hp0 : pW h0 o n w) (hn : n ≤ 8) (hw : ∀ j, j < 40 → w j < 256) (hoq : o + 1 < q) (Q : Option Value → rx_H → Prop)
    (hq : ∀ h O, Fr h0 h [q, q + 1] → oO h q fr (stb n w) lo n → aN h (q + 1) 8 O → (∀ t, t < n → O t = ofS w t) → rx_R 13 61 [.ref q, .ref o, .int (nI n)] [] h Q) :
    ∀ j s h O, s + j = n → Fr h0 h [q, q + 1] → oO h q fr (un (fun s => if w (s * 5 + 4) = 0 then 2 ^ s else 0) s) lo n → aN h (q + 1) 8 O → (∀ t, t < s → O t = ofS w t) → rx_R 13 15 [.ref q, .ref o, .int (nI s)] [] h Q
  | 0, s, h, O, e, hf, ho, ha, hO => by
    have e' : s = n := by omega
    subst e'
    apply rx_wp_sound 60 [15, 61]
    simp (disch := first | decide | omega) only [rx_W, rx_wp_succ, rx_nx_stop, rx_nx_go, rx_lx_some, rx_fx_some, rx_ax_some, rx_qx_some, rx_ox_some, rx_vx_ref, rx_ix_ref, rx_ld_0, rx_ld_2, rx_ld_3, rx_cx_some, rx_nl, List.getElem?_cons_zero, List.getElem?_cons_succ, List.set_cons_zero, List.set_cons_succ, List.length_cons, List.length_nil, List.take_succ_cons, List.take_zero, List.drop_succ_cons, List.drop_zero, List.reverse_cons, List.reverse_nil, List.nil_append, List.cons_append, Option.toList_some, Option.toList_none, true_and, and_true, and_self, true_or, or_true, false_and, and_false, false_or, or_false, not_false_eq_true, Nat.reduceAdd, Nat.reduceLT, Nat.reduceLeDiff, Nat.reduceBEq, Nat.reduceEqDiff, Bool.or_false, Bool.false_or, if_true, if_false, Bool.false_eq_true, nq_eq, nq_lt, nq_le, nq_in_t, nq_bd, nq_ft, nq_clamp, nq_shl31, nq_shr31, nq_bitb, nq_add, nq_mul, fa_and, fa_or, nq_b0, nq_b1, nq_b01, ↓ni_lt_t, ↓ni_lt_f, ↓ni_le_t, ↓ni_le_f, ↓ni_eq_t, ↓ni_eq_f, ↓ni_beq_t, ↓ni_beq_f, it_X1_look, ho.1, ho.2]
    exact hq h O hf ho ha hO
  | j + 1, s, h, O, e, hf, ho, ha, hO => by
    have hp := pW_fr hf (by simp; omega) (by simp; omega) hp0
    have b1 := hw (s * 5 + 4) (by omega)
    obtain ⟨f, a1, a2⟩ := ha
    have hf1 : Fr h (rx_up h (q + 1) (.inl (0, 8, .inl (upd f s (nI (ofS w s)))))) [q, q + 1] := Fr_up (Fr_rfl _ _) (by simp)
    have hp1 := pW_fr hf1 (by simp; omega) (by simp; omega) hp
    have hO' : ∀ t, t < s + 1 → va_up O s (ofS w s) t = ofS w t := fun t ht => by
      by_cases et : t = s
      · rw [et, vu_eq]
      · rw [vu_ne et]; exact hO t (by omega)
    have ih := fun h' z1 z2 z3 => l_X1_look hp0 hn hw hoq Q hq j (s + 1) h' (va_up O s (ofS w s)) (by omega) z1 z2 z3 hO'
    rw [un_succ] at ih
    apply rx_wp_sound 60 [15, 61]
    simp (disch := first | decide | omega) only [rx_W, rx_wp_succ, rx_nx_stop, rx_nx_go, rx_lx_some, rx_fx_some, rx_ax_some, rx_qx_some, rx_ox_some, rx_vx_ref, rx_ix_ref, rx_ld_0, rx_ld_2, rx_ld_3, rx_cx_some, rx_nl, List.getElem?_cons_zero, List.getElem?_cons_succ, List.set_cons_zero, List.set_cons_succ, List.length_cons, List.length_nil, List.take_succ_cons, List.take_zero, List.drop_succ_cons, List.drop_zero, List.reverse_cons, List.reverse_nil, List.nil_append, List.cons_append, Option.toList_some, Option.toList_none, true_and, and_true, and_self, true_or, or_true, false_and, and_false, false_or, or_false, not_false_eq_true, Nat.reduceAdd, Nat.reduceLT, Nat.reduceLeDiff, Nat.reduceBEq, Nat.reduceEqDiff, Bool.or_false, Bool.false_or, if_true, if_false, Bool.false_eq_true, nq_eq, nq_lt, nq_le, nq_in_t, nq_bd, nq_ft, nq_clamp, nq_shl31, nq_shr31, nq_bitb, nq_add, nq_mul, fa_and, fa_or, nq_b0, nq_b1, nq_b01, ↓ni_lt_t, ↓ni_lt_f, ↓ni_le_t, ↓ni_le_f, ↓ni_eq_t, ↓ni_eq_f, ↓ni_beq_t, ↓ni_beq_f, it_X1_look, q_X4_offers hp, hw, ho.1, ho.2, hp.1, hp.2.2, a1]
    simp (disch := first | decide | omega) only [rx_W, rx_wp_succ, rx_nx_stop, rx_nx_go, rx_lx_some, rx_fx_some, rx_ax_some, rx_qx_some, rx_ox_some, rx_vx_ref, rx_ix_ref, rx_ld_0, rx_ld_2, rx_ld_3, rx_cx_some, rx_nl, List.getElem?_cons_zero, List.getElem?_cons_succ, List.set_cons_zero, List.set_cons_succ, List.length_cons, List.length_nil, List.take_succ_cons, List.take_zero, List.drop_succ_cons, List.drop_zero, List.reverse_cons, List.reverse_nil, List.nil_append, List.cons_append, Option.toList_some, Option.toList_none, true_and, and_true, and_self, true_or, or_true, false_and, and_false, false_or, or_false, not_false_eq_true, Nat.reduceAdd, Nat.reduceLT, Nat.reduceLeDiff, Nat.reduceBEq, Nat.reduceEqDiff, Bool.or_false, Bool.false_or, if_true, if_false, Bool.false_eq_true, nq_eq, nq_lt, nq_le, nq_in_t, nq_bd, nq_ft, nq_clamp, nq_shl31, nq_shr31, nq_bitb, nq_add, nq_mul, fa_and, fa_or, nq_b0, nq_b1, nq_b01, ↓ni_lt_t, ↓ni_lt_f, ↓ni_le_t, ↓ni_le_f, ↓ni_eq_t, ↓ni_eq_f, ↓ni_beq_t, ↓ni_beq_f, it_X1_look, q_X4_targets hp1, ho.1, ho.2, hp1.1, hp1.2.2, rd_ne, rx_fit, Nat.one_mul]
    split
    · next h1 =>
      rw [if_pos h1] at ih
      exact ih _ (Fr_up (Fr_trans hf hf1 (fun _ z => z) (fun _ z => z)) (by simp)) ⟨rd_eq _ _ _, ho.2⟩ ⟨_, (rd_ne (by omega)).trans (rd_eq _ _ _), aN_upd a2 _ _⟩
    · next h1 =>
      rw [if_neg h1, Nat.or_zero] at ih
      exact ih _ (Fr_trans hf hf1 (fun _ z => z) (fun _ z => z)) (oO_fr (A := [q + 1]) (Fr_up (Fr_rfl _ _) (by simp)) (by simp) ho) ⟨_, rd_eq _ _ _, aN_upd a2 _ _⟩
