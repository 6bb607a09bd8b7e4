/-! ===== Outlook.findOnward ===== -/
def wsh (R : Nat → Nat) (k s : Nat) : Nat := if (R s).testBit k then R s ||| R k else R s
theorem wsh_self (R : Nat → Nat) (k : Nat) : wsh R k k = R k := by
  unfold wsh
  split
  · exact Nat.or_self _
  · rfl
theorem wsh_sub (R : Nat → Nat) (k s : Nat) : sub (R s) (wsh R k s) := by
  unfold wsh
  split
  · exact sub_or_l _ _
  · exact sub_rfl _
theorem wsh_bit (R : Nat → Nat) (k s i : Nat) : (wsh R k s).testBit i = true ↔ (R s).testBit i = true ∨ ((R s).testBit k = true ∧ (R k).testBit i = true) := by
  unfold wsh
  split
  · next h => rw [Nat.testBit_or, Bool.or_eq_true]; simp [h]
  · next h => simp [h]
/-- what holds of the rows while the states below k have been gone over -/
def onI (w : Nat → Nat) (n k : Nat) (R : Nat → Nat) : Prop := (∀ s, s < n → R s < 2 ^ n ∧ sub (2 ^ s ||| w (s * 5 + 4)) (R s) ∧ ∀ T, T.testBit s = true → sub (led w 4 n T) T → sub (R s) T) ∧ ∀ s, s < n → ∀ m, m < k → (R s).testBit m = true → sub (R m) (R s)
theorem onI_step {w : Nat → Nat} {n k : Nat} {R R2 : Nat → Nat} (hk : k < n) (h : onI w n k R) (h2 : ∀ s, s < n → R2 s = wsh R k s) : onI w n (k + 1) R2 := by
  obtain ⟨h0, h1⟩ := h
  refine ⟨fun s hs => ?_, fun s hs m hm hb => ?_⟩
  · rw [h2 s hs]
    obtain ⟨a1, a2, a3⟩ := h0 s hs
    refine ⟨?_, sub_trans a2 (wsh_sub R k s), fun T t1 t2 i hi => ?_⟩
    · unfold wsh
      split
      · exact Nat.or_lt_two_pow a1 (h0 k hk).1
      · exact a1
    · rcases (wsh_bit R k s i).mp hi with z | ⟨z1, z2⟩
      · exact a3 T t1 t2 i z
      · exact (h0 k hk).2.2 T (a3 T t1 t2 k z1) t2 i z2
  · have hmn : m < n := by omega
    rw [h2 s hs] at hb ⊢
    rw [h2 m hmn]
    intro i hi
    rw [wsh_bit] at hb hi ⊢
    have up : (R s).testBit k = true → ∀ i, (R k).testBit i = true → (R s).testBit i = true ∨ ((R s).testBit k = true ∧ (R k).testBit i = true) := fun z i y => Or.inr ⟨z, y⟩
    by_cases e : m = k
    · subst e
      have hsm : (R s).testBit m = true := hb.elim id (fun z => z.1)
      rcases hi with z | ⟨_, z⟩
      · exact Or.inr ⟨hsm, z⟩
      · exact Or.inr ⟨hsm, z⟩
    · have hmk : m < k := by omega
      rcases hb with z | ⟨z1, z2⟩
      · rcases hi with y | ⟨y1, y2⟩
        · exact Or.inl (h1 s hs m hmk z i y)
        · exact Or.inr ⟨h1 s hs m hmk z k y1, y2⟩
      · rcases hi with y | ⟨y1, y2⟩
        · exact Or.inr ⟨z1, h1 k hk m hmk z2 i y⟩
        · exact Or.inr ⟨z1, y2⟩
theorem onI_end {w : Nat → Nat} {n : Nat} {R : Nat → Nat} (h : onI w n n R) : ∀ s, s < n → isClo (led w 4 n) (2 ^ s) (R s) ∧ R s < 2 ^ n := by
  intro s hs
  obtain ⟨a1, a2, a3⟩ := h.1 s hs
  refine ⟨⟨sub_trans (sub_or_l _ _) a2, fun t ht => ?_, fun T t1 t2 => a3 T (t1 s ((bit_pow s s).mpr rfl)) t2⟩, a1⟩
  obtain ⟨m, m1, m2, m3⟩ := (led_bit _ _ _ _ _).mp ht
  exact h.2 s hs m m1 m2 t ((h.1 m m1).2.1 t (sub_or_r _ _ t m3))
theorem l_X1_on1 {h0 : rx_H} {q o n fr sb lo : Nat} {w : Nat → Nat} (hn : n ≤ 8) (hoq : ¬ o = q + 2 ∧ ¬ o + 1 = q + 2) (Q : Option Value → rx_H → Prop)
    (hq : ∀ h R, Fr h0 h [q + 2] → oO h q fr sb lo n → pW h o n w → aN h (q + 2) 8 R → (∀ t, t < n → R t = 2 ^ t ||| w (t * 5 + 4)) → rx_R 21 34 [.ref q, .ref o, .int (nI 0), .null] [] h Q) :
    ∀ j s h R, s + j = n → Fr h0 h [q + 2] → oO h q fr sb lo n → pW h o n w → aN h (q + 2) 8 R → (∀ t, t < s → R t = 2 ^ t ||| w (t * 5 + 4)) → rx_R 21 2 [.ref q, .ref o, .int (nI s), .null] [] h Q
  | 0, s, h, R, e, hf, ho, hp, ha, hR => by
    have e' : s = n := by omega
    subst e'
    apply rx_wp_sound 40 [2, 34]
    simp (disch := first | decide | omega) only [rx_W, rx_wp_succ, rx_nx_stop, rx_nx_go, rx_lx_some, rx_fx_some, rx_ax_some, rx_qx_some, rx_ox_some, rx_vx_ref, rx_ix_ref, rx_ld_0, rx_ld_2, rx_ld_3, rx_cx_some, rx_nl, List.getElem?_cons_zero, List.getElem?_cons_succ, List.set_cons_zero, List.set_cons_succ, List.length_cons, List.length_nil, List.take_succ_cons, List.take_zero, List.drop_succ_cons, List.drop_zero, List.reverse_cons, List.reverse_nil, List.nil_append, List.cons_append, Option.toList_some, Option.toList_none, true_and, and_true, and_self, true_or, or_true, false_and, and_false, false_or, or_false, not_false_eq_true, Nat.reduceAdd, Nat.reduceLT, Nat.reduceLeDiff, Nat.reduceBEq, Nat.reduceEqDiff, Bool.or_false, Bool.false_or, if_true, if_false, Bool.false_eq_true, nq_eq, nq_lt, nq_le, nq_in_t, nq_bd, nq_ft, nq_clamp, nq_shl31, nq_shr31, nq_bitb, nq_add, nq_mul, fa_and, fa_or, nq_b0, nq_b1, nq_b01, ↓ni_lt_t, ↓ni_lt_f, ↓ni_le_t, ↓ni_le_f, ↓ni_eq_t, ↓ni_eq_f, ↓ni_beq_t, ↓ni_beq_f, it_X1_findOnward, ho.1, ho.2]
    exact hq h R hf ho hp ha hR
  | j + 1, s, h, R, e, hf, ho, hp, ha, hR => by
    obtain ⟨f, a1, a2⟩ := ha
    apply rx_wp_sound 40 [2, 34]
    simp (disch := first | decide | omega) only [rx_W, rx_wp_succ, rx_nx_stop, rx_nx_go, rx_lx_some, rx_fx_some, rx_ax_some, rx_qx_some, rx_ox_some, rx_vx_ref, rx_ix_ref, rx_ld_0, rx_ld_2, rx_ld_3, rx_cx_some, rx_nl, List.getElem?_cons_zero, List.getElem?_cons_succ, List.set_cons_zero, List.set_cons_succ, List.length_cons, List.length_nil, List.take_succ_cons, List.take_zero, List.drop_succ_cons, List.drop_zero, List.reverse_cons, List.reverse_nil, List.nil_append, List.cons_append, Option.toList_some, Option.toList_none, true_and, and_true, and_self, true_or, or_true, false_and, and_false, false_or, or_false, not_false_eq_true, Nat.reduceAdd, Nat.reduceLT, Nat.reduceLeDiff, Nat.reduceBEq, Nat.reduceEqDiff, Bool.or_false, Bool.false_or, if_true, if_false, Bool.false_eq_true, nq_eq, nq_lt, nq_le, nq_in_t, nq_bd, nq_ft, nq_clamp, nq_shl31, nq_shr31, nq_bitb, nq_add, nq_mul, fa_and, fa_or, nq_b0, nq_b1, nq_b01, ↓ni_lt_t, ↓ni_lt_f, ↓ni_le_t, ↓ni_le_f, ↓ni_eq_t, ↓ni_eq_f, ↓ni_beq_t, ↓ni_beq_f, it_X1_findOnward, q_X4_targets hp, ho.1, ho.2, hp.1, hp.2.2, a1, Nat.one_mul]
    have hf1 : Fr h (rx_up h (q + 2) (.inl (0, 8, .inl (upd f s (nI (2 ^ s ||| w (s * 5 + 4))))))) [q + 2] := Fr_up (Fr_rfl _ _) (by simp)
    refine l_X1_on1 hn hoq Q hq j (s + 1) _ (va_up R s (2 ^ s ||| w (s * 5 + 4))) (by omega) (Fr_trans hf hf1 (fun _ z => z) (fun _ z => z)) (oO_fr hf1 (by simp) ho) (pW_fr hf1 (by simp; omega) (by simp; omega) hp) ⟨_, rd_eq _ _ _, aN_upd a2 _ _⟩ (fun t ht => ?_)
    unfold va_up
    by_cases e1 : t = s
    · rw [if_pos e1, e1]
    · rw [if_neg e1]; exact hR t (by omega)
theorem l_X1_on3 {h0 : rx_H} {q o n fr sb lo k : Nat} {R : Nat → Nat} (hn : n ≤ 8) (hk : k < n) (hR : ∀ s, s < n → R s < 2 ^ n) (Q : Option Value → rx_H → Prop)
    (hq : ∀ h R2, Fr h0 h [q + 2] → oO h q fr sb lo n → aN h (q + 2) 8 R2 → (∀ t, t < n → R2 t = wsh R k t) → rx_R 21 86 [.ref q, .ref o, .int (nI k), .int (nI n)] [] h Q) :
    ∀ j s h R2, s + j = n → Fr h0 h [q + 2] → oO h q fr sb lo n → aN h (q + 2) 8 R2 → (∀ t, t < n → R2 t = if t < s then wsh R k t else R t) → rx_R 21 44 [.ref q, .ref o, .int (nI k), .int (nI s)] [] h Q
  | 0, s, h, R2, e, hf, ho, ha, h2 => by
    have e' : s = n := by omega
    subst e'
    apply rx_wp_sound 60 [44, 86]
    simp (disch := first | decide | omega) only [rx_W, rx_wp_succ, rx_nx_stop, rx_nx_go, rx_lx_some, rx_fx_some, rx_ax_some, rx_qx_some, rx_ox_some, rx_vx_ref, rx_ix_ref, rx_ld_0, rx_ld_2, rx_ld_3, rx_cx_some, rx_nl, List.getElem?_cons_zero, List.getElem?_cons_succ, List.set_cons_zero, List.set_cons_succ, List.length_cons, List.length_nil, List.take_succ_cons, List.take_zero, List.drop_succ_cons, List.drop_zero, List.reverse_cons, List.reverse_nil, List.nil_append, List.cons_append, Option.toList_some, Option.toList_none, true_and, and_true, and_self, true_or, or_true, false_and, and_false, false_or, or_false, not_false_eq_true, Nat.reduceAdd, Nat.reduceLT, Nat.reduceLeDiff, Nat.reduceBEq, Nat.reduceEqDiff, Bool.or_false, Bool.false_or, if_true, if_false, Bool.false_eq_true, nq_eq, nq_lt, nq_le, nq_in_t, nq_bd, nq_ft, nq_clamp, nq_shl31, nq_shr31, nq_bitb, nq_add, nq_mul, fa_and, fa_or, nq_b0, nq_b1, nq_b01, ↓ni_lt_t, ↓ni_lt_f, ↓ni_le_t, ↓ni_le_f, ↓ni_eq_t, ↓ni_eq_f, ↓ni_beq_t, ↓ni_beq_f, it_X1_findOnward, ho.1, ho.2]
    exact hq h R2 hf ho ha (fun t ht => by rw [h2 t ht, if_pos ht])
  | j + 1, s, h, R2, e, hf, ho, ha, h2 => by
    obtain ⟨f, a1, a2⟩ := ha
    have p8 : 2 ^ n ≤ 2 ^ 8 := Nat.pow_le_pow_right (by omega) hn
    have rs : R2 s = R s := by rw [h2 s (by omega), if_neg (by omega)]
    have rk : R2 k = R k := by
      rw [h2 k hk]
      split
      · exact wsh_self R k
      · rfl
    have b1 := hR s (by omega)
    have b2 := hR k hk
    apply rx_wp_sound 60 [44, 86]
    simp (disch := first | decide | omega) only [rx_W, rx_wp_succ, rx_nx_stop, rx_nx_go, rx_lx_some, rx_fx_some, rx_ax_some, rx_qx_some, rx_ox_some, rx_vx_ref, rx_ix_ref, rx_ld_0, rx_ld_2, rx_ld_3, rx_cx_some, rx_nl, List.getElem?_cons_zero, List.getElem?_cons_succ, List.set_cons_zero, List.set_cons_succ, List.length_cons, List.length_nil, List.take_succ_cons, List.take_zero, List.drop_succ_cons, List.drop_zero, List.reverse_cons, List.reverse_nil, List.nil_append, List.cons_append, Option.toList_some, Option.toList_none, true_and, and_true, and_self, true_or, or_true, false_and, and_false, false_or, or_false, not_false_eq_true, Nat.reduceAdd, Nat.reduceLT, Nat.reduceLeDiff, Nat.reduceBEq, Nat.reduceEqDiff, Bool.or_false, Bool.false_or, if_true, if_false, Bool.false_eq_true, nq_eq, nq_lt, nq_le, nq_in_t, nq_bd, nq_ft, nq_clamp, nq_shl31, nq_shr31, nq_bitb, nq_add, nq_mul, fa_and, fa_or, nq_b0, nq_b1, nq_b01, ↓ni_lt_t, ↓ni_lt_f, ↓ni_le_t, ↓ni_le_f, ↓ni_eq_t, ↓ni_eq_f, ↓ni_beq_t, ↓ni_beq_f, it_X1_findOnward, q_X7_has, ho.1, ho.2, a1, a2, rs, rk]
    split
    · next hb =>
      refine l_X1_on3 hn hk hR Q hq j (s + 1) h R2 (by omega) hf ho ⟨f, a1, a2⟩ (fun t ht => ?_)
      rw [h2 t ht]
      by_cases e1 : t = s
      · subst e1
        rw [if_neg (by omega), if_pos (by omega)]
        unfold wsh
        rw [if_neg (by rw [hb]; simp)]
      · by_cases e2 : t < s
        · rw [if_pos e2, if_pos (by omega)]
        · rw [if_neg e2, if_neg (by omega)]
    · next hb =>
      have hb : (R s).testBit k = true := by simpa using hb
      have hf1 : Fr h (rx_up h (q + 2) (.inl (0, 8, .inl (upd f s (nI (R s ||| R k)))))) [q + 2] := Fr_up (Fr_rfl _ _) (by simp)
      refine l_X1_on3 hn hk hR Q hq j (s + 1) _ (va_up R2 s (R s ||| R k)) (by omega) (Fr_trans hf hf1 (fun _ z => z) (fun _ z => z)) (oO_fr hf1 (by simp) ho) ⟨_, rd_eq _ _ _, aN_upd a2 _ _⟩ (fun t ht => ?_)
      unfold va_up
      by_cases e1 : t = s
      · rw [if_pos e1, if_pos (by omega), e1]
        unfold wsh
        rw [if_pos hb]
      · rw [if_neg e1, h2 t ht]
        by_cases e2 : t < s
        · rw [if_pos e2, if_pos (by omega)]
        · rw [if_neg e2, if_neg (by omega)]
theorem l_X1_on2 {h0 : rx_H} {q o n fr sb lo : Nat} {w : Nat → Nat} (hn : n ≤ 8) (Q : Option Value → rx_H → Prop)
    (hq : ∀ h R, Fr h0 h [q + 2] → oO h q fr sb lo n → aN h (q + 2) 8 R → onI w n n R → Q none h) :
    ∀ j k h R x, k + j = n → Fr h0 h [q + 2] → oO h q fr sb lo n → aN h (q + 2) 8 R → onI w n k R → rx_R 21 34 [.ref q, .ref o, .int (nI k), x] [] h Q
  | 0, k, h, R, x, e, hf, ho, ha, hI => by
    have e' : k = n := by omega
    subst e'
    apply rx_wp_sound 60 [34, 44]
    simp (disch := first | decide | omega) only [rx_W, rx_wp_succ, rx_nx_stop, rx_nx_go, rx_lx_some, rx_fx_some, rx_ax_some, rx_qx_some, rx_ox_some, rx_vx_ref, rx_ix_ref, rx_ld_0, rx_ld_2, rx_ld_3, rx_cx_some, rx_nl, List.getElem?_cons_zero, List.getElem?_cons_succ, List.set_cons_zero, List.set_cons_succ, List.length_cons, List.length_nil, List.take_succ_cons, List.take_zero, List.drop_succ_cons, List.drop_zero, List.reverse_cons, List.reverse_nil, List.nil_append, List.cons_append, Option.toList_some, Option.toList_none, true_and, and_true, and_self, true_or, or_true, false_and, and_false, false_or, or_false, not_false_eq_true, Nat.reduceAdd, Nat.reduceLT, Nat.reduceLeDiff, Nat.reduceBEq, Nat.reduceEqDiff, Bool.or_false, Bool.false_or, if_true, if_false, Bool.false_eq_true, nq_eq, nq_lt, nq_le, nq_in_t, nq_bd, nq_ft, nq_clamp, nq_shl31, nq_shr31, nq_bitb, nq_add, nq_mul, fa_and, fa_or, nq_b0, nq_b1, nq_b01, ↓ni_lt_t, ↓ni_lt_f, ↓ni_le_t, ↓ni_le_f, ↓ni_eq_t, ↓ni_eq_f, ↓ni_beq_t, ↓ni_beq_f, it_X1_findOnward, ho.1, ho.2]
    exact hq h R hf ho ha hI
  | j + 1, k, h, R, x, e, hf, ho, ha, hI => by
    apply rx_wp_sound 60 [34, 44]
    simp (disch := first | decide | omega) only [rx_W, rx_wp_succ, rx_nx_stop, rx_nx_go, rx_lx_some, rx_fx_some, rx_ax_some, rx_qx_some, rx_ox_some, rx_vx_ref, rx_ix_ref, rx_ld_0, rx_ld_2, rx_ld_3, rx_cx_some, rx_nl, List.getElem?_cons_zero, List.getElem?_cons_succ, List.set_cons_zero, List.set_cons_succ, List.length_cons, List.length_nil, List.take_succ_cons, List.take_zero, List.drop_succ_cons, List.drop_zero, List.reverse_cons, List.reverse_nil, List.nil_append, List.cons_append, Option.toList_some, Option.toList_none, true_and, and_true, and_self, true_or, or_true, false_and, and_false, false_or, or_false, not_false_eq_true, Nat.reduceAdd, Nat.reduceLT, Nat.reduceLeDiff, Nat.reduceBEq, Nat.reduceEqDiff, Bool.or_false, Bool.false_or, if_true, if_false, Bool.false_eq_true, nq_eq, nq_lt, nq_le, nq_in_t, nq_bd, nq_ft, nq_clamp, nq_shl31, nq_shr31, nq_bitb, nq_add, nq_mul, fa_and, fa_or, nq_b0, nq_b1, nq_b01, ↓ni_lt_t, ↓ni_lt_f, ↓ni_le_t, ↓ni_le_f, ↓ni_eq_t, ↓ni_eq_f, ↓ni_beq_t, ↓ni_beq_f, it_X1_findOnward, ho.1, ho.2]
    refine l_X1_on3 (h0 := h0) (R := R) hn (by omega) (fun s hs => (hI.1 s hs).1) Q (fun h2 R2 f2 o2 a2 r2 => ?_) n 0 h R (by omega) hf ho ha (fun t ht => by rw [if_neg (by omega)])
    apply rx_wp_sound 60 [34]
    simp (disch := first | decide | omega) only [rx_W, rx_wp_succ, rx_nx_stop, rx_nx_go, rx_lx_some, rx_fx_some, rx_ax_some, rx_qx_some, rx_ox_some, rx_vx_ref, rx_ix_ref, rx_ld_0, rx_ld_2, rx_ld_3, rx_cx_some, rx_nl, List.getElem?_cons_zero, List.getElem?_cons_succ, List.set_cons_zero, List.set_cons_succ, List.length_cons, List.length_nil, List.take_succ_cons, List.take_zero, List.drop_succ_cons, List.drop_zero, List.reverse_cons, List.reverse_nil, List.nil_append, List.cons_append, Option.toList_some, Option.toList_none, true_and, and_true, and_self, true_or, or_true, false_and, and_false, false_or, or_false, not_false_eq_true, Nat.reduceAdd, Nat.reduceLT, Nat.reduceLeDiff, Nat.reduceBEq, Nat.reduceEqDiff, Bool.or_false, Bool.false_or, if_true, if_false, Bool.false_eq_true, nq_eq, nq_lt, nq_le, nq_in_t, nq_bd, nq_ft, nq_clamp, nq_shl31, nq_shr31, nq_bitb, nq_add, nq_mul, fa_and, fa_or, nq_b0, nq_b1, nq_b01, ↓ni_lt_t, ↓ni_lt_f, ↓ni_le_t, ↓ni_le_f, ↓ni_eq_t, ↓ni_eq_f, ↓ni_beq_t, ↓ni_beq_f, it_X1_findOnward]
    exact l_X1_on2 hn Q hq j (k + 1) h2 R2 _ (by omega) f2 o2 a2 (onI_step (by omega) hI r2)
theorem c_X1_findOnward {h : rx_H} {q o n fr sb lo : Nat} {w R : Nat → Nat} (ho : oO h q fr sb lo n) (hp : pW h o n w) (ha : aN h (q + 2) 8 R) (hn : n ≤ 8) (hw : ∀ j, j < 40 → w j < 2 ^ n) (hoq : ¬ o = q + 2 ∧ ¬ o + 1 = q + 2) : rx_Cl 21 [.ref q, .ref o] h (fun r h' => r = none ∧ Fr h h' [q + 2] ∧ ∃ R2, aN h' (q + 2) 8 R2 ∧ ∀ s, s < n → isClo (led w 4 n) (2 ^ s) (R2 s) ∧ R2 s < 2 ^ n) := by
  apply en_X1_findOnward _ _ 40 [2]
  simp (disch := first | decide | omega) only [rx_W, rx_wp_succ, rx_nx_stop, rx_nx_go, rx_lx_some, rx_fx_some, rx_ax_some, rx_qx_some, rx_ox_some, rx_vx_ref, rx_ix_ref, rx_ld_0, rx_ld_2, rx_ld_3, rx_cx_some, rx_nl, List.getElem?_cons_zero, List.getElem?_cons_succ, List.set_cons_zero, List.set_cons_succ, List.length_cons, List.length_nil, List.take_succ_cons, List.take_zero, List.drop_succ_cons, List.drop_zero, List.reverse_cons, List.reverse_nil, List.nil_append, List.cons_append, Option.toList_some, Option.toList_none, true_and, and_true, and_self, true_or, or_true, false_and, and_false, false_or, or_false, not_false_eq_true, Nat.reduceAdd, Nat.reduceLT, Nat.reduceLeDiff, Nat.reduceBEq, Nat.reduceEqDiff, Bool.or_false, Bool.false_or, if_true, if_false, Bool.false_eq_true, nq_eq, nq_lt, nq_le, nq_in_t, nq_bd, nq_ft, nq_clamp, nq_shl31, nq_shr31, nq_bitb, nq_add, nq_mul, fa_and, fa_or, nq_b0, nq_b1, nq_b01, ↓ni_lt_t, ↓ni_lt_f, ↓ni_le_t, ↓ni_le_f, ↓ni_eq_t, ↓ni_eq_f, ↓ni_beq_t, ↓ni_beq_f, it_X1_findOnward]
  refine l_X1_on1 (h0 := h) (w := w) hn hoq _ (fun h1 R1 f1 o1 p1 a1 r1 => ?_) n 0 h R (by omega) (Fr_rfl _ _) ho hp ha (fun t ht => by omega)
  refine l_X1_on2 (h0 := h) (w := w) hn _ (fun h2 R2 f2 o2 a2 r2 => ⟨rfl, f2, R2, a2, onI_end r2⟩) n 0 h1 R1 _ (by omega) f1 o1 a1 ⟨fun s hs => ?_, fun s hs m hm => by omega⟩
  rw [r1 s hs]
  refine ⟨Nat.or_lt_two_pow (Nat.pow_lt_pow_right (by omega) hs) (hw _ (by omega)), sub_rfl _, fun T t1 t2 => sub_or (fun i hi => ?_) (fun i hi => t2 i ((led_bit _ _ _ _ _).mpr ⟨s, hs, t1, hi⟩))⟩
  rw [← (bit_pow s i).mp hi]
  exact t1
