section SP
variable {h0 : rx_H} {N sc : Nat} {Ld Lk Im : Nat → Nat}
/-- no strike ahead of (i, j) -/
def noS (Im Lk : Nat → Nat) (N i j : Nat) : Prop := ∀ a b, (a < i ∨ (a = i ∧ b < j)) → b < N → (Lk a).testBit b = true → smI Im a b = true
def anS (Im Lk : Nat → Nat) (N : Nat) : Prop := ∃ a b, a < N ∧ b < N ∧ (Lk a).testBit b = true ∧ smI Im a b = false
theorem l_X0_sp1 (hk0 : rx_rd h0 56 = some (kO N sc)) (hN : N ≤ 16) (aI0 : aN h0 58 80 Im) (hI : ∀ r, r < 5 * N → Im r < 2 ^ 31) (hK : ∀ i, i < N → Lk i < 2 ^ 31) {i : Nat} (hi : i < N) (Q : Option Value → rx_H → Prop)
    (hq : ∀ h Lk' (sp : Bool), Fr h0 h [59] → aN h 59 16 Lk' → (∀ a, a < N → Lk' a = if a < i + 1 then ref1 Im Lk a N else Lk a) → (sp = false → noS Im Lk N (i + 1) 0) → (sp = true → anS Im Lk N) → rx_R 10 66 [.ref 56, .int (nI sp.toNat), .int (nI i), .int (nI N)] [] h Q) :
    ∀ j b h Lk' (sp : Bool), b + j = N → Fr h0 h [59] → aN h 59 16 Lk' → (∀ a, a < N → Lk' a = if a < i then ref1 Im Lk a N else if a = i then ref1 Im Lk i b else Lk a) → (sp = false → noS Im Lk N i b) → (sp = true → anS Im Lk N) → rx_R 10 14 [.ref 56, .int (nI sp.toNat), .int (nI i), .int (nI b)] [] h Q
  | 0, b, h, Lk', sp, e, hf, ha, hL, h1, h2 => by
    have e' : b = N := by omega
    subst e'
    have hk := (hf.2.2 56 (by simp)).trans hk0
    apply rx_wp_sound 60 [14, 66]
    simp (disch := first | decide | omega) only [rx_W, rx_wp_succ, rx_nx_stop, rx_nx_go, rx_lx_some, rx_fx_some, rx_ax_some, rx_qx_some, rx_ox_some, rx_vx_ref, rx_ix_ref, rx_ld_0, rx_ld_2, rx_ld_3, rx_cx_some, rx_nl, List.getElem?_cons_zero, List.getElem?_cons_succ, List.set_cons_zero, List.set_cons_succ, List.length_cons, List.length_nil, List.take_succ_cons, List.take_zero, List.drop_succ_cons, List.drop_zero, List.reverse_cons, List.reverse_nil, List.nil_append, List.cons_append, Option.toList_some, Option.toList_none, true_and, and_true, and_self, true_or, or_true, false_and, and_false, false_or, or_false, not_false_eq_true, Nat.reduceAdd, Nat.reduceLT, Nat.reduceLeDiff, Nat.reduceBEq, Nat.reduceEqDiff, Bool.or_false, Bool.false_or, if_true, if_false, Bool.false_eq_true, nq_eq, nq_lt, nq_le, nq_in_t, nq_bd, nq_ft, nq_clamp, nq_shl31, nq_shr31, nq_bitb, nq_add, nq_mul, fa_and, fa_or, nq_b0, nq_b1, nq_b01, ↓ni_lt_t, ↓ni_lt_f, ↓ni_le_t, ↓ni_le_f, ↓ni_eq_t, ↓ni_eq_f, ↓ni_beq_t, ↓ni_beq_f, it_X0_splits, hk, kO]
    refine hq h Lk' sp hf ha (fun a ha' => ?_) (fun z a c hac hc hb => ?_) h2
    · rw [hL a ha']
      by_cases c1 : a < i
      · rw [if_pos c1, if_pos (by omega)]
      · rw [if_neg c1]
        by_cases c2 : a = i
        · rw [if_pos c2, if_pos (by omega), c2]
        · rw [if_neg c2, if_neg (by omega)]
    · exact h1 z a c (by omega) hc hb
  | j + 1, b, h, Lk', sp, e, hf, ha, hL, h1, h2 => by
    have hk := (hf.2.2 56 (by simp)).trans hk0
    have aI := aN_fr hf (by simp) aI0
    have ih := fun h Lk' sp => l_X0_sp1 hk0 hN aI0 hI hK hi Q hq j (b + 1) h Lk' sp (by omega)
    have eL : Lk' i = ref1 Im Lk i b := by rw [hL i hi, if_neg (by omega), if_pos rfl]
    have hbit : (ref1 Im Lk i b).testBit b = (Lk i).testBit b := by
      have := ref1_bit Im Lk i b b
      cases c : (Lk i).testBit b
      · cases d : (ref1 Im Lk i b).testBit b
        · rfl
        · rw [(this.mp d).1] at c; cases c
      · exact this.mpr ⟨c, fun z => by omega⟩
    have hlt : ref1 Im Lk i b < 2 ^ 31 := sub_lt (fun t ht => ((ref1_bit Im Lk i t b).mp ht).1) (hK i hi)
    obtain ⟨f, a1, a2⟩ := ha
    have hsm := fun Q => q_X0_sameImages (h := h) (i := i) (j0 := b) hk aI (by omega) (by omega) (fun c hc => ⟨hI _ (by omega), hI _ (by omega)⟩) Q
    have keep : (¬ ((Lk i).testBit b = true ∧ smI Im i b = false)) → rx_R 10 14 [.ref 56, .int (nI sp.toNat), .int (nI i), .int (nI (b + 1))] [] h Q := by
      intro hno
      refine ih h Lk' sp hf ⟨f, a1, a2⟩ (fun a ha' => ?_) (fun z a c hac hc hb => ?_) h2
      · rw [hL a ha']
        by_cases c1 : a < i
        · rw [if_pos c1, if_pos c1]
        · rw [if_neg c1, if_neg c1]
          by_cases c2 : a = i
          · rw [if_pos c2, if_pos c2]
            show _ = if (Lk i).testBit b && !smI Im i b then _ else _
            rw [if_neg]
            rw [Bool.and_eq_true, Bool.not_eq_true']
            exact hno
          · rw [if_neg c2, if_neg c2]
      · by_cases c1 : a = i ∧ c = b
        · obtain ⟨rfl, rfl⟩ := c1
          cases d : smI Im a c
          · exact absurd ⟨hb, d⟩ hno
          · rfl
        · exact h1 z a c (by omega) hc hb
    apply rx_wp_sound 60 [14, 66]
    cases c1 : (Lk i).testBit b with
    | false =>
      simp (disch := first | decide | omega) only [rx_W, rx_wp_succ, rx_nx_stop, rx_nx_go, rx_lx_some, rx_fx_some, rx_ax_some, rx_qx_some, rx_ox_some, rx_vx_ref, rx_ix_ref, rx_ld_0, rx_ld_2, rx_ld_3, rx_cx_some, rx_nl, List.getElem?_cons_zero, List.getElem?_cons_succ, List.set_cons_zero, List.set_cons_succ, List.length_cons, List.length_nil, List.take_succ_cons, List.take_zero, List.drop_succ_cons, List.drop_zero, List.reverse_cons, List.reverse_nil, List.nil_append, List.cons_append, Option.toList_some, Option.toList_none, true_and, and_true, and_self, true_or, or_true, false_and, and_false, false_or, or_false, not_false_eq_true, Nat.reduceAdd, Nat.reduceLT, Nat.reduceLeDiff, Nat.reduceBEq, Nat.reduceEqDiff, Bool.or_false, Bool.false_or, if_true, if_false, Bool.false_eq_true, nq_eq, nq_lt, nq_le, nq_in_t, nq_bd, nq_ft, nq_clamp, nq_shl31, nq_shr31, nq_bitb, nq_add, nq_mul, fa_and, fa_or, nq_b0, nq_b1, nq_b01, ↓ni_lt_t, ↓ni_lt_f, ↓ni_le_t, ↓ni_le_f, ↓ni_eq_t, ↓ni_eq_f, ↓ni_beq_t, ↓ni_beq_f, it_X0_splits, hk, kO, a1, a2, eL, q_X7_has, hbit, c1]
      exact keep (fun z => by rw [c1] at z; cases z.1)
    | true =>
      cases c2 : smI Im i b with
      | true =>
        simp (disch := first | decide | omega) only [rx_W, rx_wp_succ, rx_nx_stop, rx_nx_go, rx_lx_some, rx_fx_some, rx_ax_some, rx_qx_some, rx_ox_some, rx_vx_ref, rx_ix_ref, rx_ld_0, rx_ld_2, rx_ld_3, rx_cx_some, rx_nl, List.getElem?_cons_zero, List.getElem?_cons_succ, List.set_cons_zero, List.set_cons_succ, List.length_cons, List.length_nil, List.take_succ_cons, List.take_zero, List.drop_succ_cons, List.drop_zero, List.reverse_cons, List.reverse_nil, List.nil_append, List.cons_append, Option.toList_some, Option.toList_none, true_and, and_true, and_self, true_or, or_true, false_and, and_false, false_or, or_false, not_false_eq_true, Nat.reduceAdd, Nat.reduceLT, Nat.reduceLeDiff, Nat.reduceBEq, Nat.reduceEqDiff, Bool.or_false, Bool.false_or, if_true, if_false, Bool.false_eq_true, nq_eq, nq_lt, nq_le, nq_in_t, nq_bd, nq_ft, nq_clamp, nq_shl31, nq_shr31, nq_bitb, nq_add, nq_mul, fa_and, fa_or, nq_b0, nq_b1, nq_b01, ↓ni_lt_t, ↓ni_lt_f, ↓ni_le_t, ↓ni_le_f, ↓ni_eq_t, ↓ni_eq_f, ↓ni_beq_t, ↓ni_beq_f, it_X0_splits, hk, kO, a1, a2, eL, q_X7_has, hbit, c1, hsm, c2]
        exact keep (fun z => by rw [c2] at z; cases z.2)
      | false =>
        simp (disch := first | decide | omega) only [rx_W, rx_wp_succ, rx_nx_stop, rx_nx_go, rx_lx_some, rx_fx_some, rx_ax_some, rx_qx_some, rx_ox_some, rx_vx_ref, rx_ix_ref, rx_ld_0, rx_ld_2, rx_ld_3, rx_cx_some, rx_nl, List.getElem?_cons_zero, List.getElem?_cons_succ, List.set_cons_zero, List.set_cons_succ, List.length_cons, List.length_nil, List.take_succ_cons, List.take_zero, List.drop_succ_cons, List.drop_zero, List.reverse_cons, List.reverse_nil, List.nil_append, List.cons_append, Option.toList_some, Option.toList_none, true_and, and_true, and_self, true_or, or_true, false_and, and_false, false_or, or_false, not_false_eq_true, Nat.reduceAdd, Nat.reduceLT, Nat.reduceLeDiff, Nat.reduceBEq, Nat.reduceEqDiff, Bool.or_false, Bool.false_or, if_true, if_false, Bool.false_eq_true, nq_eq, nq_lt, nq_le, nq_in_t, nq_bd, nq_ft, nq_clamp, nq_shl31, nq_shr31, nq_bitb, nq_add, nq_mul, fa_and, fa_or, nq_b0, nq_b1, nq_b01, ↓ni_lt_t, ↓ni_lt_f, ↓ni_le_t, ↓ni_le_f, ↓ni_eq_t, ↓ni_eq_f, ↓ni_beq_t, ↓ni_beq_f, it_X0_splits, hk, kO, a1, a2, eL, q_X7_has, hbit, c1, hsm, c2, nq_andn, Nat.one_mul]
        refine ih _ (va_up Lk' i (ref1 Im Lk i b ^^^ (ref1 Im Lk i b &&& 2 ^ b))) true (Fr_up hf (by simp)) ⟨_, rd_eq _ _ _, aN_upd a2 _ _⟩ (fun a ha' => ?_) (fun z => by cases z) (fun _ => ⟨i, b, hi, by omega, c1, c2⟩)
        by_cases d1 : a = i
        · rw [d1, vu_eq, if_neg (by omega), if_pos rfl]
          show _ = if (Lk i).testBit b && !smI Im i b then _ else _
          rw [if_pos (by rw [c1, c2]; rfl)]
        · rw [vu_ne d1, hL a ha']
          by_cases d2 : a < i
          · rw [if_pos d2, if_pos d2]
          · rw [if_neg d2, if_neg d2, if_neg d1, if_neg d1]
theorem l_X0_sp (hk0 : rx_rd h0 56 = some (kO N sc)) (hN : N ≤ 16) (aI0 : aN h0 58 80 Im) (hI : ∀ r, r < 5 * N → Im r < 2 ^ 31) (hK : ∀ i, i < N → Lk i < 2 ^ 31) (Q : Option Value → rx_H → Prop)
    (hq : ∀ h Lk' (sp : Bool), Fr h0 h [59] → aN h 59 16 Lk' → (∀ a, a < N → Lk' a = ref1 Im Lk a N) → (sp = false → noS Im Lk N N 0) → (sp = true → anS Im Lk N) → Q (some (.int (nI sp.toNat))) h) :
    ∀ j i h Lk' (sp : Bool) x, i + j = N → Fr h0 h [59] → aN h 59 16 Lk' → (∀ a, a < N → Lk' a = if a < i then ref1 Im Lk a N else Lk a) → (sp = false → noS Im Lk N i 0) → (sp = true → anS Im Lk N) → rx_R 10 4 [.ref 56, .int (nI sp.toNat), .int (nI i), x] [] h Q
  | 0, i, h, Lk', sp, x, e, hf, ha, hL, h1, h2 => by
    have e' : i = N := by omega
    subst e'
    have hk := (hf.2.2 56 (by simp)).trans hk0
    apply rx_wp_sound 60 [4, 14]
    simp (disch := first | decide | omega) only [rx_W, rx_wp_succ, rx_nx_stop, rx_nx_go, rx_lx_some, rx_fx_some, rx_ax_some, rx_qx_some, rx_ox_some, rx_vx_ref, rx_ix_ref, rx_ld_0, rx_ld_2, rx_ld_3, rx_cx_some, rx_nl, List.getElem?_cons_zero, List.getElem?_cons_succ, List.set_cons_zero, List.set_cons_succ, List.length_cons, List.length_nil, List.take_succ_cons, List.take_zero, List.drop_succ_cons, List.drop_zero, List.reverse_cons, List.reverse_nil, List.nil_append, List.cons_append, Option.toList_some, Option.toList_none, true_and, and_true, and_self, true_or, or_true, false_and, and_false, false_or, or_false, not_false_eq_true, Nat.reduceAdd, Nat.reduceLT, Nat.reduceLeDiff, Nat.reduceBEq, Nat.reduceEqDiff, Bool.or_false, Bool.false_or, if_true, if_false, Bool.false_eq_true, nq_eq, nq_lt, nq_le, nq_in_t, nq_bd, nq_ft, nq_clamp, nq_shl31, nq_shr31, nq_bitb, nq_add, nq_mul, fa_and, fa_or, nq_b0, nq_b1, nq_b01, ↓ni_lt_t, ↓ni_lt_f, ↓ni_le_t, ↓ni_le_f, ↓ni_eq_t, ↓ni_eq_f, ↓ni_beq_t, ↓ni_beq_f, it_X0_splits, hk, kO]
    exact hq h Lk' sp hf ha (fun a ha' => by rw [hL a ha', if_pos ha']) h1 h2
  | j + 1, i, h, Lk', sp, x, e, hf, ha, hL, h1, h2 => by
    have hk := (hf.2.2 56 (by simp)).trans hk0
    apply rx_wp_sound 60 [4, 14]
    simp (disch := first | decide | omega) only [rx_W, rx_wp_succ, rx_nx_stop, rx_nx_go, rx_lx_some, rx_fx_some, rx_ax_some, rx_qx_some, rx_ox_some, rx_vx_ref, rx_ix_ref, rx_ld_0, rx_ld_2, rx_ld_3, rx_cx_some, rx_nl, List.getElem?_cons_zero, List.getElem?_cons_succ, List.set_cons_zero, List.set_cons_succ, List.length_cons, List.length_nil, List.take_succ_cons, List.take_zero, List.drop_succ_cons, List.drop_zero, List.reverse_cons, List.reverse_nil, List.nil_append, List.cons_append, Option.toList_some, Option.toList_none, true_and, and_true, and_self, true_or, or_true, false_and, and_false, false_or, or_false, not_false_eq_true, Nat.reduceAdd, Nat.reduceLT, Nat.reduceLeDiff, Nat.reduceBEq, Nat.reduceEqDiff, Bool.or_false, Bool.false_or, if_true, if_false, Bool.false_eq_true, nq_eq, nq_lt, nq_le, nq_in_t, nq_bd, nq_ft, nq_clamp, nq_shl31, nq_shr31, nq_bitb, nq_add, nq_mul, fa_and, fa_or, nq_b0, nq_b1, nq_b01, ↓ni_lt_t, ↓ni_lt_f, ↓ni_le_t, ↓ni_le_f, ↓ni_eq_t, ↓ni_eq_f, ↓ni_beq_t, ↓ni_beq_f, it_X0_splits, hk, kO]
    refine l_X0_sp1 (h0 := h0) hk0 hN aI0 hI hK (i := i) (by omega) Q (fun h2 Lk2 sp2 y1 y2 y3 y4 y5 => ?_) N 0 h Lk' sp (by omega) hf ha (fun a ha' => ?_) h1 h2
    · apply rx_wp_sound 60 [4]
      simp (disch := first | decide | omega) only [rx_W, rx_wp_succ, rx_nx_stop, rx_nx_go, rx_lx_some, rx_fx_some, rx_ax_some, rx_qx_some, rx_ox_some, rx_vx_ref, rx_ix_ref, rx_ld_0, rx_ld_2, rx_ld_3, rx_cx_some, rx_nl, List.getElem?_cons_zero, List.getElem?_cons_succ, List.set_cons_zero, List.set_cons_succ, List.length_cons, List.length_nil, List.take_succ_cons, List.take_zero, List.drop_succ_cons, List.drop_zero, List.reverse_cons, List.reverse_nil, List.nil_append, List.cons_append, Option.toList_some, Option.toList_none, true_and, and_true, and_self, true_or, or_true, false_and, and_false, false_or, or_false, not_false_eq_true, Nat.reduceAdd, Nat.reduceLT, Nat.reduceLeDiff, Nat.reduceBEq, Nat.reduceEqDiff, Bool.or_false, Bool.false_or, if_true, if_false, Bool.false_eq_true, nq_eq, nq_lt, nq_le, nq_in_t, nq_bd, nq_ft, nq_clamp, nq_shl31, nq_shr31, nq_bitb, nq_add, nq_mul, fa_and, fa_or, nq_b0, nq_b1, nq_b01, ↓ni_lt_t, ↓ni_lt_f, ↓ni_le_t, ↓ni_le_f, ↓ni_eq_t, ↓ni_eq_f, ↓ni_beq_t, ↓ni_beq_f, it_X0_splits]
      exact l_X0_sp hk0 hN aI0 hI hK Q hq j (i + 1) h2 Lk2 sp2 _ (by omega) y1 y2 y3 y4 y5
    · rw [hL a ha']
      by_cases c1 : a < i
      · rw [if_pos c1, if_pos c1]
      · rw [if_neg c1, if_neg c1]
        by_cases c2 : a = i
        · rw [if_pos c2, c2]; rfl
        · rw [if_neg c2]
theorem c_X0_splits (hk : rx_rd h0 56 = some (kO N sc)) (hN : N ≤ 16) (aI : aN h0 58 80 Im) (aK : aN h0 59 16 Lk) (hI : ∀ r, r < 5 * N → Im r < 2 ^ 31) (hK : ∀ i, i < N → Lk i < 2 ^ 31) : rx_Cl 10 [.ref 56] h0 (fun r h' => Fr h0 h' [59] ∧ ∃ Lk' sp, r = some (.int (nI (Bool.toNat sp))) ∧ aN h' 59 16 Lk' ∧ (∀ a, a < N → Lk' a = ref1 Im Lk a N) ∧ (sp = false → noS Im Lk N N 0) ∧ (sp = true → anS Im Lk N)) := by
  apply en_X0_splits _ 60 [4]
  simp (disch := first | decide | omega) only [rx_W, rx_wp_succ, rx_nx_stop, rx_nx_go, rx_lx_some, rx_fx_some, rx_ax_some, rx_qx_some, rx_ox_some, rx_vx_ref, rx_ix_ref, rx_ld_0, rx_ld_2, rx_ld_3, rx_cx_some, rx_nl, List.getElem?_cons_zero, List.getElem?_cons_succ, List.set_cons_zero, List.set_cons_succ, List.length_cons, List.length_nil, List.take_succ_cons, List.take_zero, List.drop_succ_cons, List.drop_zero, List.reverse_cons, List.reverse_nil, List.nil_append, List.cons_append, Option.toList_some, Option.toList_none, true_and, and_true, and_self, true_or, or_true, false_and, and_false, false_or, or_false, not_false_eq_true, Nat.reduceAdd, Nat.reduceLT, Nat.reduceLeDiff, Nat.reduceBEq, Nat.reduceEqDiff, Bool.or_false, Bool.false_or, if_true, if_false, Bool.false_eq_true, nq_eq, nq_lt, nq_le, nq_in_t, nq_bd, nq_ft, nq_clamp, nq_shl31, nq_shr31, nq_bitb, nq_add, nq_mul, fa_and, fa_or, nq_b0, nq_b1, nq_b01, ↓ni_lt_t, ↓ni_lt_f, ↓ni_le_t, ↓ni_le_f, ↓ni_eq_t, ↓ni_eq_f, ↓ni_beq_t, ↓ni_beq_f, it_X0_splits]
  exact l_X0_sp hk hN aI hI hK _ (fun h2 Lk2 sp2 y1 y2 y3 y4 y5 => ⟨y1, Lk2, sp2, rfl, y2, y3, y4, y5⟩) N 0 h0 Lk false _ (by omega) (Fr_rfl _ _) aK (fun a ha => by rw [if_neg (by omega)]) (fun _ a b hab => by omega) (fun z => by cases z)
/-! ===== findAlike ===== -/
theorem l_X0_fa1 (hk0 : rx_rd h0 56 = some (kO N sc)) (hN : N ≤ 16) (Q : Option Value → rx_H → Prop)
    (hq : ∀ h Lk, Fr h0 h [59] → aN h 59 16 Lk → (∀ i, i < N → Lk i = 2 ^ N - 1) → rx_R 8 30 [.ref 56, .int (nI N)] [] h Q) :
    ∀ j i h Lk, i + j = N → Fr h0 h [59] → aN h 59 16 Lk → (∀ a, a < i → Lk a = 2 ^ N - 1) → rx_R 8 2 [.ref 56, .int (nI i)] [] h Q
  | 0, i, h, Lk, e, hf, ha, hL => by
    have e' : i = N := by omega
    subst e'
    have hk := (hf.2.2 56 (by simp)).trans hk0
    apply rx_wp_sound 60 [2, 30]
    simp (disch := first | decide | omega) only [rx_W, rx_wp_succ, rx_nx_stop, rx_nx_go, rx_lx_some, rx_fx_some, rx_ax_some, rx_qx_some, rx_ox_some, rx_vx_ref, rx_ix_ref, rx_ld_0, rx_ld_2, rx_ld_3, rx_cx_some, rx_nl, List.getElem?_cons_zero, List.getElem?_cons_succ, List.set_cons_zero, List.set_cons_succ, List.length_cons, List.length_nil, List.take_succ_cons, List.take_zero, List.drop_succ_cons, List.drop_zero, List.reverse_cons, List.reverse_nil, List.nil_append, List.cons_append, Option.toList_some, Option.toList_none, true_and, and_true, and_self, true_or, or_true, false_and, and_false, false_or, or_false, not_false_eq_true, Nat.reduceAdd, Nat.reduceLT, Nat.reduceLeDiff, Nat.reduceBEq, Nat.reduceEqDiff, Bool.or_false, Bool.false_or, if_true, if_false, Bool.false_eq_true, nq_eq, nq_lt, nq_le, nq_in_t, nq_bd, nq_ft, nq_clamp, nq_shl31, nq_shr31, nq_bitb, nq_add, nq_mul, fa_and, fa_or, nq_b0, nq_b1, nq_b01, ↓ni_lt_t, ↓ni_lt_f, ↓ni_le_t, ↓ni_le_f, ↓ni_eq_t, ↓ni_eq_f, ↓ni_beq_t, ↓ni_beq_f, it_X0_findAlike, hk, kO]
    exact hq h Lk hf ha hL
  | j + 1, i, h, Lk, e, hf, ha, hL => by
    have hk := (hf.2.2 56 (by simp)).trans hk0
    obtain ⟨f, a1, a2⟩ := ha
    have p1 := Nat.one_le_two_pow (n := N)
    apply rx_wp_sound 60 [2, 30]
    simp (disch := first | decide | omega) only [rx_W, rx_wp_succ, rx_nx_stop, rx_nx_go, rx_lx_some, rx_fx_some, rx_ax_some, rx_qx_some, rx_ox_some, rx_vx_ref, rx_ix_ref, rx_ld_0, rx_ld_2, rx_ld_3, rx_cx_some, rx_nl, List.getElem?_cons_zero, List.getElem?_cons_succ, List.set_cons_zero, List.set_cons_succ, List.length_cons, List.length_nil, List.take_succ_cons, List.take_zero, List.drop_succ_cons, List.drop_zero, List.reverse_cons, List.reverse_nil, List.nil_append, List.cons_append, Option.toList_some, Option.toList_none, true_and, and_true, and_self, true_or, or_true, false_and, and_false, false_or, or_false, not_false_eq_true, Nat.reduceAdd, Nat.reduceLT, Nat.reduceLeDiff, Nat.reduceBEq, Nat.reduceEqDiff, Bool.or_false, Bool.false_or, if_true, if_false, Bool.false_eq_true, nq_eq, nq_lt, nq_le, nq_in_t, nq_bd, nq_ft, nq_clamp, nq_shl31, nq_shr31, nq_bitb, nq_add, nq_mul, fa_and, fa_or, nq_b0, nq_b1, nq_b01, ↓ni_lt_t, ↓ni_lt_f, ↓ni_le_t, ↓ni_le_f, ↓ni_eq_t, ↓ni_eq_f, ↓ni_beq_t, ↓ni_beq_f, it_X0_findAlike, hk, kO, a1, nq_sub, Nat.one_mul]
    refine l_X0_fa1 hk0 hN Q hq j (i + 1) _ (va_up Lk i (2 ^ N - 1)) (by omega) (Fr_up hf (by simp)) ⟨_, rd_eq _ _ _, aN_upd a2 _ _⟩ (fun a ha' => ?_)
    by_cases c : a = i
    · rw [c, vu_eq]
    · rw [vu_ne c]; exact hL a (by omega)
theorem img_cong {L K K' : Nat → Nat} {N : Nat} (h : ∀ i, i < N → K i = K' i) (r : Nat) : img L K N r = img L K' N r := un_cong N (fun i hi => by rw [h i hi])
theorem l_X0_fa2 (hk0 : rx_rd h0 56 = some (kO N sc)) (hN0 : 1 ≤ N) (hN : N ≤ 16) (aL0 : aN h0 57 80 Ld) (hL : ∀ r, r < 5 * N → Ld r < 2 ^ N) (Q : Option Value → rx_H → Prop)
    (hq : ∀ h Im Lk, Fr h0 h [58, 59] → aN h 58 80 Im → aN h 59 16 Lk → (∀ i, i < N → Lk i < 2 ^ N ∧ ∀ j, (Lk i).testBit j = true ↔ alk N Ld N Ld i j) → Q none h) :
    ∀ j rd h Im Lk, rd + j = N → Fr h0 h [58, 59] → aN h 58 80 Im → aN h 59 16 Lk → eqv N Lk → (∀ R, Bis N Ld N Ld R → ∀ a b, R a b → (Lk a).testBit b = true) → rd + 1 ≤ ctb (isRp Lk) N → rx_R 8 32 [.ref 56, .int (nI rd)] [] h Q
  | 0, rd, h, Im, Lk, e, hf, aI, aK, hE, hB, hc => by
    have := ctb_le (isRp Lk) N
    omega
  | j + 1, rd, h, Im, Lk, e, hf, aI, aK, hE, hB, hc => by
    have hk := (hf.2.2 56 (by simp)).trans hk0
    have aL := aN_fr hf (by simp) aL0
    have p16 : 2 ^ N ≤ 2 ^ 16 := Nat.pow_le_pow_right (by omega) hN
    have hK31 : ∀ i, i < N → Lk i < 2 ^ 31 := fun i hi => by have := (hE.1 i hi).1; omega
    apply rx_wp_sound 60 [32]
    simp (disch := first | decide | omega) only [rx_W, rx_wp_succ, rx_nx_stop, rx_nx_go, rx_lx_some, rx_fx_some, rx_ax_some, rx_qx_some, rx_ox_some, rx_vx_ref, rx_ix_ref, rx_ld_0, rx_ld_2, rx_ld_3, rx_cx_some, rx_nl, List.getElem?_cons_zero, List.getElem?_cons_succ, List.set_cons_zero, List.set_cons_succ, List.length_cons, List.length_nil, List.take_succ_cons, List.take_zero, List.drop_succ_cons, List.drop_zero, List.reverse_cons, List.reverse_nil, List.nil_append, List.cons_append, Option.toList_some, Option.toList_none, true_and, and_true, and_self, true_or, or_true, false_and, and_false, false_or, or_false, not_false_eq_true, Nat.reduceAdd, Nat.reduceLT, Nat.reduceLeDiff, Nat.reduceBEq, Nat.reduceEqDiff, Bool.or_false, Bool.false_or, if_true, if_false, Bool.false_eq_true, nq_eq, nq_lt, nq_le, nq_in_t, nq_bd, nq_ft, nq_clamp, nq_shl31, nq_shr31, nq_bitb, nq_add, nq_mul, fa_and, fa_or, nq_b0, nq_b1, nq_b01, ↓ni_lt_t, ↓ni_lt_f, ↓ni_le_t, ↓ni_le_f, ↓ni_eq_t, ↓ni_eq_f, ↓ni_beq_t, ↓ni_beq_f, it_X0_findAlike, hk, kO]
    refine rx_Cl_imp (c_X0_findImages hk hN aL aK aI (fun r hr => by have := hL r hr; omega)) (fun r h2 ⟨e2, y1, Im2, y2, y3⟩ => ?_)
    subst e2
    have hk2 := (y1.2.2 56 (by simp)).trans hk
    simp (disch := first | decide | omega) only [rx_W, rx_wp_succ, rx_nx_stop, rx_nx_go, rx_lx_some, rx_fx_some, rx_ax_some, rx_qx_some, rx_ox_some, rx_vx_ref, rx_ix_ref, rx_ld_0, rx_ld_2, rx_ld_3, rx_cx_some, rx_nl, List.getElem?_cons_zero, List.getElem?_cons_succ, List.set_cons_zero, List.set_cons_succ, List.length_cons, List.length_nil, List.take_succ_cons, List.take_zero, List.drop_succ_cons, List.drop_zero, List.reverse_cons, List.reverse_nil, List.nil_append, List.cons_append, Option.toList_some, Option.toList_none, true_and, and_true, and_self, true_or, or_true, false_and, and_false, false_or, or_false, not_false_eq_true, Nat.reduceAdd, Nat.reduceLT, Nat.reduceLeDiff, Nat.reduceBEq, Nat.reduceEqDiff, Bool.or_false, Bool.false_or, if_true, if_false, Bool.false_eq_true, nq_eq, nq_lt, nq_le, nq_in_t, nq_bd, nq_ft, nq_clamp, nq_shl31, nq_shr31, nq_bitb, nq_add, nq_mul, fa_and, fa_or, nq_b0, nq_b1, nq_b01, ↓ni_lt_t, ↓ni_lt_f, ↓ni_le_t, ↓ni_le_f, ↓ni_eq_t, ↓ni_eq_f, ↓ni_beq_t, ↓ni_beq_f, it_X0_findAlike, hk2, kO]
    have hI31 : ∀ r, r < 5 * N → Im2 r < 2 ^ 31 := fun r hr => by
      rw [y3 r hr]
      have : img Ld Lk N r < 2 ^ N := un_lt N (fun i hi => by
        split
        · exact (hE.1 i hi).1
        · exact Nat.two_pow_pos N)
      omega
    refine rx_Cl_imp (c_X0_splits hk2 hN y2 (aN_fr y1 (by simp) aK) hI31 hK31) (fun r h3 ⟨z1, Lk2, sp, z2, z3, z4, z5, z6⟩ => ?_)
    subst z2
    have hrf : rfd N Ld Lk Lk2 := by
      intro i hi j
      rw [z4 i hi, ref1_bit]
      constructor
      · rintro ⟨a1, a2⟩
        have hj := eqv_lt hE hi a1
        refine ⟨a1, fun b hb => ?_⟩
        rw [← y3 (i * 5 + b) (by omega), ← y3 (j * 5 + b) (by omega)]
        exact (smI_iff _ _ _).mp (a2 hj) b hb
      · rintro ⟨a1, a2⟩
        have hj := eqv_lt hE hi a1
        refine ⟨a1, fun _ => (smI_iff _ _ _).mpr (fun b hb => ?_)⟩
        rw [y3 (i * 5 + b) (by omega), y3 (j * 5 + b) (by omega)]
        exact a2 b hb
    have hE2 := rfd_eqv hE hrf
    have hB2 : ∀ R, Bis N Ld N Ld R → ∀ a b, R a b → (Lk2 a).testBit b = true := fun R hR => rfd_bis hE hrf hR (hB R hR)
    have hf3 : Fr h0 h3 [58, 59] := Fr_trans hf (Fr_trans y1 z1 (C := [58, 59]) (by simp) (by simp)) (fun _ z => z) (fun _ z => z)
    have aI3 := aN_fr z1 (by simp) y2
    cases sp with
    | true =>
      simp (disch := first | decide | omega) only [rx_W, rx_wp_succ, rx_nx_stop, rx_nx_go, rx_lx_some, rx_fx_some, rx_ax_some, rx_qx_some, rx_ox_some, rx_vx_ref, rx_ix_ref, rx_ld_0, rx_ld_2, rx_ld_3, rx_cx_some, rx_nl, List.getElem?_cons_zero, List.getElem?_cons_succ, List.set_cons_zero, List.set_cons_succ, List.length_cons, List.length_nil, List.take_succ_cons, List.take_zero, List.drop_succ_cons, List.drop_zero, List.reverse_cons, List.reverse_nil, List.nil_append, List.cons_append, Option.toList_some, Option.toList_none, true_and, and_true, and_self, true_or, or_true, false_and, and_false, false_or, or_false, not_false_eq_true, Nat.reduceAdd, Nat.reduceLT, Nat.reduceLeDiff, Nat.reduceBEq, Nat.reduceEqDiff, Bool.or_false, Bool.false_or, if_true, if_false, Bool.false_eq_true, nq_eq, nq_lt, nq_le, nq_in_t, nq_bd, nq_ft, nq_clamp, nq_shl31, nq_shr31, nq_bitb, nq_add, nq_mul, fa_and, fa_or, nq_b0, nq_b1, nq_b01, ↓ni_lt_t, ↓ni_lt_f, ↓ni_le_t, ↓ni_le_f, ↓ni_eq_t, ↓ni_eq_f, ↓ni_beq_t, ↓ni_beq_f, it_X0_findAlike, Bool.toNat_true]
      obtain ⟨a, b, a1, a2, a3, a4⟩ := z6 rfl
      have h7 : ¬ (Lk2 a).testBit b = true := fun z => by
        rw [z4 a a1, ref1_bit] at z
        rw [z.2 a2] at a4
        cases a4
      have := rfd_more hE hrf a1 a3 h7
      exact l_X0_fa2 hk0 hN0 hN aL0 hL Q hq j (rd + 1) h3 Im2 Lk2 (by omega) hf3 aI3 z3 hE2 hB2 (by omega)
    | false =>
      simp (disch := first | decide | omega) only [rx_W, rx_wp_succ, rx_nx_stop, rx_nx_go, rx_lx_some, rx_fx_some, rx_ax_some, rx_qx_some, rx_ox_some, rx_vx_ref, rx_ix_ref, rx_ld_0, rx_ld_2, rx_ld_3, rx_cx_some, rx_nl, List.getElem?_cons_zero, List.getElem?_cons_succ, List.set_cons_zero, List.set_cons_succ, List.length_cons, List.length_nil, List.take_succ_cons, List.take_zero, List.drop_succ_cons, List.drop_zero, List.reverse_cons, List.reverse_nil, List.nil_append, List.cons_append, Option.toList_some, Option.toList_none, true_and, and_true, and_self, true_or, or_true, false_and, and_false, false_or, or_false, not_false_eq_true, Nat.reduceAdd, Nat.reduceLT, Nat.reduceLeDiff, Nat.reduceBEq, Nat.reduceEqDiff, Bool.or_false, Bool.false_or, if_true, if_false, Bool.false_eq_true, nq_eq, nq_lt, nq_le, nq_in_t, nq_bd, nq_ft, nq_clamp, nq_shl31, nq_shr31, nq_bitb, nq_add, nq_mul, fa_and, fa_or, nq_b0, nq_b1, nq_b01, ↓ni_lt_t, ↓ni_lt_f, ↓ni_le_t, ↓ni_le_f, ↓ni_eq_t, ↓ni_eq_f, ↓ni_beq_t, ↓ni_beq_f, it_X0_findAlike, Bool.toNat_false]
      have hno := z5 rfl
      have heq : ∀ i, i < N → Lk i = Lk2 i := fun i hi => by
        rw [z4 i hi]
        apply bit_ext
        intro t
        rw [ref1_bit]
        exact ⟨fun z => ⟨z, fun y => hno i t (Or.inl hi) y z⟩, fun z => z.1⟩
      refine hq h3 Im2 Lk2 hf3 aI3 z3 (fun i hi => ⟨(hE2.1 i hi).1, fun j => ⟨fun z => ?_, fun z => ?_⟩⟩)
      · refine ⟨_, fix_bis hE2 hL (fun a b ha hab c hc => ?_), hi, z⟩
        rw [← img_cong heq, ← img_cong heq]
        exact ((hrf a ha b).mp hab).2 c hc
      · obtain ⟨R, r1, r2⟩ := z
        exact hB2 R r1 i j r2
theorem c_X0_findAlike (hk : rx_rd h0 56 = some (kO N sc)) (hN0 : 1 ≤ N) (hN : N ≤ 16) (aL : aN h0 57 80 Ld) (aI : aN h0 58 80 Im) (aK : aN h0 59 16 Lk) (hL : ∀ r, r < 5 * N → Ld r < 2 ^ N) : rx_Cl 8 [.ref 56] h0 (fun r h' => r = none ∧ Fr h0 h' [58, 59] ∧ ∃ Im Lk, aN h' 58 80 Im ∧ aN h' 59 16 Lk ∧ ∀ i, i < N → Lk i < 2 ^ N ∧ ∀ j, (Lk i).testBit j = true ↔ alk N Ld N Ld i j) := by
  apply en_X0_findAlike _ 60 [2]
  simp (disch := first | decide | omega) only [rx_W, rx_wp_succ, rx_nx_stop, rx_nx_go, rx_lx_some, rx_fx_some, rx_ax_some, rx_qx_some, rx_ox_some, rx_vx_ref, rx_ix_ref, rx_ld_0, rx_ld_2, rx_ld_3, rx_cx_some, rx_nl, List.getElem?_cons_zero, List.getElem?_cons_succ, List.set_cons_zero, List.set_cons_succ, List.length_cons, List.length_nil, List.take_succ_cons, List.take_zero, List.drop_succ_cons, List.drop_zero, List.reverse_cons, List.reverse_nil, List.nil_append, List.cons_append, Option.toList_some, Option.toList_none, true_and, and_true, and_self, true_or, or_true, false_and, and_false, false_or, or_false, not_false_eq_true, Nat.reduceAdd, Nat.reduceLT, Nat.reduceLeDiff, Nat.reduceBEq, Nat.reduceEqDiff, Bool.or_false, Bool.false_or, if_true, if_false, Bool.false_eq_true, nq_eq, nq_lt, nq_le, nq_in_t, nq_bd, nq_ft, nq_clamp, nq_shl31, nq_shr31, nq_bitb, nq_add, nq_mul, fa_and, fa_or, nq_b0, nq_b1, nq_b01, ↓ni_lt_t, ↓ni_lt_f, ↓ni_le_t, ↓ni_le_f, ↓ni_eq_t, ↓ni_eq_f, ↓ni_beq_t, ↓ni_beq_f, it_X0_findAlike]
  refine l_X0_fa1 (h0 := h0) hk hN _ (fun h2 Lk2 y1 y2 y3 => ?_) N 0 h0 Lk (by omega) (Fr_rfl _ _) aK (fun a ha => by omega)
  apply rx_wp_sound 60 [32]
  simp (disch := first | decide | omega) only [rx_W, rx_wp_succ, rx_nx_stop, rx_nx_go, rx_lx_some, rx_fx_some, rx_ax_some, rx_qx_some, rx_ox_some, rx_vx_ref, rx_ix_ref, rx_ld_0, rx_ld_2, rx_ld_3, rx_cx_some, rx_nl, List.getElem?_cons_zero, List.getElem?_cons_succ, List.set_cons_zero, List.set_cons_succ, List.length_cons, List.length_nil, List.take_succ_cons, List.take_zero, List.drop_succ_cons, List.drop_zero, List.reverse_cons, List.reverse_nil, List.nil_append, List.cons_append, Option.toList_some, Option.toList_none, true_and, and_true, and_self, true_or, or_true, false_and, and_false, false_or, or_false, not_false_eq_true, Nat.reduceAdd, Nat.reduceLT, Nat.reduceLeDiff, Nat.reduceBEq, Nat.reduceEqDiff, Bool.or_false, Bool.false_or, if_true, if_false, Bool.false_eq_true, nq_eq, nq_lt, nq_le, nq_in_t, nq_bd, nq_ft, nq_clamp, nq_shl31, nq_shr31, nq_bitb, nq_add, nq_mul, fa_and, fa_or, nq_b0, nq_b1, nq_b01, ↓ni_lt_t, ↓ni_lt_f, ↓ni_le_t, ↓ni_le_f, ↓ni_eq_t, ↓ni_eq_f, ↓ni_beq_t, ↓ni_beq_f, it_X0_findAlike]
  have p1 := Nat.one_le_two_pow (n := N)
  refine l_X0_fa2 (h0 := h0) hk hN0 hN aL hL _ (fun h3 Im3 Lk3 z1 z2 z3 z4 => ⟨rfl, z1, Im3, Lk3, z2, z3, z4⟩) N 0 h2 Im Lk2 (by omega) (Fr_sub y1 (by simp)) (aN_fr y1 (by simp) aI) y2 ⟨fun i hi => ?_, fun i j hi hij => ?_, fun i j k hi hij hjk => ?_⟩ (fun R hR a b hab => ?_) (by have := rp_one (N := N) (by omega) Lk2; omega)
  · rw [y3 i hi]
    exact ⟨by omega, (full_bit N i).mpr hi⟩
  · rw [y3 i hi] at hij
    have hj := (full_bit N j).mp hij
    rw [y3 j hj]
    exact (full_bit N i).mpr hi
  · rw [y3 i hi] at hij ⊢
    have hj := (full_bit N j).mp hij
    rw [y3 j hj] at hjk
    exact hjk
  · obtain ⟨h1, h2, -⟩ := hR a b hab
    rw [y3 a h1]
    exact (full_bit N b).mpr h2
end SP
/-- Likeness between calls -/
def kI (h : rx_H) : Prop := ∃ nd sc Ld Im Lk Nb, rx_rd h 56 = some (kO nd sc) ∧ aN h 57 80 Ld ∧ aN h 58 80 Im ∧ aN h 59 16 Lk ∧ aN h 60 8 Nb
theorem alk_cong {n1 n2 : Nat} {w1 w1' w2 w2' : Nat → Nat} (h1 : ∀ j, j < 5 * n1 → w1 j = w1' j) (h2 : ∀ j, j < 5 * n2 → w2 j = w2' j) {s t : Nat} (h : alk n1 w1 n2 w2 s t) : alk n1 w1' n2 w2' s t := by
  obtain ⟨R, hR, hst⟩ := h
  refine ⟨R, fun a b hab => ?_, hst⟩
  obtain ⟨g1, g2, g3⟩ := hR a b hab
  refine ⟨g1, g2, fun c hc => ?_⟩
  rw [← h1 (a * 5 + c) (by omega), ← h2 (b * 5 + c) (by omega)]
  exact g3 c hc
theorem alk_congi {n1 n2 : Nat} {w1 w1' w2 w2' : Nat → Nat} (h1 : ∀ j, j < 5 * n1 → w1 j = w1' j) (h2 : ∀ j, j < 5 * n2 → w2 j = w2' j) {s t : Nat} : alk n1 w1 n2 w2 s t ↔ alk n1 w1' n2 w2' s t := ⟨alk_cong h1 h2, alk_cong (fun j hj => (h1 j hj).symm) (fun j hj => (h2 j hj).symm)⟩
theorem c_X0_lookInto {h : rx_H} {o n : Nat} {w : Nat → Nat} (hk : kI h) (hp : pW h o n w) (ho : 60 < o) (hn0 : 1 ≤ n) (hn : n ≤ 8) (hw : ∀ j, j < 40 → w j < 2 ^ n) : rx_Cl 1 [.ref 56, .ref o] h (fun r h' => r = none ∧ Fr h h' [56, 57, 58, 59] ∧ kI h' ∧ ∃ nd sc Lk, rx_rd h' 56 = some (kO nd sc) ∧ aN h' 59 16 Lk ∧ ∀ i, i < n → Lk i < 2 ^ n ∧ ∀ j, (Lk i).testBit j = true ↔ alk n w n w i j) := by
  obtain ⟨nd, sc, Ld, Im, Lk, Nb, k1, k2, k3, k4, k5⟩ := hk
  have f0 : Fr h (rx_up h 56 (kO 0 sc)) [56] := Fr_up (Fr_rfl _ _) (by simp)
  have hp' := pW_fr f0 (by simp; omega) (by simp; omega) hp
  apply en_X0_lookInto _ _ 60 []
  simp (disch := first | decide | omega) only [rx_W, rx_wp_succ, rx_nx_stop, rx_nx_go, rx_lx_some, rx_fx_some, rx_ax_some, rx_qx_some, rx_ox_some, rx_vx_ref, rx_ix_ref, rx_ld_0, rx_ld_2, rx_ld_3, rx_cx_some, rx_nl, List.getElem?_cons_zero, List.getElem?_cons_succ, List.set_cons_zero, List.set_cons_succ, List.length_cons, List.length_nil, List.take_succ_cons, List.take_zero, List.drop_succ_cons, List.drop_zero, List.reverse_cons, List.reverse_nil, List.nil_append, List.cons_append, Option.toList_some, Option.toList_none, true_and, and_true, and_self, true_or, or_true, false_and, and_false, false_or, or_false, not_false_eq_true, Nat.reduceAdd, Nat.reduceLT, Nat.reduceLeDiff, Nat.reduceBEq, Nat.reduceEqDiff, Bool.or_false, Bool.false_or, if_true, if_false, Bool.false_eq_true, nq_eq, nq_lt, nq_le, nq_in_t, nq_bd, nq_ft, nq_clamp, nq_shl31, nq_shr31, nq_bitb, nq_add, nq_mul, fa_and, fa_or, nq_b0, nq_b1, nq_b01, ↓ni_lt_t, ↓ni_lt_f, ↓ni_le_t, ↓ni_le_f, ↓ni_eq_t, ↓ni_eq_f, ↓ni_beq_t, ↓ni_beq_f, it_X0_lookInto, k1, kO, rx_ft, rd_eq]
  refine rx_Cl_imp (c_X0_join (sc := sc) (nd := 0) (rd_eq _ _ _) (aN_fr f0 (by simp) k2) hp' (by omega) hn (by omega)) (fun r h2 ⟨e2, y1, y2, y3⟩ => ?_)
  subst e2
  rw [Nat.zero_add] at y2 y3
  simp (disch := first | decide | omega) only [rx_W, rx_wp_succ, rx_nx_stop, rx_nx_go, rx_lx_some, rx_fx_some, rx_ax_some, rx_qx_some, rx_ox_some, rx_vx_ref, rx_ix_ref, rx_ld_0, rx_ld_2, rx_ld_3, rx_cx_some, rx_nl, List.getElem?_cons_zero, List.getElem?_cons_succ, List.set_cons_zero, List.set_cons_succ, List.length_cons, List.length_nil, List.take_succ_cons, List.take_zero, List.drop_succ_cons, List.drop_zero, List.reverse_cons, List.reverse_nil, List.nil_append, List.cons_append, Option.toList_some, Option.toList_none, true_and, and_true, and_self, true_or, or_true, false_and, and_false, false_or, or_false, not_false_eq_true, Nat.reduceAdd, Nat.reduceLT, Nat.reduceLeDiff, Nat.reduceBEq, Nat.reduceEqDiff, Bool.or_false, Bool.false_or, if_true, if_false, Bool.false_eq_true, nq_eq, nq_lt, nq_le, nq_in_t, nq_bd, nq_ft, nq_clamp, nq_shl31, nq_shr31, nq_bitb, nq_add, nq_mul, fa_and, fa_or, nq_b0, nq_b1, nq_b01, ↓ni_lt_t, ↓ni_lt_f, ↓ni_le_t, ↓ni_le_f, ↓ni_eq_t, ↓ni_eq_f, ↓ni_beq_t, ↓ni_beq_f, it_X0_lookInto, y2, kO]
  have eL : ∀ j, j < 5 * n → jnW Ld w 0 (5 * n) j = w j := fun j hj => by
    unfold jnW
    rw [if_pos (by omega)]
    simp
  have f2 := Fr_trans f0 y1 (C := [56, 57]) (by simp) (by simp)
  refine rx_Cl_imp (c_X0_findAlike (Ld := jnW Ld w 0 (5 * n)) y2 hn0 (by omega) y3 (aN_fr f2 (by simp) k3) (aN_fr f2 (by simp) k4) (fun r hr => by rw [eL r hr]; exact hw r (by omega))) (fun r h3 ⟨e3, z1, Im3, Lk3, z2, z3, z4⟩ => ?_)
  subst e3
  simp (disch := first | decide | omega) only [rx_W, rx_wp_succ, rx_nx_stop, rx_nx_go, rx_lx_some, rx_fx_some, rx_ax_some, rx_qx_some, rx_ox_some, rx_vx_ref, rx_ix_ref, rx_ld_0, rx_ld_2, rx_ld_3, rx_cx_some, rx_nl, List.getElem?_cons_zero, List.getElem?_cons_succ, List.set_cons_zero, List.set_cons_succ, List.length_cons, List.length_nil, List.take_succ_cons, List.take_zero, List.drop_succ_cons, List.drop_zero, List.reverse_cons, List.reverse_nil, List.nil_append, List.cons_append, Option.toList_some, Option.toList_none, true_and, and_true, and_self, true_or, or_true, false_and, and_false, false_or, or_false, not_false_eq_true, Nat.reduceAdd, Nat.reduceLT, Nat.reduceLeDiff, Nat.reduceBEq, Nat.reduceEqDiff, Bool.or_false, Bool.false_or, if_true, if_false, Bool.false_eq_true, nq_eq, nq_lt, nq_le, nq_in_t, nq_bd, nq_ft, nq_clamp, nq_shl31, nq_shr31, nq_bitb, nq_add, nq_mul, fa_and, fa_or, nq_b0, nq_b1, nq_b01, ↓ni_lt_t, ↓ni_lt_f, ↓ni_le_t, ↓ni_le_f, ↓ni_eq_t, ↓ni_eq_f, ↓ni_beq_t, ↓ni_beq_f, it_X0_lookInto]
  have f3 := Fr_trans f2 z1 (C := [56, 57, 58, 59]) (by simp) (by simp)
  have g56 := (z1.2.2 56 (by simp)).trans y2
  refine ⟨f3, ⟨n, sc, _, Im3, Lk3, Nb, g56, aN_fr z1 (by simp) y3, z2, z3, aN_fr f3 (by simp) k5⟩, n, sc, Lk3, g56, z3, fun i hi => ⟨(z4 i hi).1, fun j => ?_⟩⟩
  rw [(z4 i hi).2 j]
  exact alk_congi eL eL
theorem c_X0_compare {h : rx_H} {o n o2 n2 : Nat} {w w2 : Nat → Nat} (hk : kI h) (hp : pW h o n w) (ho : 60 < o) (hn0 : 1 ≤ n) (hn : n ≤ 8) (hw : ∀ j, j < 40 → w j < 2 ^ n) (hp2 : pW h o2 n2 w2) (ho2 : 60 < o2) (hn02 : 1 ≤ n2) (hn2 : n2 ≤ 8) (hw2 : ∀ j, j < 40 → w2 j < 2 ^ n2) : rx_Cl 2 [.ref 56, .ref o, .ref o2] h (fun r h' => r = none ∧ Fr h h' [56, 57, 58, 59] ∧ kI h' ∧ ∃ nd Lk, rx_rd h' 56 = some (kO nd n) ∧ aN h' 59 16 Lk ∧ ∀ s, s < n → Lk s < 2 ^ 16 ∧ ∀ t, t < n2 → ((Lk s).testBit (n + t) = true ↔ alk n w n2 w2 s t)) := by
  obtain ⟨nd, sc, Ld, Im, Lk, Nb, k1, k2, k3, k4, k5⟩ := hk
  have f0 : Fr h (rx_up h 56 (kO 0 sc)) [56] := Fr_up (Fr_rfl _ _) (by simp)
  apply en_X0_compare _ _ _ 60 []
  simp (disch := first | decide | omega) only [rx_W, rx_wp_succ, rx_nx_stop, rx_nx_go, rx_lx_some, rx_fx_some, rx_ax_some, rx_qx_some, rx_ox_some, rx_vx_ref, rx_ix_ref, rx_ld_0, rx_ld_2, rx_ld_3, rx_cx_some, rx_nl, List.getElem?_cons_zero, List.getElem?_cons_succ, List.set_cons_zero, List.set_cons_succ, List.length_cons, List.length_nil, List.take_succ_cons, List.take_zero, List.drop_succ_cons, List.drop_zero, List.reverse_cons, List.reverse_nil, List.nil_append, List.cons_append, Option.toList_some, Option.toList_none, true_and, and_true, and_self, true_or, or_true, false_and, and_false, false_or, or_false, not_false_eq_true, Nat.reduceAdd, Nat.reduceLT, Nat.reduceLeDiff, Nat.reduceBEq, Nat.reduceEqDiff, Bool.or_false, Bool.false_or, if_true, if_false, Bool.false_eq_true, nq_eq, nq_lt, nq_le, nq_in_t, nq_bd, nq_ft, nq_clamp, nq_shl31, nq_shr31, nq_bitb, nq_add, nq_mul, fa_and, fa_or, nq_b0, nq_b1, nq_b01, ↓ni_lt_t, ↓ni_lt_f, ↓ni_le_t, ↓ni_le_f, ↓ni_eq_t, ↓ni_eq_f, ↓ni_beq_t, ↓ni_beq_f, it_X0_compare, k1, kO, rx_ft, rd_eq]
  refine rx_Cl_imp (c_X0_join (sc := sc) (nd := 0) (rd_eq _ _ _) (aN_fr f0 (by simp) k2) (pW_fr f0 (by simp; omega) (by simp; omega) hp) (by omega) hn (by omega)) (fun r h2 ⟨e2, y1, y2, y3⟩ => ?_)
  subst e2
  rw [Nat.zero_add] at y2 y3
  simp (disch := first | decide | omega) only [rx_W, rx_wp_succ, rx_nx_stop, rx_nx_go, rx_lx_some, rx_fx_some, rx_ax_some, rx_qx_some, rx_ox_some, rx_vx_ref, rx_ix_ref, rx_ld_0, rx_ld_2, rx_ld_3, rx_cx_some, rx_nl, List.getElem?_cons_zero, List.getElem?_cons_succ, List.set_cons_zero, List.set_cons_succ, List.length_cons, List.length_nil, List.take_succ_cons, List.take_zero, List.drop_succ_cons, List.drop_zero, List.reverse_cons, List.reverse_nil, List.nil_append, List.cons_append, Option.toList_some, Option.toList_none, true_and, and_true, and_self, true_or, or_true, false_and, and_false, false_or, or_false, not_false_eq_true, Nat.reduceAdd, Nat.reduceLT, Nat.reduceLeDiff, Nat.reduceBEq, Nat.reduceEqDiff, Bool.or_false, Bool.false_or, if_true, if_false, Bool.false_eq_true, nq_eq, nq_lt, nq_le, nq_in_t, nq_bd, nq_ft, nq_clamp, nq_shl31, nq_shr31, nq_bitb, nq_add, nq_mul, fa_and, fa_or, nq_b0, nq_b1, nq_b01, ↓ni_lt_t, ↓ni_lt_f, ↓ni_le_t, ↓ni_le_f, ↓ni_eq_t, ↓ni_eq_f, ↓ni_beq_t, ↓ni_beq_f, it_X0_compare, y2, kO, rx_ft, rd_eq]
  have f2 := Fr_trans f0 y1 (C := [56, 57]) (by simp) (by simp)
  have f3 : Fr h (rx_up h2 56 (kO n n)) [56, 57] := Fr_up f2 (by simp)
  have f3' : Fr h2 (rx_up h2 56 (kO n n)) [56] := Fr_up (Fr_rfl _ _) (by simp)
  refine rx_Cl_imp (c_X0_join (sc := n) (nd := n) (rd_eq _ _ _) (aN_fr f3' (by simp) y3) (pW_fr f3 (by simp; omega) (by simp; omega) hp2) (by omega) hn2 (by omega)) (fun r h4 ⟨e4, x1, x2, x3⟩ => ?_)
  subst e4
  simp (disch := first | decide | omega) only [rx_W, rx_wp_succ, rx_nx_stop, rx_nx_go, rx_lx_some, rx_fx_some, rx_ax_some, rx_qx_some, rx_ox_some, rx_vx_ref, rx_ix_ref, rx_ld_0, rx_ld_2, rx_ld_3, rx_cx_some, rx_nl, List.getElem?_cons_zero, List.getElem?_cons_succ, List.set_cons_zero, List.set_cons_succ, List.length_cons, List.length_nil, List.take_succ_cons, List.take_zero, List.drop_succ_cons, List.drop_zero, List.reverse_cons, List.reverse_nil, List.nil_append, List.cons_append, Option.toList_some, Option.toList_none, true_and, and_true, and_self, true_or, or_true, false_and, and_false, false_or, or_false, not_false_eq_true, Nat.reduceAdd, Nat.reduceLT, Nat.reduceLeDiff, Nat.reduceBEq, Nat.reduceEqDiff, Bool.or_false, Bool.false_or, if_true, if_false, Bool.false_eq_true, nq_eq, nq_lt, nq_le, nq_in_t, nq_bd, nq_ft, nq_clamp, nq_shl31, nq_shr31, nq_bitb, nq_add, nq_mul, fa_and, fa_or, nq_b0, nq_b1, nq_b01, ↓ni_lt_t, ↓ni_lt_f, ↓ni_le_t, ↓ni_le_f, ↓ni_eq_t, ↓ni_eq_f, ↓ni_beq_t, ↓ni_beq_f, it_X0_compare, x2, kO]
  have eL : ∀ j, j < 5 * (n + n2) → jnW (jnW Ld w 0 (5 * n)) w2 n (5 * (n + n2)) j = joinW n w w2 j := fun j hj => by
    unfold jnW joinW
    by_cases c : j < 5 * n
    · rw [if_neg (by omega), if_pos (by omega), if_pos c]
      simp
    · rw [if_pos (by omega), if_neg c]
  have hJ : ∀ r, r < 5 * (n + n2) → jnW (jnW Ld w 0 (5 * n)) w2 n (5 * (n + n2)) r < 2 ^ (n + n2) := fun r hr => by
    rw [eL r hr]
    unfold joinW
    split
    · exact Nat.lt_of_lt_of_le (hw r (by omega)) (Nat.pow_le_pow_right (by omega) (by omega))
    · have h1 := hw2 (r - 5 * n) (by omega)
      rw [Nat.pow_add, Nat.mul_comm (2 ^ n)]
      exact Nat.mul_lt_mul_of_pos_right h1 (Nat.two_pow_pos n)
  have f4 := Fr_trans f3 x1 (C := [56, 57]) (by simp) (by simp)
  refine rx_Cl_imp (c_X0_findAlike (Ld := jnW (jnW Ld w 0 (5 * n)) w2 n (5 * (n + n2))) x2 (by omega) (by omega) x3 (aN_fr f4 (by simp) k3) (aN_fr f4 (by simp) k4) hJ) (fun r h5 ⟨e5, z1, Im3, Lk3, z2, z3, z4⟩ => ?_)
  subst e5
  simp (disch := first | decide | omega) only [rx_W, rx_wp_succ, rx_nx_stop, rx_nx_go, rx_lx_some, rx_fx_some, rx_ax_some, rx_qx_some, rx_ox_some, rx_vx_ref, rx_ix_ref, rx_ld_0, rx_ld_2, rx_ld_3, rx_cx_some, rx_nl, List.getElem?_cons_zero, List.getElem?_cons_succ, List.set_cons_zero, List.set_cons_succ, List.length_cons, List.length_nil, List.take_succ_cons, List.take_zero, List.drop_succ_cons, List.drop_zero, List.reverse_cons, List.reverse_nil, List.nil_append, List.cons_append, Option.toList_some, Option.toList_none, true_and, and_true, and_self, true_or, or_true, false_and, and_false, false_or, or_false, not_false_eq_true, Nat.reduceAdd, Nat.reduceLT, Nat.reduceLeDiff, Nat.reduceBEq, Nat.reduceEqDiff, Bool.or_false, Bool.false_or, if_true, if_false, Bool.false_eq_true, nq_eq, nq_lt, nq_le, nq_in_t, nq_bd, nq_ft, nq_clamp, nq_shl31, nq_shr31, nq_bitb, nq_add, nq_mul, fa_and, fa_or, nq_b0, nq_b1, nq_b01, ↓ni_lt_t, ↓ni_lt_f, ↓ni_le_t, ↓ni_le_f, ↓ni_eq_t, ↓ni_eq_f, ↓ni_beq_t, ↓ni_beq_f, it_X0_compare]
  have f5 := Fr_trans f4 z1 (C := [56, 57, 58, 59]) (by simp) (by simp)
  have g56 := (z1.2.2 56 (by simp)).trans x2
  refine ⟨f5, ⟨n + n2, n, _, Im3, Lk3, Nb, g56, aN_fr z1 (by simp) x3, z2, z3, aN_fr f5 (by simp) k5⟩, n + n2, Lk3, g56, z3, fun s hs => ⟨?_, fun t ht => ?_⟩⟩
  · exact Nat.lt_of_lt_of_le (z4 s (by omega)).1 (Nat.pow_le_pow_right (by omega) (by omega))
  · rw [(z4 s (by omega)).2 (n + t), alk_congi eL eL]
    exact alk_join (fun j hj => hw j (by omega)) (fun j hj => hw2 j (by omega)) hs ht
theorem q_X0_across {h : rx_H} {nd sc s t : Nat} {Lk : Nat → Nat} (hk : rx_rd h 56 = some (kO nd sc)) (ha : aN h 59 16 Lk) (hs : s < 16) (hL : Lk s < 2 ^ 16) (ht : sc + t < 32) (Q : Option Value → rx_H → Prop) : rx_Cl 3 [.ref 56, .int (nI s), .int (nI t)] h Q = Q (some (.int (nI ((Lk s).testBit (sc + t)).toNat))) h := by
  obtain ⟨f, a1, a2⟩ := ha
  refine rx_Cl_eq ?_ Q
  apply en_X0_across _ _ _ 60 []
  simp (disch := first | decide | omega) only [rx_W, rx_wp_succ, rx_nx_stop, rx_nx_go, rx_lx_some, rx_fx_some, rx_ax_some, rx_qx_some, rx_ox_some, rx_vx_ref, rx_ix_ref, rx_ld_0, rx_ld_2, rx_ld_3, rx_cx_some, rx_nl, List.getElem?_cons_zero, List.getElem?_cons_succ, List.set_cons_zero, List.set_cons_succ, List.length_cons, List.length_nil, List.take_succ_cons, List.take_zero, List.drop_succ_cons, List.drop_zero, List.reverse_cons, List.reverse_nil, List.nil_append, List.cons_append, Option.toList_some, Option.toList_none, true_and, and_true, and_self, true_or, or_true, false_and, and_false, false_or, or_false, not_false_eq_true, Nat.reduceAdd, Nat.reduceLT, Nat.reduceLeDiff, Nat.reduceBEq, Nat.reduceEqDiff, Bool.or_false, Bool.false_or, if_true, if_false, Bool.false_eq_true, nq_eq, nq_lt, nq_le, nq_in_t, nq_bd, nq_ft, nq_clamp, nq_shl31, nq_shr31, nq_bitb, nq_add, nq_mul, fa_and, fa_or, nq_b0, nq_b1, nq_b01, ↓ni_lt_t, ↓ni_lt_f, ↓ni_le_t, ↓ni_le_f, ↓ni_eq_t, ↓ni_eq_f, ↓ni_beq_t, ↓ni_beq_f, it_X0_across, hk, kO, a1, a2, q_X7_has]
