theorem vi_eq (w : Nat → Int32) (k : Nat) (a : Int32) : upd w k a k = a := if_pos rfl
theorem vi_ne {w : Nat → Int32} {k j : Nat} {a : Int32} (h : ¬ j = k) : upd w k a j = w j := if_neg h
def v0 : Nat → Nat := fun k => if k % 41 = 0 then 1 else 0
def v0p (p : Nat) : Nat → Nat := fun k => if k % 41 = 0 ∧ k < 41 * p then 1 else 0
theorem df_8 : rx_df 8 = [.null, .null, .null, .int 0, .null, .null, .int 0, .null, .null, .null, .int 0, .null, .null, .null, .int 0, .long 0] := rfl
theorem l_X8i {sl : Nat} {m1 : Nat → Option rx_C} (h98 : m1 98 = some (mO 0 0 0 0 0)) (Q : Option Value → rx_H → Prop)
    (hq : ∀ m, (∀ i, ¬ i = 99 → m i = m1 i) → aN (110, sl, m) 99 164 v0 → Q none (110, sl, m)) :
    ∀ j p m f, p + j = 4 → (∀ i, ¬ i = 99 → m i = m1 i) → m 99 = some (.inl (0, 164, .inl f)) → (∀ k, k < 164 → f k = nI (v0p p k)) → rx_R 104 97 [.ref 98, .int (nI p)] [] (110, sl, m) Q
  | 0, p, m, f, e, h0, h1, h2 => by
    have e' : p = 4 := by omega
    subst e'
    apply rx_wp_sound 60 [97]
    simp (disch := first | decide | omega) only [rx_W, rx_wp_succ, rx_nx_stop, rx_nx_go, rx_lx_some, rx_fx_some, rx_ax_some, rx_qx_some, rx_ox_some, rx_vx_ref, rx_ix_ref, rx_ld_0, rx_ld_2, rx_ld_3, rx_cx_some, rx_nl, List.getElem?_cons_zero, List.getElem?_cons_succ, List.set_cons_zero, List.set_cons_succ, List.length_cons, List.length_nil, List.take_succ_cons, List.take_zero, List.drop_succ_cons, List.drop_zero, List.reverse_cons, List.reverse_nil, List.nil_append, List.cons_append, Option.toList_some, Option.toList_none, true_and, and_true, and_self, true_or, or_true, false_and, and_false, false_or, or_false, not_false_eq_true, Nat.reduceAdd, Nat.reduceLT, Nat.reduceLeDiff, Nat.reduceBEq, Nat.reduceEqDiff, Bool.or_false, Bool.false_or, if_true, if_false, Bool.false_eq_true, nq_eq, nq_lt, nq_le, nq_in_t, nq_bd, nq_ft, nq_clamp, nq_shl31, nq_shr31, nq_bitb, nq_add, nq_mul, fa_and, fa_or, nq_b0, nq_b1, nq_b01, ↓ni_lt_t, ↓ni_lt_f, ↓ni_le_t, ↓ni_le_f, ↓ni_eq_t, ↓ni_eq_f, ↓ni_beq_t, ↓ni_beq_f, it_X8_init]
    refine hq m h0 ⟨f, h1, fun k hk => ?_⟩
    rw [h2 k hk]
    unfold v0p v0
    by_cases c : k % 41 = 0
    · rw [if_pos ⟨c, by omega⟩, if_pos c]
    · rw [if_neg (fun z => c z.1), if_neg c]
  | j + 1, p, m, f, e, h0, h1, h2 => by
    have g : m 98 = some (mO 0 0 0 0 0) := (h0 98 (by omega)).trans h98
    apply rx_wp_sound 60 [97]
    simp (disch := first | decide | omega) only [rx_W, rx_wp_succ, rx_nx_stop, rx_nx_go, rx_lx_some, rx_fx_some, rx_ax_some, rx_qx_some, rx_ox_some, rx_vx_ref, rx_ix_ref, rx_ld_0, rx_ld_2, rx_ld_3, rx_cx_some, rx_nl, List.getElem?_cons_zero, List.getElem?_cons_succ, List.set_cons_zero, List.set_cons_succ, List.length_cons, List.length_nil, List.take_succ_cons, List.take_zero, List.drop_succ_cons, List.drop_zero, List.reverse_cons, List.reverse_nil, List.nil_append, List.cons_append, Option.toList_some, Option.toList_none, true_and, and_true, and_self, true_or, or_true, false_and, and_false, false_or, or_false, not_false_eq_true, Nat.reduceAdd, Nat.reduceLT, Nat.reduceLeDiff, Nat.reduceBEq, Nat.reduceEqDiff, Bool.or_false, Bool.false_or, if_true, if_false, Bool.false_eq_true, nq_eq, nq_lt, nq_le, nq_in_t, nq_bd, nq_ft, nq_clamp, nq_shl31, nq_shr31, nq_bitb, nq_add, nq_mul, fa_and, fa_or, nq_b0, nq_b1, nq_b01, ↓ni_lt_t, ↓ni_lt_f, ↓ni_le_t, ↓ni_le_f, ↓ni_eq_t, ↓ni_eq_f, ↓ni_beq_t, ↓ni_beq_f, it_X8_init, g, mO, rd_t, h1, up_t]
    refine l_X8i h98 Q hq j (p + 1) _ _ (by omega) (fun i hi => ?_) (mu_eq _ _ _) (fun k hk => ?_)
    · rw [mu_ne hi]
      exact h0 i hi
    · by_cases c : k = 41 * p
      · subst c
        rw [vi_eq]
        unfold v0p
        rw [if_pos (by omega)]
      · rw [vi_ne c, h2 k hk]
        unfold v0p
        by_cases d : k % 41 = 0 ∧ k < 41 * p
        · rw [if_pos d, if_pos (by omega)]
        · rw [if_neg d, if_neg (by omega)]
theorem i_X8 {sl : Nat} {m : Nat → Option rx_C} {u : Nat → Nat → Nat} {t : Nat → Nat} (h1 : m 98 = some (.inr (8, rx_df 8))) : rx_Cl 104 [.ref 98] (99, sl, m) (fun r h' => r = none ∧ ∃ m', h' = (110, sl + 134436, m') ∧ (∀ i, i < 98 → m' i = m i) ∧ mIv h' v0 u 0 0 t (fun _ => 0)) := by
  apply en_X8_init _ 80 [97]
  simp (disch := first | decide | omega) only [rx_W, rx_wp_succ, rx_nx_stop, rx_nx_go, rx_lx_some, rx_fx_some, rx_ax_some, rx_qx_some, rx_ox_some, rx_vx_ref, rx_ix_ref, rx_ld_0, rx_ld_2, rx_ld_3, rx_cx_some, rx_nl, List.getElem?_cons_zero, List.getElem?_cons_succ, List.set_cons_zero, List.set_cons_succ, List.length_cons, List.length_nil, List.take_succ_cons, List.take_zero, List.drop_succ_cons, List.drop_zero, List.reverse_cons, List.reverse_nil, List.nil_append, List.cons_append, Option.toList_some, Option.toList_none, true_and, and_true, and_self, true_or, or_true, false_and, and_false, false_or, or_false, not_false_eq_true, Nat.reduceAdd, Nat.reduceLT, Nat.reduceLeDiff, Nat.reduceBEq, Nat.reduceEqDiff, Bool.or_false, Bool.false_or, if_true, if_false, Bool.false_eq_true, nq_eq, nq_lt, nq_le, nq_in_t, nq_bd, nq_ft, nq_clamp, nq_shl31, nq_shr31, nq_bitb, nq_add, nq_mul, fa_and, fa_or, nq_b0, nq_b1, nq_b01, ↓ni_lt_t, ↓ni_lt_f, ↓ni_le_t, ↓ni_le_f, ↓ni_eq_t, ↓ni_eq_f, ↓ni_beq_t, ↓ni_beq_f, it_X8_init, h1, df_8, rx_ft, nw_t, up_t, rd_t, mu_eq, mu_ne, nq_nb]
  simp only [Nat.add_assoc, Nat.reduceAdd]
  refine l_X8i ?h98 _ (fun m' y1 y2 => ⟨rfl, m', rfl, fun i hi => ?g0, ⟨0, 0, 0, ?g98⟩, y2, ⟨fun _ => 0, fun _ => 0, ?g100, fun _ _ => rfl⟩, ⟨fun _ => 0, ⟨fun _ => 0, ?g101, fun _ _ => rfl⟩, fun i hi => by omega⟩, ⟨fun _ => 0, ?g102, fun _ _ => rfl⟩, ⟨fun _ => 0, ?g103, fun i hi => by omega⟩, ⟨fun _ => 0, fun _ => 0, ?g104, fun _ _ => rfl⟩, ⟨fun _ => 0, fun _ => 0, ?g105, fun _ _ => rfl⟩, ⟨fun _ => 0, fun _ => 0, ?g106, fun _ _ => rfl⟩, ⟨fun _ => 0, ?g107⟩, ⟨fun _ => 0, ?g108⟩, ⟨fun _ => 0, ?g109⟩⟩) 4 0 _ (fun _ => 0) (by omega) (fun i _ => rfl) ?e1 (fun k hk => ?e2)
  case h98 =>
    simp (disch := first | decide | omega) only [mu_eq, mu_ne]
    rfl
  case g0 =>
    rw [y1 i (by omega)]
    simp (disch := first | decide | omega) only [mu_ne]
  case g98 =>
    rw [rd_t, y1 98 (by omega)]
    simp (disch := first | decide | omega) only [mu_eq, mu_ne]
    rfl
  case g100 =>
    rw [rd_t, y1 100 (by omega)]
    simp (disch := first | decide | omega) only [mu_eq, mu_ne]
  case g101 =>
    rw [rd_t, y1 101 (by omega)]
    simp (disch := first | decide | omega) only [mu_eq, mu_ne]
  case g102 =>
    rw [rd_t, y1 102 (by omega)]
    simp (disch := first | decide | omega) only [mu_eq, mu_ne]
  case g103 =>
    rw [rd_t, y1 103 (by omega)]
    simp (disch := first | decide | omega) only [mu_eq, mu_ne]
  case g104 =>
    rw [rd_t, y1 104 (by omega)]
    simp (disch := first | decide | omega) only [mu_eq, mu_ne]
  case g105 =>
    rw [rd_t, y1 105 (by omega)]
    simp (disch := first | decide | omega) only [mu_eq, mu_ne]
  case g106 =>
    rw [rd_t, y1 106 (by omega)]
    simp (disch := first | decide | omega) only [mu_eq, mu_ne]
  case g107 =>
    rw [rd_t, y1 107 (by omega)]
    simp (disch := first | decide | omega) only [mu_eq, mu_ne]
  case g108 =>
    rw [rd_t, y1 108 (by omega)]
    simp (disch := first | decide | omega) only [mu_eq, mu_ne]
  case g109 =>
    rw [rd_t, y1 109 (by omega)]
    simp (disch := first | decide | omega) only [mu_eq, mu_ne]
  case e1 => simp (disch := first | decide | omega) only [mu_eq, mu_ne]
  case e2 =>
    unfold v0p
    rw [if_neg (by omega)]
    rfl
