/-! ===== Pairing ===== -/
def pgO (f : Nat) (ft : Bool) : rx_C := .inr (2, [.ref 62, .ref 63, .int (nI f), .int (nI ft.toNat)])
def cS (h : rx_H) (σ : Sg) : Prop := rx_rd h 61 = some (pgO σ.1 (gd σ)) ∧ (∃ g, rx_rd h 62 = some (.inl (0, 64, .inl g)) ∧ ∀ x, x < 64 → g x = if fdI σ.1 σ.2.1 x < σ.1 then nI (fdI σ.1 σ.2.1 x) else -1) ∧ (∃ g, rx_rd h 63 = some (.inl (0, 8, .inl g)) ∧ ∀ k, k < σ.1 → g k = nI (σ.2.1 k)) ∧ pW h 64 8 σ.2.2.1
abbrev pgA : List Nat := [61, 62, 63, 64, 65]
/-- behind number(s, t) -/
def nS (h : rx_H) (σ : Sg) (x : Nat) (kx : Int32) : Prop := ∃ f' P', ((fdI σ.1 σ.2.1 x < σ.1 ∧ f' = σ.1 ∧ P' = σ.2.1 ∧ kx = nI (fdI σ.1 σ.2.1 x)) ∨ (¬ fdI σ.1 σ.2.1 x < σ.1 ∧ σ.1 < 8 ∧ f' = σ.1 + 1 ∧ P' = va_up σ.2.1 σ.1 x ∧ kx = nI σ.1) ∨ (¬ fdI σ.1 σ.2.1 x < σ.1 ∧ ¬ σ.1 < 8 ∧ f' = σ.1 ∧ P' = σ.2.1 ∧ kx = -1)) ∧ cS h (f', P', σ.2.2.1, σ.2.2.2)
section PG
variable {h : rx_H} {σ : Sg}
theorem c_X2_number (hs : cS h σ) (hI : sgI σ) {s t : Nat} (hs8 : s < 8) (ht8 : t < 8) : rx_Cl 30 [.ref 61, .int (nI s), .int (nI t)] h (fun r h' => Fr h h' pgA ∧ ∃ kx, r = some (.int kx) ∧ nS h' σ (s * 8 + t) kx) := by
  obtain ⟨f, P, W, ok⟩ := σ
  have hs' := hs
  obtain ⟨h1, ⟨g, g1, g2⟩, ⟨p, p1, p2⟩, h4⟩ := hs'
  obtain ⟨i1, i2, i3, i4, i5⟩ := hI
  dsimp only at h1 g2 p2 h4 i1 i2 i3 i4 i5
  have gx := g2 (s * 8 + t) (by omega)
  have gg : ∀ f' P', gd (f', P', W, ok) = gd (f, P, W, ok) := fun _ _ => rfl
  apply en_X2_number _ _ _ 60 []
  by_cases c : fdI f P (s * 8 + t) < f
  · rw [if_pos c] at gx
    have c2 : ¬ nI (fdI f P (s * 8 + t)) = -1 := nI_ne1 (by omega)
    simp (disch := first | decide | omega) only [rx_W, rx_wp_succ, rx_nx_stop, rx_nx_go, rx_lx_some, rx_fx_some, rx_ax_some, rx_qx_some, rx_ox_some, rx_vx_ref, rx_ix_ref, rx_ld_0, rx_ld_2, rx_ld_3, rx_cx_some, rx_nl, List.getElem?_cons_zero, List.getElem?_cons_succ, List.set_cons_zero, List.set_cons_succ, List.length_cons, List.length_nil, List.take_succ_cons, List.take_zero, List.drop_succ_cons, List.drop_zero, List.reverse_cons, List.reverse_nil, List.nil_append, List.cons_append, Option.toList_some, Option.toList_none, true_and, and_true, and_self, true_or, or_true, false_and, and_false, false_or, or_false, not_false_eq_true, Nat.reduceAdd, Nat.reduceLT, Nat.reduceLeDiff, Nat.reduceBEq, Nat.reduceEqDiff, Bool.or_false, Bool.false_or, if_true, if_false, Bool.false_eq_true, nq_eq, nq_lt, nq_le, nq_in_t, nq_bd, nq_ft, nq_clamp, nq_shl31, nq_shr31, nq_bitb, nq_add, nq_mul, fa_and, fa_or, nq_b0, nq_b1, nq_b01, ↓ni_lt_t, ↓ni_lt_f, ↓ni_le_t, ↓ni_le_f, ↓ni_eq_t, ↓ni_eq_f, ↓ni_beq_t, ↓ni_beq_f, it_X2_number, h1, pgO, g1, gx, c2]
    exact ⟨Fr_rfl _ _, _, rfl, f, P, Or.inl ⟨c, rfl, rfl, rfl⟩, hs⟩
  · rw [if_neg c] at gx
    by_cases d : f < 8
    · simp (disch := first | decide | omega) only [rx_W, rx_wp_succ, rx_nx_stop, rx_nx_go, rx_lx_some, rx_fx_some, rx_ax_some, rx_qx_some, rx_ox_some, rx_vx_ref, rx_ix_ref, rx_ld_0, rx_ld_2, rx_ld_3, rx_cx_some, rx_nl, List.getElem?_cons_zero, List.getElem?_cons_succ, List.set_cons_zero, List.set_cons_succ, List.length_cons, List.length_nil, List.take_succ_cons, List.take_zero, List.drop_succ_cons, List.drop_zero, List.reverse_cons, List.reverse_nil, List.nil_append, List.cons_append, Option.toList_some, Option.toList_none, true_and, and_true, and_self, true_or, or_true, false_and, and_false, false_or, or_false, not_false_eq_true, Nat.reduceAdd, Nat.reduceLT, Nat.reduceLeDiff, Nat.reduceBEq, Nat.reduceEqDiff, Bool.or_false, Bool.false_or, if_true, if_false, Bool.false_eq_true, nq_eq, nq_lt, nq_le, nq_in_t, nq_bd, nq_ft, nq_clamp, nq_shl31, nq_shr31, nq_bitb, nq_add, nq_mul, fa_and, fa_or, nq_b0, nq_b1, nq_b01, ↓ni_lt_t, ↓ni_lt_f, ↓ni_le_t, ↓ni_le_f, ↓ni_eq_t, ↓ni_eq_f, ↓ni_beq_t, ↓ni_beq_f, it_X2_number, h1, pgO, g1, gx, p1, rd_eq, rd_ne, rx_ft, upd, if_true]
      refine ⟨Fr_up (Fr_up (Fr_up (Fr_rfl _ _) (by simp)) (by simp)) (by simp), _, rfl, f + 1, va_up P f (s * 8 + t), Or.inr (Or.inl ⟨c, d, rfl, rfl, rfl⟩), ?_, ⟨upd g (s * 8 + t) (nI f), ?_, fun x hx => ?_⟩, ⟨upd p f (nI (s * 8 + t)), ?_, fun k hk => ?_⟩, ?_⟩
      · rw [rd_eq, gg]; rfl
      · rw [rd_ne (by omega), rd_ne (by omega), rd_eq]
      · show upd g (s * 8 + t) (nI f) x = if fdI (f + 1) (va_up P f (s * 8 + t)) x < f + 1 then nI (fdI (f + 1) (va_up P f (s * 8 + t)) x) else -1
        rw [fdI_app]
        unfold upd
        by_cases e : x = s * 8 + t
        · subst e
          rw [if_pos rfl, if_neg c, if_pos rfl, if_pos (by omega)]
        · rw [if_neg e, g2 x hx]
          by_cases e2 : fdI f P x < f
          · rw [if_pos e2, if_pos e2, if_pos (by omega)]
          · have e3 : ¬ s * 8 + t = x := fun z => e z.symm
            rw [if_neg e2, if_neg e2, if_neg e3, if_neg (by omega)]
      · rw [rd_ne (by omega), rd_eq]
      · show upd p f (nI (s * 8 + t)) k = nI (va_up P f (s * 8 + t) k)
        have hk : k < f + 1 := hk
        unfold upd va_up
        by_cases e : k = f
        · rw [if_pos e, if_pos e]
        · rw [if_neg e, if_neg e]; exact p2 k (by omega)
      · exact pW_fr (A := [61, 62, 63]) (Fr_up (Fr_up (Fr_up (Fr_rfl _ _) (by simp)) (by simp)) (by simp)) (by simp) (by simp) h4
    · have d2 : f = 8 := by omega
      subst d2
      simp (disch := first | decide | omega) only [rx_W, rx_wp_succ, rx_nx_stop, rx_nx_go, rx_lx_some, rx_fx_some, rx_ax_some, rx_qx_some, rx_ox_some, rx_vx_ref, rx_ix_ref, rx_ld_0, rx_ld_2, rx_ld_3, rx_cx_some, rx_nl, List.getElem?_cons_zero, List.getElem?_cons_succ, List.set_cons_zero, List.set_cons_succ, List.length_cons, List.length_nil, List.take_succ_cons, List.take_zero, List.drop_succ_cons, List.drop_zero, List.reverse_cons, List.reverse_nil, List.nil_append, List.cons_append, Option.toList_some, Option.toList_none, true_and, and_true, and_self, true_or, or_true, false_and, and_false, false_or, or_false, not_false_eq_true, Nat.reduceAdd, Nat.reduceLT, Nat.reduceLeDiff, Nat.reduceBEq, Nat.reduceEqDiff, Bool.or_false, Bool.false_or, if_true, if_false, Bool.false_eq_true, nq_eq, nq_lt, nq_le, nq_in_t, nq_bd, nq_ft, nq_clamp, nq_shl31, nq_shr31, nq_bitb, nq_add, nq_mul, fa_and, fa_or, nq_b0, nq_b1, nq_b01, ↓ni_lt_t, ↓ni_lt_f, ↓ni_le_t, ↓ni_le_f, ↓ni_eq_t, ↓ni_eq_f, ↓ni_beq_t, ↓ni_beq_f, it_X2_number, h1, pgO, g1, gx]
      exact ⟨Fr_rfl _ _, _, rfl, 8, P, Or.inr (Or.inr ⟨c, d, rfl, rfl, rfl⟩), hs⟩
theorem c_X2_add {x : Nat} {kx : Int32} (hn : nS h σ x kx) (hI : sgI σ) {a b : Nat} (hab : a * 5 + b < 40) : rx_Cl 31 [.ref 61, .int (nI a), .int (nI b), .int kx, .ref 64] h (fun r h' => r = none ∧ Fr h h' pgA ∧ cS h' (add1 (a * 5 + b) x σ)) := by
  obtain ⟨f, P, W, ok⟩ := σ
  obtain ⟨i1, i2, i3, i4, i5⟩ := hI
  obtain ⟨f', P', hc, hs⟩ := hn
  dsimp only at i1 i2 i3 i4 i5 hc hs
  have hs' := hs
  obtain ⟨h1, h2, h3, h4⟩ := hs'
  dsimp only at h1 h2 h3 h4
  have p8 : 2 ^ f ≤ 2 ^ 8 := pow_up i2
  have w8 : W (a * 5 + b) < 256 := by have := i4 (a * 5 + b); omega
  have gg : ∀ f' P', gd (f', P', W, ok) = gd (f, P, W, ok) := fun _ _ => rfl
  have main : ∀ k, k < 8 → kx = nI k → add1 (a * 5 + b) x (f, P, W, ok) = (f', P', va_up W (a * 5 + b) (W (a * 5 + b) ||| 2 ^ k), ok) → rx_Cl 31 [.ref 61, .int (nI a), .int (nI b), .int kx, .ref 64] h (fun r h' => r = none ∧ Fr h h' pgA ∧ cS h' (add1 (a * 5 + b) x (f, P, W, ok))) := by
    intro k hk e1 e2
    subst e1
    rw [e2]
    have c2 : ¬ nI k = -1 := nI_ne1 (by omega)
    apply en_X2_add _ _ _ _ _ 60 []
    simp (disch := first | decide | omega) only [rx_W, rx_wp_succ, rx_nx_stop, rx_nx_go, rx_lx_some, rx_fx_some, rx_ax_some, rx_qx_some, rx_ox_some, rx_vx_ref, rx_ix_ref, rx_ld_0, rx_ld_2, rx_ld_3, rx_cx_some, rx_nl, List.getElem?_cons_zero, List.getElem?_cons_succ, List.set_cons_zero, List.set_cons_succ, List.length_cons, List.length_nil, List.take_succ_cons, List.take_zero, List.drop_succ_cons, List.drop_zero, List.reverse_cons, List.reverse_nil, List.nil_append, List.cons_append, Option.toList_some, Option.toList_none, true_and, and_true, and_self, true_or, or_true, false_and, and_false, false_or, or_false, not_false_eq_true, Nat.reduceAdd, Nat.reduceLT, Nat.reduceLeDiff, Nat.reduceBEq, Nat.reduceEqDiff, Bool.or_false, Bool.false_or, if_true, if_false, Bool.false_eq_true, nq_eq, nq_lt, nq_le, nq_in_t, nq_bd, nq_ft, nq_clamp, nq_shl31, nq_shr31, nq_bitb, nq_add, nq_mul, fa_and, fa_or, nq_b0, nq_b1, nq_b01, ↓ni_lt_t, ↓ni_lt_f, ↓ni_le_t, ↓ni_le_f, ↓ni_eq_t, ↓ni_eq_f, ↓ni_beq_t, ↓ni_beq_f, it_X2_add, c2, h4.1, h4.2.2]
    refine rx_Cl_imp (c_X4_put h4 hab w8 hk) (fun r h' ⟨e3, y1, y2⟩ => ?_)
    subst e3
    have t1 := tot_or W hab k
    have t2 := tot_le (va_up W (a * 5 + b) (W (a * 5 + b) ||| 2 ^ k))
    have h1' := rd_fr y1 (by simp) h1
    have hk' : (∃ g, rx_rd h' 62 = some (.inl (0, 64, .inl g)) ∧ ∀ x, x < 64 → g x = if fdI f' P' x < f' then nI (fdI f' P' x) else -1) := by
      obtain ⟨g, g1, g2⟩ := h2
      exact ⟨g, rd_fr y1 (by simp) g1, g2⟩
    have hp' : (∃ g, rx_rd h' 63 = some (.inl (0, 8, .inl g)) ∧ ∀ k, k < f' → g k = nI (P' k)) := by
      obtain ⟨g, g1, g2⟩ := h3
      exact ⟨g, rd_fr y1 (by simp) g1, g2⟩
    by_cases c : tot (va_up W (a * 5 + b) (W (a * 5 + b) ||| 2 ^ k)) ≤ 24
    · simp (disch := first | decide | omega) only [rx_W, rx_wp_succ, rx_nx_stop, rx_nx_go, rx_lx_some, rx_fx_some, rx_ax_some, rx_qx_some, rx_ox_some, rx_vx_ref, rx_ix_ref, rx_ld_0, rx_ld_2, rx_ld_3, rx_cx_some, rx_nl, List.getElem?_cons_zero, List.getElem?_cons_succ, List.set_cons_zero, List.set_cons_succ, List.length_cons, List.length_nil, List.take_succ_cons, List.take_zero, List.drop_succ_cons, List.drop_zero, List.reverse_cons, List.reverse_nil, List.nil_append, List.cons_append, Option.toList_some, Option.toList_none, true_and, and_true, and_self, true_or, or_true, false_and, and_false, false_or, or_false, not_false_eq_true, Nat.reduceAdd, Nat.reduceLT, Nat.reduceLeDiff, Nat.reduceBEq, Nat.reduceEqDiff, Bool.or_false, Bool.false_or, if_true, if_false, Bool.false_eq_true, nq_eq, nq_lt, nq_le, nq_in_t, nq_bd, nq_ft, nq_clamp, nq_shl31, nq_shr31, nq_bitb, nq_add, nq_mul, fa_and, fa_or, nq_b0, nq_b1, nq_b01, ↓ni_lt_t, ↓ni_lt_f, ↓ni_le_t, ↓ni_le_f, ↓ni_eq_t, ↓ni_eq_f, ↓ni_beq_t, ↓ni_beq_f, it_X2_add, y2.1, y2.2.2]
      refine ⟨Fr_sub y1 (by simp), ?_, hk', hp', y2⟩
      rw [h1']
      have : gd (f', P', W, ok) = gd (f', P', va_up W (a * 5 + b) (W (a * 5 + b) ||| 2 ^ k), ok) := by
        unfold gd
        show (ok && decide (tot W ≤ 24)) = (ok && decide (tot (va_up W (a * 5 + b) (W (a * 5 + b) ||| 2 ^ k)) ≤ 24))
        rw [decide_eq_true c, decide_eq_true (by omega : tot W ≤ 24)]
      rw [this]
    · simp (disch := first | decide | omega) only [rx_W, rx_wp_succ, rx_nx_stop, rx_nx_go, rx_lx_some, rx_fx_some, rx_ax_some, rx_qx_some, rx_ox_some, rx_vx_ref, rx_ix_ref, rx_ld_0, rx_ld_2, rx_ld_3, rx_cx_some, rx_nl, List.getElem?_cons_zero, List.getElem?_cons_succ, List.set_cons_zero, List.set_cons_succ, List.length_cons, List.length_nil, List.take_succ_cons, List.take_zero, List.drop_succ_cons, List.drop_zero, List.reverse_cons, List.reverse_nil, List.nil_append, List.cons_append, Option.toList_some, Option.toList_none, true_and, and_true, and_self, true_or, or_true, false_and, and_false, false_or, or_false, not_false_eq_true, Nat.reduceAdd, Nat.reduceLT, Nat.reduceLeDiff, Nat.reduceBEq, Nat.reduceEqDiff, Bool.or_false, Bool.false_or, if_true, if_false, Bool.false_eq_true, nq_eq, nq_lt, nq_le, nq_in_t, nq_bd, nq_ft, nq_clamp, nq_shl31, nq_shr31, nq_bitb, nq_add, nq_mul, fa_and, fa_or, nq_b0, nq_b1, nq_b01, ↓ni_lt_t, ↓ni_lt_f, ↓ni_le_t, ↓ni_le_f, ↓ni_eq_t, ↓ni_eq_f, ↓ni_beq_t, ↓ni_beq_f, it_X2_add, y2.1, y2.2.2, h1', pgO, rx_ft]
      have f3 : ∀ c, Fr h' (rx_up h' 61 c) [61] := fun c => Fr_up (Fr_rfl _ _) (by simp)
      refine ⟨Fr_trans (Fr_sub y1 (by simp)) (f3 _) (fun _ z => z) (by simp), ?_, ?_, ?_, pW_fr (f3 _) (by simp) (by simp) y2⟩
      · rw [rd_eq]
        have : gd (f', P', va_up W (a * 5 + b) (W (a * 5 + b) ||| 2 ^ k), ok) = false := by
          unfold gd
          show (ok && decide (tot (va_up W (a * 5 + b) (W (a * 5 + b) ||| 2 ^ k)) ≤ 24)) = false
          rw [decide_eq_false c, Bool.and_false]
        rw [this]
        rfl
      · obtain ⟨g, g1, g2⟩ := hk'
        exact ⟨g, rd_fr (f3 _) (by simp) g1, g2⟩
      · obtain ⟨g, g1, g2⟩ := hp'
        exact ⟨g, rd_fr (f3 _) (by simp) g1, g2⟩
  rcases hc with ⟨c1, c2, c3, c4⟩ | ⟨c1, c0, c2, c3, c4⟩ | ⟨c1, c0, c2, c3, c4⟩
  · refine main _ (by omega) c4 ?_
    unfold add1
    dsimp only
    rw [if_pos c1, c2, c3]
  · refine main _ c0 c4 ?_
    unfold add1
    dsimp only
    rw [if_neg c1, if_pos c0, c2, c3]
  · have e2 : add1 (a * 5 + b) x (f, P, W, ok) = (f, P, W, false) := by
      unfold add1
      dsimp only
      rw [if_neg c1, if_neg c0]
    subst c2
    subst c3
    subst c4
    rw [e2]
    apply en_X2_add _ _ _ _ _ 60 []
    simp (disch := first | decide | omega) only [rx_W, rx_wp_succ, rx_nx_stop, rx_nx_go, rx_lx_some, rx_fx_some, rx_ax_some, rx_qx_some, rx_ox_some, rx_vx_ref, rx_ix_ref, rx_ld_0, rx_ld_2, rx_ld_3, rx_cx_some, rx_nl, List.getElem?_cons_zero, List.getElem?_cons_succ, List.set_cons_zero, List.set_cons_succ, List.length_cons, List.length_nil, List.take_succ_cons, List.take_zero, List.drop_succ_cons, List.drop_zero, List.reverse_cons, List.reverse_nil, List.nil_append, List.cons_append, Option.toList_some, Option.toList_none, true_and, and_true, and_self, true_or, or_true, false_and, and_false, false_or, or_false, not_false_eq_true, Nat.reduceAdd, Nat.reduceLT, Nat.reduceLeDiff, Nat.reduceBEq, Nat.reduceEqDiff, Bool.or_false, Bool.false_or, if_true, if_false, Bool.false_eq_true, nq_eq, nq_lt, nq_le, nq_in_t, nq_bd, nq_ft, nq_clamp, nq_shl31, nq_shr31, nq_bitb, nq_add, nq_mul, fa_and, fa_or, nq_b0, nq_b1, nq_b01, ↓ni_lt_t, ↓ni_lt_f, ↓ni_le_t, ↓ni_le_f, ↓ni_eq_t, ↓ni_eq_f, ↓ni_beq_t, ↓ni_beq_f, it_X2_add, h1, pgO, rx_ft]
    have f3 : ∀ c, Fr h (rx_up h 61 c) [61] := fun c => Fr_up (Fr_rfl _ _) (by simp)
    refine ⟨Fr_sub (f3 _) (by simp), ?_, ?_, ?_, pW_fr (f3 _) (by simp) (by simp) h4⟩
    · rw [rd_eq]; rfl
    · obtain ⟨g, g1, g2⟩ := h2
      exact ⟨g, rd_fr (f3 _) (by simp) g1, g2⟩
    · obtain ⟨g, g1, g2⟩ := h3
      exact ⟨g, rd_fr (f3 _) (by simp) g1, g2⟩
end PG
