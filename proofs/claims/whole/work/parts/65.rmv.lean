/-! ===== Text.readMoves ===== -/
def rmR (h : rx_H) (L n : Nat) (σ : Ms) : Prop := ∃ wl fb fr b, rx_rd h 46 = some (txO (nI L) wl (nI σ.2.1) fb fr b) ∧ (1 ≤ σ.2.1 → fr = nI σ.2.2.1 ∧ fb = nI σ.2.2.2.2.1) ∧ (2 ≤ σ.2.1 → b = nI σ.2.2.2.1) ∧ pW h 64 n σ.2.2.2.2.2
/-- what holds of the reading all along -/
def msI (n : Nat) (σ : Ms) (i : Nat) : Prop := σ.2.1 ≤ 3 ∧ (1 ≤ σ.2.1 → σ.2.2.1 < n ∧ σ.2.2.2.2.1 < i) ∧ (2 ≤ σ.2.1 → σ.2.2.2.1 < 5) ∧ wfP n σ.2.2.2.2.2 ∧ (σ.2.1 = 1 ∨ σ.2.1 = 2 → tot σ.2.2.2.2.2 < 24)
theorem bc_put {W : Nat → Nat} {i s : Nat} (hs : s < 8) (hb : (W i).testBit s = false) : bc (W i ||| 2 ^ s) = bc (W i) + 1 := by
  have h1 := ctb_or (W i) s 8
  rw [if_pos hs] at h1
  have h2 := cnt_lt (a := W i) (b := W i ||| 2 ^ s) (sub_or_l _ _) 8 s hs hb (by rw [Nat.testBit_or, Nat.testBit_two_pow_self, Bool.or_true])
  unfold bc
  unfold cnt at h2
  omega
theorem tot_put {W : Nat → Nat} {i s : Nat} (hi : i < 40) (hs : s < 8) (hb : (W i).testBit s = false) : tot (va_up W i (W i ||| 2 ^ s)) = tot W + 1 := by
  have h1 := tot_up W (W i ||| 2 ^ s) hi
  have h2 := bc_put hs hb
  omega
theorem wfP_put {n : Nat} {W : Nat → Nat} {f b s : Nat} (h : wfP n W) (hf : f < n) (hb : b < 5) (hs : s < n) (hbit : (W (f * 5 + b)).testBit s = false) (ht : tot W < 24) : wfP n (va_up W (f * 5 + b) (W (f * 5 + b) ||| 2 ^ s)) := by
  obtain ⟨h1, h2, h3, h4, h5⟩ := h
  refine ⟨h1, h2, fun j hj => ?_, fun a c x y z => ?_, ?_⟩
  · unfold va_up
    split
    · exact Nat.or_lt_two_pow (h3 _ (by omega)) (Nat.pow_lt_pow_right (by omega) hs)
    · exact h3 j hj
  · rw [vu_ne (by omega)]
    exact h4 a c x y z
  · rw [tot_put (by omega) (by omega) hbit]
    omega
theorem kd_lt {c : Nat} (h : kdB c = true) : kdF c < 5 := by
  unfold kdB at h
  unfold kdF
  rw [Bool.or_eq_true, decide_eq_true_eq, decide_eq_true_eq] at h
  split <;> omega
theorem msI_step {n i c : Nat} {σ σ' : Ms} (hI : msI n σ i) (h : mst n σ i c = .inr σ') : msI n σ' (i + 1) ∧ σ'.1 = true := by
  obtain ⟨any, st, fr, b, fb, W⟩ := σ
  obtain ⟨i1, i2, i3, i4, i5⟩ := hI
  unfold mst at h
  dsimp only at h i1 i2 i3 i4 i5
  split at h
  · split at h
    · next c1 =>
      cases h
      exact ⟨⟨by show 1 ≤ 3; omega, fun _ => ⟨by show c - 48 < n; omega, by show i < i + 1; omega⟩, fun (z : 2 ≤ 1) => by omega, i4, fun _ => c1.2⟩, rfl⟩
    · cases h
  · split at h
    · next c0 c1 =>
      split at h
      · next c2 =>
        cases h
        exact ⟨⟨by show 2 ≤ 3; omega, fun _ => ⟨(i2 (by omega)).1, by show fb < i + 1; have := (i2 (by omega)).2; omega⟩, fun _ => kd_lt c2, i4, fun _ => i5 (Or.inl c1)⟩, rfl⟩
      · cases h
    · split at h
      · next c0 c1 c2 =>
        split at h
        · next c3 =>
          split at h
          · cases h
          · next c4 =>
            cases h
            have w := wfP_put i4 (i2 (by omega)).1 (i3 (by omega)) (show c - 48 < n by omega) (by simpa using c4) (i5 (Or.inr c2))
            exact ⟨⟨by show 3 ≤ 3; omega, fun _ => ⟨(i2 (by omega)).1, by show fb < i + 1; have := (i2 (by omega)).2; omega⟩, fun _ => i3 (by omega), w, fun z => by
              have z : 3 = 1 ∨ 3 = 2 := z
              omega⟩, rfl⟩
        · cases h
      · split at h
        · cases h
          exact ⟨⟨by show 0 ≤ 3; omega, fun (z : 1 ≤ 0) => by omega, fun (z : 2 ≤ 0) => by omega, i4, fun z => by
            have z : 0 = 1 ∨ 0 = 2 := z
            omega⟩, rfl⟩
        · cases h
theorem msI_mrd {t : Nat → Nat} {n : Nat} {W : Nat → Nat} (hW : wfP n W) : ∀ i σ, mrd t n W i = .inr σ → msI n σ i
  | 0, σ, h => by
    cases h
    exact ⟨by show 0 ≤ 3; omega, fun (z : 1 ≤ 0) => by omega, fun (z : 2 ≤ 0) => by omega, hW, fun z => by
      have z : 0 = 1 ∨ 0 = 2 := z
      omega⟩
  | i + 1, σ, h => by
    cases c : mrd t n W i with
    | inl f => rw [show mrd t n W (i + 1) = .inl f from mrd_no c 1] at h; cases h
    | inr τ =>
      have ih := msI_mrd hW i τ c
      rw [mrd_succ c] at h
      split at h
      · cases h
        obtain ⟨i1, i2, i3, i4, i5⟩ := ih
        exact ⟨i1, fun z => ⟨(i2 z).1, by have := (i2 z).2; omega⟩, i3, i4, i5⟩
      · exact (msI_step ih h).1
section RB
variable {h : rx_H} {L n i : Nat} {t : Nat → Nat} {σ : Ms}
theorem c_X6_kindOf {c : Nat} (hc : c < 128) (Q : Option Value → rx_H → Prop) : rx_Cl 65 [.int (nI c)] h Q = Q (some (.int (if kdB c then nI (kdF c) else -1))) h := by
  have s97 := sb97 c hc
  refine rx_Cl_eq ?_ Q
  unfold kdB kdF
  apply en_X6_kindOf _ 60 []
  by_cases c1 : c = 105
  · simp (disch := first | decide | omega) only [rx_W, rx_wp_succ, rx_nx_stop, rx_nx_go, rx_lx_some, rx_fx_some, rx_ax_some, rx_qx_some, rx_ox_some, rx_vx_ref, rx_ix_ref, rx_ld_0, rx_ld_2, rx_ld_3, rx_cx_some, rx_nl, List.getElem?_cons_zero, List.getElem?_cons_succ, List.set_cons_zero, List.set_cons_succ, List.length_cons, List.length_nil, List.take_succ_cons, List.take_zero, List.drop_succ_cons, List.drop_zero, List.reverse_cons, List.reverse_nil, List.nil_append, List.cons_append, Option.toList_some, Option.toList_none, true_and, and_true, and_self, true_or, or_true, false_and, and_false, false_or, or_false, not_false_eq_true, Nat.reduceAdd, Nat.reduceLT, Nat.reduceLeDiff, Nat.reduceBEq, Nat.reduceEqDiff, Bool.or_false, Bool.false_or, if_true, if_false, Bool.false_eq_true, nq_eq, nq_lt, nq_le, nq_in_t, nq_bd, nq_ft, nq_clamp, nq_shl31, nq_shr31, nq_bitb, nq_add, nq_mul, fa_and, fa_or, nq_b0, nq_b1, nq_b01, ↓ni_lt_t, ↓ni_lt_f, ↓ni_le_t, ↓ni_le_f, ↓ni_eq_t, ↓ni_eq_f, ↓ni_beq_t, ↓ni_beq_f, it_X6_kindOf, c1, decide_true, Bool.true_or]
  · by_cases d : 97 ≤ c ∧ c < 101
    · rw [decide_eq_true d] at s97
      have su : nI c - nI 97 = nI (c - 97) := nq_sub d.1
      rw [su] at s97
      simp (disch := first | decide | omega) only [rx_W, rx_wp_succ, rx_nx_stop, rx_nx_go, rx_lx_some, rx_fx_some, rx_ax_some, rx_qx_some, rx_ox_some, rx_vx_ref, rx_ix_ref, rx_ld_0, rx_ld_2, rx_ld_3, rx_cx_some, rx_nl, List.getElem?_cons_zero, List.getElem?_cons_succ, List.set_cons_zero, List.set_cons_succ, List.length_cons, List.length_nil, List.take_succ_cons, List.take_zero, List.drop_succ_cons, List.drop_zero, List.reverse_cons, List.reverse_nil, List.nil_append, List.cons_append, Option.toList_some, Option.toList_none, true_and, and_true, and_self, true_or, or_true, false_and, and_false, false_or, or_false, not_false_eq_true, Nat.reduceAdd, Nat.reduceLT, Nat.reduceLeDiff, Nat.reduceBEq, Nat.reduceEqDiff, Bool.or_false, Bool.false_or, if_true, if_false, Bool.false_eq_true, nq_eq, nq_lt, nq_le, nq_in_t, nq_bd, nq_ft, nq_clamp, nq_shl31, nq_shr31, nq_bitb, nq_add, nq_mul, fa_and, fa_or, nq_b0, nq_b1, nq_b01, ↓ni_lt_t, ↓ni_lt_f, ↓ni_le_t, ↓ni_le_f, ↓ni_eq_t, ↓ni_eq_f, ↓ni_beq_t, ↓ni_beq_f, it_X6_kindOf, c1, su, q_X7_isLetter, s97, decide_eq_true d, Bool.or_true]
    · rw [decide_eq_false d] at s97
      simp (disch := first | decide | omega) only [rx_W, rx_wp_succ, rx_nx_stop, rx_nx_go, rx_lx_some, rx_fx_some, rx_ax_some, rx_qx_some, rx_ox_some, rx_vx_ref, rx_ix_ref, rx_ld_0, rx_ld_2, rx_ld_3, rx_cx_some, rx_nl, List.getElem?_cons_zero, List.getElem?_cons_succ, List.set_cons_zero, List.set_cons_succ, List.length_cons, List.length_nil, List.take_succ_cons, List.take_zero, List.drop_succ_cons, List.drop_zero, List.reverse_cons, List.reverse_nil, List.nil_append, List.cons_append, Option.toList_some, Option.toList_none, true_and, and_true, and_self, true_or, or_true, false_and, and_false, false_or, or_false, not_false_eq_true, Nat.reduceAdd, Nat.reduceLT, Nat.reduceLeDiff, Nat.reduceBEq, Nat.reduceEqDiff, Bool.or_false, Bool.false_or, if_true, if_false, Bool.false_eq_true, nq_eq, nq_lt, nq_le, nq_in_t, nq_bd, nq_ft, nq_clamp, nq_shl31, nq_shr31, nq_bitb, nq_add, nq_mul, fa_and, fa_or, nq_b0, nq_b1, nq_b01, ↓ni_lt_t, ↓ni_lt_f, ↓ni_le_t, ↓ni_le_f, ↓ni_eq_t, ↓ni_eq_f, ↓ni_beq_t, ↓ni_beq_f, it_X6_kindOf, c1, q_X7_isLetter, s97, decide_eq_false d, decide_false, Bool.or_false]
abbrev tB : List Nat := [46, 64, 65]
def rbP (h : rx_H) (L n : Nat) (m : Nat ⊕ Ms) : Option Value → rx_H → Prop := fun r h' => Fr h h' tB ∧ (∃ wl st fb fr b, rx_rd h' 46 = some (txO (nI L) wl st fb fr b)) ∧ (∃ n w, pW h' 64 n w) ∧ ((∃ g, g ≤ L ∧ m = .inl g ∧ r = some (.int (nI g))) ∨ ∃ σ', m = .inr σ' ∧ r = some (.int (-1)) ∧ rmR h' L n σ')
theorem rbP_l {h h' : rx_H} {L n g : Nat} {m : Nat ⊕ Ms} (h1 : Fr h h' tB) (h2 : ∃ wl st fb fr b, rx_rd h' 46 = some (txO (nI L) wl st fb fr b)) (h3 : ∃ n w, pW h' 64 n w) (h4 : g ≤ L) (h5 : m = .inl g) : rbP h L n m (some (.int (nI g))) h' := ⟨h1, h2, h3, Or.inl ⟨g, h4, h5, rfl⟩⟩
theorem rbP_r {h h' : rx_H} {L n : Nat} {m : Nat ⊕ Ms} {σ' : Ms} (h1 : Fr h h' tB) (h5 : m = .inr σ') (h6 : rmR h' L n σ') : rbP h L n m (some (.int (-1))) h' := ⟨h1, by obtain ⟨wl, fb, fr, b, k, -⟩ := h6; exact ⟨_, _, _, _, _, k⟩, by obtain ⟨wl, fb, fr, b, -, -, -, k⟩ := h6; exact ⟨_, _, k⟩, Or.inr ⟨σ', h5, rfl, h6⟩⟩
theorem c_X6_readByte (hs : rmR h L n σ) (hI : msI n σ i) (hL : L ≤ 100) (hi : i < L) {f : Nat → Int32} (h3 : rx_rd h 48 = some (.inl (1, 100, .inl f))) (hf : f i = nI (t i)) (ht : t i < 128) :
    rx_Cl 63 [.ref 46, .int (nI i), .ref 64] h (rbP h L n (mst n σ i (t i))) := by
  obtain ⟨any, st, fr0, b0, fb0, W⟩ := σ
  obtain ⟨wl, fb, fr, b, h1, r1, r2, hp⟩ := hs
  obtain ⟨i1, i2, i3, i4, i5⟩ := hI
  dsimp only at h1 r1 r2 hp i1 i2 i3 i4 i5
  have n8 := i4.2.1
  have tl := i4.2.2.2.2
  have su : 48 ≤ t i → nI (t i) - nI 48 = nI (t i - 48) := fun z => nq_sub z
  have same : ∀ g : Nat, Fr h h tB ∧ (∃ wl st fb fr b, rx_rd h 46 = some (txO (nI L) wl st fb fr b)) ∧ (∃ n w, pW h 64 n w) := fun _ => ⟨Fr_rfl _ _, ⟨_, _, _, _, _, h1⟩, ⟨_, _, hp⟩⟩
  have hst : st = 0 ∨ st = 1 ∨ st = 2 ∨ st = 3 := by omega
  unfold mst
  dsimp only
  rcases hst with rfl | rfl | rfl | rfl
  · -- from
    have rf : rx_Cl 64 [.ref 46, .int (nI i), .int (nI (t i) - nI 48), .ref 64] h (rbP h L n (if (48 ≤ t i ∧ t i < 48 + n) ∧ tot W < 24 then (.inr (true, 1, t i - 48, b0, i, W) : Nat ⊕ Ms) else .inl i)) := by
      apply en_X6_readFrom _ _ _ _ 60 []
      by_cases c1 : 48 ≤ t i
      · rw [su c1]
        by_cases c2 : t i < 48 + n
        · by_cases c3 : tot W < 24
          · rw [if_pos ⟨⟨c1, c2⟩, c3⟩]
            simp (disch := first | decide | omega) only [rx_W, rx_wp_succ, rx_nx_stop, rx_nx_go, rx_lx_some, rx_fx_some, rx_ax_some, rx_qx_some, rx_ox_some, rx_vx_ref, rx_ix_ref, rx_ld_0, rx_ld_2, rx_ld_3, rx_cx_some, rx_nl, List.getElem?_cons_zero, List.getElem?_cons_succ, List.set_cons_zero, List.set_cons_succ, List.length_cons, List.length_nil, List.take_succ_cons, List.take_zero, List.drop_succ_cons, List.drop_zero, List.reverse_cons, List.reverse_nil, List.nil_append, List.cons_append, Option.toList_some, Option.toList_none, true_and, and_true, and_self, true_or, or_true, false_and, and_false, false_or, or_false, not_false_eq_true, Nat.reduceAdd, Nat.reduceLT, Nat.reduceLeDiff, Nat.reduceBEq, Nat.reduceEqDiff, Bool.or_false, Bool.false_or, if_true, if_false, Bool.false_eq_true, nq_eq, nq_lt, nq_le, nq_in_t, nq_bd, nq_ft, nq_clamp, nq_shl31, nq_shr31, nq_bitb, nq_add, nq_mul, fa_and, fa_or, nq_b0, nq_b1, nq_b01, ↓ni_lt_t, ↓ni_lt_f, ↓ni_le_t, ↓ni_le_f, ↓ni_eq_t, ↓ni_eq_f, ↓ni_beq_t, ↓ni_beq_f, it_X6_readFrom, hp.1, hp.2.2, h1, txO, rd_eq, rx_ft]
            have f1 : ∀ a1 a2 a3, Fr h (rx_up (rx_up (rx_up h 46 a1) 46 a2) 46 a3) [46] := fun _ _ _ => Fr_up (Fr_up (Fr_up (Fr_rfl _ _) (by simp)) (by simp)) (by simp)
            have hp' := fun a1 a2 a3 => pW_fr (f1 a1 a2 a3) (by simp) (by simp) hp
            exact rbP_r (Fr_sub (f1 _ _ _) (by simp)) rfl ⟨wl, _, _, b, rd_eq _ _ _, fun _ => ⟨rfl, rfl⟩, fun (z : 2 ≤ 1) => by omega, hp' _ _ _⟩
          · rw [if_neg (fun z => c3 z.2)]
            have tl2 := tot_le W
            simp (disch := first | decide | omega) only [rx_W, rx_wp_succ, rx_nx_stop, rx_nx_go, rx_lx_some, rx_fx_some, rx_ax_some, rx_qx_some, rx_ox_some, rx_vx_ref, rx_ix_ref, rx_ld_0, rx_ld_2, rx_ld_3, rx_cx_some, rx_nl, List.getElem?_cons_zero, List.getElem?_cons_succ, List.set_cons_zero, List.set_cons_succ, List.length_cons, List.length_nil, List.take_succ_cons, List.take_zero, List.drop_succ_cons, List.drop_zero, List.reverse_cons, List.reverse_nil, List.nil_append, List.cons_append, Option.toList_some, Option.toList_none, true_and, and_true, and_self, true_or, or_true, false_and, and_false, false_or, or_false, not_false_eq_true, Nat.reduceAdd, Nat.reduceLT, Nat.reduceLeDiff, Nat.reduceBEq, Nat.reduceEqDiff, Bool.or_false, Bool.false_or, if_true, if_false, Bool.false_eq_true, nq_eq, nq_lt, nq_le, nq_in_t, nq_bd, nq_ft, nq_clamp, nq_shl31, nq_shr31, nq_bitb, nq_add, nq_mul, fa_and, fa_or, nq_b0, nq_b1, nq_b01, ↓ni_lt_t, ↓ni_lt_f, ↓ni_le_t, ↓ni_le_f, ↓ni_eq_t, ↓ni_eq_f, ↓ni_beq_t, ↓ni_beq_f, it_X6_readFrom, hp.1, hp.2.2]
            exact rbP_l (same 0).1 (same 0).2.1 (same 0).2.2 (by omega) rfl
        · rw [if_neg (fun z => c2 z.1.2)]
          simp (disch := first | decide | omega) only [rx_W, rx_wp_succ, rx_nx_stop, rx_nx_go, rx_lx_some, rx_fx_some, rx_ax_some, rx_qx_some, rx_ox_some, rx_vx_ref, rx_ix_ref, rx_ld_0, rx_ld_2, rx_ld_3, rx_cx_some, rx_nl, List.getElem?_cons_zero, List.getElem?_cons_succ, List.set_cons_zero, List.set_cons_succ, List.length_cons, List.length_nil, List.take_succ_cons, List.take_zero, List.drop_succ_cons, List.drop_zero, List.reverse_cons, List.reverse_nil, List.nil_append, List.cons_append, Option.toList_some, Option.toList_none, true_and, and_true, and_self, true_or, or_true, false_and, and_false, false_or, or_false, not_false_eq_true, Nat.reduceAdd, Nat.reduceLT, Nat.reduceLeDiff, Nat.reduceBEq, Nat.reduceEqDiff, Bool.or_false, Bool.false_or, if_true, if_false, Bool.false_eq_true, nq_eq, nq_lt, nq_le, nq_in_t, nq_bd, nq_ft, nq_clamp, nq_shl31, nq_shr31, nq_bitb, nq_add, nq_mul, fa_and, fa_or, nq_b0, nq_b1, nq_b01, ↓ni_lt_t, ↓ni_lt_f, ↓ni_le_t, ↓ni_le_f, ↓ni_eq_t, ↓ni_eq_f, ↓ni_beq_t, ↓ni_beq_f, it_X6_readFrom, hp.1, hp.2.2]
          exact rbP_l (same 0).1 (same 0).2.1 (same 0).2.2 (by omega) rfl
      · have c4 := sb48n (t i) (by omega)
        rw [if_neg (fun z => c1 z.1.1)]
        simp (disch := first | decide | omega) only [rx_W, rx_wp_succ, rx_nx_stop, rx_nx_go, rx_lx_some, rx_fx_some, rx_ax_some, rx_qx_some, rx_ox_some, rx_vx_ref, rx_ix_ref, rx_ld_0, rx_ld_2, rx_ld_3, rx_cx_some, rx_nl, List.getElem?_cons_zero, List.getElem?_cons_succ, List.set_cons_zero, List.set_cons_succ, List.length_cons, List.length_nil, List.take_succ_cons, List.take_zero, List.drop_succ_cons, List.drop_zero, List.reverse_cons, List.reverse_nil, List.nil_append, List.cons_append, Option.toList_some, Option.toList_none, true_and, and_true, and_self, true_or, or_true, false_and, and_false, false_or, or_false, not_false_eq_true, Nat.reduceAdd, Nat.reduceLT, Nat.reduceLeDiff, Nat.reduceBEq, Nat.reduceEqDiff, Bool.or_false, Bool.false_or, if_true, if_false, Bool.false_eq_true, nq_eq, nq_lt, nq_le, nq_in_t, nq_bd, nq_ft, nq_clamp, nq_shl31, nq_shr31, nq_bitb, nq_add, nq_mul, fa_and, fa_or, nq_b0, nq_b1, nq_b01, ↓ni_lt_t, ↓ni_lt_f, ↓ni_le_t, ↓ni_le_f, ↓ni_eq_t, ↓ni_eq_f, ↓ni_beq_t, ↓ni_beq_f, it_X6_readFrom, hp.1, hp.2.2, c4]
        exact rbP_l (same 0).1 (same 0).2.1 (same 0).2.2 (by omega) rfl
    rw [if_pos rfl]
    apply en_X6_readByte _ _ _ 60 []
    simp (disch := first | decide | omega) only [rx_W, rx_wp_succ, rx_nx_stop, rx_nx_go, rx_lx_some, rx_fx_some, rx_ax_some, rx_qx_some, rx_ox_some, rx_vx_ref, rx_ix_ref, rx_ld_0, rx_ld_2, rx_ld_3, rx_cx_some, rx_nl, List.getElem?_cons_zero, List.getElem?_cons_succ, List.set_cons_zero, List.set_cons_succ, List.length_cons, List.length_nil, List.take_succ_cons, List.take_zero, List.drop_succ_cons, List.drop_zero, List.reverse_cons, List.reverse_nil, List.nil_append, List.cons_append, Option.toList_some, Option.toList_none, true_and, and_true, and_self, true_or, or_true, false_and, and_false, false_or, or_false, not_false_eq_true, Nat.reduceAdd, Nat.reduceLT, Nat.reduceLeDiff, Nat.reduceBEq, Nat.reduceEqDiff, Bool.or_false, Bool.false_or, if_true, if_false, Bool.false_eq_true, nq_eq, nq_lt, nq_le, nq_in_t, nq_bd, nq_ft, nq_clamp, nq_shl31, nq_shr31, nq_bitb, nq_add, nq_mul, fa_and, fa_or, nq_b0, nq_b1, nq_b01, ↓ni_lt_t, ↓ni_lt_f, ↓ni_le_t, ↓ni_le_f, ↓ni_eq_t, ↓ni_eq_f, ↓ni_beq_t, ↓ni_beq_f, it_X6_readByte, h1, txO, h3, hf, show rx_sw 11 57 0 2 #[25, 36, 46] (nI 0) = 36 by decide]
    refine rx_Cl_imp rf (fun r h' y => ?_)
    obtain ⟨y1, y2, y3, y4⟩ := y
    rcases y4 with ⟨g, g1, g2, g3⟩ | ⟨σ', g1, g2, g3⟩
    · subst g3
      simp (disch := first | decide | omega) only [rx_W, rx_wp_succ, rx_nx_stop, rx_nx_go, rx_lx_some, rx_fx_some, rx_ax_some, rx_qx_some, rx_ox_some, rx_vx_ref, rx_ix_ref, rx_ld_0, rx_ld_2, rx_ld_3, rx_cx_some, rx_nl, List.getElem?_cons_zero, List.getElem?_cons_succ, List.set_cons_zero, List.set_cons_succ, List.length_cons, List.length_nil, List.take_succ_cons, List.take_zero, List.drop_succ_cons, List.drop_zero, List.reverse_cons, List.reverse_nil, List.nil_append, List.cons_append, Option.toList_some, Option.toList_none, true_and, and_true, and_self, true_or, or_true, false_and, and_false, false_or, or_false, not_false_eq_true, Nat.reduceAdd, Nat.reduceLT, Nat.reduceLeDiff, Nat.reduceBEq, Nat.reduceEqDiff, Bool.or_false, Bool.false_or, if_true, if_false, Bool.false_eq_true, nq_eq, nq_lt, nq_le, nq_in_t, nq_bd, nq_ft, nq_clamp, nq_shl31, nq_shr31, nq_bitb, nq_add, nq_mul, fa_and, fa_or, nq_b0, nq_b1, nq_b01, ↓ni_lt_t, ↓ni_lt_f, ↓ni_le_t, ↓ni_le_f, ↓ni_eq_t, ↓ni_eq_f, ↓ni_beq_t, ↓ni_beq_f, it_X6_readByte]
      exact rbP_l y1 y2 y3 g1 g2
    · subst g2
      simp (disch := first | decide | omega) only [rx_W, rx_wp_succ, rx_nx_stop, rx_nx_go, rx_lx_some, rx_fx_some, rx_ax_some, rx_qx_some, rx_ox_some, rx_vx_ref, rx_ix_ref, rx_ld_0, rx_ld_2, rx_ld_3, rx_cx_some, rx_nl, List.getElem?_cons_zero, List.getElem?_cons_succ, List.set_cons_zero, List.set_cons_succ, List.length_cons, List.length_nil, List.take_succ_cons, List.take_zero, List.drop_succ_cons, List.drop_zero, List.reverse_cons, List.reverse_nil, List.nil_append, List.cons_append, Option.toList_some, Option.toList_none, true_and, and_true, and_self, true_or, or_true, false_and, and_false, false_or, or_false, not_false_eq_true, Nat.reduceAdd, Nat.reduceLT, Nat.reduceLeDiff, Nat.reduceBEq, Nat.reduceEqDiff, Bool.or_false, Bool.false_or, if_true, if_false, Bool.false_eq_true, nq_eq, nq_lt, nq_le, nq_in_t, nq_bd, nq_ft, nq_clamp, nq_shl31, nq_shr31, nq_bitb, nq_add, nq_mul, fa_and, fa_or, nq_b0, nq_b1, nq_b01, ↓ni_lt_t, ↓ni_lt_f, ↓ni_le_t, ↓ni_le_f, ↓ni_eq_t, ↓ni_eq_f, ↓ni_beq_t, ↓ni_beq_f, it_X6_readByte]
      exact rbP_r y1 g1 g3
  · -- by
    rw [if_neg (by omega), if_pos rfl]
    apply en_X6_readByte _ _ _ 60 []
    simp (disch := first | decide | omega) only [rx_W, rx_wp_succ, rx_nx_stop, rx_nx_go, rx_lx_some, rx_fx_some, rx_ax_some, rx_qx_some, rx_ox_some, rx_vx_ref, rx_ix_ref, rx_ld_0, rx_ld_2, rx_ld_3, rx_cx_some, rx_nl, List.getElem?_cons_zero, List.getElem?_cons_succ, List.set_cons_zero, List.set_cons_succ, List.length_cons, List.length_nil, List.take_succ_cons, List.take_zero, List.drop_succ_cons, List.drop_zero, List.reverse_cons, List.reverse_nil, List.nil_append, List.cons_append, Option.toList_some, Option.toList_none, true_and, and_true, and_self, true_or, or_true, false_and, and_false, false_or, or_false, not_false_eq_true, Nat.reduceAdd, Nat.reduceLT, Nat.reduceLeDiff, Nat.reduceBEq, Nat.reduceEqDiff, Bool.or_false, Bool.false_or, if_true, if_false, Bool.false_eq_true, nq_eq, nq_lt, nq_le, nq_in_t, nq_bd, nq_ft, nq_clamp, nq_shl31, nq_shr31, nq_bitb, nq_add, nq_mul, fa_and, fa_or, nq_b0, nq_b1, nq_b01, ↓ni_lt_t, ↓ni_lt_f, ↓ni_le_t, ↓ni_le_f, ↓ni_eq_t, ↓ni_eq_f, ↓ni_beq_t, ↓ni_beq_f, it_X6_readByte, h1, txO, h3, hf, c_X6_kindOf ht, show rx_sw 11 57 0 2 #[25, 36, 46] (nI 1) = 47 by decide]
    cases ck : kdB (t i) with
    | false =>
      have rb : rx_Cl 66 [.ref 46, .int (nI i), .int (-1)] h (fun r h' => r = some (.int (nI i)) ∧ h' = h) := by
        apply en_X6_readBy _ _ _ 60 []
        simp (disch := first | decide | omega) only [rx_W, rx_wp_succ, rx_nx_stop, rx_nx_go, rx_lx_some, rx_fx_some, rx_ax_some, rx_qx_some, rx_ox_some, rx_vx_ref, rx_ix_ref, rx_ld_0, rx_ld_2, rx_ld_3, rx_cx_some, rx_nl, List.getElem?_cons_zero, List.getElem?_cons_succ, List.set_cons_zero, List.set_cons_succ, List.length_cons, List.length_nil, List.take_succ_cons, List.take_zero, List.drop_succ_cons, List.drop_zero, List.reverse_cons, List.reverse_nil, List.nil_append, List.cons_append, Option.toList_some, Option.toList_none, true_and, and_true, and_self, true_or, or_true, false_and, and_false, false_or, or_false, not_false_eq_true, Nat.reduceAdd, Nat.reduceLT, Nat.reduceLeDiff, Nat.reduceBEq, Nat.reduceEqDiff, Bool.or_false, Bool.false_or, if_true, if_false, Bool.false_eq_true, nq_eq, nq_lt, nq_le, nq_in_t, nq_bd, nq_ft, nq_clamp, nq_shl31, nq_shr31, nq_bitb, nq_add, nq_mul, fa_and, fa_or, nq_b0, nq_b1, nq_b01, ↓ni_lt_t, ↓ni_lt_f, ↓ni_le_t, ↓ni_le_f, ↓ni_eq_t, ↓ni_eq_f, ↓ni_beq_t, ↓ni_beq_f, it_X6_readBy]
      rw [if_neg (by simp)]
      refine rx_Cl_imp rb (fun r h' ⟨e1, e2⟩ => ?_)
      subst e1
      subst e2
      simp (disch := first | decide | omega) only [rx_W, rx_wp_succ, rx_nx_stop, rx_nx_go, rx_lx_some, rx_fx_some, rx_ax_some, rx_qx_some, rx_ox_some, rx_vx_ref, rx_ix_ref, rx_ld_0, rx_ld_2, rx_ld_3, rx_cx_some, rx_nl, List.getElem?_cons_zero, List.getElem?_cons_succ, List.set_cons_zero, List.set_cons_succ, List.length_cons, List.length_nil, List.take_succ_cons, List.take_zero, List.drop_succ_cons, List.drop_zero, List.reverse_cons, List.reverse_nil, List.nil_append, List.cons_append, Option.toList_some, Option.toList_none, true_and, and_true, and_self, true_or, or_true, false_and, and_false, false_or, or_false, not_false_eq_true, Nat.reduceAdd, Nat.reduceLT, Nat.reduceLeDiff, Nat.reduceBEq, Nat.reduceEqDiff, Bool.or_false, Bool.false_or, if_true, if_false, Bool.false_eq_true, nq_eq, nq_lt, nq_le, nq_in_t, nq_bd, nq_ft, nq_clamp, nq_shl31, nq_shr31, nq_bitb, nq_add, nq_mul, fa_and, fa_or, nq_b0, nq_b1, nq_b01, ↓ni_lt_t, ↓ni_lt_f, ↓ni_le_t, ↓ni_le_f, ↓ni_eq_t, ↓ni_eq_f, ↓ni_beq_t, ↓ni_beq_f, it_X6_readByte]
      exact rbP_l (same 0).1 (same 0).2.1 (same 0).2.2 (by omega) rfl
    | true =>
      have kl := kd_lt ck
      have kn : ¬ nI (kdF (t i)) = -1 := nI_ne1 (by omega)
      rw [if_pos rfl]
      have rb : rx_Cl 66 [.ref 46, .int (nI i), .int (nI (kdF (t i)))] h (fun r h' => r = some (.int (-1)) ∧ Fr h h' [46] ∧ rx_rd h' 46 = some (txO (nI L) wl (nI 2) fb fr (nI (kdF (t i))))) := by
        apply en_X6_readBy _ _ _ 60 []
        simp (disch := first | decide | omega) only [rx_W, rx_wp_succ, rx_nx_stop, rx_nx_go, rx_lx_some, rx_fx_some, rx_ax_some, rx_qx_some, rx_ox_some, rx_vx_ref, rx_ix_ref, rx_ld_0, rx_ld_2, rx_ld_3, rx_cx_some, rx_nl, List.getElem?_cons_zero, List.getElem?_cons_succ, List.set_cons_zero, List.set_cons_succ, List.length_cons, List.length_nil, List.take_succ_cons, List.take_zero, List.drop_succ_cons, List.drop_zero, List.reverse_cons, List.reverse_nil, List.nil_append, List.cons_append, Option.toList_some, Option.toList_none, true_and, and_true, and_self, true_or, or_true, false_and, and_false, false_or, or_false, not_false_eq_true, Nat.reduceAdd, Nat.reduceLT, Nat.reduceLeDiff, Nat.reduceBEq, Nat.reduceEqDiff, Bool.or_false, Bool.false_or, if_true, if_false, Bool.false_eq_true, nq_eq, nq_lt, nq_le, nq_in_t, nq_bd, nq_ft, nq_clamp, nq_shl31, nq_shr31, nq_bitb, nq_add, nq_mul, fa_and, fa_or, nq_b0, nq_b1, nq_b01, ↓ni_lt_t, ↓ni_lt_f, ↓ni_le_t, ↓ni_le_f, ↓ni_eq_t, ↓ni_eq_f, ↓ni_beq_t, ↓ni_beq_f, it_X6_readBy, kn, h1, txO, rd_eq, rx_ft]
        exact Fr_up (Fr_up (Fr_rfl _ _) (by simp)) (by simp)
      refine rx_Cl_imp rb (fun r h' ⟨e1, e2, e3⟩ => ?_)
      subst e1
      simp (disch := first | decide | omega) only [rx_W, rx_wp_succ, rx_nx_stop, rx_nx_go, rx_lx_some, rx_fx_some, rx_ax_some, rx_qx_some, rx_ox_some, rx_vx_ref, rx_ix_ref, rx_ld_0, rx_ld_2, rx_ld_3, rx_cx_some, rx_nl, List.getElem?_cons_zero, List.getElem?_cons_succ, List.set_cons_zero, List.set_cons_succ, List.length_cons, List.length_nil, List.take_succ_cons, List.take_zero, List.drop_succ_cons, List.drop_zero, List.reverse_cons, List.reverse_nil, List.nil_append, List.cons_append, Option.toList_some, Option.toList_none, true_and, and_true, and_self, true_or, or_true, false_and, and_false, false_or, or_false, not_false_eq_true, Nat.reduceAdd, Nat.reduceLT, Nat.reduceLeDiff, Nat.reduceBEq, Nat.reduceEqDiff, Bool.or_false, Bool.false_or, if_true, if_false, Bool.false_eq_true, nq_eq, nq_lt, nq_le, nq_in_t, nq_bd, nq_ft, nq_clamp, nq_shl31, nq_shr31, nq_bitb, nq_add, nq_mul, fa_and, fa_or, nq_b0, nq_b1, nq_b01, ↓ni_lt_t, ↓ni_lt_f, ↓ni_le_t, ↓ni_le_f, ↓ni_eq_t, ↓ni_eq_f, ↓ni_beq_t, ↓ni_beq_f, it_X6_readByte]
      have hp' := pW_fr e2 (by simp) (by simp) hp
      exact rbP_r (Fr_sub e2 (by simp)) rfl ⟨wl, fb, fr, _, e3, fun _ => r1 (by omega), fun _ => rfl, hp'⟩
  · -- to
    obtain ⟨rfr, rfb⟩ := r1 (by omega)
    have rb2 := r2 (by omega)
    subst rfr
    subst rfb
    subst rb2
    have i21 := i2 (by omega)
    have i31 := i3 (by omega)
    have w8 := wfP_256 i4 (fr0 * 5 + b0) (by omega)
    rw [if_neg (by omega), if_neg (by omega), if_pos rfl]
    have rt : rx_Cl 67 [.ref 46, .int (nI i), .int (nI (t i) - nI 48), .ref 64] h (rbP h L n (if 48 ≤ t i ∧ t i < 48 + n then (if (W (fr0 * 5 + b0)).testBit (t i - 48) = true then (.inl fb0 : Nat ⊕ Ms) else .inr (true, 3, fr0, b0, fb0, va_up W (fr0 * 5 + b0) (W (fr0 * 5 + b0) ||| 2 ^ (t i - 48)))) else .inl i)) := by
      apply en_X6_readTo _ _ _ _ 60 []
      by_cases c1 : 48 ≤ t i
      · rw [su c1]
        by_cases c2 : t i < 48 + n
        · rw [if_pos ⟨c1, c2⟩]
          cases c3 : (W (fr0 * 5 + b0)).testBit (t i - 48) with
          | true =>
            rw [if_pos rfl]
            simp (disch := first | decide | omega) only [rx_W, rx_wp_succ, rx_nx_stop, rx_nx_go, rx_lx_some, rx_fx_some, rx_ax_some, rx_qx_some, rx_ox_some, rx_vx_ref, rx_ix_ref, rx_ld_0, rx_ld_2, rx_ld_3, rx_cx_some, rx_nl, List.getElem?_cons_zero, List.getElem?_cons_succ, List.set_cons_zero, List.set_cons_succ, List.length_cons, List.length_nil, List.take_succ_cons, List.take_zero, List.drop_succ_cons, List.drop_zero, List.reverse_cons, List.reverse_nil, List.nil_append, List.cons_append, Option.toList_some, Option.toList_none, true_and, and_true, and_self, true_or, or_true, false_and, and_false, false_or, or_false, not_false_eq_true, Nat.reduceAdd, Nat.reduceLT, Nat.reduceLeDiff, Nat.reduceBEq, Nat.reduceEqDiff, Bool.or_false, Bool.false_or, if_true, if_false, Bool.false_eq_true, nq_eq, nq_lt, nq_le, nq_in_t, nq_bd, nq_ft, nq_clamp, nq_shl31, nq_shr31, nq_bitb, nq_add, nq_mul, fa_and, fa_or, nq_b0, nq_b1, nq_b01, ↓ni_lt_t, ↓ni_lt_f, ↓ni_le_t, ↓ni_le_f, ↓ni_eq_t, ↓ni_eq_f, ↓ni_beq_t, ↓ni_beq_f, it_X6_readTo, hp.1, hp.2.2, h1, txO, q_X4_stands hp, c3]
            exact rbP_l (same 0).1 (same 0).2.1 (same 0).2.2 (by omega) rfl
          | false =>
            rw [if_neg (by simp)]
            simp (disch := first | decide | omega) only [rx_W, rx_wp_succ, rx_nx_stop, rx_nx_go, rx_lx_some, rx_fx_some, rx_ax_some, rx_qx_some, rx_ox_some, rx_vx_ref, rx_ix_ref, rx_ld_0, rx_ld_2, rx_ld_3, rx_cx_some, rx_nl, List.getElem?_cons_zero, List.getElem?_cons_succ, List.set_cons_zero, List.set_cons_succ, List.length_cons, List.length_nil, List.take_succ_cons, List.take_zero, List.drop_succ_cons, List.drop_zero, List.reverse_cons, List.reverse_nil, List.nil_append, List.cons_append, Option.toList_some, Option.toList_none, true_and, and_true, and_self, true_or, or_true, false_and, and_false, false_or, or_false, not_false_eq_true, Nat.reduceAdd, Nat.reduceLT, Nat.reduceLeDiff, Nat.reduceBEq, Nat.reduceEqDiff, Bool.or_false, Bool.false_or, if_true, if_false, Bool.false_eq_true, nq_eq, nq_lt, nq_le, nq_in_t, nq_bd, nq_ft, nq_clamp, nq_shl31, nq_shr31, nq_bitb, nq_add, nq_mul, fa_and, fa_or, nq_b0, nq_b1, nq_b01, ↓ni_lt_t, ↓ni_lt_f, ↓ni_le_t, ↓ni_le_f, ↓ni_eq_t, ↓ni_eq_f, ↓ni_beq_t, ↓ni_beq_f, it_X6_readTo, hp.1, hp.2.2, h1, txO, q_X4_stands hp, c3]
            refine rx_Cl_imp (c_X4_put hp (by omega) w8 (by omega)) (fun r h2 ⟨e2, y1, y2⟩ => ?_)
            subst e2
            have h1' := rd_fr y1 (by simp) h1
            simp (disch := first | decide | omega) only [rx_W, rx_wp_succ, rx_nx_stop, rx_nx_go, rx_lx_some, rx_fx_some, rx_ax_some, rx_qx_some, rx_ox_some, rx_vx_ref, rx_ix_ref, rx_ld_0, rx_ld_2, rx_ld_3, rx_cx_some, rx_nl, List.getElem?_cons_zero, List.getElem?_cons_succ, List.set_cons_zero, List.set_cons_succ, List.length_cons, List.length_nil, List.take_succ_cons, List.take_zero, List.drop_succ_cons, List.drop_zero, List.reverse_cons, List.reverse_nil, List.nil_append, List.cons_append, Option.toList_some, Option.toList_none, true_and, and_true, and_self, true_or, or_true, false_and, and_false, false_or, or_false, not_false_eq_true, Nat.reduceAdd, Nat.reduceLT, Nat.reduceLeDiff, Nat.reduceBEq, Nat.reduceEqDiff, Bool.or_false, Bool.false_or, if_true, if_false, Bool.false_eq_true, nq_eq, nq_lt, nq_le, nq_in_t, nq_bd, nq_ft, nq_clamp, nq_shl31, nq_shr31, nq_bitb, nq_add, nq_mul, fa_and, fa_or, nq_b0, nq_b1, nq_b01, ↓ni_lt_t, ↓ni_lt_f, ↓ni_le_t, ↓ni_le_f, ↓ni_eq_t, ↓ni_eq_f, ↓ni_beq_t, ↓ni_beq_f, it_X6_readTo, h1', txO, rx_ft]
            have f1 : ∀ a1, Fr h2 (rx_up h2 46 a1) [46] := fun _ => Fr_up (Fr_rfl _ _) (by simp)
            have hp' := fun a1 => pW_fr (f1 a1) (by simp) (by simp) y2
            exact rbP_r (Fr_trans (Fr_sub y1 (by simp)) (f1 _) (fun _ z => z) (by simp)) rfl ⟨wl, _, _, _, rd_eq _ _ _, fun _ => ⟨rfl, rfl⟩, fun _ => rfl, hp' _⟩
        · rw [if_neg (fun z => c2 z.2)]
          simp (disch := first | decide | omega) only [rx_W, rx_wp_succ, rx_nx_stop, rx_nx_go, rx_lx_some, rx_fx_some, rx_ax_some, rx_qx_some, rx_ox_some, rx_vx_ref, rx_ix_ref, rx_ld_0, rx_ld_2, rx_ld_3, rx_cx_some, rx_nl, List.getElem?_cons_zero, List.getElem?_cons_succ, List.set_cons_zero, List.set_cons_succ, List.length_cons, List.length_nil, List.take_succ_cons, List.take_zero, List.drop_succ_cons, List.drop_zero, List.reverse_cons, List.reverse_nil, List.nil_append, List.cons_append, Option.toList_some, Option.toList_none, true_and, and_true, and_self, true_or, or_true, false_and, and_false, false_or, or_false, not_false_eq_true, Nat.reduceAdd, Nat.reduceLT, Nat.reduceLeDiff, Nat.reduceBEq, Nat.reduceEqDiff, Bool.or_false, Bool.false_or, if_true, if_false, Bool.false_eq_true, nq_eq, nq_lt, nq_le, nq_in_t, nq_bd, nq_ft, nq_clamp, nq_shl31, nq_shr31, nq_bitb, nq_add, nq_mul, fa_and, fa_or, nq_b0, nq_b1, nq_b01, ↓ni_lt_t, ↓ni_lt_f, ↓ni_le_t, ↓ni_le_f, ↓ni_eq_t, ↓ni_eq_f, ↓ni_beq_t, ↓ni_beq_f, it_X6_readTo, hp.1, hp.2.2]
          exact rbP_l (same 0).1 (same 0).2.1 (same 0).2.2 (by omega) rfl
      · have c4 := sb48n (t i) (by omega)
        rw [if_neg (fun z => c1 z.1)]
        simp (disch := first | decide | omega) only [rx_W, rx_wp_succ, rx_nx_stop, rx_nx_go, rx_lx_some, rx_fx_some, rx_ax_some, rx_qx_some, rx_ox_some, rx_vx_ref, rx_ix_ref, rx_ld_0, rx_ld_2, rx_ld_3, rx_cx_some, rx_nl, List.getElem?_cons_zero, List.getElem?_cons_succ, List.set_cons_zero, List.set_cons_succ, List.length_cons, List.length_nil, List.take_succ_cons, List.take_zero, List.drop_succ_cons, List.drop_zero, List.reverse_cons, List.reverse_nil, List.nil_append, List.cons_append, Option.toList_some, Option.toList_none, true_and, and_true, and_self, true_or, or_true, false_and, and_false, false_or, or_false, not_false_eq_true, Nat.reduceAdd, Nat.reduceLT, Nat.reduceLeDiff, Nat.reduceBEq, Nat.reduceEqDiff, Bool.or_false, Bool.false_or, if_true, if_false, Bool.false_eq_true, nq_eq, nq_lt, nq_le, nq_in_t, nq_bd, nq_ft, nq_clamp, nq_shl31, nq_shr31, nq_bitb, nq_add, nq_mul, fa_and, fa_or, nq_b0, nq_b1, nq_b01, ↓ni_lt_t, ↓ni_lt_f, ↓ni_le_t, ↓ni_le_f, ↓ni_eq_t, ↓ni_eq_f, ↓ni_beq_t, ↓ni_beq_f, it_X6_readTo, hp.1, hp.2.2, c4]
        exact rbP_l (same 0).1 (same 0).2.1 (same 0).2.2 (by omega) rfl
    apply en_X6_readByte _ _ _ 60 []
    simp (disch := first | decide | omega) only [rx_W, rx_wp_succ, rx_nx_stop, rx_nx_go, rx_lx_some, rx_fx_some, rx_ax_some, rx_qx_some, rx_ox_some, rx_vx_ref, rx_ix_ref, rx_ld_0, rx_ld_2, rx_ld_3, rx_cx_some, rx_nl, List.getElem?_cons_zero, List.getElem?_cons_succ, List.set_cons_zero, List.set_cons_succ, List.length_cons, List.length_nil, List.take_succ_cons, List.take_zero, List.drop_succ_cons, List.drop_zero, List.reverse_cons, List.reverse_nil, List.nil_append, List.cons_append, Option.toList_some, Option.toList_none, true_and, and_true, and_self, true_or, or_true, false_and, and_false, false_or, or_false, not_false_eq_true, Nat.reduceAdd, Nat.reduceLT, Nat.reduceLeDiff, Nat.reduceBEq, Nat.reduceEqDiff, Bool.or_false, Bool.false_or, if_true, if_false, Bool.false_eq_true, nq_eq, nq_lt, nq_le, nq_in_t, nq_bd, nq_ft, nq_clamp, nq_shl31, nq_shr31, nq_bitb, nq_add, nq_mul, fa_and, fa_or, nq_b0, nq_b1, nq_b01, ↓ni_lt_t, ↓ni_lt_f, ↓ni_le_t, ↓ni_le_f, ↓ni_eq_t, ↓ni_eq_f, ↓ni_beq_t, ↓ni_beq_f, it_X6_readByte, h1, txO, h3, hf, show rx_sw 11 57 0 2 #[25, 36, 46] (nI 2) = 57 by decide]
    refine rx_Cl_imp rt (fun r h' y => ?_)
    obtain ⟨y1, y2, y3, y4⟩ := y
    rcases y4 with ⟨g, g1, g2, g3⟩ | ⟨σ', g1, g2, g3⟩
    · subst g3
      simp (disch := first | decide | omega) only [rx_W, rx_wp_succ, rx_nx_stop, rx_nx_go, rx_lx_some, rx_fx_some, rx_ax_some, rx_qx_some, rx_ox_some, rx_vx_ref, rx_ix_ref, rx_ld_0, rx_ld_2, rx_ld_3, rx_cx_some, rx_nl, List.getElem?_cons_zero, List.getElem?_cons_succ, List.set_cons_zero, List.set_cons_succ, List.length_cons, List.length_nil, List.take_succ_cons, List.take_zero, List.drop_succ_cons, List.drop_zero, List.reverse_cons, List.reverse_nil, List.nil_append, List.cons_append, Option.toList_some, Option.toList_none, true_and, and_true, and_self, true_or, or_true, false_and, and_false, false_or, or_false, not_false_eq_true, Nat.reduceAdd, Nat.reduceLT, Nat.reduceLeDiff, Nat.reduceBEq, Nat.reduceEqDiff, Bool.or_false, Bool.false_or, if_true, if_false, Bool.false_eq_true, nq_eq, nq_lt, nq_le, nq_in_t, nq_bd, nq_ft, nq_clamp, nq_shl31, nq_shr31, nq_bitb, nq_add, nq_mul, fa_and, fa_or, nq_b0, nq_b1, nq_b01, ↓ni_lt_t, ↓ni_lt_f, ↓ni_le_t, ↓ni_le_f, ↓ni_eq_t, ↓ni_eq_f, ↓ni_beq_t, ↓ni_beq_f, it_X6_readByte]
      exact rbP_l y1 y2 y3 g1 g2
    · subst g2
      simp (disch := first | decide | omega) only [rx_W, rx_wp_succ, rx_nx_stop, rx_nx_go, rx_lx_some, rx_fx_some, rx_ax_some, rx_qx_some, rx_ox_some, rx_vx_ref, rx_ix_ref, rx_ld_0, rx_ld_2, rx_ld_3, rx_cx_some, rx_nl, List.getElem?_cons_zero, List.getElem?_cons_succ, List.set_cons_zero, List.set_cons_succ, List.length_cons, List.length_nil, List.take_succ_cons, List.take_zero, List.drop_succ_cons, List.drop_zero, List.reverse_cons, List.reverse_nil, List.nil_append, List.cons_append, Option.toList_some, Option.toList_none, true_and, and_true, and_self, true_or, or_true, false_and, and_false, false_or, or_false, not_false_eq_true, Nat.reduceAdd, Nat.reduceLT, Nat.reduceLeDiff, Nat.reduceBEq, Nat.reduceEqDiff, Bool.or_false, Bool.false_or, if_true, if_false, Bool.false_eq_true, nq_eq, nq_lt, nq_le, nq_in_t, nq_bd, nq_ft, nq_clamp, nq_shl31, nq_shr31, nq_bitb, nq_add, nq_mul, fa_and, fa_or, nq_b0, nq_b1, nq_b01, ↓ni_lt_t, ↓ni_lt_f, ↓ni_le_t, ↓ni_le_f, ↓ni_eq_t, ↓ni_eq_f, ↓ni_beq_t, ↓ni_beq_f, it_X6_readByte]
      exact rbP_r y1 g1 g3
  · -- end
    rw [if_neg (by omega), if_neg (by omega), if_neg (by omega)]
    have f1 : ∀ a1, Fr h (rx_up h 46 a1) [46] := fun _ => Fr_up (Fr_rfl _ _) (by simp)
    have hp' := fun a1 => pW_fr (f1 a1) (by simp) (by simp) hp
    apply en_X6_readByte _ _ _ 60 []
    by_cases c : t i = 59
    · rw [if_pos c]
      simp (disch := first | decide | omega) only [rx_W, rx_wp_succ, rx_nx_stop, rx_nx_go, rx_lx_some, rx_fx_some, rx_ax_some, rx_qx_some, rx_ox_some, rx_vx_ref, rx_ix_ref, rx_ld_0, rx_ld_2, rx_ld_3, rx_cx_some, rx_nl, List.getElem?_cons_zero, List.getElem?_cons_succ, List.set_cons_zero, List.set_cons_succ, List.length_cons, List.length_nil, List.take_succ_cons, List.take_zero, List.drop_succ_cons, List.drop_zero, List.reverse_cons, List.reverse_nil, List.nil_append, List.cons_append, Option.toList_some, Option.toList_none, true_and, and_true, and_self, true_or, or_true, false_and, and_false, false_or, or_false, not_false_eq_true, Nat.reduceAdd, Nat.reduceLT, Nat.reduceLeDiff, Nat.reduceBEq, Nat.reduceEqDiff, Bool.or_false, Bool.false_or, if_true, if_false, Bool.false_eq_true, nq_eq, nq_lt, nq_le, nq_in_t, nq_bd, nq_ft, nq_clamp, nq_shl31, nq_shr31, nq_bitb, nq_add, nq_mul, fa_and, fa_or, nq_b0, nq_b1, nq_b01, ↓ni_lt_t, ↓ni_lt_f, ↓ni_le_t, ↓ni_le_f, ↓ni_eq_t, ↓ni_eq_f, ↓ni_beq_t, ↓ni_beq_f, it_X6_readByte, h1, txO, h3, hf, show rx_sw 11 57 0 2 #[25, 36, 46] (nI 3) = 68 by decide, rx_ft, c]
      exact rbP_r (Fr_sub (f1 _) (by simp)) rfl ⟨wl, _, _, _, rd_eq _ _ _, fun (z : 1 ≤ 0) => by omega, fun (z : 2 ≤ 0) => by omega, hp' _⟩
    · rw [if_neg c]
      simp (disch := first | decide | omega) only [rx_W, rx_wp_succ, rx_nx_stop, rx_nx_go, rx_lx_some, rx_fx_some, rx_ax_some, rx_qx_some, rx_ox_some, rx_vx_ref, rx_ix_ref, rx_ld_0, rx_ld_2, rx_ld_3, rx_cx_some, rx_nl, List.getElem?_cons_zero, List.getElem?_cons_succ, List.set_cons_zero, List.set_cons_succ, List.length_cons, List.length_nil, List.take_succ_cons, List.take_zero, List.drop_succ_cons, List.drop_zero, List.reverse_cons, List.reverse_nil, List.nil_append, List.cons_append, Option.toList_some, Option.toList_none, true_and, and_true, and_self, true_or, or_true, false_and, and_false, false_or, or_false, not_false_eq_true, Nat.reduceAdd, Nat.reduceLT, Nat.reduceLeDiff, Nat.reduceBEq, Nat.reduceEqDiff, Bool.or_false, Bool.false_or, if_true, if_false, Bool.false_eq_true, nq_eq, nq_lt, nq_le, nq_in_t, nq_bd, nq_ft, nq_clamp, nq_shl31, nq_shr31, nq_bitb, nq_add, nq_mul, fa_and, fa_or, nq_b0, nq_b1, nq_b01, ↓ni_lt_t, ↓ni_lt_f, ↓ni_le_t, ↓ni_le_f, ↓ni_eq_t, ↓ni_eq_f, ↓ni_beq_t, ↓ni_beq_f, it_X6_readByte, h1, txO, h3, hf, show rx_sw 11 57 0 2 #[25, 36, 46] (nI 3) = 68 by decide, rx_ft, c]
      exact rbP_l (Fr_sub (f1 _) (by simp)) ⟨_, _, _, _, _, rd_eq _ _ _⟩ ⟨_, _, hp' _⟩ (by omega) rfl
end RB
section RM
variable {h0 : rx_H} {L n : Nat} {t W : Nat → Nat}
theorem l_X6_rm {f : Nat → Int32} (hL : L ≤ 100) (ht : ∀ i, i < L → t i < 128) (hW : wfP n W) (h3 : rx_rd h0 48 = some (.inl (1, 100, .inl f))) (hf3 : ∀ i, i < L → f i = nI (t i)) (Q : Option Value → rx_H → Prop)
    (hq1 : ∀ h W', Fr h0 h tB → (∃ wl st fb fr b, rx_rd h 46 = some (txO (nI L) wl st fb fr b)) → pW h 64 n W' → mres t n W L = .inr W' → Q (some (.int (-1))) h)
    (hq2 : ∀ h g, Fr h0 h tB → (∃ wl st fb fr b, rx_rd h 46 = some (txO (nI L) wl st fb fr b)) → (∃ n w, pW h 64 n w) → g ≤ L → mres t n W L = .inl g → Q (some (.int (nI g))) h) :
    ∀ j i h σ x, i + j = L → Fr h0 h tB → rmR h L n σ → mrd t n W i = .inr σ → rx_R 62 9 [.ref 46, .ref 64, .int (nI σ.1.toNat), .int (nI i), x] [] h Q
  | 0, i, h, σ, x, e, hf, hr, hm => by
    have e' : i = L := by omega
    subst e'
    have hI := msI_mrd hW i σ hm
    obtain ⟨any, st, fr0, b0, fb0, W1⟩ := σ
    obtain ⟨wl, fb, fr, b, h1, -, -, hp⟩ := hr
    have i1 := hI.1
    dsimp only at h1 hp i1
    have em : mres t n W i = if any = true ∧ st = 0 then .inr W1 else .inl i := by
      unfold mres
      rw [hm]
    cases any with
    | false =>
      rw [if_neg (fun z => by cases z.1)] at em
      apply rx_wp_sound 60 [9]
      simp (disch := first | decide | omega) only [rx_W, rx_wp_succ, rx_nx_stop, rx_nx_go, rx_lx_some, rx_fx_some, rx_ax_some, rx_qx_some, rx_ox_some, rx_vx_ref, rx_ix_ref, rx_ld_0, rx_ld_2, rx_ld_3, rx_cx_some, rx_nl, List.getElem?_cons_zero, List.getElem?_cons_succ, List.set_cons_zero, List.set_cons_succ, List.length_cons, List.length_nil, List.take_succ_cons, List.take_zero, List.drop_succ_cons, List.drop_zero, List.reverse_cons, List.reverse_nil, List.nil_append, List.cons_append, Option.toList_some, Option.toList_none, true_and, and_true, and_self, true_or, or_true, false_and, and_false, false_or, or_false, not_false_eq_true, Nat.reduceAdd, Nat.reduceLT, Nat.reduceLeDiff, Nat.reduceBEq, Nat.reduceEqDiff, Bool.or_false, Bool.false_or, if_true, if_false, Bool.false_eq_true, nq_eq, nq_lt, nq_le, nq_in_t, nq_bd, nq_ft, nq_clamp, nq_shl31, nq_shr31, nq_bitb, nq_add, nq_mul, fa_and, fa_or, nq_b0, nq_b1, nq_b01, ↓ni_lt_t, ↓ni_lt_f, ↓ni_le_t, ↓ni_le_f, ↓ni_eq_t, ↓ni_eq_f, ↓ni_beq_t, ↓ni_beq_f, it_X6_readMoves, h1, txO, Bool.toNat_false]
      exact hq2 h i hf ⟨_, _, _, _, _, h1⟩ ⟨_, _, hp⟩ (by omega) em
    | true =>
      by_cases c : st = 0
      · rw [if_pos ⟨rfl, c⟩] at em
        apply rx_wp_sound 60 [9]
        simp (disch := first | decide | omega) only [rx_W, rx_wp_succ, rx_nx_stop, rx_nx_go, rx_lx_some, rx_fx_some, rx_ax_some, rx_qx_some, rx_ox_some, rx_vx_ref, rx_ix_ref, rx_ld_0, rx_ld_2, rx_ld_3, rx_cx_some, rx_nl, List.getElem?_cons_zero, List.getElem?_cons_succ, List.set_cons_zero, List.set_cons_succ, List.length_cons, List.length_nil, List.take_succ_cons, List.take_zero, List.drop_succ_cons, List.drop_zero, List.reverse_cons, List.reverse_nil, List.nil_append, List.cons_append, Option.toList_some, Option.toList_none, true_and, and_true, and_self, true_or, or_true, false_and, and_false, false_or, or_false, not_false_eq_true, Nat.reduceAdd, Nat.reduceLT, Nat.reduceLeDiff, Nat.reduceBEq, Nat.reduceEqDiff, Bool.or_false, Bool.false_or, if_true, if_false, Bool.false_eq_true, nq_eq, nq_lt, nq_le, nq_in_t, nq_bd, nq_ft, nq_clamp, nq_shl31, nq_shr31, nq_bitb, nq_add, nq_mul, fa_and, fa_or, nq_b0, nq_b1, nq_b01, ↓ni_lt_t, ↓ni_lt_f, ↓ni_le_t, ↓ni_le_f, ↓ni_eq_t, ↓ni_eq_f, ↓ni_beq_t, ↓ni_beq_f, it_X6_readMoves, h1, txO, Bool.toNat_true, c]
        exact hq1 h W1 hf ⟨_, _, _, _, _, h1⟩ hp em
      · rw [if_neg (fun z => c z.2)] at em
        apply rx_wp_sound 60 [9]
        simp (disch := first | decide | omega) only [rx_W, rx_wp_succ, rx_nx_stop, rx_nx_go, rx_lx_some, rx_fx_some, rx_ax_some, rx_qx_some, rx_ox_some, rx_vx_ref, rx_ix_ref, rx_ld_0, rx_ld_2, rx_ld_3, rx_cx_some, rx_nl, List.getElem?_cons_zero, List.getElem?_cons_succ, List.set_cons_zero, List.set_cons_succ, List.length_cons, List.length_nil, List.take_succ_cons, List.take_zero, List.drop_succ_cons, List.drop_zero, List.reverse_cons, List.reverse_nil, List.nil_append, List.cons_append, Option.toList_some, Option.toList_none, true_and, and_true, and_self, true_or, or_true, false_and, and_false, false_or, or_false, not_false_eq_true, Nat.reduceAdd, Nat.reduceLT, Nat.reduceLeDiff, Nat.reduceBEq, Nat.reduceEqDiff, Bool.or_false, Bool.false_or, if_true, if_false, Bool.false_eq_true, nq_eq, nq_lt, nq_le, nq_in_t, nq_bd, nq_ft, nq_clamp, nq_shl31, nq_shr31, nq_bitb, nq_add, nq_mul, fa_and, fa_or, nq_b0, nq_b1, nq_b01, ↓ni_lt_t, ↓ni_lt_f, ↓ni_le_t, ↓ni_le_f, ↓ni_eq_t, ↓ni_eq_f, ↓ni_beq_t, ↓ni_beq_f, it_X6_readMoves, h1, txO, Bool.toNat_true, c]
        exact hq2 h i hf ⟨_, _, _, _, _, h1⟩ ⟨_, _, hp⟩ (by omega) em
  | j + 1, i, h, σ, x, e, hf, hr, hm => by
    have hI := msI_mrd hW i σ hm
    have h3' := rd_fr hf (by simp) h3
    have f4 := hf3 i (by omega)
    have tl := ht i (by omega)
    have ms := mrd_succ hm
    have hr' := hr
    obtain ⟨wl, fb, fr, b, h1, -, -, hp⟩ := hr'
    by_cases c : t i = 32
    · rw [if_pos c] at ms
      apply rx_wp_sound 60 [9]
      simp (disch := first | decide | omega) only [rx_W, rx_wp_succ, rx_nx_stop, rx_nx_go, rx_lx_some, rx_fx_some, rx_ax_some, rx_qx_some, rx_ox_some, rx_vx_ref, rx_ix_ref, rx_ld_0, rx_ld_2, rx_ld_3, rx_cx_some, rx_nl, List.getElem?_cons_zero, List.getElem?_cons_succ, List.set_cons_zero, List.set_cons_succ, List.length_cons, List.length_nil, List.take_succ_cons, List.take_zero, List.drop_succ_cons, List.drop_zero, List.reverse_cons, List.reverse_nil, List.nil_append, List.cons_append, Option.toList_some, Option.toList_none, true_and, and_true, and_self, true_or, or_true, false_and, and_false, false_or, or_false, not_false_eq_true, Nat.reduceAdd, Nat.reduceLT, Nat.reduceLeDiff, Nat.reduceBEq, Nat.reduceEqDiff, Bool.or_false, Bool.false_or, if_true, if_false, Bool.false_eq_true, nq_eq, nq_lt, nq_le, nq_in_t, nq_bd, nq_ft, nq_clamp, nq_shl31, nq_shr31, nq_bitb, nq_add, nq_mul, fa_and, fa_or, nq_b0, nq_b1, nq_b01, ↓ni_lt_t, ↓ni_lt_f, ↓ni_le_t, ↓ni_le_f, ↓ni_eq_t, ↓ni_eq_f, ↓ni_beq_t, ↓ni_beq_f, it_X6_readMoves, h1, txO, h3', f4, c]
      exact l_X6_rm hL ht hW h3 hf3 Q hq1 hq2 j (i + 1) h σ _ (by omega) hf hr ms
    · rw [if_neg c] at ms
      apply rx_wp_sound 60 [9]
      simp (disch := first | decide | omega) only [rx_W, rx_wp_succ, rx_nx_stop, rx_nx_go, rx_lx_some, rx_fx_some, rx_ax_some, rx_qx_some, rx_ox_some, rx_vx_ref, rx_ix_ref, rx_ld_0, rx_ld_2, rx_ld_3, rx_cx_some, rx_nl, List.getElem?_cons_zero, List.getElem?_cons_succ, List.set_cons_zero, List.set_cons_succ, List.length_cons, List.length_nil, List.take_succ_cons, List.take_zero, List.drop_succ_cons, List.drop_zero, List.reverse_cons, List.reverse_nil, List.nil_append, List.cons_append, Option.toList_some, Option.toList_none, true_and, and_true, and_self, true_or, or_true, false_and, and_false, false_or, or_false, not_false_eq_true, Nat.reduceAdd, Nat.reduceLT, Nat.reduceLeDiff, Nat.reduceBEq, Nat.reduceEqDiff, Bool.or_false, Bool.false_or, if_true, if_false, Bool.false_eq_true, nq_eq, nq_lt, nq_le, nq_in_t, nq_bd, nq_ft, nq_clamp, nq_shl31, nq_shr31, nq_bitb, nq_add, nq_mul, fa_and, fa_or, nq_b0, nq_b1, nq_b01, ↓ni_lt_t, ↓ni_lt_f, ↓ni_le_t, ↓ni_le_f, ↓ni_eq_t, ↓ni_eq_f, ↓ni_beq_t, ↓ni_beq_f, it_X6_readMoves, h1, txO, h3', f4, c]
      refine rx_Cl_imp (c_X6_readByte hr hI hL (by omega) h3' f4 tl) (fun r h2 ⟨y1, y2, y3, y4⟩ => ?_)
      have f2 := Fr_trans hf y1 (C := tB) (fun _ z => z) (fun _ z => z)
      rcases y4 with ⟨g, g1, g2, g3⟩ | ⟨σ', g1, g2, g3⟩
      · subst g3
        have gn : ¬ nI g = -1 := nI_ne1 (by omega)
        simp (disch := first | decide | omega) only [rx_W, rx_wp_succ, rx_nx_stop, rx_nx_go, rx_lx_some, rx_fx_some, rx_ax_some, rx_qx_some, rx_ox_some, rx_vx_ref, rx_ix_ref, rx_ld_0, rx_ld_2, rx_ld_3, rx_cx_some, rx_nl, List.getElem?_cons_zero, List.getElem?_cons_succ, List.set_cons_zero, List.set_cons_succ, List.length_cons, List.length_nil, List.take_succ_cons, List.take_zero, List.drop_succ_cons, List.drop_zero, List.reverse_cons, List.reverse_nil, List.nil_append, List.cons_append, Option.toList_some, Option.toList_none, true_and, and_true, and_self, true_or, or_true, false_and, and_false, false_or, or_false, not_false_eq_true, Nat.reduceAdd, Nat.reduceLT, Nat.reduceLeDiff, Nat.reduceBEq, Nat.reduceEqDiff, Bool.or_false, Bool.false_or, if_true, if_false, Bool.false_eq_true, nq_eq, nq_lt, nq_le, nq_in_t, nq_bd, nq_ft, nq_clamp, nq_shl31, nq_shr31, nq_bitb, nq_add, nq_mul, fa_and, fa_or, nq_b0, nq_b1, nq_b01, ↓ni_lt_t, ↓ni_lt_f, ↓ni_le_t, ↓ni_le_f, ↓ni_eq_t, ↓ni_eq_f, ↓ni_beq_t, ↓ni_beq_f, it_X6_readMoves, gn]
        exact hq2 h2 g f2 y2 y3 g1 (mres_no (by omega) (ms.trans g2))
      · subst g2
        have an := (msI_step hI g1).2
        have ih := l_X6_rm hL ht hW h3 hf3 Q hq1 hq2 j (i + 1) h2 σ' (.int (-1)) (by omega) f2 g3 (ms.trans g1)
        rw [an] at ih
        simp (disch := first | decide | omega) only [rx_W, rx_wp_succ, rx_nx_stop, rx_nx_go, rx_lx_some, rx_fx_some, rx_ax_some, rx_qx_some, rx_ox_some, rx_vx_ref, rx_ix_ref, rx_ld_0, rx_ld_2, rx_ld_3, rx_cx_some, rx_nl, List.getElem?_cons_zero, List.getElem?_cons_succ, List.set_cons_zero, List.set_cons_succ, List.length_cons, List.length_nil, List.take_succ_cons, List.take_zero, List.drop_succ_cons, List.drop_zero, List.reverse_cons, List.reverse_nil, List.nil_append, List.cons_append, Option.toList_some, Option.toList_none, true_and, and_true, and_self, true_or, or_true, false_and, and_false, false_or, or_false, not_false_eq_true, Nat.reduceAdd, Nat.reduceLT, Nat.reduceLeDiff, Nat.reduceBEq, Nat.reduceEqDiff, Bool.or_false, Bool.false_or, if_true, if_false, Bool.false_eq_true, nq_eq, nq_lt, nq_le, nq_in_t, nq_bd, nq_ft, nq_clamp, nq_shl31, nq_shr31, nq_bitb, nq_add, nq_mul, fa_and, fa_or, nq_b0, nq_b1, nq_b01, ↓ni_lt_t, ↓ni_lt_f, ↓ni_le_t, ↓ni_le_f, ↓ni_eq_t, ↓ni_eq_f, ↓ni_beq_t, ↓ni_beq_f, it_X6_readMoves]
        exact ih
theorem c_X6_readMoves {h : rx_H} (hi : tI h L t) (hL : L ≤ 100) (ht : ∀ i, i < L → t i < 128) (hW : wfP n W) (hd : pW h 64 n W) : rx_Cl 62 [.ref 46, .ref 64] h (fun r h' => Fr h h' tB ∧ tI h' L t ∧ ((∃ g, g ≤ L ∧ mres t n W L = .inl g ∧ r = some (.int (nI g)) ∧ ∃ n w, pW h' 64 n w) ∨ ∃ W', mres t n W L = .inr W' ∧ r = some (.int (-1)) ∧ pW h' 64 n W')) := by
  obtain ⟨⟨wl, st, fb, fr, b, h1⟩, ⟨g, h2⟩, f, h3, h4⟩ := hi
  apply en_X6_readMoves _ _ 60 [9]
  simp (disch := first | decide | omega) only [rx_W, rx_wp_succ, rx_nx_stop, rx_nx_go, rx_lx_some, rx_fx_some, rx_ax_some, rx_qx_some, rx_ox_some, rx_vx_ref, rx_ix_ref, rx_ld_0, rx_ld_2, rx_ld_3, rx_cx_some, rx_nl, List.getElem?_cons_zero, List.getElem?_cons_succ, List.set_cons_zero, List.set_cons_succ, List.length_cons, List.length_nil, List.take_succ_cons, List.take_zero, List.drop_succ_cons, List.drop_zero, List.reverse_cons, List.reverse_nil, List.nil_append, List.cons_append, Option.toList_some, Option.toList_none, true_and, and_true, and_self, true_or, or_true, false_and, and_false, false_or, or_false, not_false_eq_true, Nat.reduceAdd, Nat.reduceLT, Nat.reduceLeDiff, Nat.reduceBEq, Nat.reduceEqDiff, Bool.or_false, Bool.false_or, if_true, if_false, Bool.false_eq_true, nq_eq, nq_lt, nq_le, nq_in_t, nq_bd, nq_ft, nq_clamp, nq_shl31, nq_shr31, nq_bitb, nq_add, nq_mul, fa_and, fa_or, nq_b0, nq_b1, nq_b01, ↓ni_lt_t, ↓ni_lt_f, ↓ni_le_t, ↓ni_le_f, ↓ni_eq_t, ↓ni_eq_f, ↓ni_beq_t, ↓ni_beq_f, it_X6_readMoves, h1, txO, rx_ft]
  have f1 : ∀ c, Fr h (rx_up h 46 c) [46] := fun c => Fr_up (Fr_rfl _ _) (by simp)
  have tk : ∀ h', Fr h h' tB → (∃ wl st fb fr b, rx_rd h' 46 = some (txO (nI L) wl st fb fr b)) → tI h' L t := fun h' y1 y2 => ⟨y2, ⟨g, rd_fr y1 (by simp) h2⟩, f, rd_fr y1 (by simp) h3, h4⟩
  exact l_X6_rm (h0 := h) hL ht hW h3 h4 _ (fun h' W' y1 y2 y3 y4 => ⟨y1, tk h' y1 y2, Or.inr ⟨W', y4, rfl, y3⟩⟩) (fun h' g y1 y2 y3 y4 y5 => ⟨y1, tk h' y1 y2, Or.inl ⟨g, y4, y5, rfl, y3⟩⟩) L 0 _ (false, 0, 0, 0, 0, W) _ (by omega) (Fr_sub (f1 _) (by simp)) ⟨wl, fb, fr, b, rd_eq _ _ _, fun (z : 1 ≤ 0) => by omega, fun (z : 2 ≤ 0) => by omega, pW_fr (f1 _) (by simp) (by simp) hd⟩ rfl
end RM
