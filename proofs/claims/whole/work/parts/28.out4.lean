/-! ===== Outlook.fillSingles ===== -/
theorem vu_up (w : Nat → Nat) (k a b : Nat) : va_up (va_up w k a) k b = va_up w k b := by
  funext j
  unfold va_up
  split <;> rfl
theorem vu_eq (w : Nat → Nat) (k a : Nat) : va_up w k a k = a := if_pos rfl
theorem vu_ne {w : Nat → Nat} {k a j : Nat} (h : ¬ j = k) : va_up w k a j = w j := if_neg h
theorem pow_inj {a b : Nat} (h : 2 ^ a = 2 ^ b) : a = b := (bit_pow a b).mp (by rw [h]; exact (bit_pow b b).mpr rfl)
/-- what the letters lead to from a state, eight bits each -/
def nxS (w R : Nat → Nat) (n s : Nat) : Nat := un (fun a => onF R n (w (s * 5 + a)) * 2 ^ (a * 8)) 4
def ofD (sb : Nat) (O : Nat → Nat) (s : Nat) : Nat := if sb.testBit s then 2 ^ (O s) else 0
def alD (sb : Nat) (O : Nat → Nat) (s : Nat) : Nat := if sb.testBit s then shO (O s) else 0
theorem l_X1_fs_in {h0 : rx_H} {q o n fr sb lo s : Nat} {w R N : Nat → Nat} (ho : oO h0 q fr sb lo n) (hp : pW h0 o n w) (haR : aN h0 (q + 2) 8 R) (hn : n ≤ 8) (hs : s < n) (hw : ∀ j, j < 40 → w j < 256) (hoq : o + 1 < q) (Q : Option Value → rx_H → Prop)
    (hq : ∀ h, Fr h0 h [q + 3] → aN h (q + 3) 256 (va_up N (2 ^ s) (nxS w R n s)) → rx_R 22 62 [.ref q, .ref o, .int (nI s), .int (nI (2 ^ s)), .int (nI 4)] [] h Q) :
    ∀ j i h, i + j = 4 → Fr h0 h [q + 3] → aN h (q + 3) 256 (va_up N (2 ^ s) (un (fun a => onF R n (w (s * 5 + a)) * 2 ^ (a * 8)) i)) → rx_R 22 24 [.ref q, .ref o, .int (nI s), .int (nI (2 ^ s)), .int (nI i)] [] h Q
  | 0, i, h, e, hf, ha => by
    have e' : i = 4 := by omega
    subst e'
    apply rx_wp_sound 60 [24, 62]
    simp (disch := first | decide | omega) only [rx_W, rx_wp_succ, rx_nx_stop, rx_nx_go, rx_lx_some, rx_fx_some, rx_ax_some, rx_qx_some, rx_ox_some, rx_vx_ref, rx_ix_ref, rx_ld_0, rx_ld_2, rx_ld_3, rx_cx_some, rx_nl, List.getElem?_cons_zero, List.getElem?_cons_succ, List.set_cons_zero, List.set_cons_succ, List.length_cons, List.length_nil, List.take_succ_cons, List.take_zero, List.drop_succ_cons, List.drop_zero, List.reverse_cons, List.reverse_nil, List.nil_append, List.cons_append, Option.toList_some, Option.toList_none, true_and, and_true, and_self, true_or, or_true, false_and, and_false, false_or, or_false, not_false_eq_true, Nat.reduceAdd, Nat.reduceLT, Nat.reduceLeDiff, Nat.reduceBEq, Nat.reduceEqDiff, Bool.or_false, Bool.false_or, if_true, if_false, Bool.false_eq_true, nq_eq, nq_lt, nq_le, nq_in_t, nq_bd, nq_ft, nq_clamp, nq_shl31, nq_shr31, nq_bitb, nq_add, nq_mul, fa_and, fa_or, nq_b0, nq_b1, nq_b01, ↓ni_lt_t, ↓ni_lt_f, ↓ni_le_t, ↓ni_le_f, ↓ni_eq_t, ↓ni_eq_f, ↓ni_beq_t, ↓ni_beq_f, it_X1_fillSingles, it_X1_fillSingles_1, it_X1_fillSingles_1]
    exact hq h hf ha
  | j + 1, i, h, e, hf, ha => by
    have ih := l_X1_fs_in (N := N) ho hp haR hn hs hw hoq Q hq j (i + 1)
    rw [un_succ] at ih
    have ho' := oO_fr hf (by simp) ho
    have hp' := pW_fr hf (by simp; omega) (by simp; omega) hp
    have haR' := aN_fr hf (by simp) haR
    have b1 := hw (s * 5 + i) (by omega)
    have p8 : 2 ^ s < 2 ^ 8 := Nat.pow_lt_pow_right (by omega) (by omega)
    obtain ⟨f, a1, a2⟩ := ha
    have a3 := a2 (2 ^ s) (by omega)
    rw [vu_eq] at a3
    apply rx_wp_sound 60 [24, 62]
    simp (disch := first | decide | omega) only [rx_W, rx_wp_succ, rx_nx_stop, rx_nx_go, rx_lx_some, rx_fx_some, rx_ax_some, rx_qx_some, rx_ox_some, rx_vx_ref, rx_ix_ref, rx_ld_0, rx_ld_2, rx_ld_3, rx_cx_some, rx_nl, List.getElem?_cons_zero, List.getElem?_cons_succ, List.set_cons_zero, List.set_cons_succ, List.length_cons, List.length_nil, List.take_succ_cons, List.take_zero, List.drop_succ_cons, List.drop_zero, List.reverse_cons, List.reverse_nil, List.nil_append, List.cons_append, Option.toList_some, Option.toList_none, true_and, and_true, and_self, true_or, or_true, false_and, and_false, false_or, or_false, not_false_eq_true, Nat.reduceAdd, Nat.reduceLT, Nat.reduceLeDiff, Nat.reduceBEq, Nat.reduceEqDiff, Bool.or_false, Bool.false_or, if_true, if_false, Bool.false_eq_true, nq_eq, nq_lt, nq_le, nq_in_t, nq_bd, nq_ft, nq_clamp, nq_shl31, nq_shr31, nq_bitb, nq_add, nq_mul, fa_and, fa_or, nq_b0, nq_b1, nq_b01, ↓ni_lt_t, ↓ni_lt_f, ↓ni_le_t, ↓ni_le_f, ↓ni_eq_t, ↓ni_eq_f, ↓ni_beq_t, ↓ni_beq_f, it_X1_fillSingles, it_X1_fillSingles_1, it_X1_fillSingles_1, q_X4_targets hp', q_X1_onwardFrom ho' haR' hn, ho'.1, ho'.2, hp'.1, hp'.2.2, a1, a3]
    have hf1 : ∀ v, Fr h (rx_up h (q + 3) (.inl (0, 256, .inl (upd f (2 ^ s) v)))) [q + 3] := fun v => Fr_up (Fr_rfl _ _) (by simp)
    refine ih _ (by omega) (Fr_trans hf (hf1 _) (fun _ z => z) (fun _ z => z)) ⟨_, rd_eq _ _ _, fun m hm => ?_⟩
    have := aN_upd a2 (2 ^ s) (un (fun a => onF R n (w (s * 5 + a)) * 2 ^ (a * 8)) i ||| onF R n (w (s * 5 + i)) * 2 ^ (i * 8)) m hm
    rw [vu_up] at this
    exact this
theorem l_X1_fs {h0 : rx_H} {q o n fr sb lo : Nat} {w R O : Nat → Nat} (ho : oO h0 q fr sb lo n) (hp : pW h0 o n w) (haR : aN h0 (q + 2) 8 R) (haO : aN h0 (q + 1) 8 O) (hn : n ≤ 8) (hw : ∀ j, j < 40 → w j < 256) (hO : ∀ s, s < n → O s < 16) (hsb : sb < 256) (hoq : o + 1 < q) (Q : Option Value → rx_H → Prop)
    (hq : ∀ h N F A, Fr h0 h [q + 3, q + 4, q + 5] → aN h (q + 3) 256 N → aN h (q + 4) 256 F → aN h (q + 5) 256 A → (∀ t, t < n → N (2 ^ t) = nxS w R n t ∧ F (2 ^ t) = ofD sb O t ∧ A (2 ^ t) = alD sb O t) → N 0 = 0 ∧ F 0 = 0 ∧ A 0 = 0 → Q none h) :
    ∀ j s h N F A x y, s + j = n → Fr h0 h [q + 3, q + 4, q + 5] → aN h (q + 3) 256 N → aN h (q + 4) 256 F → aN h (q + 5) 256 A → (∀ t, t < s → N (2 ^ t) = nxS w R n t ∧ F (2 ^ t) = ofD sb O t ∧ A (2 ^ t) = alD sb O t) → N 0 = 0 ∧ F 0 = 0 ∧ A 0 = 0 → rx_R 22 2 [.ref q, .ref o, .int (nI s), x, y] [] h Q
  | 0, s, h, N, F, A, x, y, e, hf, aNx, aF, aA, h1, h2 => by
    have e' : s = n := by omega
    subst e'
    have ho' := oO_fr hf (by simp) ho
    apply rx_wp_sound 60 [2, 24]
    simp (disch := first | decide | omega) only [rx_W, rx_wp_succ, rx_nx_stop, rx_nx_go, rx_lx_some, rx_fx_some, rx_ax_some, rx_qx_some, rx_ox_some, rx_vx_ref, rx_ix_ref, rx_ld_0, rx_ld_2, rx_ld_3, rx_cx_some, rx_nl, List.getElem?_cons_zero, List.getElem?_cons_succ, List.set_cons_zero, List.set_cons_succ, List.length_cons, List.length_nil, List.take_succ_cons, List.take_zero, List.drop_succ_cons, List.drop_zero, List.reverse_cons, List.reverse_nil, List.nil_append, List.cons_append, Option.toList_some, Option.toList_none, true_and, and_true, and_self, true_or, or_true, false_and, and_false, false_or, or_false, not_false_eq_true, Nat.reduceAdd, Nat.reduceLT, Nat.reduceLeDiff, Nat.reduceBEq, Nat.reduceEqDiff, Bool.or_false, Bool.false_or, if_true, if_false, Bool.false_eq_true, nq_eq, nq_lt, nq_le, nq_in_t, nq_bd, nq_ft, nq_clamp, nq_shl31, nq_shr31, nq_bitb, nq_add, nq_mul, fa_and, fa_or, nq_b0, nq_b1, nq_b01, ↓ni_lt_t, ↓ni_lt_f, ↓ni_le_t, ↓ni_le_f, ↓ni_eq_t, ↓ni_eq_f, ↓ni_beq_t, ↓ni_beq_f, it_X1_fillSingles, it_X1_fillSingles_1, it_X1_fillSingles_1, ho'.1, ho'.2]
    exact hq h N F A hf aNx aF aA h1 h2
  | j + 1, s, h, N, F, A, x, y, e, hf, aNx, aF, aA, h1, h2 => by
    have ho' := oO_fr hf (by simp) ho
    have hp' := pW_fr hf (by simp; omega) (by simp; omega) hp
    have haR' := aN_fr hf (by simp) haR
    have p8 : 2 ^ s < 2 ^ 8 := Nat.pow_lt_pow_right (by omega) (by omega)
    have p1 := Nat.one_le_two_pow (n := s)
    obtain ⟨f, f1, f2⟩ := aNx
    apply rx_wp_sound 60 [2, 24]
    simp (disch := first | decide | omega) only [rx_W, rx_wp_succ, rx_nx_stop, rx_nx_go, rx_lx_some, rx_fx_some, rx_ax_some, rx_qx_some, rx_ox_some, rx_vx_ref, rx_ix_ref, rx_ld_0, rx_ld_2, rx_ld_3, rx_cx_some, rx_nl, List.getElem?_cons_zero, List.getElem?_cons_succ, List.set_cons_zero, List.set_cons_succ, List.length_cons, List.length_nil, List.take_succ_cons, List.take_zero, List.drop_succ_cons, List.drop_zero, List.reverse_cons, List.reverse_nil, List.nil_append, List.cons_append, Option.toList_some, Option.toList_none, true_and, and_true, and_self, true_or, or_true, false_and, and_false, false_or, or_false, not_false_eq_true, Nat.reduceAdd, Nat.reduceLT, Nat.reduceLeDiff, Nat.reduceBEq, Nat.reduceEqDiff, Bool.or_false, Bool.false_or, if_true, if_false, Bool.false_eq_true, nq_eq, nq_lt, nq_le, nq_in_t, nq_bd, nq_ft, nq_clamp, nq_shl31, nq_shr31, nq_bitb, nq_add, nq_mul, fa_and, fa_or, nq_b0, nq_b1, nq_b01, ↓ni_lt_t, ↓ni_lt_f, ↓ni_le_t, ↓ni_le_f, ↓ni_eq_t, ↓ni_eq_f, ↓ni_beq_t, ↓ni_beq_f, it_X1_fillSingles, it_X1_fillSingles_1, it_X1_fillSingles_1, ho'.1, ho'.2, f1, Nat.one_mul]
    have hf1 : Fr h (rx_up h (q + 3) (.inl (0, 256, .inl (upd f (2 ^ s) (nI 0))))) [q + 3] := Fr_up (Fr_rfl _ _) (by simp)
    refine l_X1_fs_in (N := N) (oO_fr hf1 (by simp) ho') (pW_fr hf1 (by simp; omega) (by simp; omega) hp') (aN_fr hf1 (by simp) haR') hn (by omega) hw hoq Q (fun h3 f3 a3 => ?_) 4 0 _ (by omega) (Fr_rfl _ _) ⟨_, rd_eq _ _ _, fun m hm => aN_upd f2 (2 ^ s) 0 m hm⟩
    have f4 := Fr_trans hf (Fr_trans hf1 f3 (fun _ z => z) (fun _ z => z)) (C := [q + 3, q + 4, q + 5]) (fun _ z => z) (by simp)
    have f5 : Fr h h3 [q + 3] := Fr_trans hf1 f3 (fun _ z => z) (fun _ z => z)
    have ho3 := oO_fr f4 (by simp) ho
    obtain ⟨fO, o1, o2⟩ := aN_fr f4 (by simp) haO
    obtain ⟨fF, g1, g2⟩ := aN_fr f5 (by simp) aF
    obtain ⟨fA, k1, k2⟩ := aN_fr f5 (by simp) aA
    have o3 := o2 s (by omega)
    have o4 := hO s (by omega)
    have ih := fun h' F' A' z1 z2 z3 z4 z5 => l_X1_fs ho hp haR haO hn hw hO hsb hoq Q hq j (s + 1) h' (va_up N (2 ^ s) (nxS w R n s)) F' A' (.int (nI (2 ^ s))) (.int (nI 4)) (by omega) z1 z2 z3 z4 z5
    have fin : ∀ c1 c2 : Nat, c1 = ofD sb O s → c2 = alD sb O s → rx_R 22 2 [.ref q, .ref o, .int (nI (s + 1)), .int (nI (2 ^ s)), .int (nI 4)] [] (rx_up (rx_up h3 (q + 4) (.inl (0, 256, .inl (upd fF (2 ^ s) (nI c1))))) (q + 5) (.inl (0, 256, .inl (upd fA (2 ^ s) (nI c2))))) Q := by
      intro c1 c2 e1 e2
      have f6 : Fr h3 (rx_up (rx_up h3 (q + 4) (.inl (0, 256, .inl (upd fF (2 ^ s) (nI c1))))) (q + 5) (.inl (0, 256, .inl (upd fA (2 ^ s) (nI c2))))) [q + 4, q + 5] := Fr_up (Fr_up (Fr_rfl _ _) (by simp)) (by simp)
      refine ih _ (va_up F (2 ^ s) c1) (va_up A (2 ^ s) c2) (Fr_trans f4 f6 (fun _ z => z) (by simp)) (aN_fr f6 (by simp) a3) ⟨_, (rd_ne (by omega)).trans (rd_eq _ _ _), fun m hm => aN_upd g2 _ _ m hm⟩ ⟨_, rd_eq _ _ _, fun m hm => aN_upd k2 _ _ m hm⟩ (fun t ht => ?_) ?_
      · by_cases et : t = s
        · subst et
          rw [vu_eq, vu_eq, vu_eq]
          exact ⟨rfl, e1, e2⟩
        · have hne : ¬ 2 ^ t = 2 ^ s := fun z => et (pow_inj z)
          rw [vu_ne hne, vu_ne hne, vu_ne hne]
          exact h1 t (by omega)
      · rw [vu_ne (by omega), vu_ne (by omega), vu_ne (by omega)]
        exact h2
    apply rx_wp_sound 60 [2]
    simp (disch := first | decide | omega) only [rx_W, rx_wp_succ, rx_nx_stop, rx_nx_go, rx_lx_some, rx_fx_some, rx_ax_some, rx_qx_some, rx_ox_some, rx_vx_ref, rx_ix_ref, rx_ld_0, rx_ld_2, rx_ld_3, rx_cx_some, rx_nl, List.getElem?_cons_zero, List.getElem?_cons_succ, List.set_cons_zero, List.set_cons_succ, List.length_cons, List.length_nil, List.take_succ_cons, List.take_zero, List.drop_succ_cons, List.drop_zero, List.reverse_cons, List.reverse_nil, List.nil_append, List.cons_append, Option.toList_some, Option.toList_none, true_and, and_true, and_self, true_or, or_true, false_and, and_false, false_or, or_false, not_false_eq_true, Nat.reduceAdd, Nat.reduceLT, Nat.reduceLeDiff, Nat.reduceBEq, Nat.reduceEqDiff, Bool.or_false, Bool.false_or, if_true, if_false, Bool.false_eq_true, nq_eq, nq_lt, nq_le, nq_in_t, nq_bd, nq_ft, nq_clamp, nq_shl31, nq_shr31, nq_bitb, nq_add, nq_mul, fa_and, fa_or, nq_b0, nq_b1, nq_b01, ↓ni_lt_t, ↓ni_lt_f, ↓ni_le_t, ↓ni_le_f, ↓ni_eq_t, ↓ni_eq_f, ↓ni_beq_t, ↓ni_beq_f, it_X1_fillSingles, it_X1_fillSingles_1, it_X1_fillSingles_1, q_X7_has, q_X1_setsHolding, ho3.1, ho3.2, o1, o3, g1, k1, rd_ne, rd_eq, Nat.one_mul]
    unfold ofD alD at fin
    split
    · next hb =>
      have fin := fin 0 0 (by rw [hb]; rfl) (by rw [hb]; rfl)
      exact fin
    · next hb =>
      have hb : sb.testBit s = true := by simpa using hb
      have fin := fin (2 ^ O s) (shO (O s)) (by rw [hb]; rfl) (by rw [hb]; rfl)
      exact fin
