/-! ===== Outlook.fillSets ===== -/
theorem low_ok : ∀ m, m < 256 → 0 < m → ∃ s, s < 8 ∧ nI m &&& -(nI m) = nI (2 ^ s) ∧ m.testBit s = true ∧ 2 ^ s ≤ m ∧ ∀ t, t < 8 → (m - 2 ^ s).testBit t = (m.testBit t && !decide (t = s)) := by decide +kernel
/-- the rows' values for a set: all of its members' -/
def allS (one : Nat → Nat) (n m : Nat) : Nat := un (fun s => if m.testBit s then one s else 0) n
theorem allS_low {one : Nat → Nat} {n m s : Nat} (hn : n ≤ 8) (hs : s < n) (h1 : m.testBit s = true) (h2 : ∀ t, t < 8 → (m - 2 ^ s).testBit t = (m.testBit t && !decide (t = s))) : allS one n m = one s ||| allS one n (m - 2 ^ s) := by
  apply bit_ext
  intro i
  unfold allS
  rw [un_bit, Nat.testBit_or, Bool.or_eq_true, un_bit]
  constructor
  · rintro ⟨t, t1, t2⟩
    split at t2
    · next t3 =>
      by_cases e : t = s
      · subst e; exact Or.inl t2
      · refine Or.inr ⟨t, t1, ?_⟩
        rw [h2 t (by omega), t3, if_pos (by simp [e])]
        exact t2
    · simp at t2
  · rintro (z | ⟨t, t1, t2⟩)
    · exact ⟨s, hs, by rw [if_pos h1]; exact z⟩
    · split at t2
      · next t3 =>
        rw [h2 t (by omega)] at t3
        refine ⟨t, t1, ?_⟩
        rw [if_pos (by cases hm : m.testBit t <;> simp_all)]
        exact t2
      · simp at t2
theorem allS_0 (one : Nat → Nat) (n : Nat) : allS one n 0 = 0 := un_0 (fun i _ => by simp)
theorem allS_one {one : Nat → Nat} {n s : Nat} (hs : s < n) : allS one n (2 ^ s) = one s := by
  apply bit_ext
  intro i
  unfold allS
  rw [un_bit]
  constructor
  · rintro ⟨t, t1, t2⟩
    split at t2
    · next t3 => rw [(bit_pow s t).mp t3]; exact t2
    · simp at t2
  · intro z
    exact ⟨s, hs, by rw [if_pos ((bit_pow s s).mpr rfl)]; exact z⟩
def setI (one : Nat → Nat) (n k : Nat) (N : Nat → Nat) : Prop := (∀ m, m < k → N m = allS one n m) ∧ ∀ s, s < n → N (2 ^ s) = one s
theorem setI_step {one : Nat → Nat} {n k s : Nat} {N : Nat → Nat} (hn : n ≤ 8) (hk : k < 2 ^ n) (h : setI one n k N) (h1 : k.testBit s = true) (hle : 2 ^ s ≤ k) (h2 : ∀ t, t < 8 → (k - 2 ^ s).testBit t = (k.testBit t && !decide (t = s))) : setI one n (k + 1) (va_up N k (N (2 ^ s) ||| N (k - 2 ^ s))) := by
  have hs : s < n := bit_lt hk h1
  have p1 := Nat.one_le_two_pow (n := s)
  have e : N (2 ^ s) ||| N (k - 2 ^ s) = allS one n k := by
    rw [h.2 s hs, h.1 (k - 2 ^ s) (by omega)]
    exact (allS_low hn hs h1 h2).symm
  refine ⟨fun m hm => ?_, fun t ht => ?_⟩
  · by_cases em : m = k
    · rw [em, vu_eq, e]
    · rw [vu_ne em]; exact h.1 m (by omega)
  · by_cases et : 2 ^ t = k
    · rw [et, vu_eq, e, ← et]; exact allS_one ht
    · rw [vu_ne et]; exact h.2 t ht
theorem l_X1_fillSets {h0 : rx_H} {q n fr sb lo : Nat} {o1 o2 o3 : Nat → Nat} (ho : oO h0 q fr sb lo n) (hn : n ≤ 8) (Q : Option Value → rx_H → Prop)
    (hq : ∀ h N F A, Fr h0 h [q + 3, q + 4, q + 5] → aN h (q + 3) 256 N → aN h (q + 4) 256 F → aN h (q + 5) 256 A → setI o1 n (2 ^ n) N → setI o2 n (2 ^ n) F → setI o3 n (2 ^ n) A → Q none h) :
    ∀ j k h N F A x y, k + j = 2 ^ n → 0 < k → Fr h0 h [q + 3, q + 4, q + 5] → aN h (q + 3) 256 N → aN h (q + 4) 256 F → aN h (q + 5) 256 A → setI o1 n k N → setI o2 n k F → setI o3 n k A → rx_R 25 2 [.ref q, .int (nI k), x, y] [] h Q
  | 0, k, h, N, F, A, x, y, e, k0, hf, aNx, aF, aA, h1, h2, h3 => by
    have e' : k = 2 ^ n := by omega
    subst e'
    have p8 : 2 ^ n ≤ 2 ^ 8 := Nat.pow_le_pow_right (by omega) hn
    have ho' := oO_fr hf (by simp) ho
    apply rx_wp_sound 90 [2]
    simp (disch := first | decide | omega) only [rx_W, rx_wp_succ, rx_nx_stop, rx_nx_go, rx_lx_some, rx_fx_some, rx_ax_some, rx_qx_some, rx_ox_some, rx_vx_ref, rx_ix_ref, rx_ld_0, rx_ld_2, rx_ld_3, rx_cx_some, rx_nl, List.getElem?_cons_zero, List.getElem?_cons_succ, List.set_cons_zero, List.set_cons_succ, List.length_cons, List.length_nil, List.take_succ_cons, List.take_zero, List.drop_succ_cons, List.drop_zero, List.reverse_cons, List.reverse_nil, List.nil_append, List.cons_append, Option.toList_some, Option.toList_none, true_and, and_true, and_self, true_or, or_true, false_and, and_false, false_or, or_false, not_false_eq_true, Nat.reduceAdd, Nat.reduceLT, Nat.reduceLeDiff, Nat.reduceBEq, Nat.reduceEqDiff, Bool.or_false, Bool.false_or, if_true, if_false, Bool.false_eq_true, nq_eq, nq_lt, nq_le, nq_in_t, nq_bd, nq_ft, nq_clamp, nq_shl31, nq_shr31, nq_bitb, nq_add, nq_mul, fa_and, fa_or, nq_b0, nq_b1, nq_b01, ↓ni_lt_t, ↓ni_lt_f, ↓ni_le_t, ↓ni_le_f, ↓ni_eq_t, ↓ni_eq_f, ↓ni_beq_t, ↓ni_beq_f, it_X1_fillSets, ho'.1, ho'.2, Nat.one_mul]
    exact hq h N F A hf aNx aF aA h1 h2 h3
  | j + 1, k, h, N, F, A, x, y, e, k0, hf, aNx, aF, aA, h1, h2, h3 => by
    have p8 : 2 ^ n ≤ 2 ^ 8 := Nat.pow_le_pow_right (by omega) hn
    have ho' := oO_fr hf (by simp) ho
    obtain ⟨s, s1, s2, s3, s4, s5⟩ := low_ok k (by omega) k0
    have ps : 2 ^ s < 2 ^ 8 := Nat.pow_lt_pow_right (by omega) s1
    have p1 := Nat.one_le_two_pow (n := s)
    obtain ⟨fN, n1, n2⟩ := aNx
    obtain ⟨fF, g1, g2⟩ := aF
    obtain ⟨fA, k1, k2⟩ := aA
    have c1 := n2 (2 ^ s) (by omega)
    have c2 := n2 (k - 2 ^ s) (by omega)
    have c3 := g2 (2 ^ s) (by omega)
    have c4 := g2 (k - 2 ^ s) (by omega)
    have c5 := k2 (2 ^ s) (by omega)
    have c6 := k2 (k - 2 ^ s) (by omega)
    apply rx_wp_sound 90 [2]
    simp (disch := first | decide | omega) only [rx_W, rx_wp_succ, rx_nx_stop, rx_nx_go, rx_lx_some, rx_fx_some, rx_ax_some, rx_qx_some, rx_ox_some, rx_vx_ref, rx_ix_ref, rx_ld_0, rx_ld_2, rx_ld_3, rx_cx_some, rx_nl, List.getElem?_cons_zero, List.getElem?_cons_succ, List.set_cons_zero, List.set_cons_succ, List.length_cons, List.length_nil, List.take_succ_cons, List.take_zero, List.drop_succ_cons, List.drop_zero, List.reverse_cons, List.reverse_nil, List.nil_append, List.cons_append, Option.toList_some, Option.toList_none, true_and, and_true, and_self, true_or, or_true, false_and, and_false, false_or, or_false, not_false_eq_true, Nat.reduceAdd, Nat.reduceLT, Nat.reduceLeDiff, Nat.reduceBEq, Nat.reduceEqDiff, Bool.or_false, Bool.false_or, if_true, if_false, Bool.false_eq_true, nq_eq, nq_lt, nq_le, nq_in_t, nq_bd, nq_ft, nq_clamp, nq_shl31, nq_shr31, nq_bitb, nq_add, nq_mul, fa_and, fa_or, nq_b0, nq_b1, nq_b01, ↓ni_lt_t, ↓ni_lt_f, ↓ni_le_t, ↓ni_le_f, ↓ni_eq_t, ↓ni_eq_f, ↓ni_beq_t, ↓ni_beq_f, it_X1_fillSets, ho'.1, ho'.2, Nat.one_mul, s2, nq_sub, n1, g1, k1, c1, c2, c3, c4, c5, c6, rd_ne, rd_eq]
    refine l_X1_fillSets ho hn Q hq j (k + 1) _ (va_up N k (N (2 ^ s) ||| N (k - 2 ^ s))) (va_up F k (F (2 ^ s) ||| F (k - 2 ^ s))) (va_up A k (A (2 ^ s) ||| A (k - 2 ^ s))) _ _ (by omega) (by omega) (Fr_up (Fr_up (Fr_up hf (by simp)) (by simp)) (by simp)) ⟨_, (rd_ne (by omega)).trans ((rd_ne (by omega)).trans (rd_eq _ _ _)), aN_upd n2 _ _⟩ ⟨_, (rd_ne (by omega)).trans (rd_eq _ _ _), aN_upd g2 _ _⟩ ⟨_, rd_eq _ _ _, aN_upd k2 _ _⟩ (setI_step hn (by omega) h1 s3 s4 s5) (setI_step hn (by omega) h2 s3 s4 s5) (setI_step hn (by omega) h3 s3 s4 s5)
