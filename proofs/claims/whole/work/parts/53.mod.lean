/-! ===== what there is, told without cells ===== -/
def mdW (n : Nat) (w : Nat → Nat) : Nat → Nat := fun k => if k = 0 then n else w (k - 1)
def pmV (v M : Nat → Nat) (p m : Nat) : Nat → Nat := fun i => if 41 * p ≤ i ∧ i < 41 * p + m then M (i - 41 * p) else v i
/-- process p becomes n states with the rows w -/
def setP (v : Nat → Nat) (p n : Nat) (w : Nat → Nat) : Nat → Nat := pmV v (mdW n w) p 41
theorem setP_n (v : Nat → Nat) (p n : Nat) (w : Nat → Nat) : setP v p n w (41 * p) = n := by
  unfold setP pmV mdW
  rw [if_pos (by omega), if_pos (by omega)]
theorem setP_n' (v : Nat → Nat) {p p' : Nat} (n : Nat) (w : Nat → Nat) (h : ¬ p' = p) : setP v p n w (41 * p') = v (41 * p') := by
  unfold setP pmV
  rw [if_neg (by omega)]
theorem setP_w (v : Nat → Nat) (p n : Nat) (w : Nat → Nat) {j : Nat} (hj : j < 40) : wq (setP v p n w) p j = w j := by
  unfold wq setP pmV mdW
  rw [if_pos (by omega), if_neg (by omega)]
  congr 1
  omega
theorem setP_w' (v : Nat → Nat) {p p' : Nat} (n : Nat) (w : Nat → Nat) (h : ¬ p' = p) {j : Nat} (hj : j < 40) : wq (setP v p n w) p' j = wq v p' j := by
  unfold wq setP pmV
  rw [if_neg (by omega)]
def wfP (n : Nat) (w : Nat → Nat) : Prop := 1 ≤ n ∧ n ≤ 8 ∧ (∀ j, j < 40 → w j < 2 ^ n) ∧ zr n w ∧ tot w ≤ 24
def wfV (v : Nat → Nat) : Prop := ∀ p, p < 4 → wfP (v (41 * p)) (wq v p)
theorem wfP_256 {n : Nat} {w : Nat → Nat} (h : wfP n w) : ∀ j, j < 40 → w j < 256 := fun j hj => by
  have p8 : 2 ^ n ≤ 2 ^ 8 := Nat.pow_le_pow_right (by omega) h.2.1
  have := h.2.2.1 j hj
  omega
theorem wfP_cong {n : Nat} {w w' : Nat → Nat} (h : wfP n w) (e : ∀ j, j < 40 → w j = w' j) : wfP n w' := by
  obtain ⟨h1, h2, h3, h4, h5⟩ := h
  refine ⟨h1, h2, fun j hj => by rw [← e j hj]; exact h3 j hj, fun s b x y z => by rw [← e _ (by omega)]; exact h4 s b x y z, ?_⟩
  rw [← tot_cong e]
  exact h5
theorem wfV_set {v : Nat → Nat} {p n : Nat} {w : Nat → Nat} (hv : wfV v) (h : wfP n w) : wfV (setP v p n w) := by
  intro p' hp'
  by_cases c : p' = p
  · subst c
    rw [setP_n]
    exact wfP_cong h (fun j hj => (setP_w v p' n w hj).symm)
  · rw [setP_n' v n w c]
    exact wfP_cong (hv p' hp') (fun j hj => (setP_w' v n w c hj).symm)
def pN (np : Nat) : Nat := if np = 5 then 5 else np + 1
def pU (u : Nat → Nat → Nat) (np : Nat) (v : Nat → Nat) : Nat → Nat → Nat := fun i => if np = 5 then (if i < 4 then u (i + 1) else v) else (if i = np then v else u i)
def rfs (c : Nat) (cs : Nat → Int32) : Nat → Int32 := fun j => if j = c then cs j + nI 1 else cs j
/-- processes, pasts (how many), the text (its length), refusals -/
abbrev St : Type := (Nat → Nat) × (Nat → Nat → Nat) × Nat × Nat × (Nat → Nat) × (Nat → Int32)
def wfS (v : Nat → Nat) (u : Nat → Nat → Nat) (np L : Nat) (t : Nat → Nat) : Prop := wfV v ∧ (∀ i, i < np → wfV (u i)) ∧ np ≤ 5 ∧ L ≤ 100 ∧ ∀ i, i < L → t i < 128
theorem wfS_push {v : Nat → Nat} {u : Nat → Nat → Nat} {np L : Nat} {t v' : Nat → Nat} (h : wfS v u np L t) (h' : wfV v') : wfS v' (pU u np v) (pN np) L t := by
  obtain ⟨h1, h2, h3, h4, h5⟩ := h
  refine ⟨h', fun i hi => ?_, ?_, h4, h5⟩
  · unfold pU
    unfold pN at hi
    by_cases c : np = 5
    · rw [if_pos c] at hi ⊢
      split
      · exact h2 _ (by omega)
      · exact h1
    · rw [if_neg c] at hi ⊢
      split
      · exact h1
      · exact h2 _ (by omega)
  · unfold pN
    split <;> omega
/-- the reference's cells -/
def mIv (h : rx_H) (v : Nat → Nat) (u : Nat → Nat → Nat) (np L : Nat) (t : Nat → Nat) (cs : Nat → Int32) : Prop :=
  (∃ pl fo z, rx_rd h 98 = some (mO (nI np) (nI L) pl fo z)) ∧ aN h 99 164 v ∧ (∃ a, aN h 100 164 a) ∧ (∃ U, aN h 101 820 U ∧ ∀ i, i < np → ∀ k, k < 164 → U (164 * i + k) = u i k) ∧ (∃ f, rx_rd h 102 = some (.inl (0, 3, .inl f)) ∧ ∀ j, j < 3 → f j = cs j) ∧ (∃ f, rx_rd h 103 = some (.inl (0, 100, .inl f)) ∧ ∀ i, i < L → f i = nI (t i)) ∧ (∃ a, aN h 104 41 a) ∧ (∃ a, aN h 105 8 a) ∧ (∃ a, aN h 106 16 a) ∧ mSh h
def mIS (h : rx_H) (S : St) : Prop := mIv h S.1 S.2.1 S.2.2.1 S.2.2.2.1 S.2.2.2.2.1 S.2.2.2.2.2
abbrev mA : List Nat := [98, 99, 100, 101, 102, 103, 104, 105, 106, 107, 108, 109]
theorem mIv_mN {h : rx_H} {v : Nat → Nat} {u : Nat → Nat → Nat} {np L : Nat} {t : Nat → Nat} {cs : Nat → Int32} (hi : mIv h v u np L t cs) : mN h v := by
  obtain ⟨⟨pl, fo, z, h1⟩, h2, -⟩ := hi
  exact ⟨⟨_, _, pl, fo, z, h1⟩, h2⟩
theorem rd_fr {h h' : rx_H} {A : List Nat} {i : Nat} {c : rx_C} (hf : Fr h h' A) (hi : i ∉ A) (hr : rx_rd h i = some c) : rx_rd h' i = some c := (hf.2.2 i hi).trans hr
/-! ===== counts ===== -/
theorem q_X8_counts {h : rx_H} {pa le pl fo : Int32} {z : Int64} {f : Nat → Int32} (h1 : rx_rd h 98 = some (mO pa le pl fo z)) (h2 : rx_rd h 102 = some (.inl (0, 3, .inl f))) {c : Nat} {x : Int32} (hx : (-2 : Int32) - x = nI c) (hc : c < 3) (Q : Option Value → rx_H → Prop) : rx_Cl 108 [.ref 98, .int x] h Q = Q (some (.int x)) (rx_up h 102 (.inl (0, 3, .inl (upd f c (f c + nI 1))))) := by
  refine rx_Cl_eq ?_ Q
  apply en_X8_counts _ _ 40 [8]
  simp (disch := first | decide | omega) only [rx_W, rx_wp_succ, rx_nx_stop, rx_nx_go, rx_lx_some, rx_fx_some, rx_ax_some, rx_qx_some, rx_ox_some, rx_vx_ref, rx_ix_ref, rx_ld_0, rx_ld_2, rx_ld_3, rx_cx_some, rx_nl, List.getElem?_cons_zero, List.getElem?_cons_succ, List.set_cons_zero, List.set_cons_succ, List.length_cons, List.length_nil, List.take_succ_cons, List.take_zero, List.drop_succ_cons, List.drop_zero, List.reverse_cons, List.reverse_nil, List.nil_append, List.cons_append, Option.toList_some, Option.toList_none, true_and, and_true, and_self, true_or, or_true, false_and, and_false, false_or, or_false, not_false_eq_true, Nat.reduceAdd, Nat.reduceLT, Nat.reduceLeDiff, Nat.reduceBEq, Nat.reduceEqDiff, Bool.or_false, Bool.false_or, if_true, if_false, Bool.false_eq_true, it_X8_counts, h1, mO, h2]
  rw [hx]
  apply rx_wp_sound 40 []
  simp (disch := first | decide | omega) only [rx_W, rx_wp_succ, rx_nx_stop, rx_nx_go, rx_lx_some, rx_fx_some, rx_ax_some, rx_qx_some, rx_ox_some, rx_vx_ref, rx_ix_ref, rx_ld_0, rx_ld_2, rx_ld_3, rx_cx_some, rx_nl, List.getElem?_cons_zero, List.getElem?_cons_succ, List.set_cons_zero, List.set_cons_succ, List.length_cons, List.length_nil, List.take_succ_cons, List.take_zero, List.drop_succ_cons, List.drop_zero, List.reverse_cons, List.reverse_nil, List.nil_append, List.cons_append, Option.toList_some, Option.toList_none, true_and, and_true, and_self, true_or, or_true, false_and, and_false, false_or, or_false, not_false_eq_true, Nat.reduceAdd, Nat.reduceLT, Nat.reduceLeDiff, Nat.reduceBEq, Nat.reduceEqDiff, Bool.or_false, Bool.false_or, if_true, if_false, Bool.false_eq_true, nq_eq, nq_lt, nq_le, nq_in_t, nq_bd, nq_ft, nq_clamp, nq_shl31, nq_shr31, nq_bitb, nq_add, nq_mul, fa_and, fa_or, nq_b0, nq_b1, nq_b01, ↓ni_lt_t, ↓ni_lt_f, ↓ni_le_t, ↓ni_le_f, ↓ni_eq_t, ↓ni_eq_f, ↓ni_beq_t, ↓ni_beq_f, it_X8_counts, h1, mO, h2]
def rcode (c : Nat) : Int32 := if c = 0 then -2 else if c = 1 then -3 else -4
theorem rcode_c {c : Nat} (hc : c < 3) : (-2 : Int32) - rcode c = nI c := by
  have : ∀ c, c < 3 → (-2 : Int32) - rcode c = nI c := by decide +kernel
  exact this c hc
theorem mIv_cnt {h : rx_H} {v : Nat → Nat} {u : Nat → Nat → Nat} {np L : Nat} {t : Nat → Nat} {cs : Nat → Int32} (hi : mIv h v u np L t cs) {c : Nat} (hc : c < 3) : ∃ f, (∃ pl fo z, rx_rd h 98 = some (mO (nI np) (nI L) pl fo z)) ∧ rx_rd h 102 = some (.inl (0, 3, .inl f)) ∧ mIv (rx_up h 102 (.inl (0, 3, .inl (upd f c (f c + nI 1))))) v u np L t (rfs c cs) := by
  obtain ⟨⟨pl, fo, z, h1⟩, h2, ⟨a3, h3⟩, ⟨U, h4, h4'⟩, ⟨f, h5, h5'⟩, ⟨g, h6, h6'⟩, ⟨a7, h7⟩, ⟨a8, h8⟩, ⟨a9, h9⟩, ⟨f1, k1⟩, ⟨f2, k2⟩, f3, k3⟩ := hi
  have hf : Fr h (rx_up h 102 (.inl (0, 3, .inl (upd f c (f c + nI 1))))) [102] := Fr_up (Fr_rfl _ _) (by simp)
  refine ⟨f, ⟨pl, fo, z, h1⟩, h5, ⟨pl, fo, z, rd_fr hf (by simp) h1⟩, aN_fr hf (by simp) h2, ⟨a3, aN_fr hf (by simp) h3⟩, ⟨U, aN_fr hf (by simp) h4, h4'⟩, ⟨_, rd_eq _ _ _, fun j hj => ?_⟩, ⟨g, rd_fr hf (by simp) h6, h6'⟩, ⟨a7, aN_fr hf (by simp) h7⟩, ⟨a8, aN_fr hf (by simp) h8⟩, ⟨a9, aN_fr hf (by simp) h9⟩, ⟨f1, rd_fr hf (by simp) k1⟩, ⟨f2, rd_fr hf (by simp) k2⟩, f3, rd_fr hf (by simp) k3⟩
  unfold upd rfs
  by_cases e : j = c
  · rw [if_pos e, if_pos e, h5' c hc, e]
  · rw [if_neg e, if_neg e, h5' j hj]
theorem c_X8_counts {h : rx_H} {v : Nat → Nat} {u : Nat → Nat → Nat} {np L : Nat} {t : Nat → Nat} {cs : Nat → Int32} (hi : mIv h v u np L t cs) {c : Nat} {x : Int32} (hx : x = rcode c) (hc : c < 3) : rx_Cl 108 [.ref 98, .int x] h (fun r h' => r = some (.int (rcode c)) ∧ Fr h h' mA ∧ mIv h' v u np L t (rfs c cs)) := by
  obtain ⟨f, ⟨pl, fo, z, h1⟩, h2, h3⟩ := mIv_cnt hi hc
  rw [q_X8_counts h1 h2 (by rw [hx]; exact rcode_c hc) hc, hx]
  exact ⟨rfl, Fr_up (Fr_rfl _ _) (by simp), h3⟩
/-! ===== leaves ===== -/
section LV
variable {h0 : rx_H} {v U : Nat → Nat} {le pl fo : Int32} {z : Int64}
theorem l_X8_lv1 {pa : Int32} (h1 : rx_rd h0 98 = some (mO pa le pl fo z)) (Q : Option Value → rx_H → Prop)
    (hq : ∀ h U', Fr h0 h [101] → aN h 101 820 U' → (∀ k, k < 656 → U' k = U (k + 164)) → rx_R 114 39 [.ref 98, .int (nI 656)] [] h Q) :
    ∀ j i h U', i + j = 656 → Fr h0 h [101] → aN h 101 820 U' → (∀ k, k < i → U' k = U (k + 164)) → (∀ k, i ≤ k → U' k = U k) → rx_R 114 10 [.ref 98, .int (nI i)] [] h Q
  | 0, i, h, U', e, hf, ha, h2, h3 => by
    have e' : i = 656 := by omega
    subst e'
    apply rx_wp_sound 60 [10, 39]
    simp (disch := first | decide | omega) only [rx_W, rx_wp_succ, rx_nx_stop, rx_nx_go, rx_lx_some, rx_fx_some, rx_ax_some, rx_qx_some, rx_ox_some, rx_vx_ref, rx_ix_ref, rx_ld_0, rx_ld_2, rx_ld_3, rx_cx_some, rx_nl, List.getElem?_cons_zero, List.getElem?_cons_succ, List.set_cons_zero, List.set_cons_succ, List.length_cons, List.length_nil, List.take_succ_cons, List.take_zero, List.drop_succ_cons, List.drop_zero, List.reverse_cons, List.reverse_nil, List.nil_append, List.cons_append, Option.toList_some, Option.toList_none, true_and, and_true, and_self, true_or, or_true, false_and, and_false, false_or, or_false, not_false_eq_true, Nat.reduceAdd, Nat.reduceLT, Nat.reduceLeDiff, Nat.reduceBEq, Nat.reduceEqDiff, Bool.or_false, Bool.false_or, if_true, if_false, Bool.false_eq_true, nq_eq, nq_lt, nq_le, nq_in_t, nq_bd, nq_ft, nq_clamp, nq_shl31, nq_shr31, nq_bitb, nq_add, nq_mul, fa_and, fa_or, nq_b0, nq_b1, nq_b01, ↓ni_lt_t, ↓ni_lt_f, ↓ni_le_t, ↓ni_le_f, ↓ni_eq_t, ↓ni_eq_f, ↓ni_beq_t, ↓ni_beq_f, it_X8_leaves]
    exact hq h U' hf ha h2
  | j + 1, i, h, U', e, hf, ha, h2, h3 => by
    have h1' := rd_fr hf (by simp) h1
    obtain ⟨f, a1, a2⟩ := ha
    have a3 := a2 (i + 164) (by omega)
    rw [h3 _ (by omega)] at a3
    apply rx_wp_sound 60 [10, 39]
    simp (disch := first | decide | omega) only [rx_W, rx_wp_succ, rx_nx_stop, rx_nx_go, rx_lx_some, rx_fx_some, rx_ax_some, rx_qx_some, rx_ox_some, rx_vx_ref, rx_ix_ref, rx_ld_0, rx_ld_2, rx_ld_3, rx_cx_some, rx_nl, List.getElem?_cons_zero, List.getElem?_cons_succ, List.set_cons_zero, List.set_cons_succ, List.length_cons, List.length_nil, List.take_succ_cons, List.take_zero, List.drop_succ_cons, List.drop_zero, List.reverse_cons, List.reverse_nil, List.nil_append, List.cons_append, Option.toList_some, Option.toList_none, true_and, and_true, and_self, true_or, or_true, false_and, and_false, false_or, or_false, not_false_eq_true, Nat.reduceAdd, Nat.reduceLT, Nat.reduceLeDiff, Nat.reduceBEq, Nat.reduceEqDiff, Bool.or_false, Bool.false_or, if_true, if_false, Bool.false_eq_true, nq_eq, nq_lt, nq_le, nq_in_t, nq_bd, nq_ft, nq_clamp, nq_shl31, nq_shr31, nq_bitb, nq_add, nq_mul, fa_and, fa_or, nq_b0, nq_b1, nq_b01, ↓ni_lt_t, ↓ni_lt_f, ↓ni_le_t, ↓ni_le_f, ↓ni_eq_t, ↓ni_eq_f, ↓ni_beq_t, ↓ni_beq_f, it_X8_leaves, h1', mO, a1, a3]
    refine ⟨by omega, l_X8_lv1 h1 Q hq j (i + 1) _ (va_up U' i (U (i + 164))) (by omega) (Fr_up hf (by simp)) ⟨_, rd_eq _ _ _, aN_upd a2 _ _⟩ (fun k hk => ?_) (fun k hk => by rw [vu_ne (by omega)]; exact h3 k (by omega))⟩
    by_cases c : k = i
    · rw [c, vu_eq]
    · rw [vu_ne c]; exact h2 k (by omega)
theorem l_X8_lv2 {np : Nat} (h1 : rx_rd h0 98 = some (mO (nI np) le pl fo z)) (hn : np < 5) (hv : aN h0 99 164 v) (Q : Option Value → rx_H → Prop)
    (hq : ∀ h U', Fr h0 h [101] → aN h 101 820 U' → (∀ k, k < 164 → U' (164 * np + k) = v k) → (∀ k, k < 164 * np → U' k = U k) → rx_R 114 85 [.ref 98, .int (nI 164)] [] h Q) :
    ∀ j i h U', i + j = 164 → Fr h0 h [101] → aN h 101 820 U' → (∀ k, k < i → U' (164 * np + k) = v k) → (∀ k, k < 164 * np → U' k = U k) → rx_R 114 51 [.ref 98, .int (nI i)] [] h Q
  | 0, i, h, U', e, hf, ha, h2, h3 => by
    have e' : i = 164 := by omega
    subst e'
    apply rx_wp_sound 60 [51, 85]
    simp (disch := first | decide | omega) only [rx_W, rx_wp_succ, rx_nx_stop, rx_nx_go, rx_lx_some, rx_fx_some, rx_ax_some, rx_qx_some, rx_ox_some, rx_vx_ref, rx_ix_ref, rx_ld_0, rx_ld_2, rx_ld_3, rx_cx_some, rx_nl, List.getElem?_cons_zero, List.getElem?_cons_succ, List.set_cons_zero, List.set_cons_succ, List.length_cons, List.length_nil, List.take_succ_cons, List.take_zero, List.drop_succ_cons, List.drop_zero, List.reverse_cons, List.reverse_nil, List.nil_append, List.cons_append, Option.toList_some, Option.toList_none, true_and, and_true, and_self, true_or, or_true, false_and, and_false, false_or, or_false, not_false_eq_true, Nat.reduceAdd, Nat.reduceLT, Nat.reduceLeDiff, Nat.reduceBEq, Nat.reduceEqDiff, Bool.or_false, Bool.false_or, if_true, if_false, Bool.false_eq_true, nq_eq, nq_lt, nq_le, nq_in_t, nq_bd, nq_ft, nq_clamp, nq_shl31, nq_shr31, nq_bitb, nq_add, nq_mul, fa_and, fa_or, nq_b0, nq_b1, nq_b01, ↓ni_lt_t, ↓ni_lt_f, ↓ni_le_t, ↓ni_le_f, ↓ni_eq_t, ↓ni_eq_f, ↓ni_beq_t, ↓ni_beq_f, it_X8_leaves]
    exact hq h U' hf ha h2 h3
  | j + 1, i, h, U', e, hf, ha, h2, h3 => by
    have h1' := rd_fr hf (by simp) h1
    obtain ⟨f, a1, a2⟩ := ha
    obtain ⟨g, b1, b2⟩ := aN_fr hf (by simp) hv
    apply rx_wp_sound 60 [51, 85]
    simp (disch := first | decide | omega) only [rx_W, rx_wp_succ, rx_nx_stop, rx_nx_go, rx_lx_some, rx_fx_some, rx_ax_some, rx_qx_some, rx_ox_some, rx_vx_ref, rx_ix_ref, rx_ld_0, rx_ld_2, rx_ld_3, rx_cx_some, rx_nl, List.getElem?_cons_zero, List.getElem?_cons_succ, List.set_cons_zero, List.set_cons_succ, List.length_cons, List.length_nil, List.take_succ_cons, List.take_zero, List.drop_succ_cons, List.drop_zero, List.reverse_cons, List.reverse_nil, List.nil_append, List.cons_append, Option.toList_some, Option.toList_none, true_and, and_true, and_self, true_or, or_true, false_and, and_false, false_or, or_false, not_false_eq_true, Nat.reduceAdd, Nat.reduceLT, Nat.reduceLeDiff, Nat.reduceBEq, Nat.reduceEqDiff, Bool.or_false, Bool.false_or, if_true, if_false, Bool.false_eq_true, nq_eq, nq_lt, nq_le, nq_in_t, nq_bd, nq_ft, nq_clamp, nq_shl31, nq_shr31, nq_bitb, nq_add, nq_mul, fa_and, fa_or, nq_b0, nq_b1, nq_b01, ↓ni_lt_t, ↓ni_lt_f, ↓ni_le_t, ↓ni_le_f, ↓ni_eq_t, ↓ni_eq_f, ↓ni_beq_t, ↓ni_beq_f, it_X8_leaves, h1', mO, a1, b1, b2]
    refine l_X8_lv2 h1 hn hv Q hq j (i + 1) _ (va_up U' (164 * np + i) (v i)) (by omega) (Fr_up hf (by simp)) ⟨_, rd_eq _ _ _, aN_upd a2 _ _⟩ (fun k hk => ?_) (fun k hk => by rw [vu_ne (by omega)]; exact h3 k hk)
    by_cases c : k = i
    · rw [c, vu_eq]
    · rw [vu_ne (by omega)]; exact h2 k (by omega)
theorem c_X8_leaves {np : Nat} {u : Nat → Nat → Nat} (h1 : rx_rd h0 98 = some (mO (nI np) le pl fo z)) (hn : np ≤ 5) (hv : aN h0 99 164 v) (hU : aN h0 101 820 U) (hu : ∀ i, i < np → ∀ k, k < 164 → U (164 * i + k) = u i k) : rx_Cl 114 [.ref 98] h0 (fun r h' => r = none ∧ Fr h0 h' [98, 101] ∧ rx_rd h' 98 = some (mO (nI (pN np)) le pl fo z) ∧ ∃ U', aN h' 101 820 U' ∧ ∀ i, i < pN np → ∀ k, k < 164 → U' (164 * i + k) = pU u np v i k) := by
  by_cases c : np = 5
  · subst c
    apply en_X8_leaves _ 60 [10]
    simp (disch := first | decide | omega) only [rx_W, rx_wp_succ, rx_nx_stop, rx_nx_go, rx_lx_some, rx_fx_some, rx_ax_some, rx_qx_some, rx_ox_some, rx_vx_ref, rx_ix_ref, rx_ld_0, rx_ld_2, rx_ld_3, rx_cx_some, rx_nl, List.getElem?_cons_zero, List.getElem?_cons_succ, List.set_cons_zero, List.set_cons_succ, List.length_cons, List.length_nil, List.take_succ_cons, List.take_zero, List.drop_succ_cons, List.drop_zero, List.reverse_cons, List.reverse_nil, List.nil_append, List.cons_append, Option.toList_some, Option.toList_none, true_and, and_true, and_self, true_or, or_true, false_and, and_false, false_or, or_false, not_false_eq_true, Nat.reduceAdd, Nat.reduceLT, Nat.reduceLeDiff, Nat.reduceBEq, Nat.reduceEqDiff, Bool.or_false, Bool.false_or, if_true, if_false, Bool.false_eq_true, nq_eq, nq_lt, nq_le, nq_in_t, nq_bd, nq_ft, nq_clamp, nq_shl31, nq_shr31, nq_bitb, nq_add, nq_mul, fa_and, fa_or, nq_b0, nq_b1, nq_b01, ↓ni_lt_t, ↓ni_lt_f, ↓ni_le_t, ↓ni_le_f, ↓ni_eq_t, ↓ni_eq_f, ↓ni_beq_t, ↓ni_beq_f, it_X8_leaves, h1, mO]
    refine l_X8_lv1 (h0 := h0) (U := U) h1 _ (fun h U1 y1 y2 y3 => ?_) 656 0 h0 U (by omega) (Fr_rfl _ _) hU (fun k hk => by omega) (fun k _ => rfl)
    have h1' := rd_fr y1 (by simp) h1
    apply rx_wp_sound 60 [51]
    simp (disch := first | decide | omega) only [rx_W, rx_wp_succ, rx_nx_stop, rx_nx_go, rx_lx_some, rx_fx_some, rx_ax_some, rx_qx_some, rx_ox_some, rx_vx_ref, rx_ix_ref, rx_ld_0, rx_ld_2, rx_ld_3, rx_cx_some, rx_nl, List.getElem?_cons_zero, List.getElem?_cons_succ, List.set_cons_zero, List.set_cons_succ, List.length_cons, List.length_nil, List.take_succ_cons, List.take_zero, List.drop_succ_cons, List.drop_zero, List.reverse_cons, List.reverse_nil, List.nil_append, List.cons_append, Option.toList_some, Option.toList_none, true_and, and_true, and_self, true_or, or_true, false_and, and_false, false_or, or_false, not_false_eq_true, Nat.reduceAdd, Nat.reduceLT, Nat.reduceLeDiff, Nat.reduceBEq, Nat.reduceEqDiff, Bool.or_false, Bool.false_or, if_true, if_false, Bool.false_eq_true, nq_eq, nq_lt, nq_le, nq_in_t, nq_bd, nq_ft, nq_clamp, nq_shl31, nq_shr31, nq_bitb, nq_add, nq_mul, fa_and, fa_or, nq_b0, nq_b1, nq_b01, ↓ni_lt_t, ↓ni_lt_f, ↓ni_le_t, ↓ni_le_f, ↓ni_eq_t, ↓ni_eq_f, ↓ni_beq_t, ↓ni_beq_f, it_X8_leaves, h1', mO, rx_ft, nq_sub]
    have f2 : Fr h0 (rx_up h 98 (mO (nI 4) le pl fo z)) [98, 101] := Fr_up (Fr_sub y1 (by simp)) (by simp)
    have f3 : Fr h (rx_up h 98 (mO (nI 4) le pl fo z)) [98] := Fr_up (Fr_rfl _ _) (by simp)
    refine l_X8_lv2 (h0 := rx_up h 98 (mO (nI 4) le pl fo z)) (v := v) (U := U1) (np := 4) (rd_eq _ _ _) (by omega) (aN_fr f2 (by simp) hv) _ (fun h3 U3 z1 z2 z3 z4 => ?_) 164 0 _ U1 (by omega) (Fr_rfl _ _) (aN_fr f3 (by simp) y2) (fun k hk => by omega) (fun k _ => rfl)
    have h3' := rd_fr z1 (by simp) (rd_eq h 98 (mO (nI 4) le pl fo z))
    apply rx_wp_sound 60 []
    simp (disch := first | decide | omega) only [rx_W, rx_wp_succ, rx_nx_stop, rx_nx_go, rx_lx_some, rx_fx_some, rx_ax_some, rx_qx_some, rx_ox_some, rx_vx_ref, rx_ix_ref, rx_ld_0, rx_ld_2, rx_ld_3, rx_cx_some, rx_nl, List.getElem?_cons_zero, List.getElem?_cons_succ, List.set_cons_zero, List.set_cons_succ, List.length_cons, List.length_nil, List.take_succ_cons, List.take_zero, List.drop_succ_cons, List.drop_zero, List.reverse_cons, List.reverse_nil, List.nil_append, List.cons_append, Option.toList_some, Option.toList_none, true_and, and_true, and_self, true_or, or_true, false_and, and_false, false_or, or_false, not_false_eq_true, Nat.reduceAdd, Nat.reduceLT, Nat.reduceLeDiff, Nat.reduceBEq, Nat.reduceEqDiff, Bool.or_false, Bool.false_or, if_true, if_false, Bool.false_eq_true, nq_eq, nq_lt, nq_le, nq_in_t, nq_bd, nq_ft, nq_clamp, nq_shl31, nq_shr31, nq_bitb, nq_add, nq_mul, fa_and, fa_or, nq_b0, nq_b1, nq_b01, ↓ni_lt_t, ↓ni_lt_f, ↓ni_le_t, ↓ni_le_f, ↓ni_eq_t, ↓ni_eq_f, ↓ni_beq_t, ↓ni_beq_f, it_X8_leaves, h3', mO, rx_ft]
    have f4 : ∀ c, Fr h3 (rx_up h3 98 c) [98] := fun c => Fr_up (Fr_rfl _ _) (by simp)
    refine ⟨Fr_trans (Fr_trans f2 z1 (C := [98, 101]) (fun _ z => z) (by simp)) (f4 _) (fun _ z => z) (by simp), ?_, U3, aN_fr (f4 _) (by simp) z2, fun i hi k hk => ?_⟩
    · rw [rd_eq]; rfl
    · unfold pU
      rw [if_pos rfl]
      unfold pN at hi
      rw [if_pos rfl] at hi
      by_cases d : i < 4
      · rw [if_pos d, z4 _ (by omega), y3 _ (by omega), show 164 * i + k + 164 = 164 * (i + 1) + k by omega]
        exact hu _ (by omega) k hk
      · rw [if_neg d, show i = 4 by omega]
        exact z3 k hk
  · have c' : np < 5 := by omega
    apply en_X8_leaves _ 60 [51]
    simp (disch := first | decide | omega) only [rx_W, rx_wp_succ, rx_nx_stop, rx_nx_go, rx_lx_some, rx_fx_some, rx_ax_some, rx_qx_some, rx_ox_some, rx_vx_ref, rx_ix_ref, rx_ld_0, rx_ld_2, rx_ld_3, rx_cx_some, rx_nl, List.getElem?_cons_zero, List.getElem?_cons_succ, List.set_cons_zero, List.set_cons_succ, List.length_cons, List.length_nil, List.take_succ_cons, List.take_zero, List.drop_succ_cons, List.drop_zero, List.reverse_cons, List.reverse_nil, List.nil_append, List.cons_append, Option.toList_some, Option.toList_none, true_and, and_true, and_self, true_or, or_true, false_and, and_false, false_or, or_false, not_false_eq_true, Nat.reduceAdd, Nat.reduceLT, Nat.reduceLeDiff, Nat.reduceBEq, Nat.reduceEqDiff, Bool.or_false, Bool.false_or, if_true, if_false, Bool.false_eq_true, nq_eq, nq_lt, nq_le, nq_in_t, nq_bd, nq_ft, nq_clamp, nq_shl31, nq_shr31, nq_bitb, nq_add, nq_mul, fa_and, fa_or, nq_b0, nq_b1, nq_b01, ↓ni_lt_t, ↓ni_lt_f, ↓ni_le_t, ↓ni_le_f, ↓ni_eq_t, ↓ni_eq_f, ↓ni_beq_t, ↓ni_beq_f, it_X8_leaves, h1, mO]
    refine l_X8_lv2 (h0 := h0) (v := v) (U := U) (np := np) h1 c' hv _ (fun h3 U3 z1 z2 z3 z4 => ?_) 164 0 _ U (by omega) (Fr_rfl _ _) hU (fun k hk => by omega) (fun k _ => rfl)
    have h3' := rd_fr z1 (by simp) h1
    apply rx_wp_sound 60 []
    simp (disch := first | decide | omega) only [rx_W, rx_wp_succ, rx_nx_stop, rx_nx_go, rx_lx_some, rx_fx_some, rx_ax_some, rx_qx_some, rx_ox_some, rx_vx_ref, rx_ix_ref, rx_ld_0, rx_ld_2, rx_ld_3, rx_cx_some, rx_nl, List.getElem?_cons_zero, List.getElem?_cons_succ, List.set_cons_zero, List.set_cons_succ, List.length_cons, List.length_nil, List.take_succ_cons, List.take_zero, List.drop_succ_cons, List.drop_zero, List.reverse_cons, List.reverse_nil, List.nil_append, List.cons_append, Option.toList_some, Option.toList_none, true_and, and_true, and_self, true_or, or_true, false_and, and_false, false_or, or_false, not_false_eq_true, Nat.reduceAdd, Nat.reduceLT, Nat.reduceLeDiff, Nat.reduceBEq, Nat.reduceEqDiff, Bool.or_false, Bool.false_or, if_true, if_false, Bool.false_eq_true, nq_eq, nq_lt, nq_le, nq_in_t, nq_bd, nq_ft, nq_clamp, nq_shl31, nq_shr31, nq_bitb, nq_add, nq_mul, fa_and, fa_or, nq_b0, nq_b1, nq_b01, ↓ni_lt_t, ↓ni_lt_f, ↓ni_le_t, ↓ni_le_f, ↓ni_eq_t, ↓ni_eq_f, ↓ni_beq_t, ↓ni_beq_f, it_X8_leaves, h3', mO, rx_ft]
    have f4 : ∀ c, Fr h3 (rx_up h3 98 c) [98] := fun c => Fr_up (Fr_rfl _ _) (by simp)
    refine ⟨Fr_trans z1 (f4 _) (by simp) (by simp), ?_, U3, aN_fr (f4 _) (by simp) z2, fun i hi k hk => ?_⟩
    · rw [rd_eq]
      unfold pN
      rw [if_neg c]
    · unfold pU
      rw [if_neg c]
      unfold pN at hi
      rw [if_neg c] at hi
      by_cases d : i = np
      · rw [if_pos d, d]
        exact z3 k hk
      · rw [if_neg d, z4 _ (by omega)]
        exact hu i (by omega) k hk
end LV
theorem m_leaves {h : rx_H} {v : Nat → Nat} {u : Nat → Nat → Nat} {np L : Nat} {t : Nat → Nat} {cs : Nat → Int32} (hi : mIv h v u np L t cs) (hn : np ≤ 5) : rx_Cl 114 [.ref 98] h (fun r h' => r = none ∧ Fr h h' [98, 101] ∧ mIv h' v (pU u np v) (pN np) L t cs) := by
  obtain ⟨⟨pl, fo, z, h1⟩, h2, ⟨a3, h3⟩, ⟨U, h4, h4'⟩, ⟨f, h5, h5'⟩, ⟨g, h6, h6'⟩, ⟨a7, h7⟩, ⟨a8, h8⟩, ⟨a9, h9⟩, ⟨f1, k1⟩, ⟨f2, k2⟩, f3, k3⟩ := hi
  refine rx_Cl_imp (c_X8_leaves h1 hn h2 h4 h4') (fun r h' ⟨e, hf, y1, U', y2, y3⟩ => ?_)
  exact ⟨e, hf, ⟨pl, fo, z, y1⟩, aN_fr hf (by simp) h2, ⟨a3, aN_fr hf (by simp) h3⟩, ⟨U', y2, y3⟩, ⟨f, rd_fr hf (by simp) h5, h5'⟩, ⟨g, rd_fr hf (by simp) h6, h6'⟩, ⟨a7, aN_fr hf (by simp) h7⟩, ⟨a8, aN_fr hf (by simp) h8⟩, ⟨a9, aN_fr hf (by simp) h9⟩, ⟨f1, rd_fr hf (by simp) k1⟩, ⟨f2, rd_fr hf (by simp) k2⟩, f3, rd_fr hf (by simp) k3⟩
/-- of a process the rows may change -/
theorem mIv_v {h h' : rx_H} {v v' : Nat → Nat} {u : Nat → Nat → Nat} {np L : Nat} {t : Nat → Nat} {cs : Nat → Int32} (hf : Fr h h' [99]) (hi : mIv h v u np L t cs) (ha : aN h' 99 164 v') : mIv h' v' u np L t cs := by
  obtain ⟨⟨pl, fo, z, h1⟩, h2, ⟨a3, h3⟩, ⟨U, h4, h4'⟩, ⟨f, h5, h5'⟩, ⟨g, h6, h6'⟩, ⟨a7, h7⟩, ⟨a8, h8⟩, ⟨a9, h9⟩, ⟨f1, k1⟩, ⟨f2, k2⟩, f3, k3⟩ := hi
  exact ⟨⟨pl, fo, z, rd_fr hf (by simp) h1⟩, ha, ⟨a3, aN_fr hf (by simp) h3⟩, ⟨U, aN_fr hf (by simp) h4, h4'⟩, ⟨f, rd_fr hf (by simp) h5, h5'⟩, ⟨g, rd_fr hf (by simp) h6, h6'⟩, ⟨a7, aN_fr hf (by simp) h7⟩, ⟨a8, aN_fr hf (by simp) h8⟩, ⟨a9, aN_fr hf (by simp) h9⟩, ⟨f1, rd_fr hf (by simp) k1⟩, ⟨f2, rd_fr hf (by simp) k2⟩, f3, rd_fr hf (by simp) k3⟩
/-- rows that are made anew in each call -/
theorem mIv_x {h h' : rx_H} {v : Nat → Nat} {u : Nat → Nat → Nat} {np L : Nat} {t : Nat → Nat} {cs : Nat → Int32} {A : List Nat} (hf : Fr h h' A) (hA : ∀ i ∈ A, 103 < i) (hi : mIv h v u np L t cs) (b4 : ∃ a, aN h' 104 41 a) (b5 : ∃ a, aN h' 105 8 a) (b6 : ∃ a, aN h' 106 16 a) (b7 : mSh h') : mIv h' v u np L t cs := by
  obtain ⟨⟨pl, fo, z, h1⟩, h2, ⟨a3, h3⟩, ⟨U, h4, h4'⟩, ⟨f, h5, h5'⟩, ⟨g, h6, h6'⟩, -⟩ := hi
  have no : ∀ i, i ≤ 103 → i ∉ A := fun i hi z => by have := hA i z; omega
  exact ⟨⟨pl, fo, z, rd_fr hf (no _ (by omega)) h1⟩, aN_fr hf (no _ (by omega)) h2, ⟨a3, aN_fr hf (no _ (by omega)) h3⟩, ⟨U, aN_fr hf (no _ (by omega)) h4, h4'⟩, ⟨f, rd_fr hf (no _ (by omega)) h5, h5'⟩, ⟨g, rd_fr hf (no _ (by omega)) h6, h6'⟩, b4, b5, b6, b7⟩
theorem Fr_mA {h h' : rx_H} {A : List Nat} (hf : Fr h h' A) (hA : ∀ i ∈ A, 98 ≤ i ∧ i ≤ 109) : Fr h h' mA := Fr_sub hf (fun i hi => by
  have := hA i hi
  simp
  omega)
theorem Fr_mm {h h1 h2 : rx_H} (x : Fr h h1 mA) (y : Fr h1 h2 mA) : Fr h h2 mA := Fr_trans x y (fun _ z => z) (fun _ z => z)
