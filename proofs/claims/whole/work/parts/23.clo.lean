/-! ===== closures ===== -/
def sub (a b : Nat) : Prop := ∀ i, a.testBit i = true → b.testBit i = true
theorem sub_rfl (a : Nat) : sub a a := fun _ h => h
theorem sub_trans {a b c : Nat} (h1 : sub a b) (h2 : sub b c) : sub a c := fun i h => h2 i (h1 i h)
theorem sub_antisymm {a b : Nat} (h1 : sub a b) (h2 : sub b a) : a = b := bit_ext fun i => ⟨h1 i, h2 i⟩
theorem sub_or_l (a b : Nat) : sub a (a ||| b) := fun i h => by rw [Nat.testBit_or, h, Bool.true_or]
theorem sub_or_r (a b : Nat) : sub b (a ||| b) := fun i h => by rw [Nat.testBit_or, h, Bool.or_true]
theorem sub_or {a b c : Nat} (h1 : sub a c) (h2 : sub b c) : sub (a ||| b) c := fun i h => by
  rw [Nat.testBit_or, Bool.or_eq_true] at h
  exact h.elim (h1 i) (h2 i)
theorem or_eq_sub {a b : Nat} (h : a ||| b = a) : sub b a := fun i hi => by rw [← h, Nat.testBit_or, hi, Bool.or_true]
theorem sub_eq_or {a b : Nat} (h : sub b a) : a ||| b = a := sub_antisymm (sub_or (sub_rfl a) h) (sub_or_l a b)
def cnt (n a : Nat) : Nat := ctb a.testBit n
theorem cnt_le (n a : Nat) : cnt n a ≤ n := ctb_le _ n
theorem cnt_mono {a b : Nat} (h : sub a b) : ∀ n, cnt n a ≤ cnt n b
  | 0 => Nat.le_refl _
  | n + 1 => by
    have ih := cnt_mono h n
    have h1 : (a.testBit n).toNat ≤ (b.testBit n).toNat := by
      cases ha : a.testBit n
      · exact Nat.zero_le _
      · rw [h n ha]; exact Nat.le_refl _
    show ctb _ n + _ ≤ ctb _ n + _
    unfold cnt at ih
    omega
theorem cnt_lt {a b : Nat} (h : sub a b) : ∀ n i, i < n → a.testBit i = false → b.testBit i = true → cnt n a < cnt n b
  | 0, i, hi, _, _ => by omega
  | n + 1, i, hi, ha, hb => by
    show ctb _ n + _ < ctb _ n + _
    by_cases e : i = n
    · subst e
      have ih := cnt_mono h i
      unfold cnt at ih
      rw [ha, hb]
      show _ + 0 < _ + 1
      omega
    · have ih := cnt_lt h n i (by omega) ha hb
      unfold cnt at ih
      have h1 : (a.testBit n).toNat ≤ (b.testBit n).toNat := by
        cases ha : a.testBit n
        · exact Nat.zero_le _
        · rw [h n ha]; exact Nat.le_refl _
      omega
theorem cnt_strict {a b n : Nat} (h : sub a b) (hb : b < 2 ^ n) (hne : ¬ b = a) : cnt n a < cnt n b := by
  have : ∃ i, b.testBit i = true ∧ a.testBit i = false := by
    apply Classical.byContradiction
    intro hno
    apply hne
    refine sub_antisymm (fun i hi => ?_) h
    cases ha : a.testBit i
    · exact absurd ⟨i, hi, ha⟩ hno
    · rfl
  obtain ⟨i, h1, h2⟩ := this
  exact cnt_lt h n i (bit_lt hb h1) h2 h1
theorem cnt_pos {a n i : Nat} (h : a.testBit i = true) (hi : i < n) : 0 < cnt n a := by
  have := cnt_lt (a := 0) (b := a) (fun j hj => by simp at hj) n i hi (by simp) h
  omega
/-- S is the least set that holds x and that g does not lead out of -/
def isClo (g : Nat → Nat) (x S : Nat) : Prop := sub x S ∧ sub (g S) S ∧ ∀ T, sub x T → sub (g T) T → sub S T
theorem isClo_one {g : Nat → Nat} {x S T : Nat} (h1 : isClo g x S) (h2 : isClo g x T) : S = T := sub_antisymm (h1.2.2 T h2.1 h2.2.1) (h2.2.2 S h1.1 h1.2.1)
def mono (g : Nat → Nat) : Prop := ∀ a b, sub a b → sub (g a) (g b)
/-- all that some rows of the members of a set tell -/
def led (w : Nat → Nat) (b n set : Nat) : Nat := un (fun s => if set.testBit s then w (s * 5 + b) else 0) n
theorem led_bit (w : Nat → Nat) (b n set t : Nat) : (led w b n set).testBit t = true ↔ ∃ s, s < n ∧ set.testBit s = true ∧ (w (s * 5 + b)).testBit t = true := by
  unfold led
  rw [un_bit]
  constructor
  · rintro ⟨i, h1, h2⟩
    split at h2
    · next h3 => exact ⟨i, h1, h3, h2⟩
    · simp at h2
  · rintro ⟨s, h1, h2, h3⟩
    exact ⟨s, h1, by rw [if_pos h2]; exact h3⟩
theorem led_mono (w : Nat → Nat) (b n : Nat) : mono (led w b n) := fun x y h t ht => by
  rw [led_bit] at ht ⊢
  obtain ⟨s, h1, h2, h3⟩ := ht
  exact ⟨s, h1, h s h2, h3⟩
/-- by any moves -/
def sucs (w : Nat → Nat) (n set : Nat) : Nat := un (fun s => if set.testBit s then un (fun b => w (s * 5 + b)) 5 else 0) n
theorem sucs_bit (w : Nat → Nat) (n set t : Nat) : (sucs w n set).testBit t = true ↔ ∃ s b, s < n ∧ b < 5 ∧ set.testBit s = true ∧ (w (s * 5 + b)).testBit t = true := by
  unfold sucs
  rw [un_bit]
  constructor
  · rintro ⟨i, h1, h2⟩
    split at h2
    · next h3 =>
      obtain ⟨b, h4, h5⟩ := (un_bit _ _ _).mp h2
      exact ⟨i, b, h1, h4, h3, h5⟩
    · simp at h2
  · rintro ⟨s, b, h1, h2, h3, h4⟩
    exact ⟨s, h1, by rw [if_pos h3]; exact (un_bit _ _ _).mpr ⟨b, h2, h4⟩⟩
theorem sucs_mono (w : Nat → Nat) (n : Nat) : mono (sucs w n) := fun x y h t ht => by
  rw [sucs_bit] at ht ⊢
  obtain ⟨s, b, h1, h2, h3, h4⟩ := ht
  exact ⟨s, b, h1, h2, h s h3, h4⟩
theorem sucs_lt {w : Nat → Nat} {n m : Nat} (hn : n ≤ 8) (hw : ∀ j, j < 40 → w j < 2 ^ m) (set : Nat) : sucs w n set < 2 ^ m := by
  refine un_lt n (fun i hi => ?_)
  split
  · exact un_lt 5 (fun b hb => hw _ (by omega))
  · exact Nat.two_pow_pos m
/-! ===== Proc.successors, reached ===== -/
theorem l_X4_suc5 {h : rx_H} {o n : Nat} {w : Nat → Nat} (hp : pW h o n w) (hw : ∀ j, j < 40 → w j < 256) {s set acc : Nat} (hs : s < 8) (Q : Option Value → rx_H → Prop) (hq : rx_R 47 45 [.ref o, .int (nI set), .int (nI (acc ||| un (fun b => w (s * 5 + b)) 5)), .int (nI s), .int (nI 5)] [] h Q) : ∀ j i, i + j = 5 → rx_R 47 23 [.ref o, .int (nI set), .int (nI (acc ||| un (fun b => w (s * 5 + b)) i)), .int (nI s), .int (nI i)] [] h Q
  | 0, i, e => by
    have e' : i = 5 := by omega
    subst e'
    apply rx_wp_sound 40 [23, 45]
    simp (disch := first | decide | omega) only [rx_W, rx_wp_succ, rx_nx_stop, rx_nx_go, rx_lx_some, rx_fx_some, rx_ax_some, rx_qx_some, rx_ox_some, rx_vx_ref, rx_ix_ref, rx_ld_0, rx_ld_2, rx_ld_3, rx_cx_some, rx_nl, List.getElem?_cons_zero, List.getElem?_cons_succ, List.set_cons_zero, List.set_cons_succ, List.length_cons, List.length_nil, List.take_succ_cons, List.take_zero, List.drop_succ_cons, List.drop_zero, List.reverse_cons, List.reverse_nil, List.nil_append, List.cons_append, Option.toList_some, Option.toList_none, true_and, and_true, and_self, true_or, or_true, false_and, and_false, false_or, or_false, not_false_eq_true, Nat.reduceAdd, Nat.reduceLT, Nat.reduceLeDiff, Nat.reduceBEq, Nat.reduceEqDiff, Bool.or_false, Bool.false_or, if_true, if_false, Bool.false_eq_true, nq_eq, nq_lt, nq_le, nq_in_t, nq_bd, nq_ft, nq_clamp, nq_shl31, nq_shr31, nq_bitb, nq_add, nq_mul, fa_and, fa_or, nq_b0, nq_b1, nq_b01, ↓ni_lt_t, ↓ni_lt_f, ↓ni_le_t, ↓ni_le_f, ↓ni_eq_t, ↓ni_eq_f, ↓ni_beq_t, ↓ni_beq_f, it_X4_successors]
    exact hq
  | j + 1, i, e => by
    have ih := l_X4_suc5 hp hw hs Q hq j (i + 1) (by omega)
    rw [un_succ, ← Nat.or_assoc] at ih
    apply rx_wp_sound 40 [23, 45]
    simp (disch := first | decide | omega) only [rx_W, rx_wp_succ, rx_nx_stop, rx_nx_go, rx_lx_some, rx_fx_some, rx_ax_some, rx_qx_some, rx_ox_some, rx_vx_ref, rx_ix_ref, rx_ld_0, rx_ld_2, rx_ld_3, rx_cx_some, rx_nl, List.getElem?_cons_zero, List.getElem?_cons_succ, List.set_cons_zero, List.set_cons_succ, List.length_cons, List.length_nil, List.take_succ_cons, List.take_zero, List.drop_succ_cons, List.drop_zero, List.reverse_cons, List.reverse_nil, List.nil_append, List.cons_append, Option.toList_some, Option.toList_none, true_and, and_true, and_self, true_or, or_true, false_and, and_false, false_or, or_false, not_false_eq_true, Nat.reduceAdd, Nat.reduceLT, Nat.reduceLeDiff, Nat.reduceBEq, Nat.reduceEqDiff, Bool.or_false, Bool.false_or, if_true, if_false, Bool.false_eq_true, nq_eq, nq_lt, nq_le, nq_in_t, nq_bd, nq_ft, nq_clamp, nq_shl31, nq_shr31, nq_bitb, nq_add, nq_mul, fa_and, fa_or, nq_b0, nq_b1, nq_b01, ↓ni_lt_t, ↓ni_lt_f, ↓ni_le_t, ↓ni_le_f, ↓ni_eq_t, ↓ni_eq_f, ↓ni_beq_t, ↓ni_beq_f, it_X4_successors, q_X4_targets hp, hp.1, hp.2.2]
    exact ih
theorem l_X4_suc {h : rx_H} {o n : Nat} {w : Nat → Nat} (hp : pW h o n w) (hn : n ≤ 8) (hw : ∀ j, j < 40 → w j < 256) {set : Nat} (hset : set < 256) (Q : Option Value → rx_H → Prop) (hq : Q (some (.int (nI (sucs w n set)))) h) : ∀ j i x, i + j = n → rx_R 47 4 [.ref o, .int (nI set), .int (nI (un (fun s => if set.testBit s then un (fun b => w (s * 5 + b)) 5 else 0) i)), .int (nI i), x] [] h Q
  | 0, i, x, e => by
    have e' : i = n := by omega
    subst e'
    apply rx_wp_sound 40 [4]
    simp (disch := first | decide | omega) only [rx_W, rx_wp_succ, rx_nx_stop, rx_nx_go, rx_lx_some, rx_fx_some, rx_ax_some, rx_qx_some, rx_ox_some, rx_vx_ref, rx_ix_ref, rx_ld_0, rx_ld_2, rx_ld_3, rx_cx_some, rx_nl, List.getElem?_cons_zero, List.getElem?_cons_succ, List.set_cons_zero, List.set_cons_succ, List.length_cons, List.length_nil, List.take_succ_cons, List.take_zero, List.drop_succ_cons, List.drop_zero, List.reverse_cons, List.reverse_nil, List.nil_append, List.cons_append, Option.toList_some, Option.toList_none, true_and, and_true, and_self, true_or, or_true, false_and, and_false, false_or, or_false, not_false_eq_true, Nat.reduceAdd, Nat.reduceLT, Nat.reduceLeDiff, Nat.reduceBEq, Nat.reduceEqDiff, Bool.or_false, Bool.false_or, if_true, if_false, Bool.false_eq_true, nq_eq, nq_lt, nq_le, nq_in_t, nq_bd, nq_ft, nq_clamp, nq_shl31, nq_shr31, nq_bitb, nq_add, nq_mul, fa_and, fa_or, nq_b0, nq_b1, nq_b01, ↓ni_lt_t, ↓ni_lt_f, ↓ni_le_t, ↓ni_le_f, ↓ni_eq_t, ↓ni_eq_f, ↓ni_beq_t, ↓ni_beq_f, it_X4_successors, hp.1, hp.2.2]
    exact hq
  | j + 1, i, x, e => by
    have ih := fun x => l_X4_suc hp hn hw hset Q hq j (i + 1) x (by omega)
    apply rx_wp_sound 40 [4, 23]
    simp (disch := first | decide | omega) only [rx_W, rx_wp_succ, rx_nx_stop, rx_nx_go, rx_lx_some, rx_fx_some, rx_ax_some, rx_qx_some, rx_ox_some, rx_vx_ref, rx_ix_ref, rx_ld_0, rx_ld_2, rx_ld_3, rx_cx_some, rx_nl, List.getElem?_cons_zero, List.getElem?_cons_succ, List.set_cons_zero, List.set_cons_succ, List.length_cons, List.length_nil, List.take_succ_cons, List.take_zero, List.drop_succ_cons, List.drop_zero, List.reverse_cons, List.reverse_nil, List.nil_append, List.cons_append, Option.toList_some, Option.toList_none, true_and, and_true, and_self, true_or, or_true, false_and, and_false, false_or, or_false, not_false_eq_true, Nat.reduceAdd, Nat.reduceLT, Nat.reduceLeDiff, Nat.reduceBEq, Nat.reduceEqDiff, Bool.or_false, Bool.false_or, if_true, if_false, Bool.false_eq_true, nq_eq, nq_lt, nq_le, nq_in_t, nq_bd, nq_ft, nq_clamp, nq_shl31, nq_shr31, nq_bitb, nq_add, nq_mul, fa_and, fa_or, nq_b0, nq_b1, nq_b01, ↓ni_lt_t, ↓ni_lt_f, ↓ni_le_t, ↓ni_le_f, ↓ni_eq_t, ↓ni_eq_f, ↓ni_beq_t, ↓ni_beq_f, it_X4_successors, q_X7_has, hp.1, hp.2.2]
    split
    · next h1 =>
      have ih := ih x
      rw [un_succ, h1, if_neg (by simp), Nat.or_zero] at ih
      exact ih
    · next h1 =>
      have h1 : set.testBit i = true := by simpa using h1
      have := l_X4_suc5 hp hw (s := i) (set := set) (acc := un (fun s => if set.testBit s then un (fun b => w (s * 5 + b)) 5 else 0) i) (by omega) Q (by
        have ih := ih (.int (nI 5))
        rw [un_succ, h1, if_pos rfl] at ih
        apply rx_wp_sound 40 [4]
        simp (disch := first | decide | omega) only [rx_W, rx_wp_succ, rx_nx_stop, rx_nx_go, rx_lx_some, rx_fx_some, rx_ax_some, rx_qx_some, rx_ox_some, rx_vx_ref, rx_ix_ref, rx_ld_0, rx_ld_2, rx_ld_3, rx_cx_some, rx_nl, List.getElem?_cons_zero, List.getElem?_cons_succ, List.set_cons_zero, List.set_cons_succ, List.length_cons, List.length_nil, List.take_succ_cons, List.take_zero, List.drop_succ_cons, List.drop_zero, List.reverse_cons, List.reverse_nil, List.nil_append, List.cons_append, Option.toList_some, Option.toList_none, true_and, and_true, and_self, true_or, or_true, false_and, and_false, false_or, or_false, not_false_eq_true, Nat.reduceAdd, Nat.reduceLT, Nat.reduceLeDiff, Nat.reduceBEq, Nat.reduceEqDiff, Bool.or_false, Bool.false_or, if_true, if_false, Bool.false_eq_true, nq_eq, nq_lt, nq_le, nq_in_t, nq_bd, nq_ft, nq_clamp, nq_shl31, nq_shr31, nq_bitb, nq_add, nq_mul, fa_and, fa_or, nq_b0, nq_b1, nq_b01, ↓ni_lt_t, ↓ni_lt_f, ↓ni_le_t, ↓ni_le_f, ↓ni_eq_t, ↓ni_eq_f, ↓ni_beq_t, ↓ni_beq_f, it_X4_successors]
        exact ih) 5 0 (by omega)
      rw [show un (fun b => w (i * 5 + b)) 0 = 0 from rfl, Nat.or_zero] at this
      exact this
theorem q_X4_successors {h : rx_H} {o n : Nat} {w : Nat → Nat} (hp : pW h o n w) (hn : n ≤ 8) (hw : ∀ j, j < 40 → w j < 256) {set : Nat} (hset : set < 256) (Q : Option Value → rx_H → Prop) : rx_Cl 47 [.ref o, .int (nI set)] h Q = Q (some (.int (nI (sucs w n set)))) h := by
  refine rx_Cl_eq ?_ Q
  apply en_X4_successors _ _ 40 [4]
  simp (disch := first | decide | omega) only [rx_W, rx_wp_succ, rx_nx_stop, rx_nx_go, rx_lx_some, rx_fx_some, rx_ax_some, rx_qx_some, rx_ox_some, rx_vx_ref, rx_ix_ref, rx_ld_0, rx_ld_2, rx_ld_3, rx_cx_some, rx_nl, List.getElem?_cons_zero, List.getElem?_cons_succ, List.set_cons_zero, List.set_cons_succ, List.length_cons, List.length_nil, List.take_succ_cons, List.take_zero, List.drop_succ_cons, List.drop_zero, List.reverse_cons, List.reverse_nil, List.nil_append, List.cons_append, Option.toList_some, Option.toList_none, true_and, and_true, and_self, true_or, or_true, false_and, and_false, false_or, or_false, not_false_eq_true, Nat.reduceAdd, Nat.reduceLT, Nat.reduceLeDiff, Nat.reduceBEq, Nat.reduceEqDiff, Bool.or_false, Bool.false_or, if_true, if_false, Bool.false_eq_true, nq_eq, nq_lt, nq_le, nq_in_t, nq_bd, nq_ft, nq_clamp, nq_shl31, nq_shr31, nq_bitb, nq_add, nq_mul, fa_and, fa_or, nq_b0, nq_b1, nq_b01, ↓ni_lt_t, ↓ni_lt_f, ↓ni_le_t, ↓ni_le_f, ↓ni_eq_t, ↓ni_eq_f, ↓ni_beq_t, ↓ni_beq_f, it_X4_successors]
  exact l_X4_suc hp hn hw hset _ ⟨rfl, rfl⟩ n 0 _ (by omega)
theorem l_X4_reached {h : rx_H} {o n : Nat} {w : Nat → Nat} (hp : pW h o n w) (hn0 : 1 ≤ n) (hn : n ≤ 8) (hw : ∀ j, j < 40 → w j < 2 ^ n) (Q : Option Value → rx_H → Prop) (hq : ∀ S, isClo (sucs w n) 1 S → S < 2 ^ n → Q (some (.int (nI S))) h) : ∀ j i set x, i + j = n → sub 1 set → (∀ T, sub 1 T → sub (sucs w n T) T → sub set T) → set < 2 ^ n → i + 1 ≤ cnt n set → rx_R 46 4 [.ref o, .int (nI set), .int (nI i), x] [] h Q
  | 0, i, set, x, e, h1, h2, h3, h4 => by
    have := cnt_le n set
    omega
  | j + 1, i, set, x, e, h1, h2, h3, h4 => by
    have p8 : 2 ^ n ≤ 2 ^ 8 := Nat.pow_le_pow_right (by omega) hn
    have hw' : ∀ j, j < 40 → w j < 256 := fun j hj => by have := hw j hj; omega
    have s1 := sucs_lt hn hw set
    have s2 : set ||| sucs w n set < 2 ^ n := Nat.or_lt_two_pow h3 s1
    apply rx_wp_sound 40 [4]
    simp (disch := first | decide | omega) only [rx_W, rx_wp_succ, rx_nx_stop, rx_nx_go, rx_lx_some, rx_fx_some, rx_ax_some, rx_qx_some, rx_ox_some, rx_vx_ref, rx_ix_ref, rx_ld_0, rx_ld_2, rx_ld_3, rx_cx_some, rx_nl, List.getElem?_cons_zero, List.getElem?_cons_succ, List.set_cons_zero, List.set_cons_succ, List.length_cons, List.length_nil, List.take_succ_cons, List.take_zero, List.drop_succ_cons, List.drop_zero, List.reverse_cons, List.reverse_nil, List.nil_append, List.cons_append, Option.toList_some, Option.toList_none, true_and, and_true, and_self, true_or, or_true, false_and, and_false, false_or, or_false, not_false_eq_true, Nat.reduceAdd, Nat.reduceLT, Nat.reduceLeDiff, Nat.reduceBEq, Nat.reduceEqDiff, Bool.or_false, Bool.false_or, if_true, if_false, Bool.false_eq_true, nq_eq, nq_lt, nq_le, nq_in_t, nq_bd, nq_ft, nq_clamp, nq_shl31, nq_shr31, nq_bitb, nq_add, nq_mul, fa_and, fa_or, nq_b0, nq_b1, nq_b01, ↓ni_lt_t, ↓ni_lt_f, ↓ni_le_t, ↓ni_le_f, ↓ni_eq_t, ↓ni_eq_f, ↓ni_beq_t, ↓ni_beq_f, it_X4_reached, q_X4_successors hp hn hw', hp.1, hp.2.2]
    split
    · next he => exact hq set ⟨h1, or_eq_sub he, h2⟩ h3
    · next he => exact l_X4_reached hp hn0 hn hw Q hq j (i + 1) _ _ (by omega) (sub_trans h1 (sub_or_l _ _)) (fun T t1 t2 => sub_or (h2 T t1 t2) (sub_trans (sucs_mono w n _ _ (h2 T t1 t2)) t2)) s2 (by
        have := cnt_strict (sub_or_l set (sucs w n set)) s2 he
        omega)
theorem c_X4_reached {h : rx_H} {o n : Nat} {w : Nat → Nat} (hp : pW h o n w) (hn0 : 1 ≤ n) (hn : n ≤ 8) (hw : ∀ j, j < 40 → w j < 2 ^ n) : rx_Cl 46 [.ref o] h (fun r h' => h' = h ∧ ∃ S, isClo (sucs w n) 1 S ∧ S < 2 ^ n ∧ r = some (.int (nI S))) := by
  apply en_X4_reached _ 40 [4]
  simp (disch := first | decide | omega) only [rx_W, rx_wp_succ, rx_nx_stop, rx_nx_go, rx_lx_some, rx_fx_some, rx_ax_some, rx_qx_some, rx_ox_some, rx_vx_ref, rx_ix_ref, rx_ld_0, rx_ld_2, rx_ld_3, rx_cx_some, rx_nl, List.getElem?_cons_zero, List.getElem?_cons_succ, List.set_cons_zero, List.set_cons_succ, List.length_cons, List.length_nil, List.take_succ_cons, List.take_zero, List.drop_succ_cons, List.drop_zero, List.reverse_cons, List.reverse_nil, List.nil_append, List.cons_append, Option.toList_some, Option.toList_none, true_and, and_true, and_self, true_or, or_true, false_and, and_false, false_or, or_false, not_false_eq_true, Nat.reduceAdd, Nat.reduceLT, Nat.reduceLeDiff, Nat.reduceBEq, Nat.reduceEqDiff, Bool.or_false, Bool.false_or, if_true, if_false, Bool.false_eq_true, nq_eq, nq_lt, nq_le, nq_in_t, nq_bd, nq_ft, nq_clamp, nq_shl31, nq_shr31, nq_bitb, nq_add, nq_mul, fa_and, fa_or, nq_b0, nq_b1, nq_b01, ↓ni_lt_t, ↓ni_lt_f, ↓ni_le_t, ↓ni_le_f, ↓ni_eq_t, ↓ni_eq_f, ↓ni_beq_t, ↓ni_beq_f, it_X4_reached]
  refine l_X4_reached hp hn0 hn hw _ (fun S h1 h2 => ⟨rfl, S, h1, h2, rfl⟩) n 0 1 _ (by omega) (sub_rfl 1) (fun T t1 _ => t1) (Nat.one_lt_two_pow (by omega)) ?_
  exact cnt_pos (i := 0) (by decide) (by omega)
