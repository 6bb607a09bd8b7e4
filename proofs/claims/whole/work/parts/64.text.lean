/-! ===== THE TEXT ===== -/
theorem sb97 : ∀ a, a < 128 → inR (nI a - nI 97) 4 = decide (97 ≤ a ∧ a < 101) := by decide +kernel
theorem sb48 : ∀ k, k < 9 → ∀ a, a < 128 → inR (nI a - nI 48) k = decide (48 ≤ a ∧ a < 48 + k) := by decide +kernel
theorem sb48n : ∀ a, a < 48 → (nI a - nI 48 < nI 0) := by decide +kernel
theorem sbm97 : inR (-1 - nI 97) 4 = false := by decide +kernel
theorem sbm48 : ∀ k, k < 9 → inR (-1 - nI 48) k = false := by decide +kernel
/-- the letters read in the first i bytes; none: a fault ahead -/
def wdS (t : Nat → Nat) : Nat → Option (List Nat)
  | 0 => some []
  | i + 1 => match wdS t i with
    | none => none
    | some l => if t i = 32 then some l else if 97 ≤ t i ∧ t i < 101 ∧ l.length < 20 then some (l ++ [t i - 97]) else none
theorem wdS_succ {t : Nat → Nat} {i : Nat} {l : List Nat} (h : wdS t i = some l) : wdS t (i + 1) = if t i = 32 then some l else if 97 ≤ t i ∧ t i < 101 ∧ l.length < 20 then some (l ++ [t i - 97]) else none := by
  show (match wdS t i with
    | none => none
    | some l => if t i = 32 then some l else if 97 ≤ t i ∧ t i < 101 ∧ l.length < 20 then some (l ++ [t i - 97]) else none) = _
  rw [h]
theorem wdS_no {t : Nat → Nat} {i : Nat} (h : wdS t i = none) : ∀ d, wdS t (i + d) = none
  | 0 => h
  | d + 1 => by
    show (match wdS t (i + d) with
      | none => none
      | some l => if t (i + d) = 32 then some l else if 97 ≤ t (i + d) ∧ t (i + d) < 101 ∧ l.length < 20 then some (l ++ [t (i + d) - 97]) else none) = none
    rw [wdS_no h d]
/-- where the word has its fault -/
def wdF (t : Nat → Nat) (L i : Nat) : Prop := i < L ∧ (∃ l, wdS t i = some l) ∧ wdS t (i + 1) = none
theorem wdF_one {t : Nat → Nat} {L i j : Nat} (h : wdF t L i) (h' : wdF t L j) : i = j := by
  obtain ⟨-, ⟨l, h2⟩, h3⟩ := h
  obtain ⟨-, ⟨l', k2⟩, k3⟩ := h'
  rcases Nat.lt_trichotomy i j with z | z | z
  · have := wdS_no h3 (j - (i + 1))
    rw [show i + 1 + (j - (i + 1)) = j by omega, k2] at this
    cases this
  · exact z
  · have := wdS_no k3 (i - (j + 1))
    rw [show j + 1 + (i - (j + 1)) = i by omega, h2] at this
    cases this
theorem wdF_no {t : Nat → Nat} {L i : Nat} {l : List Nat} (h : wdF t L i) (h' : wdS t L = some l) : False := by
  obtain ⟨h1, -, h3⟩ := h
  have := wdS_no h3 (L - (i + 1))
  rw [show i + 1 + (L - (i + 1)) = L by omega, h'] at this
  cases this
theorem wdS_len {t : Nat → Nat} : ∀ i l, wdS t i = some l → l.length ≤ 20 ∧ ∀ x ∈ l, x < 4
  | 0, l, h => by cases h; exact ⟨by simp, fun x hx => by simp at hx⟩
  | i + 1, l, h => by
    cases c : wdS t i with
    | none => rw [show wdS t (i + 1) = none from wdS_no c 1] at h; cases h
    | some l0 =>
      rw [wdS_succ c] at h
      obtain ⟨a1, a2⟩ := wdS_len i l0 c
      split at h
      · cases h; exact ⟨a1, a2⟩
      · split at h
        · next d =>
          cases h
          refine ⟨by simp; omega, fun x hx => ?_⟩
          rw [List.mem_append] at hx
          rcases hx with z | z
          · exact a2 x z
          · simp at z; omega
        · cases h
def txO (L wl st fb fr b : Int32) : rx_C := .inr (6, [.int L, .int wl, .ref 47, .ref 48, .int st, .int fb, .int fr, .int b])
def tI (h : rx_H) (L : Nat) (t : Nat → Nat) : Prop := (∃ wl st fb fr b, rx_rd h 46 = some (txO (nI L) wl st fb fr b)) ∧ (∃ g, rx_rd h 47 = some (.inl (0, 20, .inl g))) ∧ ∃ f, rx_rd h 48 = some (.inl (1, 100, .inl f)) ∧ ∀ i, i < L → f i = nI (t i)
section RW
variable {h0 : rx_H} {L : Nat} {t : Nat → Nat}
theorem l_X6_rw {st fb fr b : Int32} {f : Nat → Int32} (hL : L ≤ 100) (ht : ∀ i, i < L → t i < 128) (h3 : rx_rd h0 48 = some (.inl (1, 100, .inl f))) (hf3 : ∀ i, i < L → f i = nI (t i)) (Q : Option Value → rx_H → Prop)
    (hq1 : ∀ h l g, Fr h0 h [46, 47] → rx_rd h 46 = some (txO (nI L) (nI l.length) st fb fr b) → rx_rd h 47 = some (.inl (0, 20, .inl g)) → (∀ i x, l[i]? = some x → g i = nI x) → wdS t L = some l → Q (some (.int (-1))) h)
    (hq2 : ∀ h i, Fr h0 h [46, 47] → (∃ wl, rx_rd h 46 = some (txO (nI L) wl st fb fr b)) → (∃ g, rx_rd h 47 = some (.inl (0, 20, .inl g))) → wdF t L i → Q (some (.int (nI i))) h) :
    ∀ j i h l g x, i + j = L → Fr h0 h [46, 47] → rx_rd h 46 = some (txO (nI L) (nI l.length) st fb fr b) → rx_rd h 47 = some (.inl (0, 20, .inl g)) → (∀ i x, l[i]? = some x → g i = nI x) → wdS t i = some l → rx_R 61 7 [.ref 46, .int (nI i), x] [] h Q
  | 0, i, h, l, g, x, e, hf, h1, h2, hg, hw => by
    have e' : i = L := by omega
    subst e'
    apply rx_wp_sound 60 [7]
    simp (disch := first | decide | omega) only [rx_W, rx_wp_succ, rx_nx_stop, rx_nx_go, rx_lx_some, rx_fx_some, rx_ax_some, rx_qx_some, rx_ox_some, rx_vx_ref, rx_ix_ref, rx_ld_0, rx_ld_2, rx_ld_3, rx_cx_some, rx_nl, List.getElem?_cons_zero, List.getElem?_cons_succ, List.set_cons_zero, List.set_cons_succ, List.length_cons, List.length_nil, List.take_succ_cons, List.take_zero, List.drop_succ_cons, List.drop_zero, List.reverse_cons, List.reverse_nil, List.nil_append, List.cons_append, Option.toList_some, Option.toList_none, true_and, and_true, and_self, true_or, or_true, false_and, and_false, false_or, or_false, not_false_eq_true, Nat.reduceAdd, Nat.reduceLT, Nat.reduceLeDiff, Nat.reduceBEq, Nat.reduceEqDiff, Bool.or_false, Bool.false_or, if_true, if_false, Bool.false_eq_true, nq_eq, nq_lt, nq_le, nq_in_t, nq_bd, nq_ft, nq_clamp, nq_shl31, nq_shr31, nq_bitb, nq_add, nq_mul, fa_and, fa_or, nq_b0, nq_b1, nq_b01, ↓ni_lt_t, ↓ni_lt_f, ↓ni_le_t, ↓ni_le_f, ↓ni_eq_t, ↓ni_eq_f, ↓ni_beq_t, ↓ni_beq_f, it_X6_readWord, h1, txO]
    exact hq1 h l g hf h1 h2 hg hw
  | j + 1, i, h, l, g, x, e, hf, h1, h2, hg, hw => by
    have h3' := rd_fr hf (by simp) h3
    have f4 := hf3 i (by omega)
    have tl := ht i (by omega)
    have s97 := sb97 (t i) tl
    have ws := wdS_succ hw
    have ll := (wdS_len i l hw).1
    have ih := fun h l g x => l_X6_rw hL ht h3 hf3 Q hq1 hq2 j (i + 1) h l g x (by omega)
    by_cases c : t i = 32
    · rw [if_pos c] at ws
      apply rx_wp_sound 60 [7]
      simp (disch := first | decide | omega) only [rx_W, rx_wp_succ, rx_nx_stop, rx_nx_go, rx_lx_some, rx_fx_some, rx_ax_some, rx_qx_some, rx_ox_some, rx_vx_ref, rx_ix_ref, rx_ld_0, rx_ld_2, rx_ld_3, rx_cx_some, rx_nl, List.getElem?_cons_zero, List.getElem?_cons_succ, List.set_cons_zero, List.set_cons_succ, List.length_cons, List.length_nil, List.take_succ_cons, List.take_zero, List.drop_succ_cons, List.drop_zero, List.reverse_cons, List.reverse_nil, List.nil_append, List.cons_append, Option.toList_some, Option.toList_none, true_and, and_true, and_self, true_or, or_true, false_and, and_false, false_or, or_false, not_false_eq_true, Nat.reduceAdd, Nat.reduceLT, Nat.reduceLeDiff, Nat.reduceBEq, Nat.reduceEqDiff, Bool.or_false, Bool.false_or, if_true, if_false, Bool.false_eq_true, nq_eq, nq_lt, nq_le, nq_in_t, nq_bd, nq_ft, nq_clamp, nq_shl31, nq_shr31, nq_bitb, nq_add, nq_mul, fa_and, fa_or, nq_b0, nq_b1, nq_b01, ↓ni_lt_t, ↓ni_lt_f, ↓ni_le_t, ↓ni_le_f, ↓ni_eq_t, ↓ni_eq_f, ↓ni_beq_t, ↓ni_beq_f, it_X6_readWord, h1, txO, h3', f4, c]
      exact ih h l g _ hf h1 h2 hg ws
    · rw [if_neg c] at ws
      by_cases d : 97 ≤ t i ∧ t i < 101
      · rw [decide_eq_true d] at s97
        by_cases d2 : l.length < 20
        · rw [if_pos ⟨d.1, d.2, d2⟩] at ws
          have su : nI (t i) - nI 97 = nI (t i - 97) := nq_sub d.1
          rw [su] at s97
          apply rx_wp_sound 60 [7]
          simp (disch := first | decide | omega) only [rx_W, rx_wp_succ, rx_nx_stop, rx_nx_go, rx_lx_some, rx_fx_some, rx_ax_some, rx_qx_some, rx_ox_some, rx_vx_ref, rx_ix_ref, rx_ld_0, rx_ld_2, rx_ld_3, rx_cx_some, rx_nl, List.getElem?_cons_zero, List.getElem?_cons_succ, List.set_cons_zero, List.set_cons_succ, List.length_cons, List.length_nil, List.take_succ_cons, List.take_zero, List.drop_succ_cons, List.drop_zero, List.reverse_cons, List.reverse_nil, List.nil_append, List.cons_append, Option.toList_some, Option.toList_none, true_and, and_true, and_self, true_or, or_true, false_and, and_false, false_or, or_false, not_false_eq_true, Nat.reduceAdd, Nat.reduceLT, Nat.reduceLeDiff, Nat.reduceBEq, Nat.reduceEqDiff, Bool.or_false, Bool.false_or, if_true, if_false, Bool.false_eq_true, nq_eq, nq_lt, nq_le, nq_in_t, nq_bd, nq_ft, nq_clamp, nq_shl31, nq_shr31, nq_bitb, nq_add, nq_mul, fa_and, fa_or, nq_b0, nq_b1, nq_b01, ↓ni_lt_t, ↓ni_lt_f, ↓ni_le_t, ↓ni_le_f, ↓ni_eq_t, ↓ni_eq_f, ↓ni_beq_t, ↓ni_beq_f, it_X6_readWord, h1, txO, h3', f4, c, su, q_X7_isLetter, s97, h2, rd_eq, rd_ne, rx_ft]
          refine ih _ (l ++ [t i - 97]) (upd g l.length (nI (t i - 97))) _ (Fr_up (Fr_up hf (by simp)) (by simp)) (by rw [rd_eq, List.length_append]; rfl) ((rd_ne (by omega)).trans (rd_eq _ _ _)) (fun k y hk => ?_) ws
          unfold upd
          by_cases ek : k = l.length
          · rw [if_pos ek]
            rw [ek, List.getElem?_append_right (Nat.le_refl _), Nat.sub_self] at hk
            simp at hk
            rw [hk]
          · rw [if_neg ek]
            have hkl : k < (l ++ [t i - 97]).length := (List.getElem?_eq_some_iff.mp hk).1
            rw [List.length_append] at hkl
            simp at hkl
            rw [List.getElem?_append_left (by omega)] at hk
            exact hg k y hk
        · rw [if_neg (by omega)] at ws
          apply rx_wp_sound 60 [7]
          simp (disch := first | decide | omega) only [rx_W, rx_wp_succ, rx_nx_stop, rx_nx_go, rx_lx_some, rx_fx_some, rx_ax_some, rx_qx_some, rx_ox_some, rx_vx_ref, rx_ix_ref, rx_ld_0, rx_ld_2, rx_ld_3, rx_cx_some, rx_nl, List.getElem?_cons_zero, List.getElem?_cons_succ, List.set_cons_zero, List.set_cons_succ, List.length_cons, List.length_nil, List.take_succ_cons, List.take_zero, List.drop_succ_cons, List.drop_zero, List.reverse_cons, List.reverse_nil, List.nil_append, List.cons_append, Option.toList_some, Option.toList_none, true_and, and_true, and_self, true_or, or_true, false_and, and_false, false_or, or_false, not_false_eq_true, Nat.reduceAdd, Nat.reduceLT, Nat.reduceLeDiff, Nat.reduceBEq, Nat.reduceEqDiff, Bool.or_false, Bool.false_or, if_true, if_false, Bool.false_eq_true, nq_eq, nq_lt, nq_le, nq_in_t, nq_bd, nq_ft, nq_clamp, nq_shl31, nq_shr31, nq_bitb, nq_add, nq_mul, fa_and, fa_or, nq_b0, nq_b1, nq_b01, ↓ni_lt_t, ↓ni_lt_f, ↓ni_le_t, ↓ni_le_f, ↓ni_eq_t, ↓ni_eq_f, ↓ni_beq_t, ↓ni_beq_f, it_X6_readWord, h1, txO, h3', f4, c, q_X7_isLetter, s97]
          exact hq2 h i hf ⟨_, h1⟩ ⟨g, h2⟩ ⟨by omega, ⟨l, hw⟩, ws⟩
      · rw [decide_eq_false d] at s97
        rw [if_neg (by omega)] at ws
        apply rx_wp_sound 60 [7]
        simp (disch := first | decide | omega) only [rx_W, rx_wp_succ, rx_nx_stop, rx_nx_go, rx_lx_some, rx_fx_some, rx_ax_some, rx_qx_some, rx_ox_some, rx_vx_ref, rx_ix_ref, rx_ld_0, rx_ld_2, rx_ld_3, rx_cx_some, rx_nl, List.getElem?_cons_zero, List.getElem?_cons_succ, List.set_cons_zero, List.set_cons_succ, List.length_cons, List.length_nil, List.take_succ_cons, List.take_zero, List.drop_succ_cons, List.drop_zero, List.reverse_cons, List.reverse_nil, List.nil_append, List.cons_append, Option.toList_some, Option.toList_none, true_and, and_true, and_self, true_or, or_true, false_and, and_false, false_or, or_false, not_false_eq_true, Nat.reduceAdd, Nat.reduceLT, Nat.reduceLeDiff, Nat.reduceBEq, Nat.reduceEqDiff, Bool.or_false, Bool.false_or, if_true, if_false, Bool.false_eq_true, nq_eq, nq_lt, nq_le, nq_in_t, nq_bd, nq_ft, nq_clamp, nq_shl31, nq_shr31, nq_bitb, nq_add, nq_mul, fa_and, fa_or, nq_b0, nq_b1, nq_b01, ↓ni_lt_t, ↓ni_lt_f, ↓ni_le_t, ↓ni_le_f, ↓ni_eq_t, ↓ni_eq_f, ↓ni_beq_t, ↓ni_beq_f, it_X6_readWord, h1, txO, h3', f4, c, q_X7_isLetter, s97]
        exact hq2 h i hf ⟨_, h1⟩ ⟨g, h2⟩ ⟨by omega, ⟨l, hw⟩, ws⟩
theorem c_X6_readWord {h : rx_H} (hi : tI h L t) (hL : L ≤ 100) (ht : ∀ i, i < L → t i < 128) : rx_Cl 61 [.ref 46] h (fun r h' => Fr h h' [46, 47] ∧ tI h' L t ∧ ((∃ i, wdF t L i ∧ r = some (.int (nI i))) ∨ ∃ l st fb fr b g, wdS t L = some l ∧ r = some (.int (-1)) ∧ rx_rd h' 46 = some (txO (nI L) (nI l.length) st fb fr b) ∧ rx_rd h' 47 = some (.inl (0, 20, .inl g)) ∧ ∀ i x, l[i]? = some x → g i = nI x)) := by
  obtain ⟨⟨wl, st, fb, fr, b, h1⟩, ⟨g, h2⟩, f, h3, h4⟩ := hi
  apply en_X6_readWord _ 60 [7]
  simp (disch := first | decide | omega) only [rx_W, rx_wp_succ, rx_nx_stop, rx_nx_go, rx_lx_some, rx_fx_some, rx_ax_some, rx_qx_some, rx_ox_some, rx_vx_ref, rx_ix_ref, rx_ld_0, rx_ld_2, rx_ld_3, rx_cx_some, rx_nl, List.getElem?_cons_zero, List.getElem?_cons_succ, List.set_cons_zero, List.set_cons_succ, List.length_cons, List.length_nil, List.take_succ_cons, List.take_zero, List.drop_succ_cons, List.drop_zero, List.reverse_cons, List.reverse_nil, List.nil_append, List.cons_append, Option.toList_some, Option.toList_none, true_and, and_true, and_self, true_or, or_true, false_and, and_false, false_or, or_false, not_false_eq_true, Nat.reduceAdd, Nat.reduceLT, Nat.reduceLeDiff, Nat.reduceBEq, Nat.reduceEqDiff, Bool.or_false, Bool.false_or, if_true, if_false, Bool.false_eq_true, nq_eq, nq_lt, nq_le, nq_in_t, nq_bd, nq_ft, nq_clamp, nq_shl31, nq_shr31, nq_bitb, nq_add, nq_mul, fa_and, fa_or, nq_b0, nq_b1, nq_b01, ↓ni_lt_t, ↓ni_lt_f, ↓ni_le_t, ↓ni_le_f, ↓ni_eq_t, ↓ni_eq_f, ↓ni_beq_t, ↓ni_beq_f, it_X6_readWord, h1, txO, rx_ft]
  have f1 : ∀ c, Fr h (rx_up h 46 c) [46, 47] := fun c => Fr_up (Fr_rfl _ _) (by simp)
  refine l_X6_rw (h0 := h) (st := st) (fb := fb) (fr := fr) (b := b) hL ht h3 h4 _ (fun h' l g' y1 y2 y3 y4 y5 => ⟨y1, ⟨⟨_, _, _, _, _, y2⟩, ⟨g', y3⟩, f, rd_fr y1 (by simp) h3, h4⟩, Or.inr ⟨l, st, fb, fr, b, g', y5, rfl, y2, y3, y4⟩⟩) (fun h' i y1 y2 y3 y4 => ⟨y1, ⟨by obtain ⟨wl', y2⟩ := y2; exact ⟨_, _, _, _, _, y2⟩, y3, f, rd_fr y1 (by simp) h3, h4⟩, Or.inl ⟨i, y4, rfl⟩⟩) L 0 _ [] g _ (by omega) (f1 _) (by rw [rd_eq]; rfl) ((rd_ne (by omega)).trans h2) (fun i x hx => by simp at hx) rfl
end RW
/-! ===== moves of the text ===== -/
/-- any, stage, from, by, first, rows -/
abbrev Ms : Type := Bool × Nat × Nat × Nat × Nat × (Nat → Nat)
def kdF (c : Nat) : Nat := if c = 105 then 4 else c - 97
def kdB (c : Nat) : Bool := decide (c = 105) || decide (97 ≤ c ∧ c < 101)
def mst (n : Nat) (σ : Ms) (i c : Nat) : Nat ⊕ Ms :=
  if σ.2.1 = 0 then (if (48 ≤ c ∧ c < 48 + n) ∧ tot σ.2.2.2.2.2 < 24 then .inr (true, 1, c - 48, σ.2.2.2.1, i, σ.2.2.2.2.2) else .inl i)
  else if σ.2.1 = 1 then (if kdB c = true then .inr (true, 2, σ.2.2.1, kdF c, σ.2.2.2.2.1, σ.2.2.2.2.2) else .inl i)
  else if σ.2.1 = 2 then (if 48 ≤ c ∧ c < 48 + n then (if (σ.2.2.2.2.2 (σ.2.2.1 * 5 + σ.2.2.2.1)).testBit (c - 48) = true then .inl σ.2.2.2.2.1 else .inr (true, 3, σ.2.2.1, σ.2.2.2.1, σ.2.2.2.2.1, va_up σ.2.2.2.2.2 (σ.2.2.1 * 5 + σ.2.2.2.1) (σ.2.2.2.2.2 (σ.2.2.1 * 5 + σ.2.2.2.1) ||| 2 ^ (c - 48)))) else .inl i)
  else (if c = 59 then .inr (true, 0, σ.2.2.1, σ.2.2.2.1, σ.2.2.2.2.1, σ.2.2.2.2.2) else .inl i)
def mrd (t : Nat → Nat) (n : Nat) (W : Nat → Nat) : Nat → Nat ⊕ Ms
  | 0 => .inr (false, 0, 0, 0, 0, W)
  | i + 1 => match mrd t n W i with
    | .inl f => .inl f
    | .inr σ => if t i = 32 then .inr σ else mst n σ i (t i)
def mres (t : Nat → Nat) (n : Nat) (W : Nat → Nat) (L : Nat) : Nat ⊕ (Nat → Nat) := match mrd t n W L with
  | .inl f => .inl f
  | .inr σ => if σ.1 = true ∧ σ.2.1 = 0 then .inr σ.2.2.2.2.2 else .inl L
theorem mrd_succ {t : Nat → Nat} {n : Nat} {W : Nat → Nat} {i : Nat} {σ : Ms} (h : mrd t n W i = .inr σ) : mrd t n W (i + 1) = if t i = 32 then .inr σ else mst n σ i (t i) := by
  show ((match mrd t n W i with
    | .inl f => .inl f
    | .inr σ => if t i = 32 then .inr σ else mst n σ i (t i)) : Nat ⊕ Ms) = _
  rw [h]
theorem mrd_no {t : Nat → Nat} {n : Nat} {W : Nat → Nat} {i f : Nat} (h : mrd t n W i = .inl f) : ∀ d, mrd t n W (i + d) = .inl f
  | 0 => h
  | d + 1 => by
    show ((match mrd t n W (i + d) with
      | .inl f => .inl f
      | .inr σ => if t (i + d) = 32 then .inr σ else mst n σ (i + d) (t (i + d))) : Nat ⊕ Ms) = _
    rw [mrd_no h d]
theorem mres_no {t : Nat → Nat} {n : Nat} {W : Nat → Nat} {i f L : Nat} (hi : i ≤ L) (h : mrd t n W i = .inl f) : mres t n W L = .inl f := by
  have := mrd_no h (L - i)
  rw [show i + (L - i) = L by omega] at this
  unfold mres
  rw [this]
theorem mrd_blank {t : Nat → Nat} {n : Nat} {W : Nat → Nat} {i : Nat} {σ : Ms} (h : mrd t n W i = .inr σ) : ∀ d, (∀ k, i ≤ k → k < i + d → t k = 32) → mrd t n W (i + d) = .inr σ
  | 0, _ => h
  | d + 1, hb => by
    have ih := mrd_blank h d (fun k h1 h2 => hb k h1 (by omega))
    show mrd t n W (i + d + 1) = _
    rw [mrd_succ ih, if_pos (hb (i + d) (by omega) (by omega))]
theorem wdS_blank {t : Nat → Nat} {i : Nat} {l : List Nat} (h : wdS t i = some l) : ∀ d, (∀ k, i ≤ k → k < i + d → t k = 32) → wdS t (i + d) = some l
  | 0, _ => h
  | d + 1, hb => by
    have ih := wdS_blank h d (fun k h1 h2 => hb k h1 (by omega))
    show wdS t (i + d + 1) = _
    rw [wdS_succ ih, if_pos (hb (i + d) (by omega) (by omega))]
