def thB (v : Nat → Nat) (p q i : Nat) : Bool := decide (i % 8 < v (41 * bl p q i))
def alB (v : Nat → Nat) (p q i j : Nat) : Prop := alk (v (41 * bl p q i)) (wq v (bl p q i)) (v (41 * bl p q j)) (wq v (bl p q j)) (i % 8) (j % 8)
theorem blk_at {p q i t : Nat} (ht : t < 8) : (t + of8 i) % 8 = t ∧ bl p q (t + of8 i) = bl p q i ∧ of8 (t + of8 i) = of8 i ∧ t + of8 i < 16 := by
  unfold bl
  rcases of8_c i with ⟨c, d⟩ | ⟨c, d⟩
  · rw [d, if_pos c, if_pos (by omega)]
    refine ⟨by omega, rfl, ?_, by omega⟩
    rw [Nat.add_zero]
    rcases of8_c t with ⟨e, f⟩ | ⟨e, f⟩ <;> omega
  · rw [d, if_neg c, if_neg (by omega)]
    refine ⟨by omega, rfl, ?_, by omega⟩
    rcases of8_c (t + 8) with ⟨e, f⟩ | ⟨e, f⟩ <;> omega
theorem blk_self (i : Nat) (hi : i < 16) : i % 8 + of8 i = i := by
  rcases of8_c i with ⟨c, d⟩ | ⟨c, d⟩ <;> omega
/-- what holds of the rows all along -/
def lkI (v : Nat → Nat) (p q : Nat) (K : Nat → Nat) : Prop := (∀ i, i < 16 → K i < 2 ^ 16) ∧ (∀ i j, i < 16 → j < 16 → (K i).testBit j = true → (K j).testBit i = true) ∧ (∀ i j, i < 16 → j < 16 → (K i).testBit j = true → thB v p q i = true ∧ thB v p q j = true) ∧ ∀ i j, i < 16 → j < 16 → alB v p q i j → (K i).testBit j = true
section LK
variable {v K : Nat → Nat} {p q : Nat}
theorem bl_lt (hp : p < 4) (hq : q < 4) (i : Nat) : bl p q i < 4 := by unfold bl; split <;> assumption
theorem bl_w {X : Nat} (hw1 : ∀ j, j < 40 → wq v p j < X) (hw2 : ∀ j, j < 40 → wq v q j < X) (i : Nat) : ∀ j, j < 40 → wq v (bl p q i) j < X := by unfold bl; split <;> assumption
theorem lk_met (hw1 : ∀ j, j < 40 → wq v p j < 256) (hw2 : ∀ j, j < 40 → wq v q j < 256) (hI : lkI v p q K) {i j : Nat} (hi : i < 16) (hj : j < 16) (ha : alB v p q i j) : ∀ b, b < 5 → mI v p q K i j b = true ∧ mI v p q K j i b = true := by
  intro b hb
  obtain ⟨-, -, h3⟩ := alk_bis _ _ _ _ _ _ ha
  have b1 := bl_w hw1 hw2 i (i % 8 * 5 + b) (by omega)
  have b2 := bl_w hw1 hw2 j (j % 8 * 5 + b) (by omega)
  have mk : ∀ t u, t < 8 → u < 8 → alk (v (41 * bl p q i)) (wq v (bl p q i)) (v (41 * bl p q j)) (wq v (bl p q j)) t u → (K (t + of8 i)).testBit (u + of8 j) = true := fun t u ht hu hz => by
    have e1 := blk_at (p := p) (q := q) (i := i) ht
    have e2 := blk_at (p := p) (q := q) (i := j) hu
    refine hI.2.2.2 _ _ e1.2.2.2 e2.2.2.2 ?_
    unfold alB
    rw [e1.1, e1.2.1, e2.1, e2.2.1]
    exact hz
  constructor
  · refine (mtK_iff _ _ _ _ _ 8).mpr (fun t ht hbit => ?_)
    obtain ⟨u, u1, u2⟩ := (h3 b hb).1 t hbit
    have hu : u < 8 := bit_lt (m := 8) b2 u1
    exact ⟨u, hu, u1, mk t u ht hu u2⟩
  · refine (mtK_iff _ _ _ _ _ 8).mpr (fun u hu hbit => ?_)
    obtain ⟨t, t1, t2⟩ := (h3 b hb).2 u hbit
    have ht : t < 8 := bit_lt (m := 8) b1 t1
    exact ⟨t, ht, t1, hI.2.1 _ _ (blk_at (p := p) (q := q) ht).2.2.2 (blk_at (p := p) (q := q) hu).2.2.2 (mk t u ht hu t2)⟩
/-- the pair (i, j) goes, and (j, i) -/
def stk (K : Nat → Nat) (i j : Nat) : Nat → Nat := va_up (va_up K i (K i ^^^ (K i &&& 2 ^ j))) j (va_up K i (K i ^^^ (K i &&& 2 ^ j)) j ^^^ (va_up K i (K i ^^^ (K i &&& 2 ^ j)) j &&& 2 ^ i))
theorem stk_bit (K : Nat → Nat) (i j a b : Nat) : (stk K i j a).testBit b = true ↔ (K a).testBit b = true ∧ ¬ (a = i ∧ b = j) ∧ ¬ (a = j ∧ b = i) := by
  have s1 : ∀ a b, (va_up K i (K i ^^^ (K i &&& 2 ^ j)) a).testBit b = true ↔ (K a).testBit b = true ∧ ¬ (a = i ∧ b = j) := by
    intro a b
    by_cases c : a = i
    · subst c
      rw [vu_eq, clr_bit]
      constructor
      · rintro ⟨z1, z2⟩; exact ⟨z1, fun y => z2 y.2.symm⟩
      · rintro ⟨z1, z2⟩; exact ⟨z1, fun y => z2 ⟨rfl, y.symm⟩⟩
    · rw [vu_ne c]
      exact ⟨fun z => ⟨z, fun y => c y.1⟩, fun z => z.1⟩
  unfold stk
  by_cases c : a = j
  · subst c
    rw [vu_eq, clr_bit, s1]
    constructor
    · rintro ⟨⟨z1, z2⟩, z3⟩; exact ⟨z1, z2, fun y => z3 y.2.symm⟩
    · rintro ⟨z1, z2, z3⟩; exact ⟨⟨z1, z2⟩, fun y => z3 ⟨rfl, y.symm⟩⟩
  · rw [vu_ne c, s1]
    exact ⟨fun z => ⟨z.1, z.2, fun y => c y.1⟩, fun z => ⟨z.1, z.2.1⟩⟩
theorem stk_lkI (hw1 : ∀ j, j < 40 → wq v p j < 256) (hw2 : ∀ j, j < 40 → wq v q j < 256) (hI : lkI v p q K) {i j : Nat} (hi : i < 16) (hj : j < 16) (hno : ¬ ∀ b, b < 5 → mI v p q K i j b = true ∧ mI v p q K j i b = true) : lkI v p q (stk K i j) := by
  refine ⟨fun a ha => sub_lt (fun b hb => ((stk_bit K i j a b).mp hb).1) (hI.1 a ha), fun a b ha hb hab => ?_, fun a b ha hb hab => ?_, fun a b ha hb hal => ?_⟩
  · obtain ⟨z1, z2, z3⟩ := (stk_bit K i j a b).mp hab
    exact (stk_bit K i j b a).mpr ⟨hI.2.1 a b ha hb z1, fun y => z3 ⟨y.2, y.1⟩, fun y => z2 ⟨y.2, y.1⟩⟩
  · exact hI.2.2.1 a b ha hb ((stk_bit K i j a b).mp hab).1
  · refine (stk_bit K i j a b).mpr ⟨hI.2.2.2 a b ha hb hal, fun y => ?_, fun y => ?_⟩
    · obtain ⟨rfl, rfl⟩ := y
      exact hno (lk_met hw1 hw2 hI ha hb hal)
    · obtain ⟨rfl, rfl⟩ := y
      exact hno (fun c hc => ⟨(lk_met hw1 hw2 hI ha hb hal c hc).2, (lk_met hw1 hw2 hI ha hb hal c hc).1⟩)
def tcs (K : Nat → Nat) : Nat → Nat
  | 0 => 0
  | i + 1 => tcs K i + cnt 16 (K i)
theorem tcs_mono {K K' : Nat → Nat} : ∀ n, (∀ i, i < n → sub (K' i) (K i)) → tcs K' n ≤ tcs K n
  | 0, _ => Nat.le_refl _
  | n + 1, h => by
    have ih := tcs_mono n (fun i hi => h i (by omega))
    have := cnt_mono (h n (by omega)) 16
    show tcs K' n + cnt 16 (K' n) ≤ tcs K n + cnt 16 (K n)
    omega
theorem tcs_lt {K K' : Nat → Nat} : ∀ n i, (∀ i, i < n → sub (K' i) (K i)) → i < n → (∃ j, j < 16 ∧ (K i).testBit j = true ∧ ¬ (K' i).testBit j = true) → tcs K' n < tcs K n
  | 0, i, _, hi, _ => by omega
  | n + 1, i, h, hi, hx => by
    show tcs K' n + cnt 16 (K' n) < tcs K n + cnt 16 (K n)
    by_cases e : i = n
    · subst e
      have ih := tcs_mono i (fun i hi => h i (by omega))
      obtain ⟨j, j1, j2, j3⟩ := hx
      have := cnt_lt (h i (by omega)) 16 j j1 (by simpa using j3) j2
      omega
    · have ih := tcs_lt n i (fun i hi => h i (by omega)) (by omega) hx
      have := cnt_mono (h n (by omega)) 16
      omega
/-- is, behind b kinds -/
def isK (v : Nat → Nat) (p q : Nat) (K : Nat → Nat) (i j : Nat) : Nat → Bool
  | 0 => (K i).testBit j
  | b + 1 => isK v p q K i j b && (mI v p q K i j b && mI v p q K j i b)
theorem isK_no {i j b : Nat} (h : isK v p q K i j b = false) : ∀ d, isK v p q K i j (b + d) = false
  | 0 => h
  | d + 1 => by
    show (isK v p q K i j (b + d) && _) = false
    rw [isK_no h d, Bool.false_and]
theorem isK_iff (i j : Nat) : ∀ k, isK v p q K i j k = true ↔ (K i).testBit j = true ∧ ∀ b, b < k → mI v p q K i j b = true ∧ mI v p q K j i b = true
  | 0 => ⟨fun z => ⟨z, fun b hb => by omega⟩, fun z => z.1⟩
  | k + 1 => by
    show (isK v p q K i j k && (mI v p q K i j k && mI v p q K j i k)) = true ↔ _
    rw [Bool.and_eq_true, Bool.and_eq_true, isK_iff i j k]
    constructor
    · rintro ⟨⟨a1, a2⟩, a3⟩
      refine ⟨a1, fun b hb => ?_⟩
      by_cases e : b = k
      · subst e; exact a3
      · exact a2 b (by omega)
    · rintro ⟨a1, a2⟩
      exact ⟨⟨a1, fun b hb => a2 b (by omega)⟩, a2 k (by omega)⟩
/-- at the end the rows tell who is alike -/
theorem lk_end (hn1 : v (41 * p) ≤ 8) (hn2 : v (41 * q) ≤ 8) (hw1 : ∀ j, j < 40 → wq v p j < 256) (hw2 : ∀ j, j < 40 → wq v q j < 256) (hI : lkI v p q K) (hok : ∀ i j, i < 16 → j < 16 → (K i).testBit j = true → ∀ b, b < 5 → mI v p q K i j b = true ∧ mI v p q K j i b = true) {i j : Nat} (hi : i < 16) (hj : j < 16) : (K i).testBit j = true ↔ alB v p q i j := by
  refine ⟨fun hij => ?_, hI.2.2.2 i j hi hj⟩
  refine ⟨fun s t => s < 8 ∧ t < 8 ∧ (K (s + of8 i)).testBit (t + of8 j) = true, ?_, by omega, by omega, by rw [blk_self i hi, blk_self j hj]; exact hij⟩
  rintro s t ⟨hs, ht, hst⟩
  have e1 := blk_at (p := p) (q := q) (i := i) hs
  have e2 := blk_at (p := p) (q := q) (i := j) ht
  have hth := hI.2.2.1 _ _ e1.2.2.2 e2.2.2.2 hst
  unfold thB at hth
  rw [decide_eq_true_eq, decide_eq_true_eq, e1.1, e1.2.1, e2.1, e2.2.1] at hth
  refine ⟨hth.1, hth.2, fun b hb => ?_⟩
  obtain ⟨m1, m2⟩ := hok _ _ e1.2.2.2 e2.2.2.2 hst b hb
  unfold mI at m1 m2
  rw [e1.1, e1.2.1, e1.2.2.1, e2.1, e2.2.1, e2.2.2.1, mtK_iff] at m1 m2
  have b1 := bl_w hw1 hw2 i (s * 5 + b) (by omega)
  have b2 := bl_w hw1 hw2 j (t * 5 + b) (by omega)
  refine ⟨fun s' hs' => ?_, fun t' ht' => ?_⟩
  · have hs8 : s' < 8 := bit_lt (m := 8) b1 hs'
    obtain ⟨u, u1, u2, u3⟩ := m1 s' hs8 hs'
    exact ⟨u, u2, hs8, u1, u3⟩
  · have ht8 : t' < 8 := bit_lt (m := 8) b2 ht'
    obtain ⟨u, u1, u2, u3⟩ := m2 t' ht8 ht'
    exact ⟨u, u2, u1, ht8, hI.2.1 _ _ (blk_at (p := p) (q := q) ht8).2.2.2 (blk_at (p := p) (q := q) u1).2.2.2 u3⟩
end LK
section LL
variable {h0 : rx_H} {v : Nat → Nat} {p q : Nat}
theorem mN_fr {h h' : rx_H} {A : List Nat} (hf : Fr h h' A) (h1 : 98 ∉ A) (h2 : 99 ∉ A) (hm : mN h v) : mN h' v := by
  obtain ⟨⟨pa, le, pl, fo, z, g1⟩, g2⟩ := hm
  exact ⟨⟨pa, le, pl, fo, z, (hf.2.2 98 h1).trans g1⟩, aN_fr hf h2 g2⟩
def k0F (v : Nat → Nat) (p q i : Nat) : Nat → Nat := fun j => if thB v p q i && thB v p q j then 2 ^ j else 0
theorem l_X8_ll1 (hm0 : mN h0 v) (hp : p < 4) (hq : q < 4) (hn1 : v (41 * p) ≤ 8) (hn2 : v (41 * q) ≤ 8) {i : Nat} (hi : i < 16) {x5 x6 x7 x8 : Value} (Q : Option Value → rx_H → Prop)
    (hQ : ∀ h K, Fr h0 h [106] → aN h 106 16 K → (∀ a, a < i + 1 → K a = un (k0F v p q a) 16) → rx_R 131 69 [.ref 98, .int (nI p), .int (nI q), .int (nI i), .int (nI 16), x5, x6, x7, x8] [] h Q) :
    ∀ d j h K, j + d = 16 → Fr h0 h [106] → aN h 106 16 K → (∀ a, a < i → K a = un (k0F v p q a) 16) → K i = un (k0F v p q i) j → rx_R 131 18 [.ref 98, .int (nI p), .int (nI q), .int (nI i), .int (nI j), x5, x6, x7, x8] [] h Q
  | 0, j, h, K, e, hf, ha, hK, hi2 => by
    have e' : j = 16 := by omega
    subst e'
    apply rx_wp_sound 60 [18, 69]
    simp (disch := first | decide | omega) only [rx_W, rx_wp_succ, rx_nx_stop, rx_nx_go, rx_lx_some, rx_fx_some, rx_ax_some, rx_qx_some, rx_ox_some, rx_vx_ref, rx_ix_ref, rx_ld_0, rx_ld_2, rx_ld_3, rx_cx_some, rx_nl, List.getElem?_cons_zero, List.getElem?_cons_succ, List.set_cons_zero, List.set_cons_succ, List.length_cons, List.length_nil, List.take_succ_cons, List.take_zero, List.drop_succ_cons, List.drop_zero, List.reverse_cons, List.reverse_nil, List.nil_append, List.cons_append, Option.toList_some, Option.toList_none, true_and, and_true, and_self, true_or, or_true, false_and, and_false, false_or, or_false, not_false_eq_true, Nat.reduceAdd, Nat.reduceLT, Nat.reduceLeDiff, Nat.reduceBEq, Nat.reduceEqDiff, Bool.or_false, Bool.false_or, if_true, if_false, Bool.false_eq_true, nq_eq, nq_lt, nq_le, nq_in_t, nq_bd, nq_ft, nq_clamp, nq_shl31, nq_shr31, nq_bitb, nq_add, nq_mul, fa_and, fa_or, nq_b0, nq_b1, nq_b01, ↓ni_lt_t, ↓ni_lt_f, ↓ni_le_t, ↓ni_le_f, ↓ni_eq_t, ↓ni_eq_f, ↓ni_beq_t, ↓ni_beq_f, it_X8_laysLike, it_X8_laysLike_1]
    refine hQ h K hf ha (fun a ha' => ?_)
    by_cases c : a = i
    · subst c; exact hi2
    · exact hK a (by omega)
  | d + 1, j, h, K, e, hf, ha, hK, hi2 => by
    have hm := mN_fr hf (by simp) (by simp) hm0
    have ih := fun h K => l_X8_ll1 hm0 hp hq hn1 hn2 hi Q hQ d (j + 1) h K (by omega)
    obtain ⟨pa, le, pl, fo, z, h1⟩ := hm.1
    obtain ⟨f, a1, a2⟩ := ha
    have go : ∀ c, c = k0F v p q i j → rx_R 131 18 [.ref 98, .int (nI p), .int (nI q), .int (nI i), .int (nI (j + 1)), x5, x6, x7, x8] [] (rx_up h 106 (.inl (0, 16, .inl (upd f i (nI (un (k0F v p q i) j ||| c)))))) Q := by
      intro c hc
      refine ih _ (va_up K i (un (k0F v p q i) j ||| c)) (Fr_up hf (by simp)) ⟨_, rd_eq _ _ _, aN_upd a2 _ _⟩ (fun a ha' => ?_) ?_
      · rw [vu_ne (by omega)]; exact hK a ha'
      · rw [vu_eq, hc]; rfl
    apply rx_wp_sound 60 [18, 69]
    have et : ∀ a, decide (a % 8 < v (41 * bl p q a)) = thB v p q a := fun _ => rfl
    cases c1 : thB v p q i with
    | false =>
      simp (disch := first | decide | omega) only [rx_W, rx_wp_succ, rx_nx_stop, rx_nx_go, rx_lx_some, rx_fx_some, rx_ax_some, rx_qx_some, rx_ox_some, rx_vx_ref, rx_ix_ref, rx_ld_0, rx_ld_2, rx_ld_3, rx_cx_some, rx_nl, List.getElem?_cons_zero, List.getElem?_cons_succ, List.set_cons_zero, List.set_cons_succ, List.length_cons, List.length_nil, List.take_succ_cons, List.take_zero, List.drop_succ_cons, List.drop_zero, List.reverse_cons, List.reverse_nil, List.nil_append, List.cons_append, Option.toList_some, Option.toList_none, true_and, and_true, and_self, true_or, or_true, false_and, and_false, false_or, or_false, not_false_eq_true, Nat.reduceAdd, Nat.reduceLT, Nat.reduceLeDiff, Nat.reduceBEq, Nat.reduceEqDiff, Bool.or_false, Bool.false_or, if_true, if_false, Bool.false_eq_true, nq_eq, nq_lt, nq_le, nq_in_t, nq_bd, nq_ft, nq_clamp, nq_shl31, nq_shr31, nq_bitb, nq_add, nq_mul, fa_and, fa_or, nq_b0, nq_b1, nq_b01, ↓ni_lt_t, ↓ni_lt_f, ↓ni_le_t, ↓ni_le_f, ↓ni_eq_t, ↓ni_eq_f, ↓ni_beq_t, ↓ni_beq_f, it_X8_laysLike, it_X8_laysLike_1, h1, mO, a1, a2, hi2, q_X8_isThere hm hp hq hn1 hn2, et, c1]
      exact go 0 (by unfold k0F; rw [c1]; rfl)
    | true =>
      cases c2 : thB v p q j with
      | false =>
        simp (disch := first | decide | omega) only [rx_W, rx_wp_succ, rx_nx_stop, rx_nx_go, rx_lx_some, rx_fx_some, rx_ax_some, rx_qx_some, rx_ox_some, rx_vx_ref, rx_ix_ref, rx_ld_0, rx_ld_2, rx_ld_3, rx_cx_some, rx_nl, List.getElem?_cons_zero, List.getElem?_cons_succ, List.set_cons_zero, List.set_cons_succ, List.length_cons, List.length_nil, List.take_succ_cons, List.take_zero, List.drop_succ_cons, List.drop_zero, List.reverse_cons, List.reverse_nil, List.nil_append, List.cons_append, Option.toList_some, Option.toList_none, true_and, and_true, and_self, true_or, or_true, false_and, and_false, false_or, or_false, not_false_eq_true, Nat.reduceAdd, Nat.reduceLT, Nat.reduceLeDiff, Nat.reduceBEq, Nat.reduceEqDiff, Bool.or_false, Bool.false_or, if_true, if_false, Bool.false_eq_true, nq_eq, nq_lt, nq_le, nq_in_t, nq_bd, nq_ft, nq_clamp, nq_shl31, nq_shr31, nq_bitb, nq_add, nq_mul, fa_and, fa_or, nq_b0, nq_b1, nq_b01, ↓ni_lt_t, ↓ni_lt_f, ↓ni_le_t, ↓ni_le_f, ↓ni_eq_t, ↓ni_eq_f, ↓ni_beq_t, ↓ni_beq_f, it_X8_laysLike, it_X8_laysLike_1, h1, mO, a1, a2, hi2, q_X8_isThere hm hp hq hn1 hn2, et, c1, c2]
        exact go 0 (by unfold k0F; rw [c1, c2]; rfl)
      | true =>
        simp (disch := first | decide | omega) only [rx_W, rx_wp_succ, rx_nx_stop, rx_nx_go, rx_lx_some, rx_fx_some, rx_ax_some, rx_qx_some, rx_ox_some, rx_vx_ref, rx_ix_ref, rx_ld_0, rx_ld_2, rx_ld_3, rx_cx_some, rx_nl, List.getElem?_cons_zero, List.getElem?_cons_succ, List.set_cons_zero, List.set_cons_succ, List.length_cons, List.length_nil, List.take_succ_cons, List.take_zero, List.drop_succ_cons, List.drop_zero, List.reverse_cons, List.reverse_nil, List.nil_append, List.cons_append, Option.toList_some, Option.toList_none, true_and, and_true, and_self, true_or, or_true, false_and, and_false, false_or, or_false, not_false_eq_true, Nat.reduceAdd, Nat.reduceLT, Nat.reduceLeDiff, Nat.reduceBEq, Nat.reduceEqDiff, Bool.or_false, Bool.false_or, if_true, if_false, Bool.false_eq_true, nq_eq, nq_lt, nq_le, nq_in_t, nq_bd, nq_ft, nq_clamp, nq_shl31, nq_shr31, nq_bitb, nq_add, nq_mul, fa_and, fa_or, nq_b0, nq_b1, nq_b01, ↓ni_lt_t, ↓ni_lt_f, ↓ni_le_t, ↓ni_le_f, ↓ni_eq_t, ↓ni_eq_f, ↓ni_beq_t, ↓ni_beq_f, it_X8_laysLike, it_X8_laysLike_1, h1, mO, a1, a2, hi2, q_X8_isThere hm hp hq hn1 hn2, et, c1, c2, Nat.one_mul]
        exact go _ (by unfold k0F; rw [c1, c2]; rfl)
theorem l_X8_ll2 (hm0 : mN h0 v) (hp : p < 4) (hq : q < 4) (hn1 : v (41 * p) ≤ 8) (hn2 : v (41 * q) ≤ 8) {x5 x6 x7 x8 : Value} (Q : Option Value → rx_H → Prop)
    (hQ : ∀ h K x, Fr h0 h [106] → aN h 106 16 K → (∀ a, a < 16 → K a = un (k0F v p q a) 16) → rx_R 131 75 [.ref 98, .int (nI p), .int (nI q), .int (nI 16), x, x5, x6, x7, x8] [] h Q) :
    ∀ d i h K x, i + d = 16 → Fr h0 h [106] → aN h 106 16 K → (∀ a, a < i → K a = un (k0F v p q a) 16) → rx_R 131 2 [.ref 98, .int (nI p), .int (nI q), .int (nI i), x, x5, x6, x7, x8] [] h Q
  | 0, i, h, K, x, e, hf, ha, hK => by
    have e' : i = 16 := by omega
    subst e'
    apply rx_wp_sound 60 [2, 75]
    simp (disch := first | decide | omega) only [rx_W, rx_wp_succ, rx_nx_stop, rx_nx_go, rx_lx_some, rx_fx_some, rx_ax_some, rx_qx_some, rx_ox_some, rx_vx_ref, rx_ix_ref, rx_ld_0, rx_ld_2, rx_ld_3, rx_cx_some, rx_nl, List.getElem?_cons_zero, List.getElem?_cons_succ, List.set_cons_zero, List.set_cons_succ, List.length_cons, List.length_nil, List.take_succ_cons, List.take_zero, List.drop_succ_cons, List.drop_zero, List.reverse_cons, List.reverse_nil, List.nil_append, List.cons_append, Option.toList_some, Option.toList_none, true_and, and_true, and_self, true_or, or_true, false_and, and_false, false_or, or_false, not_false_eq_true, Nat.reduceAdd, Nat.reduceLT, Nat.reduceLeDiff, Nat.reduceBEq, Nat.reduceEqDiff, Bool.or_false, Bool.false_or, if_true, if_false, Bool.false_eq_true, nq_eq, nq_lt, nq_le, nq_in_t, nq_bd, nq_ft, nq_clamp, nq_shl31, nq_shr31, nq_bitb, nq_add, nq_mul, fa_and, fa_or, nq_b0, nq_b1, nq_b01, ↓ni_lt_t, ↓ni_lt_f, ↓ni_le_t, ↓ni_le_f, ↓ni_eq_t, ↓ni_eq_f, ↓ni_beq_t, ↓ni_beq_f, it_X8_laysLike, it_X8_laysLike_1]
    exact hQ h K x hf ha hK
  | d + 1, i, h, K, x, e, hf, ha, hK => by
    have hm := mN_fr hf (by simp) (by simp) hm0
    obtain ⟨pa, le, pl, fo, z, h1⟩ := hm.1
    obtain ⟨f, a1, a2⟩ := ha
    apply rx_wp_sound 60 [18]
    simp (disch := first | decide | omega) only [rx_W, rx_wp_succ, rx_nx_stop, rx_nx_go, rx_lx_some, rx_fx_some, rx_ax_some, rx_qx_some, rx_ox_some, rx_vx_ref, rx_ix_ref, rx_ld_0, rx_ld_2, rx_ld_3, rx_cx_some, rx_nl, List.getElem?_cons_zero, List.getElem?_cons_succ, List.set_cons_zero, List.set_cons_succ, List.length_cons, List.length_nil, List.take_succ_cons, List.take_zero, List.drop_succ_cons, List.drop_zero, List.reverse_cons, List.reverse_nil, List.nil_append, List.cons_append, Option.toList_some, Option.toList_none, true_and, and_true, and_self, true_or, or_true, false_and, and_false, false_or, or_false, not_false_eq_true, Nat.reduceAdd, Nat.reduceLT, Nat.reduceLeDiff, Nat.reduceBEq, Nat.reduceEqDiff, Bool.or_false, Bool.false_or, if_true, if_false, Bool.false_eq_true, nq_eq, nq_lt, nq_le, nq_in_t, nq_bd, nq_ft, nq_clamp, nq_shl31, nq_shr31, nq_bitb, nq_add, nq_mul, fa_and, fa_or, nq_b0, nq_b1, nq_b01, ↓ni_lt_t, ↓ni_lt_f, ↓ni_le_t, ↓ni_le_f, ↓ni_eq_t, ↓ni_eq_f, ↓ni_beq_t, ↓ni_beq_f, it_X8_laysLike, it_X8_laysLike_1, h1, mO, a1]
    refine l_X8_ll1 (h0 := h0) hm0 hp hq hn1 hn2 (i := i) (by omega) Q (fun h2 K2 y1 y2 y3 => ?_) 16 0 _ (va_up K i 0) (by omega) (Fr_up hf (by simp)) ⟨_, rd_eq _ _ _, aN_upd a2 _ _⟩ (fun a ha' => by rw [vu_ne (by omega)]; exact hK a ha') (by rw [vu_eq]; rfl)
    apply rx_wp_sound 60 [2]
    simp (disch := first | decide | omega) only [rx_W, rx_wp_succ, rx_nx_stop, rx_nx_go, rx_lx_some, rx_fx_some, rx_ax_some, rx_qx_some, rx_ox_some, rx_vx_ref, rx_ix_ref, rx_ld_0, rx_ld_2, rx_ld_3, rx_cx_some, rx_nl, List.getElem?_cons_zero, List.getElem?_cons_succ, List.set_cons_zero, List.set_cons_succ, List.length_cons, List.length_nil, List.take_succ_cons, List.take_zero, List.drop_succ_cons, List.drop_zero, List.reverse_cons, List.reverse_nil, List.nil_append, List.cons_append, Option.toList_some, Option.toList_none, true_and, and_true, and_self, true_or, or_true, false_and, and_false, false_or, or_false, not_false_eq_true, Nat.reduceAdd, Nat.reduceLT, Nat.reduceLeDiff, Nat.reduceBEq, Nat.reduceEqDiff, Bool.or_false, Bool.false_or, if_true, if_false, Bool.false_eq_true, nq_eq, nq_lt, nq_le, nq_in_t, nq_bd, nq_ft, nq_clamp, nq_shl31, nq_shr31, nq_bitb, nq_add, nq_mul, fa_and, fa_or, nq_b0, nq_b1, nq_b01, ↓ni_lt_t, ↓ni_lt_f, ↓ni_le_t, ↓ni_le_f, ↓ni_eq_t, ↓ni_eq_f, ↓ni_beq_t, ↓ni_beq_f, it_X8_laysLike, it_X8_laysLike_1]
    exact l_X8_ll2 hm0 hp hq hn1 hn2 Q hQ d (i + 1) h2 K2 _ (by omega) y1 y2 y3
theorem l_X8_ll3 {h : rx_H} {K : Nat → Nat} (hm : mN h v) (ha : aN h 106 16 K) (hK : ∀ i, i < 16 → K i < 2 ^ 16) (hp : p < 4) (hq : q < 4) (hw1 : ∀ j, j < 40 → wq v p j < 256) (hw2 : ∀ j, j < 40 → wq v q j < 256) {i j k : Nat} (hi : i < 16) (hj : j < 16) {st : Value} (Q : Option Value → rx_H → Prop)
    (hQ : ∀ x, rx_R 131 179 [.ref 98, .int (nI p), .int (nI q), st, .int (nI k), .int (nI i), .int (nI j), .int (nI (isK v p q K i j 5).toNat), x] [] h Q) :
    ∀ d b, b + d = 5 → rx_R 131 125 [.ref 98, .int (nI p), .int (nI q), st, .int (nI k), .int (nI i), .int (nI j), .int (nI (isK v p q K i j b).toNat), .int (nI b)] [] h Q
  | 0, b, e => by
    have e' : b = 5 := by omega
    subst e'
    apply rx_wp_sound 60 [125, 179]
    simp (disch := first | decide | omega) only [rx_W, rx_wp_succ, rx_nx_stop, rx_nx_go, rx_lx_some, rx_fx_some, rx_ax_some, rx_qx_some, rx_ox_some, rx_vx_ref, rx_ix_ref, rx_ld_0, rx_ld_2, rx_ld_3, rx_cx_some, rx_nl, List.getElem?_cons_zero, List.getElem?_cons_succ, List.set_cons_zero, List.set_cons_succ, List.length_cons, List.length_nil, List.take_succ_cons, List.take_zero, List.drop_succ_cons, List.drop_zero, List.reverse_cons, List.reverse_nil, List.nil_append, List.cons_append, Option.toList_some, Option.toList_none, true_and, and_true, and_self, true_or, or_true, false_and, and_false, false_or, or_false, not_false_eq_true, Nat.reduceAdd, Nat.reduceLT, Nat.reduceLeDiff, Nat.reduceBEq, Nat.reduceEqDiff, Bool.or_false, Bool.false_or, if_true, if_false, Bool.false_eq_true, nq_eq, nq_lt, nq_le, nq_in_t, nq_bd, nq_ft, nq_clamp, nq_shl31, nq_shr31, nq_bitb, nq_add, nq_mul, fa_and, fa_or, nq_b0, nq_b1, nq_b01, ↓ni_lt_t, ↓ni_lt_f, ↓ni_le_t, ↓ni_le_f, ↓ni_eq_t, ↓ni_eq_f, ↓ni_beq_t, ↓ni_beq_f, it_X8_laysLike, it_X8_laysLike_1]
    exact hQ _
  | d + 1, b, e => by
    have ih := l_X8_ll3 (k := k) (st := st) hm ha hK hp hq hw1 hw2 hi hj Q hQ d (b + 1) (by omega)
    have e1 : isK v p q K i j (b + 1) = (isK v p q K i j b && (mI v p q K i j b && mI v p q K j i b)) := rfl
    rw [e1] at ih
    obtain ⟨pa, le, pl, fo, z, h1⟩ := hm.1
    apply rx_wp_sound 60 [125, 179]
    cases c0 : isK v p q K i j b with
    | false =>
      have := isK_no c0 (d + 1)
      rw [show b + (d + 1) = 5 by omega] at this
      rw [this] at hQ
      simp (disch := first | decide | omega) only [rx_W, rx_wp_succ, rx_nx_stop, rx_nx_go, rx_lx_some, rx_fx_some, rx_ax_some, rx_qx_some, rx_ox_some, rx_vx_ref, rx_ix_ref, rx_ld_0, rx_ld_2, rx_ld_3, rx_cx_some, rx_nl, List.getElem?_cons_zero, List.getElem?_cons_succ, List.set_cons_zero, List.set_cons_succ, List.length_cons, List.length_nil, List.take_succ_cons, List.take_zero, List.drop_succ_cons, List.drop_zero, List.reverse_cons, List.reverse_nil, List.nil_append, List.cons_append, Option.toList_some, Option.toList_none, true_and, and_true, and_self, true_or, or_true, false_and, and_false, false_or, or_false, not_false_eq_true, Nat.reduceAdd, Nat.reduceLT, Nat.reduceLeDiff, Nat.reduceBEq, Nat.reduceEqDiff, Bool.or_false, Bool.false_or, if_true, if_false, Bool.false_eq_true, nq_eq, nq_lt, nq_le, nq_in_t, nq_bd, nq_ft, nq_clamp, nq_shl31, nq_shr31, nq_bitb, nq_add, nq_mul, fa_and, fa_or, nq_b0, nq_b1, nq_b01, ↓ni_lt_t, ↓ni_lt_f, ↓ni_le_t, ↓ni_le_f, ↓ni_eq_t, ↓ni_eq_f, ↓ni_beq_t, ↓ni_beq_f, it_X8_laysLike, it_X8_laysLike_1]
      exact hQ _
    | true =>
      rw [c0] at ih
      cases c1 : mI v p q K i j b with
      | false =>
        rw [c1] at ih
        simp (disch := first | decide | omega) only [rx_W, rx_wp_succ, rx_nx_stop, rx_nx_go, rx_lx_some, rx_fx_some, rx_ax_some, rx_qx_some, rx_ox_some, rx_vx_ref, rx_ix_ref, rx_ld_0, rx_ld_2, rx_ld_3, rx_cx_some, rx_nl, List.getElem?_cons_zero, List.getElem?_cons_succ, List.set_cons_zero, List.set_cons_succ, List.length_cons, List.length_nil, List.take_succ_cons, List.take_zero, List.drop_succ_cons, List.drop_zero, List.reverse_cons, List.reverse_nil, List.nil_append, List.cons_append, Option.toList_some, Option.toList_none, true_and, and_true, and_self, true_or, or_true, false_and, and_false, false_or, or_false, not_false_eq_true, Nat.reduceAdd, Nat.reduceLT, Nat.reduceLeDiff, Nat.reduceBEq, Nat.reduceEqDiff, Bool.or_false, Bool.false_or, if_true, if_false, Bool.false_eq_true, nq_eq, nq_lt, nq_le, nq_in_t, nq_bd, nq_ft, nq_clamp, nq_shl31, nq_shr31, nq_bitb, nq_add, nq_mul, fa_and, fa_or, nq_b0, nq_b1, nq_b01, ↓ni_lt_t, ↓ni_lt_f, ↓ni_le_t, ↓ni_le_f, ↓ni_eq_t, ↓ni_eq_f, ↓ni_beq_t, ↓ni_beq_f, it_X8_laysLike, it_X8_laysLike_1, h1, mO, q_X8_isMet hm ha hK hp hq hw1 hw2, c1]
        exact ih
      | true =>
        rw [c1] at ih
        cases c2 : mI v p q K j i b with
        | false =>
          rw [c2] at ih
          simp (disch := first | decide | omega) only [rx_W, rx_wp_succ, rx_nx_stop, rx_nx_go, rx_lx_some, rx_fx_some, rx_ax_some, rx_qx_some, rx_ox_some, rx_vx_ref, rx_ix_ref, rx_ld_0, rx_ld_2, rx_ld_3, rx_cx_some, rx_nl, List.getElem?_cons_zero, List.getElem?_cons_succ, List.set_cons_zero, List.set_cons_succ, List.length_cons, List.length_nil, List.take_succ_cons, List.take_zero, List.drop_succ_cons, List.drop_zero, List.reverse_cons, List.reverse_nil, List.nil_append, List.cons_append, Option.toList_some, Option.toList_none, true_and, and_true, and_self, true_or, or_true, false_and, and_false, false_or, or_false, not_false_eq_true, Nat.reduceAdd, Nat.reduceLT, Nat.reduceLeDiff, Nat.reduceBEq, Nat.reduceEqDiff, Bool.or_false, Bool.false_or, if_true, if_false, Bool.false_eq_true, nq_eq, nq_lt, nq_le, nq_in_t, nq_bd, nq_ft, nq_clamp, nq_shl31, nq_shr31, nq_bitb, nq_add, nq_mul, fa_and, fa_or, nq_b0, nq_b1, nq_b01, ↓ni_lt_t, ↓ni_lt_f, ↓ni_le_t, ↓ni_le_f, ↓ni_eq_t, ↓ni_eq_f, ↓ni_beq_t, ↓ni_beq_f, it_X8_laysLike, it_X8_laysLike_1, h1, mO, q_X8_isMet hm ha hK hp hq hw1 hw2, c1, c2]
          exact ih
        | true =>
          rw [c2] at ih
          simp (disch := first | decide | omega) only [rx_W, rx_wp_succ, rx_nx_stop, rx_nx_go, rx_lx_some, rx_fx_some, rx_ax_some, rx_qx_some, rx_ox_some, rx_vx_ref, rx_ix_ref, rx_ld_0, rx_ld_2, rx_ld_3, rx_cx_some, rx_nl, List.getElem?_cons_zero, List.getElem?_cons_succ, List.set_cons_zero, List.set_cons_succ, List.length_cons, List.length_nil, List.take_succ_cons, List.take_zero, List.drop_succ_cons, List.drop_zero, List.reverse_cons, List.reverse_nil, List.nil_append, List.cons_append, Option.toList_some, Option.toList_none, true_and, and_true, and_self, true_or, or_true, false_and, and_false, false_or, or_false, not_false_eq_true, Nat.reduceAdd, Nat.reduceLT, Nat.reduceLeDiff, Nat.reduceBEq, Nat.reduceEqDiff, Bool.or_false, Bool.false_or, if_true, if_false, Bool.false_eq_true, nq_eq, nq_lt, nq_le, nq_in_t, nq_bd, nq_ft, nq_clamp, nq_shl31, nq_shr31, nq_bitb, nq_add, nq_mul, fa_and, fa_or, nq_b0, nq_b1, nq_b01, ↓ni_lt_t, ↓ni_lt_f, ↓ni_le_t, ↓ni_le_f, ↓ni_eq_t, ↓ni_eq_f, ↓ni_beq_t, ↓ni_beq_f, it_X8_laysLike, it_X8_laysLike_1, h1, mO, q_X8_isMet hm ha hK hp hq hw1 hw2, c1, c2]
          exact ih
def pok (v : Nat → Nat) (p q : Nat) (K : Nat → Nat) (k : Nat) : Prop := (K (k / 16)).testBit (k % 16) = true → ∀ b, b < 5 → mI v p q K (k / 16) (k % 16) b = true ∧ mI v p q K (k % 16) (k / 16) b = true
theorem l_X8_ll4 (hm0 : mN h0 v) (hp : p < 4) (hq : q < 4) (hw1 : ∀ j, j < 40 → wq v p j < 256) (hw2 : ∀ j, j < 40 → wq v q j < 256) {T : Nat} (Q : Option Value → rx_H → Prop)
    (hQ : ∀ h K (st : Bool) x5 x6 x7 x8, Fr h0 h [106] → aN h 106 16 K → lkI v p q K → (st = false → ∀ k, k < 256 → pok v p q K k) → tcs K 16 + st.toNat ≤ T → rx_R 131 77 [.ref 98, .int (nI p), .int (nI q), .int (nI st.toNat), .int (nI 256), x5, x6, x7, x8] [] h Q) :
    ∀ d k h K (st : Bool) x5 x6 x7 x8, k + d = 256 → Fr h0 h [106] → aN h 106 16 K → lkI v p q K → (st = false → ∀ k', k' < k → pok v p q K k') → tcs K 16 + st.toNat ≤ T → rx_R 131 86 [.ref 98, .int (nI p), .int (nI q), .int (nI st.toNat), .int (nI k), x5, x6, x7, x8] [] h Q
  | 0, k, h, K, st, x5, x6, x7, x8, e, hf, ha, hI, hok, hT => by
    have e' : k = 256 := by omega
    subst e'
    apply rx_wp_sound 60 [77, 86]
    simp (disch := first | decide | omega) only [rx_W, rx_wp_succ, rx_nx_stop, rx_nx_go, rx_lx_some, rx_fx_some, rx_ax_some, rx_qx_some, rx_ox_some, rx_vx_ref, rx_ix_ref, rx_ld_0, rx_ld_2, rx_ld_3, rx_cx_some, rx_nl, List.getElem?_cons_zero, List.getElem?_cons_succ, List.set_cons_zero, List.set_cons_succ, List.length_cons, List.length_nil, List.take_succ_cons, List.take_zero, List.drop_succ_cons, List.drop_zero, List.reverse_cons, List.reverse_nil, List.nil_append, List.cons_append, Option.toList_some, Option.toList_none, true_and, and_true, and_self, true_or, or_true, false_and, and_false, false_or, or_false, not_false_eq_true, Nat.reduceAdd, Nat.reduceLT, Nat.reduceLeDiff, Nat.reduceBEq, Nat.reduceEqDiff, Bool.or_false, Bool.false_or, if_true, if_false, Bool.false_eq_true, nq_eq, nq_lt, nq_le, nq_in_t, nq_bd, nq_ft, nq_clamp, nq_shl31, nq_shr31, nq_bitb, nq_add, nq_mul, fa_and, fa_or, nq_b0, nq_b1, nq_b01, ↓ni_lt_t, ↓ni_lt_f, ↓ni_le_t, ↓ni_le_f, ↓ni_eq_t, ↓ni_eq_f, ↓ni_beq_t, ↓ni_beq_f, it_X8_laysLike, it_X8_laysLike_1]
    exact hQ h K st _ _ _ _ hf ha hI hok hT
  | d + 1, k, h, K, st, x5, x6, x7, x8, e, hf, ha, hI, hok, hT => by
    have hm := mN_fr hf (by simp) (by simp) hm0
    have ih := fun h K st x5 x6 x7 x8 => l_X8_ll4 hm0 hp hq hw1 hw2 Q hQ d (k + 1) h K st x5 x6 x7 x8 (by omega)
    have em : k - k / 16 * 16 = k % 16 := by omega
    have hi : k / 16 < 16 := by omega
    have hj : k % 16 < 16 := by omega
    have b1 := hI.1 (k / 16) hi
    have hm' := hm
    obtain ⟨pa, le, pl, fo, z, h1⟩ := hm'.1
    have ha' := ha
    obtain ⟨f, a1, a2⟩ := ha'
    have keep : ∀ x5 x6 x7 x8, pok v p q K k → rx_R 131 86 [.ref 98, .int (nI p), .int (nI q), .int (nI st.toNat), .int (nI (k + 1)), x5, x6, x7, x8] [] h Q := fun x5 x6 x7 x8 hk => ih h K st _ _ _ _ hf ha hI (fun z k' hk' => by
      by_cases c : k' = k
      · subst c; exact hk
      · exact hok z k' (by omega)) hT
    apply rx_wp_sound 60 [86, 125]
    simp (disch := first | decide | omega) only [rx_W, rx_wp_succ, rx_nx_stop, rx_nx_go, rx_lx_some, rx_fx_some, rx_ax_some, rx_qx_some, rx_ox_some, rx_vx_ref, rx_ix_ref, rx_ld_0, rx_ld_2, rx_ld_3, rx_cx_some, rx_nl, List.getElem?_cons_zero, List.getElem?_cons_succ, List.set_cons_zero, List.set_cons_succ, List.length_cons, List.length_nil, List.take_succ_cons, List.take_zero, List.drop_succ_cons, List.drop_zero, List.reverse_cons, List.reverse_nil, List.nil_append, List.cons_append, Option.toList_some, Option.toList_none, true_and, and_true, and_self, true_or, or_true, false_and, and_false, false_or, or_false, not_false_eq_true, Nat.reduceAdd, Nat.reduceLT, Nat.reduceLeDiff, Nat.reduceBEq, Nat.reduceEqDiff, Bool.or_false, Bool.false_or, if_true, if_false, Bool.false_eq_true, nq_eq, nq_lt, nq_le, nq_in_t, nq_bd, nq_ft, nq_clamp, nq_shl31, nq_shr31, nq_bitb, nq_add, nq_mul, fa_and, fa_or, nq_b0, nq_b1, nq_b01, ↓ni_lt_t, ↓ni_lt_f, ↓ni_le_t, ↓ni_le_f, ↓ni_eq_t, ↓ni_eq_f, ↓ni_beq_t, ↓ni_beq_f, it_X8_laysLike, it_X8_laysLike_1, h1, mO, a1, a2, nq_div, nq_sub, em, q_X8_has]
    refine l_X8_ll3 (k := k) hm ha hI.1 hp hq hw1 hw2 hi hj Q (fun x => ?_) 5 0 (by omega)
    apply rx_wp_sound 60 [86]
    cases c1 : (K (k / 16)).testBit (k % 16) with
    | false =>
      simp (disch := first | decide | omega) only [rx_W, rx_wp_succ, rx_nx_stop, rx_nx_go, rx_lx_some, rx_fx_some, rx_ax_some, rx_qx_some, rx_ox_some, rx_vx_ref, rx_ix_ref, rx_ld_0, rx_ld_2, rx_ld_3, rx_cx_some, rx_nl, List.getElem?_cons_zero, List.getElem?_cons_succ, List.set_cons_zero, List.set_cons_succ, List.length_cons, List.length_nil, List.take_succ_cons, List.take_zero, List.drop_succ_cons, List.drop_zero, List.reverse_cons, List.reverse_nil, List.nil_append, List.cons_append, Option.toList_some, Option.toList_none, true_and, and_true, and_self, true_or, or_true, false_and, and_false, false_or, or_false, not_false_eq_true, Nat.reduceAdd, Nat.reduceLT, Nat.reduceLeDiff, Nat.reduceBEq, Nat.reduceEqDiff, Bool.or_false, Bool.false_or, if_true, if_false, Bool.false_eq_true, nq_eq, nq_lt, nq_le, nq_in_t, nq_bd, nq_ft, nq_clamp, nq_shl31, nq_shr31, nq_bitb, nq_add, nq_mul, fa_and, fa_or, nq_b0, nq_b1, nq_b01, ↓ni_lt_t, ↓ni_lt_f, ↓ni_le_t, ↓ni_le_f, ↓ni_eq_t, ↓ni_eq_f, ↓ni_beq_t, ↓ni_beq_f, it_X8_laysLike, it_X8_laysLike_1, h1, mO, a1, a2, q_X8_has, c1]
      exact keep _ _ _ _ (fun z => by rw [c1] at z; cases z)
    | true =>
      cases c2 : isK v p q K (k / 16) (k % 16) 5 with
      | true =>
        simp (disch := first | decide | omega) only [rx_W, rx_wp_succ, rx_nx_stop, rx_nx_go, rx_lx_some, rx_fx_some, rx_ax_some, rx_qx_some, rx_ox_some, rx_vx_ref, rx_ix_ref, rx_ld_0, rx_ld_2, rx_ld_3, rx_cx_some, rx_nl, List.getElem?_cons_zero, List.getElem?_cons_succ, List.set_cons_zero, List.set_cons_succ, List.length_cons, List.length_nil, List.take_succ_cons, List.take_zero, List.drop_succ_cons, List.drop_zero, List.reverse_cons, List.reverse_nil, List.nil_append, List.cons_append, Option.toList_some, Option.toList_none, true_and, and_true, and_self, true_or, or_true, false_and, and_false, false_or, or_false, not_false_eq_true, Nat.reduceAdd, Nat.reduceLT, Nat.reduceLeDiff, Nat.reduceBEq, Nat.reduceEqDiff, Bool.or_false, Bool.false_or, if_true, if_false, Bool.false_eq_true, nq_eq, nq_lt, nq_le, nq_in_t, nq_bd, nq_ft, nq_clamp, nq_shl31, nq_shr31, nq_bitb, nq_add, nq_mul, fa_and, fa_or, nq_b0, nq_b1, nq_b01, ↓ni_lt_t, ↓ni_lt_f, ↓ni_le_t, ↓ni_le_f, ↓ni_eq_t, ↓ni_eq_f, ↓ni_beq_t, ↓ni_beq_f, it_X8_laysLike, it_X8_laysLike_1, h1, mO, a1, a2, q_X8_has, c1]
        exact keep _ _ _ _ (fun _ => ((isK_iff _ _ 5).mp c2).2)
      | false =>
        have hno : ¬ ∀ b, b < 5 → mI v p q K (k / 16) (k % 16) b = true ∧ mI v p q K (k % 16) (k / 16) b = true := fun z => by
          have := (isK_iff (K := K) (v := v) (p := p) (q := q) (k / 16) (k % 16) 5).mpr ⟨c1, z⟩
          rw [c2] at this
          cases this
        have u1 := aN_upd a2 (k / 16) (K (k / 16) ^^^ (K (k / 16) &&& 2 ^ (k % 16)))
        simp (disch := first | decide | omega) only [rx_W, rx_wp_succ, rx_nx_stop, rx_nx_go, rx_lx_some, rx_fx_some, rx_ax_some, rx_qx_some, rx_ox_some, rx_vx_ref, rx_ix_ref, rx_ld_0, rx_ld_2, rx_ld_3, rx_cx_some, rx_nl, List.getElem?_cons_zero, List.getElem?_cons_succ, List.set_cons_zero, List.set_cons_succ, List.length_cons, List.length_nil, List.take_succ_cons, List.take_zero, List.drop_succ_cons, List.drop_zero, List.reverse_cons, List.reverse_nil, List.nil_append, List.cons_append, Option.toList_some, Option.toList_none, true_and, and_true, and_self, true_or, or_true, false_and, and_false, false_or, or_false, not_false_eq_true, Nat.reduceAdd, Nat.reduceLT, Nat.reduceLeDiff, Nat.reduceBEq, Nat.reduceEqDiff, Bool.or_false, Bool.false_or, if_true, if_false, Bool.false_eq_true, nq_eq, nq_lt, nq_le, nq_in_t, nq_bd, nq_ft, nq_clamp, nq_shl31, nq_shr31, nq_bitb, nq_add, nq_mul, fa_and, fa_or, nq_b0, nq_b1, nq_b01, ↓ni_lt_t, ↓ni_lt_f, ↓ni_le_t, ↓ni_le_f, ↓ni_eq_t, ↓ni_eq_f, ↓ni_beq_t, ↓ni_beq_f, it_X8_laysLike, it_X8_laysLike_1, h1, mO, a1, a2, q_X8_has, c1, nq_andn, Nat.one_mul, rd_eq, rd_ne, u1]
        refine ih _ (stk K (k / 16) (k % 16)) true _ _ _ _ (Fr_up (Fr_up hf (by simp)) (by simp)) ⟨_, rd_eq _ _ _, aN_upd u1 _ _⟩ (stk_lkI hw1 hw2 hI hi hj hno) (fun z => by cases z) ?_
        have := tcs_lt (K := K) (K' := stk K (k / 16) (k % 16)) 16 (k / 16) (fun a _ b hb => ((stk_bit K _ _ a b).mp hb).1) hi ⟨k % 16, hj, c1, fun z => ((stk_bit K _ _ _ _).mp z).2.1 ⟨rfl, rfl⟩⟩
        show _ + 1 ≤ T
        omega
theorem l_X8_ll5 (hm0 : mN h0 v) (hp : p < 4) (hq : q < 4) (hw1 : ∀ j, j < 40 → wq v p j < 256) (hw2 : ∀ j, j < 40 → wq v q j < 256) (Q : Option Value → rx_H → Prop)
    (hQ : ∀ h K, Fr h0 h [106] → aN h 106 16 K → lkI v p q K → (∀ k, k < 256 → pok v p q K k) → Q none h) :
    ∀ T h K x4 x5 x6 x7 x8, tcs K 16 < T → Fr h0 h [106] → aN h 106 16 K → lkI v p q K → rx_R 131 77 [.ref 98, .int (nI p), .int (nI q), .int (nI 1), x4, x5, x6, x7, x8] [] h Q
  | 0, h, K, x4, x5, x6, x7, x8, hT, hf, ha, hI => by omega
  | T + 1, h, K, x4, x5, x6, x7, x8, hT, hf, ha, hI => by
    apply rx_wp_sound 60 [77, 86]
    simp (disch := first | decide | omega) only [rx_W, rx_wp_succ, rx_nx_stop, rx_nx_go, rx_lx_some, rx_fx_some, rx_ax_some, rx_qx_some, rx_ox_some, rx_vx_ref, rx_ix_ref, rx_ld_0, rx_ld_2, rx_ld_3, rx_cx_some, rx_nl, List.getElem?_cons_zero, List.getElem?_cons_succ, List.set_cons_zero, List.set_cons_succ, List.length_cons, List.length_nil, List.take_succ_cons, List.take_zero, List.drop_succ_cons, List.drop_zero, List.reverse_cons, List.reverse_nil, List.nil_append, List.cons_append, Option.toList_some, Option.toList_none, true_and, and_true, and_self, true_or, or_true, false_and, and_false, false_or, or_false, not_false_eq_true, Nat.reduceAdd, Nat.reduceLT, Nat.reduceLeDiff, Nat.reduceBEq, Nat.reduceEqDiff, Bool.or_false, Bool.false_or, if_true, if_false, Bool.false_eq_true, nq_eq, nq_lt, nq_le, nq_in_t, nq_bd, nq_ft, nq_clamp, nq_shl31, nq_shr31, nq_bitb, nq_add, nq_mul, fa_and, fa_or, nq_b0, nq_b1, nq_b01, ↓ni_lt_t, ↓ni_lt_f, ↓ni_le_t, ↓ni_le_f, ↓ni_eq_t, ↓ni_eq_f, ↓ni_beq_t, ↓ni_beq_f, it_X8_laysLike, it_X8_laysLike_1]
    refine l_X8_ll4 (T := tcs K 16) hm0 hp hq hw1 hw2 Q (fun h2 K2 st y5 y6 y7 y8 z1 z2 z3 z4 z5 => ?_) 256 0 h K false _ _ _ _ (by omega) hf ha hI (fun _ k' hk' => by omega) (by show _ + 0 ≤ _; omega)
    cases st with
    | true =>
      have z5 : tcs K2 16 + 1 ≤ tcs K 16 := z5
      exact l_X8_ll5 hm0 hp hq hw1 hw2 Q hQ T h2 K2 _ _ _ _ _ (by omega) z1 z2 z3
    | false =>
      apply rx_wp_sound 60 []
      simp (disch := first | decide | omega) only [rx_W, rx_wp_succ, rx_nx_stop, rx_nx_go, rx_lx_some, rx_fx_some, rx_ax_some, rx_qx_some, rx_ox_some, rx_vx_ref, rx_ix_ref, rx_ld_0, rx_ld_2, rx_ld_3, rx_cx_some, rx_nl, List.getElem?_cons_zero, List.getElem?_cons_succ, List.set_cons_zero, List.set_cons_succ, List.length_cons, List.length_nil, List.take_succ_cons, List.take_zero, List.drop_succ_cons, List.drop_zero, List.reverse_cons, List.reverse_nil, List.nil_append, List.cons_append, Option.toList_some, Option.toList_none, true_and, and_true, and_self, true_or, or_true, false_and, and_false, false_or, or_false, not_false_eq_true, Nat.reduceAdd, Nat.reduceLT, Nat.reduceLeDiff, Nat.reduceBEq, Nat.reduceEqDiff, Bool.or_false, Bool.false_or, if_true, if_false, Bool.false_eq_true, nq_eq, nq_lt, nq_le, nq_in_t, nq_bd, nq_ft, nq_clamp, nq_shl31, nq_shr31, nq_bitb, nq_add, nq_mul, fa_and, fa_or, nq_b0, nq_b1, nq_b01, ↓ni_lt_t, ↓ni_lt_f, ↓ni_le_t, ↓ni_le_f, ↓ni_eq_t, ↓ni_eq_f, ↓ni_beq_t, ↓ni_beq_f, it_X8_laysLike, it_X8_laysLike_1]
      exact hQ h2 K2 z1 z2 z3 (z4 rfl)
theorem c_X8_laysLike {K0 : Nat → Nat} (hm : mN h0 v) (ha : aN h0 106 16 K0) (hp : p < 4) (hq : q < 4) (hn1 : v (41 * p) ≤ 8) (hn2 : v (41 * q) ≤ 8) (hw1 : ∀ j, j < 40 → wq v p j < 256) (hw2 : ∀ j, j < 40 → wq v q j < 256) : rx_Cl 131 [.ref 98, .int (nI p), .int (nI q)] h0 (fun r h' => r = none ∧ Fr h0 h' [106] ∧ ∃ K, aN h' 106 16 K ∧ ∀ i, i < 16 → K i < 2 ^ 16 ∧ ∀ j, j < 16 → ((K i).testBit j = true ↔ alB v p q i j)) := by
  apply en_X8_laysLike _ _ _ 60 [2]
  simp (disch := first | decide | omega) only [rx_W, rx_wp_succ, rx_nx_stop, rx_nx_go, rx_lx_some, rx_fx_some, rx_ax_some, rx_qx_some, rx_ox_some, rx_vx_ref, rx_ix_ref, rx_ld_0, rx_ld_2, rx_ld_3, rx_cx_some, rx_nl, List.getElem?_cons_zero, List.getElem?_cons_succ, List.set_cons_zero, List.set_cons_succ, List.length_cons, List.length_nil, List.take_succ_cons, List.take_zero, List.drop_succ_cons, List.drop_zero, List.reverse_cons, List.reverse_nil, List.nil_append, List.cons_append, Option.toList_some, Option.toList_none, true_and, and_true, and_self, true_or, or_true, false_and, and_false, false_or, or_false, not_false_eq_true, Nat.reduceAdd, Nat.reduceLT, Nat.reduceLeDiff, Nat.reduceBEq, Nat.reduceEqDiff, Bool.or_false, Bool.false_or, if_true, if_false, Bool.false_eq_true, nq_eq, nq_lt, nq_le, nq_in_t, nq_bd, nq_ft, nq_clamp, nq_shl31, nq_shr31, nq_bitb, nq_add, nq_mul, fa_and, fa_or, nq_b0, nq_b1, nq_b01, ↓ni_lt_t, ↓ni_lt_f, ↓ni_le_t, ↓ni_le_f, ↓ni_eq_t, ↓ni_eq_f, ↓ni_beq_t, ↓ni_beq_f, it_X8_laysLike, it_X8_laysLike_1]
  refine l_X8_ll2 (h0 := h0) hm hp hq hn1 hn2 _ (fun h K x y1 y2 y3 => ?_) 16 0 h0 K0 _ (by omega) (Fr_rfl _ _) ha (fun a ha' => by omega)
  apply rx_wp_sound 60 [77]
  simp (disch := first | decide | omega) only [rx_W, rx_wp_succ, rx_nx_stop, rx_nx_go, rx_lx_some, rx_fx_some, rx_ax_some, rx_qx_some, rx_ox_some, rx_vx_ref, rx_ix_ref, rx_ld_0, rx_ld_2, rx_ld_3, rx_cx_some, rx_nl, List.getElem?_cons_zero, List.getElem?_cons_succ, List.set_cons_zero, List.set_cons_succ, List.length_cons, List.length_nil, List.take_succ_cons, List.take_zero, List.drop_succ_cons, List.drop_zero, List.reverse_cons, List.reverse_nil, List.nil_append, List.cons_append, Option.toList_some, Option.toList_none, true_and, and_true, and_self, true_or, or_true, false_and, and_false, false_or, or_false, not_false_eq_true, Nat.reduceAdd, Nat.reduceLT, Nat.reduceLeDiff, Nat.reduceBEq, Nat.reduceEqDiff, Bool.or_false, Bool.false_or, if_true, if_false, Bool.false_eq_true, nq_eq, nq_lt, nq_le, nq_in_t, nq_bd, nq_ft, nq_clamp, nq_shl31, nq_shr31, nq_bitb, nq_add, nq_mul, fa_and, fa_or, nq_b0, nq_b1, nq_b01, ↓ni_lt_t, ↓ni_lt_f, ↓ni_le_t, ↓ni_le_f, ↓ni_eq_t, ↓ni_eq_f, ↓ni_beq_t, ↓ni_beq_f, it_X8_laysLike, it_X8_laysLike_1]
  have kb : ∀ i j, i < 16 → ((K i).testBit j = true ↔ j < 16 ∧ thB v p q i = true ∧ thB v p q j = true) := fun i j hi => by
    rw [y3 i hi, un_bit]
    unfold k0F
    constructor
    · rintro ⟨a, a1, a2⟩
      split at a2
      · next c =>
        rw [← (bit_pow a j).mp a2]
        rw [Bool.and_eq_true] at c
        exact ⟨a1, c⟩
      · simp at a2
    · rintro ⟨a1, a2, a3⟩
      exact ⟨j, a1, by rw [if_pos (by rw [a2, a3]; rfl)]; exact (bit_pow j j).mpr rfl⟩
  refine l_X8_ll5 (h0 := h0) hm hp hq hw1 hw2 _ (fun h2 K2 z1 z2 z3 z4 => ⟨rfl, z1, K2, z2, fun i hi => ⟨z3.1 i hi, fun j hj => lk_end hn1 hn2 hw1 hw2 z3 (fun a b ha hb hab => ?_) hi hj⟩⟩) (tcs K 16 + 1) h K _ _ _ _ _ (by omega) y1 y2 ⟨fun i hi => ?_, fun i j hi hj hij => ?_, fun i j hi hj hij => ((kb i j hi).mp hij).2, fun i j hi hj hal => ?_⟩
  · rw [y3 i hi]
    refine un_lt 16 (fun a ha' => ?_)
    unfold k0F
    split
    · exact Nat.pow_lt_pow_right (by omega) ha'
    · exact Nat.two_pow_pos 16
  · obtain ⟨-, g2, g3⟩ := (kb i j hi).mp hij
    exact (kb j i hj).mpr ⟨hi, g3, g2⟩
  · obtain ⟨g1, g2, -⟩ := alk_bis _ _ _ _ _ _ hal
    exact (kb i j hi).mpr ⟨hj, decide_eq_true g1, decide_eq_true g2⟩
  · have := z4 (a * 16 + b) (by omega)
    unfold pok at this
    rw [show (a * 16 + b) / 16 = a by omega, show (a * 16 + b) % 16 = b by omega] at this
    exact this hab
end LL
