/-! ===== heaps ===== -/
def Fr (h h' : rx_H) (A : List Nat) : Prop := h'.1 = h.1 ∧ h'.2.1 = h.2.1 ∧ ∀ i, i ∉ A → rx_rd h' i = rx_rd h i
theorem rd_eq (h : rx_H) (i : Nat) (c : rx_C) : rx_rd (rx_up h i c) i = some c := if_pos rfl
theorem rd_ne {h : rx_H} {i j : Nat} {c : rx_C} (e : ¬ j = i) : rx_rd (rx_up h i c) j = rx_rd h j := if_neg e
theorem Fr_rfl (h : rx_H) (A : List Nat) : Fr h h A := ⟨rfl, rfl, fun _ _ => rfl⟩
theorem Fr_up {h h' : rx_H} {A : List Nat} {i : Nat} {c : rx_C} (hf : Fr h h' A) (hi : i ∈ A) : Fr h (rx_up h' i c) A :=
  ⟨hf.1, hf.2.1, fun j hj => (rd_ne (fun e => hj (by rw [e]; exact hi))).trans (hf.2.2 j hj)⟩
theorem Fr_trans {h h1 h2 : rx_H} {A B C : List Nat} (h12 : Fr h h1 A) (h23 : Fr h1 h2 B) (hA : ∀ i ∈ A, i ∈ C) (hB : ∀ i ∈ B, i ∈ C) : Fr h h2 C :=
  ⟨h23.1.trans h12.1, h23.2.1.trans h12.2.1, fun i hi => (h23.2.2 i (fun z => hi (hB i z))).trans (h12.2.2 i (fun z => hi (hA i z)))⟩
theorem Fr_sub {h h1 : rx_H} {A C : List Nat} (h12 : Fr h h1 A) (hA : ∀ i ∈ A, i ∈ C) : Fr h h1 C := ⟨h12.1, h12.2.1, fun i hi => h12.2.2 i (fun z => hi (hA i z))⟩
theorem nq_upd (w : Nat → Nat) (k v : Nat) : upd (fun j => nI (w j)) k (nI v) = fun j => nI (va_up w k v j) := by
  funext j
  unfold upd va_up
  split <;> rfl
def bc (a : Nat) : Nat := ctb a.testBit 8
theorem bc_le (a : Nat) : bc a ≤ 8 := ctb_le _ 8
theorem bc_0 : bc 0 = 0 := by decide +kernel
def tot (w : Nat → Nat) : Nat := fb_sm (fun j => bc (w j)) 40
theorem tot_le (w : Nat → Nat) : tot w ≤ 320 := by
  have := fb_sm_le (f := fun j => bc (w j)) (g := fun _ => 8) (n := 40) (fun k _ => bc_le _)
  rw [fb_sm_const] at this
  exact this
theorem tot_up (w : Nat → Nat) {k : Nat} (v : Nat) (hk : k < 40) : tot (va_up w k v) + bc (w k) = tot w + bc v := by
  have := fb_sm_upd (fun j => bc (w j)) (bc v) hk
  show tot (va_up w k v) + bc (w k) = fb_sm (fun j => bc (w j)) 40 + bc v
  rw [← this]
  congr 1
  unfold tot
  apply fb_sm_cong
  intro j hj
  unfold va_up
  split <;> rfl
theorem tot_part (w : Nat → Nat) {k : Nat} (hk : k < 40) : bc (w k) ≤ tot w := by
  have := fb_sm_part (fun j => bc (w j)) hk
  exact Nat.le_trans (Nat.le_add_left _ _) (Nat.le_trans this (by
    unfold tot
    exact Nat.le_refl _))
/-! ===== Integer.bitCount on 8 bits ===== -/
def bcf (x : Int32) : Int32 :=
  let a := x - (rx_ush x (nI 1) &&& nI 1431655765)
  let b := (a &&& nI 858993459) + (rx_ush a (nI 2) &&& nI 858993459)
  let c := (b + rx_ush b (nI 4)) &&& nI 252645135
  let d := c + rx_ush c (nI 8)
  let e := d + rx_ush d (nI 16)
  e &&& nI 63
theorem bcf_ok : ∀ a, a < 256 → bcf (nI a) = nI (bc a) := by decide +kernel
theorem q_bitCount {a : Nat} (ha : a < 256) (h : rx_H) (Q : Option Value → rx_H → Prop) : rx_Cl 168 [.int (nI a)] h Q = Q (some (.int (nI (bc a)))) h := by
  refine rx_Cl_eq ?_ Q
  apply en_J6_bitCount_0f7a4 _ 60 []
  simp (disch := first | decide | omega) only [rx_W, rx_wp_succ, rx_nx_stop, rx_nx_go, rx_lx_some, rx_fx_some, rx_ax_some, rx_qx_some, rx_ox_some, rx_vx_ref, rx_ix_ref, rx_ld_0, rx_ld_2, rx_ld_3, rx_cx_some, rx_nl, List.getElem?_cons_zero, List.getElem?_cons_succ, List.set_cons_zero, List.set_cons_succ, List.length_cons, List.length_nil, List.take_succ_cons, List.take_zero, List.drop_succ_cons, List.drop_zero, List.reverse_cons, List.reverse_nil, List.nil_append, List.cons_append, Option.toList_some, Option.toList_none, true_and, and_true, and_self, true_or, or_true, false_and, and_false, false_or, or_false, not_false_eq_true, Nat.reduceAdd, Nat.reduceLT, Nat.reduceLeDiff, Nat.reduceBEq, Nat.reduceEqDiff, Bool.or_false, Bool.false_or, if_true, if_false, Bool.false_eq_true, it_J6_bitCount_0f7a4]
  rw [← bcf_ok a ha]
  rfl
theorem nq_xn (x y : Int32) : x &&& (y ^^^ (-1)) = x ^^^ (x &&& y) := by
  apply Int32.toBitVec_inj.mp
  have e : (-1 : Int32).toBitVec = BitVec.allOnes 32 := by decide +kernel
  rw [Int32.toBitVec_and, Int32.toBitVec_xor, Int32.toBitVec_xor, Int32.toBitVec_and, e]
  apply BitVec.eq_of_getLsbD_eq
  intro i hi
  simp only [BitVec.getLsbD_and, BitVec.getLsbD_xor, BitVec.getLsbD_allOnes, hi, decide_true]
  cases x.toBitVec.getLsbD i <;> cases y.toBitVec.getLsbD i <;> rfl
theorem nq_andn (a b : Nat) : nI a &&& (nI b ^^^ (-1)) = nI (a ^^^ (a &&& b)) := by
  rw [nq_xn, fa_and, fb_xorI]
/-! ===== rows of small numbers ===== -/
def aN (h : rx_H) (i k : Nat) (w : Nat → Nat) : Prop := ∃ f, rx_rd h i = some (.inl (0, k, .inl f)) ∧ ∀ j, j < k → f j = nI (w j)
theorem aN_cong {h : rx_H} {i k : Nat} {w w' : Nat → Nat} (ha : aN h i k w) (hw : ∀ j, j < k → w j = w' j) : aN h i k w' := by
  obtain ⟨f, h1, h2⟩ := ha
  exact ⟨f, h1, fun j hj => by rw [h2 j hj, hw j hj]⟩
theorem aN_fr {h h' : rx_H} {A : List Nat} {i k : Nat} {w : Nat → Nat} (hf : Fr h h' A) (hi : i ∉ A) (ha : aN h i k w) : aN h' i k w := by
  obtain ⟨f, h1, h2⟩ := ha
  exact ⟨f, (hf.2.2 i hi).trans h1, h2⟩
theorem aN_upd {k : Nat} {f : Nat → Int32} {w : Nat → Nat} (hf : ∀ j, j < k → f j = nI (w j)) (e v : Nat) : ∀ j, j < k → upd f e (nI v) j = nI (va_up w e v j) := by
  intro j hj
  unfold upd va_up
  split
  · rfl
  · exact hf j hj
/-! ===== Arrays.fill ===== -/
theorem l_fill {h0 : rx_H} {a k v : Nat} (ha : ¬ a = 0) (hk : k < 2 ^ 31) (Q : Option Value → rx_H → Prop) (hQ : ∀ h', Fr h0 h' [a] → aN h' a k (fun _ => v) → Q none h') : ∀ (j i : Nat) (h : rx_H) (f : Nat → Int32), i + j = k → Fr h0 h [a] → rx_rd h a = some (.inl (0, k, .inl f)) → (∀ m, m < i → f m = nI v) → rx_R 169 5 [.ref a, .int (nI v), .int (nI i), .int (nI k)] [] h Q
  | 0, i, h, f, e, hf, h1, h2 => by
    have e' : i = k := by omega
    subst e'
    apply rx_wp_sound 40 [5]
    simp (disch := first | decide | omega) only [rx_W, rx_wp_succ, rx_nx_stop, rx_nx_go, rx_lx_some, rx_fx_some, rx_ax_some, rx_qx_some, rx_ox_some, rx_vx_ref, rx_ix_ref, rx_ld_0, rx_ld_2, rx_ld_3, rx_cx_some, rx_nl, List.getElem?_cons_zero, List.getElem?_cons_succ, List.set_cons_zero, List.set_cons_succ, List.length_cons, List.length_nil, List.take_succ_cons, List.take_zero, List.drop_succ_cons, List.drop_zero, List.reverse_cons, List.reverse_nil, List.nil_append, List.cons_append, Option.toList_some, Option.toList_none, true_and, and_true, and_self, true_or, or_true, false_and, and_false, false_or, or_false, not_false_eq_true, Nat.reduceAdd, Nat.reduceLT, Nat.reduceLeDiff, Nat.reduceBEq, Nat.reduceEqDiff, Bool.or_false, Bool.false_or, if_true, if_false, Bool.false_eq_true, nq_eq, nq_lt, nq_le, nq_in_t, nq_bd, nq_ft, nq_clamp, nq_shl31, nq_shr31, nq_bitb, nq_add, nq_mul, fa_and, fa_or, nq_b0, nq_b1, nq_b01, ↓ni_lt_t, ↓ni_lt_f, ↓ni_le_t, ↓ni_le_f, ↓ni_eq_t, ↓ni_eq_f, ↓ni_beq_t, ↓ni_beq_f, it_J7_fill_53178]
    exact hQ h hf ⟨f, h1, h2⟩
  | j + 1, i, h, f, e, hf, h1, h2 => by
    apply rx_wp_sound 40 [5]
    simp (disch := first | decide | omega) only [rx_W, rx_wp_succ, rx_nx_stop, rx_nx_go, rx_lx_some, rx_fx_some, rx_ax_some, rx_qx_some, rx_ox_some, rx_vx_ref, rx_ix_ref, rx_ld_0, rx_ld_2, rx_ld_3, rx_cx_some, rx_nl, List.getElem?_cons_zero, List.getElem?_cons_succ, List.set_cons_zero, List.set_cons_succ, List.length_cons, List.length_nil, List.take_succ_cons, List.take_zero, List.drop_succ_cons, List.drop_zero, List.reverse_cons, List.reverse_nil, List.nil_append, List.cons_append, Option.toList_some, Option.toList_none, true_and, and_true, and_self, true_or, or_true, false_and, and_false, false_or, or_false, not_false_eq_true, Nat.reduceAdd, Nat.reduceLT, Nat.reduceLeDiff, Nat.reduceBEq, Nat.reduceEqDiff, Bool.or_false, Bool.false_or, if_true, if_false, Bool.false_eq_true, nq_eq, nq_lt, nq_le, nq_in_t, nq_bd, nq_ft, nq_clamp, nq_shl31, nq_shr31, nq_bitb, nq_add, nq_mul, fa_and, fa_or, nq_b0, nq_b1, nq_b01, ↓ni_lt_t, ↓ni_lt_f, ↓ni_le_t, ↓ni_le_f, ↓ni_eq_t, ↓ni_eq_f, ↓ni_beq_t, ↓ni_beq_f, it_J7_fill_53178, h1, ha]
    refine l_fill ha hk Q hQ j (i + 1) _ (upd f i (nI v)) (by omega) (Fr_up hf (by simp)) (rd_eq _ _ _) (fun m hm => ?_)
    unfold upd
    split
    · rfl
    · exact h2 m (by omega)
theorem c_fill {h : rx_H} {a k v : Nat} (ha : ¬ a = 0) (hk : k < 2 ^ 31) {f : Nat → Int32} (h1 : rx_rd h a = some (.inl (0, k, .inl f))) : rx_Cl 169 [.ref a, .int (nI v)] h (fun r h' => r = none ∧ Fr h h' [a] ∧ aN h' a k (fun _ => v)) := by
  apply en_J7_fill_53178 _ _ 40 [5]
  simp (disch := first | decide | omega) only [rx_W, rx_wp_succ, rx_nx_stop, rx_nx_go, rx_lx_some, rx_fx_some, rx_ax_some, rx_qx_some, rx_ox_some, rx_vx_ref, rx_ix_ref, rx_ld_0, rx_ld_2, rx_ld_3, rx_cx_some, rx_nl, List.getElem?_cons_zero, List.getElem?_cons_succ, List.set_cons_zero, List.set_cons_succ, List.length_cons, List.length_nil, List.take_succ_cons, List.take_zero, List.drop_succ_cons, List.drop_zero, List.reverse_cons, List.reverse_nil, List.nil_append, List.cons_append, Option.toList_some, Option.toList_none, true_and, and_true, and_self, true_or, or_true, false_and, and_false, false_or, or_false, not_false_eq_true, Nat.reduceAdd, Nat.reduceLT, Nat.reduceLeDiff, Nat.reduceBEq, Nat.reduceEqDiff, Bool.or_false, Bool.false_or, if_true, if_false, Bool.false_eq_true, nq_eq, nq_lt, nq_le, nq_in_t, nq_bd, nq_ft, nq_clamp, nq_shl31, nq_shr31, nq_bitb, nq_add, nq_mul, fa_and, fa_or, nq_b0, nq_b1, nq_b01, ↓ni_lt_t, ↓ni_lt_f, ↓ni_le_t, ↓ni_le_f, ↓ni_eq_t, ↓ni_eq_f, ↓ni_beq_t, ↓ni_beq_f, it_J7_fill_53178, h1]
  exact l_fill ha hk _ (fun h' hf hA => ⟨rfl, hf, hA⟩) k 0 h f (by omega) (Fr_rfl _ _) h1 (fun m hm => by omega)
/-! ===== Proc ===== -/
def pW (h : rx_H) (o n : Nat) (w : Nat → Nat) : Prop := rx_rd h o = some (.inr (4, [.int (nI n), .int (nI (tot w)), .ref (o + 1)])) ∧ aN h (o + 1) 40 w ∧ ¬ o = 0
theorem tot_cong {w w' : Nat → Nat} (hw : ∀ j, j < 40 → w j = w' j) : tot w = tot w' := fb_sm_cong (fun k hk => by rw [hw k hk])
theorem tot_0 : tot (fun _ => 0) = 0 := by
  unfold tot
  rw [fb_sm_cong (g := fun _ => 0) (fun k hk => bc_0), fb_sm_const]
theorem pW_cong {h : rx_H} {o n : Nat} {w w' : Nat → Nat} (hp : pW h o n w) (hw : ∀ j, j < 40 → w j = w' j) : pW h o n w' := ⟨by rw [← tot_cong hw]; exact hp.1, aN_cong hp.2.1 hw, hp.2.2⟩
theorem pW_fr {h h' : rx_H} {A : List Nat} {o n : Nat} {w : Nat → Nat} (hf : Fr h h' A) (h1 : o ∉ A) (h2 : o + 1 ∉ A) (hp : pW h o n w) : pW h' o n w := ⟨(hf.2.2 o h1).trans hp.1, aN_fr hf h2 hp.2.1, hp.2.2⟩
theorem q_X4_targets {h : rx_H} {o n : Nat} {w : Nat → Nat} (hp : pW h o n w) {s b : Nat} (hs : s * 5 + b < 40) (Q : Option Value → rx_H → Prop) : rx_Cl 38 [.ref o, .int (nI s), .int (nI b)] h Q = Q (some (.int (nI (w (s * 5 + b))))) h := by
  obtain ⟨h1, ⟨f, h2, hf⟩, h3⟩ := hp
  refine rx_Cl_eq ?_ Q
  apply en_X4_targets _ _ _ 40 []
  simp (disch := first | decide | omega) only [rx_W, rx_wp_succ, rx_nx_stop, rx_nx_go, rx_lx_some, rx_fx_some, rx_ax_some, rx_qx_some, rx_ox_some, rx_vx_ref, rx_ix_ref, rx_ld_0, rx_ld_2, rx_ld_3, rx_cx_some, rx_nl, List.getElem?_cons_zero, List.getElem?_cons_succ, List.set_cons_zero, List.set_cons_succ, List.length_cons, List.length_nil, List.take_succ_cons, List.take_zero, List.drop_succ_cons, List.drop_zero, List.reverse_cons, List.reverse_nil, List.nil_append, List.cons_append, Option.toList_some, Option.toList_none, true_and, and_true, and_self, true_or, or_true, false_and, and_false, false_or, or_false, not_false_eq_true, Nat.reduceAdd, Nat.reduceLT, Nat.reduceLeDiff, Nat.reduceBEq, Nat.reduceEqDiff, Bool.or_false, Bool.false_or, if_true, if_false, Bool.false_eq_true, nq_eq, nq_lt, nq_le, nq_in_t, nq_bd, nq_ft, nq_clamp, nq_shl31, nq_shr31, nq_bitb, nq_add, nq_mul, fa_and, fa_or, nq_b0, nq_b1, nq_b01, ↓ni_lt_t, ↓ni_lt_f, ↓ni_le_t, ↓ni_le_f, ↓ni_eq_t, ↓ni_eq_f, ↓ni_beq_t, ↓ni_beq_f, it_X4_targets, h1, h2, h3, hf]
theorem q_X4_stands {h : rx_H} {o n : Nat} {w : Nat → Nat} (hp : pW h o n w) {s b t : Nat} (hs : s * 5 + b < 40) (hw : w (s * 5 + b) < 256) (ht : t < 32) (Q : Option Value → rx_H → Prop) : rx_Cl 39 [.ref o, .int (nI s), .int (nI b), .int (nI t)] h Q = Q (some (.int (nI ((w (s * 5 + b)).testBit t).toNat))) h := by
  refine rx_Cl_eq ?_ Q
  apply en_X4_stands _ _ _ _ 40 []
  simp (disch := first | decide | omega) only [rx_W, rx_wp_succ, rx_nx_stop, rx_nx_go, rx_lx_some, rx_fx_some, rx_ax_some, rx_qx_some, rx_ox_some, rx_vx_ref, rx_ix_ref, rx_ld_0, rx_ld_2, rx_ld_3, rx_cx_some, rx_nl, List.getElem?_cons_zero, List.getElem?_cons_succ, List.set_cons_zero, List.set_cons_succ, List.length_cons, List.length_nil, List.take_succ_cons, List.take_zero, List.drop_succ_cons, List.drop_zero, List.reverse_cons, List.reverse_nil, List.nil_append, List.cons_append, Option.toList_some, Option.toList_none, true_and, and_true, and_self, true_or, or_true, false_and, and_false, false_or, or_false, not_false_eq_true, Nat.reduceAdd, Nat.reduceLT, Nat.reduceLeDiff, Nat.reduceBEq, Nat.reduceEqDiff, Bool.or_false, Bool.false_or, if_true, if_false, Bool.false_eq_true, nq_eq, nq_lt, nq_le, nq_in_t, nq_bd, nq_ft, nq_clamp, nq_shl31, nq_shr31, nq_bitb, nq_add, nq_mul, fa_and, fa_or, nq_b0, nq_b1, nq_b01, ↓ni_lt_t, ↓ni_lt_f, ↓ni_le_t, ↓ni_le_f, ↓ni_eq_t, ↓ni_eq_f, ↓ni_beq_t, ↓ni_beq_f, it_X4_stands, q_X4_targets hp, q_X7_has, hp.1, hp.2.2]
theorem c_X4_setTargets {h : rx_H} {o n : Nat} {w : Nat → Nat} (hp : pW h o n w) {s b v : Nat} (hs : s * 5 + b < 40) (hw : w (s * 5 + b) < 256) (hv : v < 256) : rx_Cl 48 [.ref o, .int (nI s), .int (nI b), .int (nI v)] h (fun r h' => r = none ∧ Fr h h' [o, o + 1] ∧ pW h' o n (va_up w (s * 5 + b) v)) := by
  have hp' := hp
  obtain ⟨h1, ⟨f, h2, hf⟩, h3⟩ := hp'
  have t1 := tot_up w v hs
  have t2 := tot_part w hs
  have t3 := tot_le w
  have b1 := bc_le v
  have e1 : nI (tot w) + (nI (bc v) - nI (bc (w (s * 5 + b)))) = nI (tot (va_up w (s * 5 + b) v)) := by
    have e2 : nI (tot w) = nI (tot w - bc (w (s * 5 + b))) + nI (bc (w (s * 5 + b))) := by rw [nq_add]; congr 1; omega
    rw [e2, Int32.add_assoc, Int32.add_comm (nI (bc (w (s * 5 + b)))), Int32.sub_add_cancel, nq_add]
    congr 1
    omega
  apply en_X4_setTargets _ _ _ _ 60 []
  simp (disch := first | decide | omega) only [rx_W, rx_wp_succ, rx_nx_stop, rx_nx_go, rx_lx_some, rx_fx_some, rx_ax_some, rx_qx_some, rx_ox_some, rx_vx_ref, rx_ix_ref, rx_ld_0, rx_ld_2, rx_ld_3, rx_cx_some, rx_nl, List.getElem?_cons_zero, List.getElem?_cons_succ, List.set_cons_zero, List.set_cons_succ, List.length_cons, List.length_nil, List.take_succ_cons, List.take_zero, List.drop_succ_cons, List.drop_zero, List.reverse_cons, List.reverse_nil, List.nil_append, List.cons_append, Option.toList_some, Option.toList_none, true_and, and_true, and_self, true_or, or_true, false_and, and_false, false_or, or_false, not_false_eq_true, Nat.reduceAdd, Nat.reduceLT, Nat.reduceLeDiff, Nat.reduceBEq, Nat.reduceEqDiff, Bool.or_false, Bool.false_or, if_true, if_false, Bool.false_eq_true, nq_eq, nq_lt, nq_le, nq_in_t, nq_bd, nq_ft, nq_clamp, nq_shl31, nq_shr31, nq_bitb, nq_add, nq_mul, fa_and, fa_or, nq_b0, nq_b1, nq_b01, ↓ni_lt_t, ↓ni_lt_f, ↓ni_le_t, ↓ni_le_f, ↓ni_eq_t, ↓ni_eq_f, ↓ni_beq_t, ↓ni_beq_f, it_X4_setTargets, q_X4_targets hp, q_bitCount, h1, h2, h3, rd_eq, rd_ne, e1, rx_fit]
  exact ⟨Fr_up (Fr_up (Fr_rfl _ _) (by simp)) (by simp), by rw [rd_ne (by omega), rd_eq], ⟨_, rd_eq _ _ _, aN_upd hf _ _⟩, h3⟩
theorem or_256 {a b : Nat} (ha : a < 256) (hb : b < 256) : a ||| b < 256 := Nat.or_lt_two_pow (n := 8) ha hb
theorem c_X4_put {h : rx_H} {o n : Nat} {w : Nat → Nat} (hp : pW h o n w) {s b t : Nat} (hs : s * 5 + b < 40) (hw : w (s * 5 + b) < 256) (ht : t < 8) : rx_Cl 40 [.ref o, .int (nI s), .int (nI b), .int (nI t)] h (fun r h' => r = none ∧ Fr h h' [o, o + 1] ∧ pW h' o n (va_up w (s * 5 + b) (w (s * 5 + b) ||| 2 ^ t))) := by
  have h2 : 2 ^ t < 256 := Nat.pow_lt_pow_right (by omega) ht
  apply en_X4_put _ _ _ _ 60 []
  simp (disch := first | decide | omega) only [rx_W, rx_wp_succ, rx_nx_stop, rx_nx_go, rx_lx_some, rx_fx_some, rx_ax_some, rx_qx_some, rx_ox_some, rx_vx_ref, rx_ix_ref, rx_ld_0, rx_ld_2, rx_ld_3, rx_cx_some, rx_nl, List.getElem?_cons_zero, List.getElem?_cons_succ, List.set_cons_zero, List.set_cons_succ, List.length_cons, List.length_nil, List.take_succ_cons, List.take_zero, List.drop_succ_cons, List.drop_zero, List.reverse_cons, List.reverse_nil, List.nil_append, List.cons_append, Option.toList_some, Option.toList_none, true_and, and_true, and_self, true_or, or_true, false_and, and_false, false_or, or_false, not_false_eq_true, Nat.reduceAdd, Nat.reduceLT, Nat.reduceLeDiff, Nat.reduceBEq, Nat.reduceEqDiff, Bool.or_false, Bool.false_or, if_true, if_false, Bool.false_eq_true, nq_eq, nq_lt, nq_le, nq_in_t, nq_bd, nq_ft, nq_clamp, nq_shl31, nq_shr31, nq_bitb, nq_add, nq_mul, fa_and, fa_or, nq_b0, nq_b1, nq_b01, ↓ni_lt_t, ↓ni_lt_f, ↓ni_le_t, ↓ni_le_f, ↓ni_eq_t, ↓ni_eq_f, ↓ni_beq_t, ↓ni_beq_f, it_X4_put, q_X4_targets hp, hp.1, hp.2.2, Nat.one_mul]
  exact rx_Cl_imp (c_X4_setTargets hp hs hw (or_256 hw h2)) (fun r h' ⟨e, q⟩ => by subst e; simp (disch := first | decide | omega) only [rx_W, rx_wp_succ, rx_nx_stop, rx_nx_go, rx_lx_some, rx_fx_some, rx_ax_some, rx_qx_some, rx_ox_some, rx_vx_ref, rx_ix_ref, rx_ld_0, rx_ld_2, rx_ld_3, rx_cx_some, rx_nl, List.getElem?_cons_zero, List.getElem?_cons_succ, List.set_cons_zero, List.set_cons_succ, List.length_cons, List.length_nil, List.take_succ_cons, List.take_zero, List.drop_succ_cons, List.drop_zero, List.reverse_cons, List.reverse_nil, List.nil_append, List.cons_append, Option.toList_some, Option.toList_none, true_and, and_true, and_self, true_or, or_true, false_and, and_false, false_or, or_false, not_false_eq_true, Nat.reduceAdd, Nat.reduceLT, Nat.reduceLeDiff, Nat.reduceBEq, Nat.reduceEqDiff, Bool.or_false, Bool.false_or, if_true, if_false, Bool.false_eq_true, it_X4_put]; exact q)
theorem c_X4_drop {h : rx_H} {o n : Nat} {w : Nat → Nat} (hp : pW h o n w) {s b t : Nat} (hs : s * 5 + b < 40) (hw : w (s * 5 + b) < 256) (ht : t < 8) : rx_Cl 41 [.ref o, .int (nI s), .int (nI b), .int (nI t)] h (fun r h' => r = none ∧ Fr h h' [o, o + 1] ∧ pW h' o n (va_up w (s * 5 + b) (w (s * 5 + b) ^^^ (w (s * 5 + b) &&& 2 ^ t)))) := by
  have h2 : 2 ^ t < 256 := Nat.pow_lt_pow_right (by omega) ht
  have h3 : w (s * 5 + b) ^^^ (w (s * 5 + b) &&& 2 ^ t) < 256 := Nat.xor_lt_two_pow (n := 8) hw (Nat.and_lt_two_pow (n := 8) _ h2)
  apply en_X4_drop _ _ _ _ 60 []
  simp (disch := first | decide | omega) only [rx_W, rx_wp_succ, rx_nx_stop, rx_nx_go, rx_lx_some, rx_fx_some, rx_ax_some, rx_qx_some, rx_ox_some, rx_vx_ref, rx_ix_ref, rx_ld_0, rx_ld_2, rx_ld_3, rx_cx_some, rx_nl, List.getElem?_cons_zero, List.getElem?_cons_succ, List.set_cons_zero, List.set_cons_succ, List.length_cons, List.length_nil, List.take_succ_cons, List.take_zero, List.drop_succ_cons, List.drop_zero, List.reverse_cons, List.reverse_nil, List.nil_append, List.cons_append, Option.toList_some, Option.toList_none, true_and, and_true, and_self, true_or, or_true, false_and, and_false, false_or, or_false, not_false_eq_true, Nat.reduceAdd, Nat.reduceLT, Nat.reduceLeDiff, Nat.reduceBEq, Nat.reduceEqDiff, Bool.or_false, Bool.false_or, if_true, if_false, Bool.false_eq_true, nq_eq, nq_lt, nq_le, nq_in_t, nq_bd, nq_ft, nq_clamp, nq_shl31, nq_shr31, nq_bitb, nq_add, nq_mul, fa_and, fa_or, nq_b0, nq_b1, nq_b01, ↓ni_lt_t, ↓ni_lt_f, ↓ni_le_t, ↓ni_le_f, ↓ni_eq_t, ↓ni_eq_f, ↓ni_beq_t, ↓ni_beq_f, it_X4_drop, q_X4_targets hp, hp.1, hp.2.2, Nat.one_mul, nq_andn]
  exact rx_Cl_imp (c_X4_setTargets hp hs hw h3) (fun r h' ⟨e, q⟩ => by subst e; simp (disch := first | decide | omega) only [rx_W, rx_wp_succ, rx_nx_stop, rx_nx_go, rx_lx_some, rx_fx_some, rx_ax_some, rx_qx_some, rx_ox_some, rx_vx_ref, rx_ix_ref, rx_ld_0, rx_ld_2, rx_ld_3, rx_cx_some, rx_nl, List.getElem?_cons_zero, List.getElem?_cons_succ, List.set_cons_zero, List.set_cons_succ, List.length_cons, List.length_nil, List.take_succ_cons, List.take_zero, List.drop_succ_cons, List.drop_zero, List.reverse_cons, List.reverse_nil, List.nil_append, List.cons_append, Option.toList_some, Option.toList_none, true_and, and_true, and_self, true_or, or_true, false_and, and_false, false_or, or_false, not_false_eq_true, Nat.reduceAdd, Nat.reduceLT, Nat.reduceLeDiff, Nat.reduceBEq, Nat.reduceEqDiff, Bool.or_false, Bool.false_or, if_true, if_false, Bool.false_eq_true, it_X4_drop]; exact q)
theorem c_X4_begin {h : rx_H} {o n m : Nat} {w : Nat → Nat} (hp : pW h o n w) : rx_Cl 36 [.ref o, .int (nI m)] h (fun r h' => r = none ∧ Fr h h' [o, o + 1] ∧ pW h' o m (fun _ => 0)) := by
  obtain ⟨h1, ⟨f, h2, hf⟩, h3⟩ := hp
  apply en_X4_begin _ _ 60 []
  simp (disch := first | decide | omega) only [rx_W, rx_wp_succ, rx_nx_stop, rx_nx_go, rx_lx_some, rx_fx_some, rx_ax_some, rx_qx_some, rx_ox_some, rx_vx_ref, rx_ix_ref, rx_ld_0, rx_ld_2, rx_ld_3, rx_cx_some, rx_nl, List.getElem?_cons_zero, List.getElem?_cons_succ, List.set_cons_zero, List.set_cons_succ, List.length_cons, List.length_nil, List.take_succ_cons, List.take_zero, List.drop_succ_cons, List.drop_zero, List.reverse_cons, List.reverse_nil, List.nil_append, List.cons_append, Option.toList_some, Option.toList_none, true_and, and_true, and_self, true_or, or_true, false_and, and_false, false_or, or_false, not_false_eq_true, Nat.reduceAdd, Nat.reduceLT, Nat.reduceLeDiff, Nat.reduceBEq, Nat.reduceEqDiff, Bool.or_false, Bool.false_or, if_true, if_false, Bool.false_eq_true, nq_eq, nq_lt, nq_le, nq_in_t, nq_bd, nq_ft, nq_clamp, nq_shl31, nq_shr31, nq_bitb, nq_add, nq_mul, fa_and, fa_or, nq_b0, nq_b1, nq_b01, ↓ni_lt_t, ↓ni_lt_f, ↓ni_le_t, ↓ni_le_f, ↓ni_eq_t, ↓ni_eq_f, ↓ni_beq_t, ↓ni_beq_f, it_X4_begin, h1, h2, h3, rd_eq, rd_ne, rx_fit]
  refine rx_Cl_imp (c_fill (a := o + 1) (k := 40) (v := 0) (f := f) (by omega) (by omega) (by rw [rd_ne (by omega), rd_ne (by omega)]; exact h2)) (fun r h' ⟨e, q1, q2⟩ => ?_)
  subst e
  simp (disch := first | decide | omega) only [rx_W, rx_wp_succ, rx_nx_stop, rx_nx_go, rx_lx_some, rx_fx_some, rx_ax_some, rx_qx_some, rx_ox_some, rx_vx_ref, rx_ix_ref, rx_ld_0, rx_ld_2, rx_ld_3, rx_cx_some, rx_nl, List.getElem?_cons_zero, List.getElem?_cons_succ, List.set_cons_zero, List.set_cons_succ, List.length_cons, List.length_nil, List.take_succ_cons, List.take_zero, List.drop_succ_cons, List.drop_zero, List.reverse_cons, List.reverse_nil, List.nil_append, List.cons_append, Option.toList_some, Option.toList_none, true_and, and_true, and_self, true_or, or_true, false_and, and_false, false_or, or_false, not_false_eq_true, Nat.reduceAdd, Nat.reduceLT, Nat.reduceLeDiff, Nat.reduceBEq, Nat.reduceEqDiff, Bool.or_false, Bool.false_or, if_true, if_false, Bool.false_eq_true, it_X4_begin]
  refine ⟨Fr_trans (Fr_up (Fr_up (Fr_rfl h [o, o + 1]) (by simp)) (by simp)) q1 (fun i hi => hi) (by simp), ?_, q2, h3⟩
  rw [q1.2.2 o (by simp), rd_eq, tot_0]
