/-! ===== the class's calls ===== -/
abbrev kP (h : rx_H) (S : St) (r : Value) : Option Value → rx_H → Prop := fun x h' => x = some r ∧ FC h h' ∧ cIS h' S
theorem oI_oS {h : rx_H} {q n : Nat} {w : Nat → Nat} (hk : oI h q n w) : oS h q := by
  rcases hk with ⟨sb, lo, n, O, R, N, F, A, ho, hr, hh⟩ | ⟨lo, O, R, N, F, A, ho, hr, e1, e2, e3, e4, e5, e6, e7⟩
  · exact ⟨0, sb, lo, n, O, R, N, F, A, by omega, ho, hr, hh⟩
  · have p1 := Nat.two_pow_pos n
    exact ⟨1, _, lo, n, O, R, N, F, A, by omega, ho, hr, by rw [e5 0 p1, allS_0], by rw [e6 0 p1, allS_0], by rw [e7 0 p1, allS_0]⟩
section KP
variable {h : rx_H} {v : Nat → Nat} {u : Nat → Nat → Nat} {np L : Nat} {t : Nat → Nat} {cs : Nat → Int32}
theorem cIv_1 {h' : rx_H} {cs' : Nat → Int32} (hf : Fr h h' [1]) (hc : cIv h v u np L t cs) (h1 : rx_rd h' 1 = some (bO (cs' 0) (cs' 1) (cs' 2))) : cIv h' v u np L t cs' := by
  obtain ⟨b1, b2, b3, b4, b5, b6, b7, b8, b9, b10⟩ := hc
  have s : Sm h h' 2 97 := Sm_fr hf (fun i hi => by simp at hi; omega)
  exact ⟨h1, cPR_sm (Sm_sub s (by omega) (by omega)) b2, fun p hp => pW_sm s (by omega) (by omega) (b3 p hp), fun p hp => oI_sm s (by omega) (by omega) (b4 p hp), psI_sm (Sm_sub s (by omega) (by omega)) b5, tI_sm (Sm_sub s (by omega) (by omega)) b6, sI_fr hf (fun i hi => by simp at hi; omega) b7, kI_sm (Sm_sub s (by omega) (by omega)) b8, pgI_sm (Sm_sub s (by omega) (by omega)) b9, dr_sm (Sm_sub s (by omega) (by omega)) b10⟩
theorem k_ref (hc : cIv h v u np L t cs) {c : Nat} (hc3 : c < 3) {x : Int32} (hx : x = rcode c) {K : Option Value → rx_H → Prop} (hK : ∀ h', FC h h' → cIv h' v u np L t (rfs c cs) → K (some (.int (rcode c))) h') : rx_Cl 95 [.ref 1, .int x] h K := by
  have h1 := hc.1
  subst hx
  have f1 : ∀ c, Fr h (rx_up h 1 c) [1] := fun c => Fr_up (Fr_rfl _ _) (by simp)
  have hcc : c = 0 ∨ c = 1 ∨ c = 2 := by omega
  apply en_X7_refuse _ _ 60 []
  rcases hcc with rfl | rfl | rfl
  · have d1 : (rcode 0 = -2) = True := eq_true (by decide)
    simp (disch := first | decide | omega) only [rx_W, rx_wp_succ, rx_nx_stop, rx_nx_go, rx_lx_some, rx_fx_some, rx_ax_some, rx_qx_some, rx_ox_some, rx_vx_ref, rx_ix_ref, rx_ld_0, rx_ld_2, rx_ld_3, rx_cx_some, rx_nl, List.getElem?_cons_zero, List.getElem?_cons_succ, List.set_cons_zero, List.set_cons_succ, List.length_cons, List.length_nil, List.take_succ_cons, List.take_zero, List.drop_succ_cons, List.drop_zero, List.reverse_cons, List.reverse_nil, List.nil_append, List.cons_append, Option.toList_some, Option.toList_none, true_and, and_true, and_self, true_or, or_true, false_and, and_false, false_or, or_false, not_false_eq_true, Nat.reduceAdd, Nat.reduceLT, Nat.reduceLeDiff, Nat.reduceBEq, Nat.reduceEqDiff, Bool.or_false, Bool.false_or, if_true, if_false, Bool.false_eq_true, it_X7_refuse, d1, h1, bO, rx_ft]
    exact hK _ (FC_fr (f1 _) (by simp)) (cIv_1 (f1 _) hc (rd_eq _ _ _))
  · have d1 : (rcode 1 = -2) = False := eq_false (by decide)
    have d2 : (rcode 1 = -3) = True := eq_true (by decide)
    simp (disch := first | decide | omega) only [rx_W, rx_wp_succ, rx_nx_stop, rx_nx_go, rx_lx_some, rx_fx_some, rx_ax_some, rx_qx_some, rx_ox_some, rx_vx_ref, rx_ix_ref, rx_ld_0, rx_ld_2, rx_ld_3, rx_cx_some, rx_nl, List.getElem?_cons_zero, List.getElem?_cons_succ, List.set_cons_zero, List.set_cons_succ, List.length_cons, List.length_nil, List.take_succ_cons, List.take_zero, List.drop_succ_cons, List.drop_zero, List.reverse_cons, List.reverse_nil, List.nil_append, List.cons_append, Option.toList_some, Option.toList_none, true_and, and_true, and_self, true_or, or_true, false_and, and_false, false_or, or_false, not_false_eq_true, Nat.reduceAdd, Nat.reduceLT, Nat.reduceLeDiff, Nat.reduceBEq, Nat.reduceEqDiff, Bool.or_false, Bool.false_or, if_true, if_false, Bool.false_eq_true, it_X7_refuse, d1, d2, h1, bO, rx_ft]
    exact hK _ (FC_fr (f1 _) (by simp)) (cIv_1 (f1 _) hc (rd_eq _ _ _))
  · have d1 : (rcode 2 = -2) = False := eq_false (by decide)
    have d2 : (rcode 2 = -3) = False := eq_false (by decide)
    simp (disch := first | decide | omega) only [rx_W, rx_wp_succ, rx_nx_stop, rx_nx_go, rx_lx_some, rx_fx_some, rx_ax_some, rx_qx_some, rx_ox_some, rx_vx_ref, rx_ix_ref, rx_ld_0, rx_ld_2, rx_ld_3, rx_cx_some, rx_nl, List.getElem?_cons_zero, List.getElem?_cons_succ, List.set_cons_zero, List.set_cons_succ, List.length_cons, List.length_nil, List.take_succ_cons, List.take_zero, List.drop_succ_cons, List.drop_zero, List.reverse_cons, List.reverse_nil, List.nil_append, List.cons_append, Option.toList_some, Option.toList_none, true_and, and_true, and_self, true_or, or_true, false_and, and_false, false_or, or_false, not_false_eq_true, Nat.reduceAdd, Nat.reduceLT, Nat.reduceLeDiff, Nat.reduceBEq, Nat.reduceEqDiff, Bool.or_false, Bool.false_or, if_true, if_false, Bool.false_eq_true, it_X7_refuse, d1, d2, h1, bO, rx_ft]
    exact hK _ (FC_fr (f1 _) (by simp)) (cIv_1 (f1 _) hc (rd_eq _ _ _))
theorem k_leave (hc : cIv h v u np L t cs) (hn : np ≤ 5) {p : Nat} (hp : p < 4) : rx_Cl 93 [.ref 1, .int (nI p)] h (fun r h' => r = none ∧ FC h h' ∧ cIv h' v (pU u np v) (pN np) L t cs ∧ oF h' (68 + 8 * p)) := by
  obtain ⟨b1, ⟨⟨fP, p1, p2⟩, fO, p3, p4⟩, b3, b4, b5, b6, b7, b8, b9, b10⟩ := hc
  have b5' := b5
  obtain ⟨nx, rn, rw, fR, -, a2, -⟩ := b5'
  apply en_X7_leavePast _ _ 60 []
  simp (disch := first | decide | omega) only [rx_W, rx_wp_succ, rx_nx_stop, rx_nx_go, rx_lx_some, rx_fx_some, rx_ax_some, rx_qx_some, rx_ox_some, rx_vx_ref, rx_ix_ref, rx_ld_0, rx_ld_2, rx_ld_3, rx_cx_some, rx_nl, List.getElem?_cons_zero, List.getElem?_cons_succ, List.set_cons_zero, List.set_cons_succ, List.length_cons, List.length_nil, List.take_succ_cons, List.take_zero, List.drop_succ_cons, List.drop_zero, List.reverse_cons, List.reverse_nil, List.nil_append, List.cons_append, Option.toList_some, Option.toList_none, true_and, and_true, and_self, true_or, or_true, false_and, and_false, false_or, or_false, not_false_eq_true, Nat.reduceAdd, Nat.reduceLT, Nat.reduceLeDiff, Nat.reduceBEq, Nat.reduceEqDiff, Bool.or_false, Bool.false_or, if_true, if_false, Bool.false_eq_true, nq_eq, nq_lt, nq_le, nq_in_t, nq_bd, nq_ft, nq_clamp, nq_shl31, nq_shr31, nq_bitb, nq_add, nq_mul, fa_and, fa_or, nq_b0, nq_b1, nq_b01, ↓ni_lt_t, ↓ni_lt_f, ↓ni_le_t, ↓ni_le_f, ↓ni_eq_t, ↓ni_eq_f, ↓ni_beq_t, ↓ni_beq_f, it_X7_leavePast, b1, bO, a2, psO]
  refine rx_Cl_imp (c_X3_keep b5 hn p1 p2 b3) (fun r h' ⟨e, y1, y2⟩ => ?_)
  subst e
  have s1 : Sm h h' 0 3 := Sm_fr y1 (fun i hi => by have := psA_rg hi; omega)
  have s2 : Sm h h' 46 109 := Sm_fr y1 (fun i hi => by have := psA_rg hi; omega)
  have b1' := (s1 1 (by omega) (by omega)).trans b1
  have p3' := (s1 3 (by omega) (by omega)).trans p3
  have q4 := p4 p hp
  obtain ⟨fr, sb, lo, n, O, R, N, F, A, hfr, ho, hr, hz⟩ := oS_sm s2 (by omega) (by omega) (oI_oS (b4 p hp))
  simp (disch := first | decide | omega) only [rx_W, rx_wp_succ, rx_nx_stop, rx_nx_go, rx_lx_some, rx_fx_some, rx_ax_some, rx_qx_some, rx_ox_some, rx_vx_ref, rx_ix_ref, rx_ld_0, rx_ld_2, rx_ld_3, rx_cx_some, rx_nl, List.getElem?_cons_zero, List.getElem?_cons_succ, List.set_cons_zero, List.set_cons_succ, List.length_cons, List.length_nil, List.take_succ_cons, List.take_zero, List.drop_succ_cons, List.drop_zero, List.reverse_cons, List.reverse_nil, List.nil_append, List.cons_append, Option.toList_some, Option.toList_none, true_and, and_true, and_self, true_or, or_true, false_and, and_false, false_or, or_false, not_false_eq_true, Nat.reduceAdd, Nat.reduceLT, Nat.reduceLeDiff, Nat.reduceBEq, Nat.reduceEqDiff, Bool.or_false, Bool.false_or, if_true, if_false, Bool.false_eq_true, nq_eq, nq_lt, nq_le, nq_in_t, nq_bd, nq_ft, nq_clamp, nq_shl31, nq_shr31, nq_bitb, nq_add, nq_mul, fa_and, fa_or, nq_b0, nq_b1, nq_b01, ↓ni_lt_t, ↓ni_lt_f, ↓ni_le_t, ↓ni_le_f, ↓ni_eq_t, ↓ni_eq_f, ↓ni_beq_t, ↓ni_beq_f, it_X7_leavePast, b1', bO, p3', rwO, q4, ho.1, ho.2, rx_ft]
  have f3 : ∀ c, Fr h' (rx_up h' (68 + 8 * p) c) [68 + 8 * p] := fun c => Fr_up (Fr_rfl _ _) (by simp)
  have t3 : ∀ c a b, (b < 68 + 8 * p ∨ 68 + 8 * p < a) → Sm h' (rx_up h' (68 + 8 * p) c) a b := fun c a b z => Sm_fr (f3 c) (fun i hi => by simp at hi; omega)
  have oF3 : oF (rx_up h' (68 + 8 * p) (.inr (1, [.int (nI 0), .int (nI sb), .int (nI lo), .int (nI n), .ref (68 + 8 * p + 1), .ref (68 + 8 * p + 2), .ref (68 + 8 * p + 3), .ref (68 + 8 * p + 4), .ref (68 + 8 * p + 5)]))) (68 + 8 * p) := by
    obtain ⟨r1, r2, r3, r4, r5⟩ := hr
    exact ⟨sb, lo, n, O, R, N, F, A, ⟨rd_eq _ _ _, ho.2⟩, ⟨aN_fr (f3 _) (by simp) r1, aN_fr (f3 _) (by simp) r2, aN_fr (f3 _) (by simp) r3, aN_fr (f3 _) (by simp) r4, aN_fr (f3 _) (by simp) r5⟩, hz⟩
  refine ⟨FC_trans (FC_fr y1 (fun i hi => by have := psA_rg hi; omega)) (FC_fr (f3 _) (by simp; omega)), ⟨(t3 _ 1 1 (by omega) 1 (by omega) (by omega)).trans b1', cPR_sm (t3 _ 2 3 (by omega)) (cPR_sm (Sm_sub s1 (by omega) (by omega)) ⟨⟨fP, p1, p2⟩, fO, p3, p4⟩), fun p' hp' => pW_fr (f3 _) (by simp; omega) (by simp; omega) (pW_sm s2 (by omega) (by omega) (b3 p' hp')), fun p' hp' => ?_, psI_sm (t3 _ 4 45 (by omega)) y2, tI_sm (t3 _ 46 48 (by omega)) (tI_sm (Sm_sub s2 (by omega) (by omega)) b6), sI_fr (f3 _) (by simp; omega) (sI_fr y1 (fun i hi => by have := psA_rg hi; omega) b7), kI_sm (t3 _ 56 60 (by omega)) (kI_sm (Sm_sub s2 (by omega) (by omega)) b8), pgI_sm (t3 _ 61 63 (by omega)) (pgI_sm (Sm_sub s2 (by omega) (by omega)) b9), dr_sm (t3 _ 64 65 (by omega)) (dr_sm (Sm_sub s2 (by omega) (by omega)) b10)⟩, oF3⟩
  by_cases c : p' = p
  · subst c; exact Or.inl oF3
  · exact oI_sm (t3 _ (68 + 8 * p') (73 + 8 * p') (by omega)) (by omega) (by omega) (oI_sm s2 (by omega) (by omega) (b4 p' hp'))
/-- a process changes behind leavePast -/
theorem k_set {h' : rx_H} {p n : Nat} {w : Nat → Nat} (hv : wfV v) (hw : wfP n w) (hp : p < 4) (hc : cIv h v u np L t cs) (ho : oF h (68 + 8 * p)) (hf : Fr h h' [66 + 8 * p, 66 + 8 * p + 1]) (c1 : pW h' (66 + 8 * p) n w) : FC h h' ∧ cIv h' (setP v p n w) u np L t cs := by
  refine ⟨FC_fr hf (by simp; omega), cIv_p hv hw.2.1 hp hf (by simp; omega) hc c1 (Or.inl (oF_sm (a := 68 + 8 * p) (b := 73 + 8 * p) (Sm_fr hf (by simp; omega)) (by omega) (by omega) ho))⟩
theorem k_outlook (hc : cIv h v u np L t cs) (hv : wfV v) {p : Nat} (hp : p < 4) : rx_Cl 94 [.ref 1, .int (nI p)] h (fun r h' => r = some (.ref (68 + 8 * p)) ∧ FC h h' ∧ Sm h h' 1 67 ∧ cIv h' v u np L t cs ∧ oK h' (68 + 8 * p) (v (41 * p)) (wq v p) ∧ ∀ q, q < 4 → oK h (68 + 8 * q) (v (41 * q)) (wq v q) → oK h' (68 + 8 * q) (v (41 * q)) (wq v q)) := by
  have hc' := hc
  obtain ⟨b1, ⟨⟨fP, p1, p2⟩, fO, p3, p4⟩, b3, b4, -⟩ := hc'
  have q2 := p2 p hp
  have q4 := p4 p hp
  have pp := b3 p hp
  apply en_X7_outlook _ _ 60 []
  rcases b4 p hp with ho | ho
  · have ho' := ho
    obtain ⟨sb, lo, n, O, R, N, F, A, h1, h2, h3⟩ := ho'
    simp (disch := first | decide | omega) only [rx_W, rx_wp_succ, rx_nx_stop, rx_nx_go, rx_lx_some, rx_fx_some, rx_ax_some, rx_qx_some, rx_ox_some, rx_vx_ref, rx_ix_ref, rx_ld_0, rx_ld_2, rx_ld_3, rx_cx_some, rx_nl, List.getElem?_cons_zero, List.getElem?_cons_succ, List.set_cons_zero, List.set_cons_succ, List.length_cons, List.length_nil, List.take_succ_cons, List.take_zero, List.drop_succ_cons, List.drop_zero, List.reverse_cons, List.reverse_nil, List.nil_append, List.cons_append, Option.toList_some, Option.toList_none, true_and, and_true, and_self, true_or, or_true, false_and, and_false, false_or, or_false, not_false_eq_true, Nat.reduceAdd, Nat.reduceLT, Nat.reduceLeDiff, Nat.reduceBEq, Nat.reduceEqDiff, Bool.or_false, Bool.false_or, if_true, if_false, Bool.false_eq_true, nq_eq, nq_lt, nq_le, nq_in_t, nq_bd, nq_ft, nq_clamp, nq_shl31, nq_shr31, nq_bitb, nq_add, nq_mul, fa_and, fa_or, nq_b0, nq_b1, nq_b01, ↓ni_lt_t, ↓ni_lt_f, ↓ni_le_t, ↓ni_le_f, ↓ni_eq_t, ↓ni_eq_f, ↓ni_beq_t, ↓ni_beq_f, it_X7_outlook, b1, bO, p1, p3, rwO, q2, q4, h1.1, h1.2]
    refine rx_Cl_imp (c_X1_look (oI_oS (Or.inl ho : oI h (68 + 8 * p) (v (41 * p)) (wq v p))) pp (hv p hp).2.1 (hv p hp).2.2.1 (by omega)) (fun r h' ⟨e, y1, y2⟩ => ?_)
    subst e
    have b1' := rd_fr y1 (by simp; omega) b1
    have p3' := rd_fr y1 (by simp; omega) p3
    simp (disch := first | decide | omega) only [rx_W, rx_wp_succ, rx_nx_stop, rx_nx_go, rx_lx_some, rx_fx_some, rx_ax_some, rx_qx_some, rx_ox_some, rx_vx_ref, rx_ix_ref, rx_ld_0, rx_ld_2, rx_ld_3, rx_cx_some, rx_nl, List.getElem?_cons_zero, List.getElem?_cons_succ, List.set_cons_zero, List.set_cons_succ, List.length_cons, List.length_nil, List.take_succ_cons, List.take_zero, List.drop_succ_cons, List.drop_zero, List.reverse_cons, List.reverse_nil, List.nil_append, List.cons_append, Option.toList_some, Option.toList_none, true_and, and_true, and_self, true_or, or_true, false_and, and_false, false_or, or_false, not_false_eq_true, Nat.reduceAdd, Nat.reduceLT, Nat.reduceLeDiff, Nat.reduceBEq, Nat.reduceEqDiff, Bool.or_false, Bool.false_or, if_true, if_false, Bool.false_eq_true, nq_eq, nq_lt, nq_le, nq_in_t, nq_bd, nq_ft, nq_clamp, nq_shl31, nq_shr31, nq_bitb, nq_add, nq_mul, fa_and, fa_or, nq_b0, nq_b1, nq_b01, ↓ni_lt_t, ↓ni_lt_f, ↓ni_le_t, ↓ni_le_f, ↓ni_eq_t, ↓ni_eq_f, ↓ni_beq_t, ↓ni_beq_f, it_X7_outlook, b1', bO, p3', rwO, q4]
    have pp' := pW_fr y1 (by simp; omega) (by simp; omega) pp
    have := cIv_p hv (hv p hp).2.1 hp y1 (by simp; omega) hc pp' (Or.inr y2)
    rw [setP_id] at this
    refine ⟨FC_fr y1 (by simp; omega), Sm_fr y1 (by simp; omega), this, y2, fun q hq hk => ?_⟩
    by_cases c : q = p
    · subst c; exact y2
    · exact oK_sm (a := 68 + 8 * q) (b := 73 + 8 * q) (Sm_fr y1 (by simp; omega)) (by omega) (by omega) hk
  · have ho' := ho
    obtain ⟨lo, O, R, N, F, A, h1, -⟩ := ho'
    simp (disch := first | decide | omega) only [rx_W, rx_wp_succ, rx_nx_stop, rx_nx_go, rx_lx_some, rx_fx_some, rx_ax_some, rx_qx_some, rx_ox_some, rx_vx_ref, rx_ix_ref, rx_ld_0, rx_ld_2, rx_ld_3, rx_cx_some, rx_nl, List.getElem?_cons_zero, List.getElem?_cons_succ, List.set_cons_zero, List.set_cons_succ, List.length_cons, List.length_nil, List.take_succ_cons, List.take_zero, List.drop_succ_cons, List.drop_zero, List.reverse_cons, List.reverse_nil, List.nil_append, List.cons_append, Option.toList_some, Option.toList_none, true_and, and_true, and_self, true_or, or_true, false_and, and_false, false_or, or_false, not_false_eq_true, Nat.reduceAdd, Nat.reduceLT, Nat.reduceLeDiff, Nat.reduceBEq, Nat.reduceEqDiff, Bool.or_false, Bool.false_or, if_true, if_false, Bool.false_eq_true, nq_eq, nq_lt, nq_le, nq_in_t, nq_bd, nq_ft, nq_clamp, nq_shl31, nq_shr31, nq_bitb, nq_add, nq_mul, fa_and, fa_or, nq_b0, nq_b1, nq_b01, ↓ni_lt_t, ↓ni_lt_f, ↓ni_le_t, ↓ni_le_f, ↓ni_eq_t, ↓ni_eq_f, ↓ni_beq_t, ↓ni_beq_f, it_X7_outlook, b1, bO, p3, rwO, q4, h1.1, h1.2]
    exact ⟨FC_rfl h, fun _ _ _ => rfl, hc, ho, fun q hq hk => hk⟩
theorem q_X7_isState (hc : cIv h v u np L t cs) (hv : wfV v) (p s : Int32) (Q : Option Value → rx_H → Prop) : rx_Cl 96 [.ref 1, .int p, .int s] h Q = Q (some (.int (nI (isS v p s).toNat))) h := by
  obtain ⟨b1, ⟨⟨fP, p1, p2⟩, -⟩, b3, -⟩ := hc
  refine rx_Cl_eq ?_ Q
  apply en_X7_isState _ _ _ 60 []
  unfold isS
  cases c : inR p 4 with
  | false => simp (disch := first | decide | omega) only [rx_W, rx_wp_succ, rx_nx_stop, rx_nx_go, rx_lx_some, rx_fx_some, rx_ax_some, rx_qx_some, rx_ox_some, rx_vx_ref, rx_ix_ref, rx_ld_0, rx_ld_2, rx_ld_3, rx_cx_some, rx_nl, List.getElem?_cons_zero, List.getElem?_cons_succ, List.set_cons_zero, List.set_cons_succ, List.length_cons, List.length_nil, List.take_succ_cons, List.take_zero, List.drop_succ_cons, List.drop_zero, List.reverse_cons, List.reverse_nil, List.nil_append, List.cons_append, Option.toList_some, Option.toList_none, true_and, and_true, and_self, true_or, or_true, false_and, and_false, false_or, or_false, not_false_eq_true, Nat.reduceAdd, Nat.reduceLT, Nat.reduceLeDiff, Nat.reduceBEq, Nat.reduceEqDiff, Bool.or_false, Bool.false_or, if_true, if_false, Bool.false_eq_true, nq_eq, nq_lt, nq_le, nq_in_t, nq_bd, nq_ft, nq_clamp, nq_shl31, nq_shr31, nq_bitb, nq_add, nq_mul, fa_and, fa_or, nq_b0, nq_b1, nq_b01, ↓ni_lt_t, ↓ni_lt_f, ↓ni_le_t, ↓ni_le_f, ↓ni_eq_t, ↓ni_eq_f, ↓ni_beq_t, ↓ni_beq_f, it_X7_isState, q_X7_isProcess, c, Bool.false_and, Bool.toNat_false]
  | true =>
    obtain ⟨p0, hp0, rfl⟩ := inR_t (by omega) c
    have q2 := p2 p0 hp0
    have pp := b3 p0 hp0
    have n8 := (hv p0 hp0).2.1
    rw [nq_clamp (by omega), Bool.true_and]
    have c' := c
    unfold inR
    by_cases d1 : s < nI 0
    · have d2 : ¬ (nI 0 ≤ s ∧ s < nI (v (41 * p0))) := fun z => Int32.not_lt.mpr z.1 d1
      rw [decide_eq_false d2]
      simp (disch := first | decide | omega) only [rx_W, rx_wp_succ, rx_nx_stop, rx_nx_go, rx_lx_some, rx_fx_some, rx_ax_some, rx_qx_some, rx_ox_some, rx_vx_ref, rx_ix_ref, rx_ld_0, rx_ld_2, rx_ld_3, rx_cx_some, rx_nl, List.getElem?_cons_zero, List.getElem?_cons_succ, List.set_cons_zero, List.set_cons_succ, List.length_cons, List.length_nil, List.take_succ_cons, List.take_zero, List.drop_succ_cons, List.drop_zero, List.reverse_cons, List.reverse_nil, List.nil_append, List.cons_append, Option.toList_some, Option.toList_none, true_and, and_true, and_self, true_or, or_true, false_and, and_false, false_or, or_false, not_false_eq_true, Nat.reduceAdd, Nat.reduceLT, Nat.reduceLeDiff, Nat.reduceBEq, Nat.reduceEqDiff, Bool.or_false, Bool.false_or, if_true, if_false, Bool.false_eq_true, nq_eq, nq_lt, nq_le, nq_in_t, nq_bd, nq_ft, nq_clamp, nq_shl31, nq_shr31, nq_bitb, nq_add, nq_mul, fa_and, fa_or, nq_b0, nq_b1, nq_b01, ↓ni_lt_t, ↓ni_lt_f, ↓ni_le_t, ↓ni_le_f, ↓ni_eq_t, ↓ni_eq_f, ↓ni_beq_t, ↓ni_beq_f, it_X7_isState, q_X7_isProcess, c, d1, Bool.toNat_false]
    · by_cases d3 : nI (v (41 * p0)) ≤ s
      · have d2 : ¬ (nI 0 ≤ s ∧ s < nI (v (41 * p0))) := fun z => Int32.not_lt.mpr d3 z.2
        rw [decide_eq_false d2]
        simp (disch := first | decide | omega) only [rx_W, rx_wp_succ, rx_nx_stop, rx_nx_go, rx_lx_some, rx_fx_some, rx_ax_some, rx_qx_some, rx_ox_some, rx_vx_ref, rx_ix_ref, rx_ld_0, rx_ld_2, rx_ld_3, rx_cx_some, rx_nl, List.getElem?_cons_zero, List.getElem?_cons_succ, List.set_cons_zero, List.set_cons_succ, List.length_cons, List.length_nil, List.take_succ_cons, List.take_zero, List.drop_succ_cons, List.drop_zero, List.reverse_cons, List.reverse_nil, List.nil_append, List.cons_append, Option.toList_some, Option.toList_none, true_and, and_true, and_self, true_or, or_true, false_and, and_false, false_or, or_false, not_false_eq_true, Nat.reduceAdd, Nat.reduceLT, Nat.reduceLeDiff, Nat.reduceBEq, Nat.reduceEqDiff, Bool.or_false, Bool.false_or, if_true, if_false, Bool.false_eq_true, nq_eq, nq_lt, nq_le, nq_in_t, nq_bd, nq_ft, nq_clamp, nq_shl31, nq_shr31, nq_bitb, nq_add, nq_mul, fa_and, fa_or, nq_b0, nq_b1, nq_b01, ↓ni_lt_t, ↓ni_lt_f, ↓ni_le_t, ↓ni_le_f, ↓ni_eq_t, ↓ni_eq_f, ↓ni_beq_t, ↓ni_beq_f, it_X7_isState, q_X7_isProcess, c, d1, b1, bO, p1, rwO, q2, pp.1, pp.2.2, d3, Bool.toNat_false]
      · have d2 : nI 0 ≤ s ∧ s < nI (v (41 * p0)) := ⟨Int32.not_lt.mp d1, Int32.not_le.mp d3⟩
        rw [decide_eq_true d2]
        simp (disch := first | decide | omega) only [rx_W, rx_wp_succ, rx_nx_stop, rx_nx_go, rx_lx_some, rx_fx_some, rx_ax_some, rx_qx_some, rx_ox_some, rx_vx_ref, rx_ix_ref, rx_ld_0, rx_ld_2, rx_ld_3, rx_cx_some, rx_nl, List.getElem?_cons_zero, List.getElem?_cons_succ, List.set_cons_zero, List.set_cons_succ, List.length_cons, List.length_nil, List.take_succ_cons, List.take_zero, List.drop_succ_cons, List.drop_zero, List.reverse_cons, List.reverse_nil, List.nil_append, List.cons_append, Option.toList_some, Option.toList_none, true_and, and_true, and_self, true_or, or_true, false_and, and_false, false_or, or_false, not_false_eq_true, Nat.reduceAdd, Nat.reduceLT, Nat.reduceLeDiff, Nat.reduceBEq, Nat.reduceEqDiff, Bool.or_false, Bool.false_or, if_true, if_false, Bool.false_eq_true, nq_eq, nq_lt, nq_le, nq_in_t, nq_bd, nq_ft, nq_clamp, nq_shl31, nq_shr31, nq_bitb, nq_add, nq_mul, fa_and, fa_or, nq_b0, nq_b1, nq_b01, ↓ni_lt_t, ↓ni_lt_f, ↓ni_le_t, ↓ni_le_f, ↓ni_eq_t, ↓ni_eq_f, ↓ni_beq_t, ↓ni_beq_f, it_X7_isState, q_X7_isProcess, c, d1, b1, bO, p1, rwO, q2, pp.1, pp.2.2, d3, Bool.toNat_true]
theorem q_X7_isMove (hc : cIv h v u np L t cs) (hv : wfV v) (p f b s : Int32) (Q : Option Value → rx_H → Prop) : rx_Cl 97 [.ref 1, .int p, .int f, .int b, .int s] h Q = Q (some (.int (nI (isM v p f b s).toNat))) h := by
  refine rx_Cl_eq ?_ Q
  have b1 := hc.1
  apply en_X7_isMove _ _ _ _ _ 60 []
  unfold isM
  cases c : isS v p f with
  | false => simp (disch := first | decide | omega) only [rx_W, rx_wp_succ, rx_nx_stop, rx_nx_go, rx_lx_some, rx_fx_some, rx_ax_some, rx_qx_some, rx_ox_some, rx_vx_ref, rx_ix_ref, rx_ld_0, rx_ld_2, rx_ld_3, rx_cx_some, rx_nl, List.getElem?_cons_zero, List.getElem?_cons_succ, List.set_cons_zero, List.set_cons_succ, List.length_cons, List.length_nil, List.take_succ_cons, List.take_zero, List.drop_succ_cons, List.drop_zero, List.reverse_cons, List.reverse_nil, List.nil_append, List.cons_append, Option.toList_some, Option.toList_none, true_and, and_true, and_self, true_or, or_true, false_and, and_false, false_or, or_false, not_false_eq_true, Nat.reduceAdd, Nat.reduceLT, Nat.reduceLeDiff, Nat.reduceBEq, Nat.reduceEqDiff, Bool.or_false, Bool.false_or, if_true, if_false, Bool.false_eq_true, nq_eq, nq_lt, nq_le, nq_in_t, nq_bd, nq_ft, nq_clamp, nq_shl31, nq_shr31, nq_bitb, nq_add, nq_mul, fa_and, fa_or, nq_b0, nq_b1, nq_b01, ↓ni_lt_t, ↓ni_lt_f, ↓ni_le_t, ↓ni_le_f, ↓ni_eq_t, ↓ni_eq_f, ↓ni_beq_t, ↓ni_beq_f, it_X7_isMove, b1, bO, q_X7_isState hc hv, c, Bool.false_and, Bool.toNat_false]
  | true =>
    cases e : inR b 5 with
    | false => simp (disch := first | decide | omega) only [rx_W, rx_wp_succ, rx_nx_stop, rx_nx_go, rx_lx_some, rx_fx_some, rx_ax_some, rx_qx_some, rx_ox_some, rx_vx_ref, rx_ix_ref, rx_ld_0, rx_ld_2, rx_ld_3, rx_cx_some, rx_nl, List.getElem?_cons_zero, List.getElem?_cons_succ, List.set_cons_zero, List.set_cons_succ, List.length_cons, List.length_nil, List.take_succ_cons, List.take_zero, List.drop_succ_cons, List.drop_zero, List.reverse_cons, List.reverse_nil, List.nil_append, List.cons_append, Option.toList_some, Option.toList_none, true_and, and_true, and_self, true_or, or_true, false_and, and_false, false_or, or_false, not_false_eq_true, Nat.reduceAdd, Nat.reduceLT, Nat.reduceLeDiff, Nat.reduceBEq, Nat.reduceEqDiff, Bool.or_false, Bool.false_or, if_true, if_false, Bool.false_eq_true, nq_eq, nq_lt, nq_le, nq_in_t, nq_bd, nq_ft, nq_clamp, nq_shl31, nq_shr31, nq_bitb, nq_add, nq_mul, fa_and, fa_or, nq_b0, nq_b1, nq_b01, ↓ni_lt_t, ↓ni_lt_f, ↓ni_le_t, ↓ni_le_f, ↓ni_eq_t, ↓ni_eq_f, ↓ni_beq_t, ↓ni_beq_f, it_X7_isMove, b1, bO, q_X7_isState hc hv, q_X7_isKind, c, e, Bool.true_and, Bool.and_false, Bool.toNat_false]
    | true =>
      cases d : isS v p s with
      | false => simp (disch := first | decide | omega) only [rx_W, rx_wp_succ, rx_nx_stop, rx_nx_go, rx_lx_some, rx_fx_some, rx_ax_some, rx_qx_some, rx_ox_some, rx_vx_ref, rx_ix_ref, rx_ld_0, rx_ld_2, rx_ld_3, rx_cx_some, rx_nl, List.getElem?_cons_zero, List.getElem?_cons_succ, List.set_cons_zero, List.set_cons_succ, List.length_cons, List.length_nil, List.take_succ_cons, List.take_zero, List.drop_succ_cons, List.drop_zero, List.reverse_cons, List.reverse_nil, List.nil_append, List.cons_append, Option.toList_some, Option.toList_none, true_and, and_true, and_self, true_or, or_true, false_and, and_false, false_or, or_false, not_false_eq_true, Nat.reduceAdd, Nat.reduceLT, Nat.reduceLeDiff, Nat.reduceBEq, Nat.reduceEqDiff, Bool.or_false, Bool.false_or, if_true, if_false, Bool.false_eq_true, nq_eq, nq_lt, nq_le, nq_in_t, nq_bd, nq_ft, nq_clamp, nq_shl31, nq_shr31, nq_bitb, nq_add, nq_mul, fa_and, fa_or, nq_b0, nq_b1, nq_b01, ↓ni_lt_t, ↓ni_lt_f, ↓ni_le_t, ↓ni_le_f, ↓ni_eq_t, ↓ni_eq_f, ↓ni_beq_t, ↓ni_beq_f, it_X7_isMove, b1, bO, q_X7_isState hc hv, q_X7_isKind, c, d, e, Bool.true_and, Bool.false_and, Bool.toNat_false]
      | true => simp (disch := first | decide | omega) only [rx_W, rx_wp_succ, rx_nx_stop, rx_nx_go, rx_lx_some, rx_fx_some, rx_ax_some, rx_qx_some, rx_ox_some, rx_vx_ref, rx_ix_ref, rx_ld_0, rx_ld_2, rx_ld_3, rx_cx_some, rx_nl, List.getElem?_cons_zero, List.getElem?_cons_succ, List.set_cons_zero, List.set_cons_succ, List.length_cons, List.length_nil, List.take_succ_cons, List.take_zero, List.drop_succ_cons, List.drop_zero, List.reverse_cons, List.reverse_nil, List.nil_append, List.cons_append, Option.toList_some, Option.toList_none, true_and, and_true, and_self, true_or, or_true, false_and, and_false, false_or, or_false, not_false_eq_true, Nat.reduceAdd, Nat.reduceLT, Nat.reduceLeDiff, Nat.reduceBEq, Nat.reduceEqDiff, Bool.or_false, Bool.false_or, if_true, if_false, Bool.false_eq_true, nq_eq, nq_lt, nq_le, nq_in_t, nq_bd, nq_ft, nq_clamp, nq_shl31, nq_shr31, nq_bitb, nq_add, nq_mul, fa_and, fa_or, nq_b0, nq_b1, nq_b01, ↓ni_lt_t, ↓ni_lt_f, ↓ni_le_t, ↓ni_le_f, ↓ni_eq_t, ↓ni_eq_f, ↓ni_beq_t, ↓ni_beq_f, it_X7_isMove, b1, bO, q_X7_isState hc hv, q_X7_isKind, c, d, e, Bool.true_and, Bool.and_true, Bool.toNat_true]
end KP
