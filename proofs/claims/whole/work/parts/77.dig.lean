/-! ===== the digest, told without cells ===== -/
def mx (z : Int64) (x : Int32) : Int64 := 31 * z + x.toInt64
def mxs (z : Int64) (f : Nat → Int32) : Nat → Int64
  | 0 => z
  | n + 1 => mx (mxs z f n) (f n)
noncomputable def bP (P : Prop) : Bool := @decide P (Classical.propDecidable P)
theorem bP_iff (P : Prop) : bP P = true ↔ P := by
  unfold bP
  exact @decide_eq_true_iff P (Classical.propDecidable P)
noncomputable def dgP (v : Nat → Nat) (p : Nat) (z : Int64) : Int64 := mxs (mxs z (fun k => nI (ofF (v (41 * p)) (wq v p) k)) 6) (fun k => nI (wq v p k)) (v (41 * p) * 5)
noncomputable def nfb (v : Nat → Nat) (p q m : Nat) : Bool := bP (NF (v (41 * p)) (wq v p) (v (41 * q)) (wq v q) m)
noncomputable def alb (v : Nat → Nat) (p q : Nat) : Bool := bP (alk (v (41 * p)) (wq v p) (v (41 * q)) (wq v q) 0 0)
noncomputable def dgC (v : Nat → Nat) (p q : Nat) (z : Int64) : Int64 := mx (mxs z (fun m => nI (nfb v p q m).toNat) 3) (nI (alb v p q).toNat)
noncomputable def dgPs (v : Nat → Nat) (z : Int64) : Nat → Int64
  | 0 => z
  | p + 1 => dgP v p (dgPs v z p)
noncomputable def dgCs (v : Nat → Nat) (z : Int64) : Nat → Int64
  | 0 => z
  | i + 1 => if i / 4 = i % 4 then dgCs v z i else dgC v (i / 4) (i % 4) (dgCs v z i)
noncomputable def dgF (v : Nat → Nat) (np L : Nat) (cs : Nat → Int32) : Int64 := dgCs v (dgPs v (mxs 2617 (tlF np L cs) 5) 4) 16
/-! ===== the reference's ===== -/
section DM
variable {h0 : rx_H} {v : Nat → Nat} {u : Nat → Nat → Nat} {np L : Nat} {t : Nat → Nat} {cs : Nat → Int32}
def mZ (h : rx_H) (v : Nat → Nat) (u : Nat → Nat → Nat) (np L : Nat) (t : Nat → Nat) (cs : Nat → Int32) (z : Int64) : Prop := mIv h v u np L t cs ∧ ∃ pl fo, rx_rd h 98 = some (mO (nI np) (nI L) pl fo z)
theorem mIv_z {h : rx_H} {pl fo : Int32} {z : Int64} (hi : mIv h v u np L t cs) : mIv (rx_up h 98 (mO (nI np) (nI L) pl fo z)) v u np L t cs := by
  obtain ⟨-, h2, ⟨a3, h3⟩, ⟨U, h4, h4'⟩, ⟨f, h5, h5'⟩, ⟨g, h6, h6'⟩, ⟨a7, h7⟩, ⟨a8, h8⟩, ⟨a9, h9⟩, ⟨f1, k1⟩, ⟨f2, k2⟩, f3, k3⟩ := hi
  have hf : Fr h (rx_up h 98 (mO (nI np) (nI L) pl fo z)) [98] := Fr_up (Fr_rfl _ _) (by simp)
  exact ⟨⟨pl, fo, z, rd_eq _ _ _⟩, aN_fr hf (by simp) h2, ⟨a3, aN_fr hf (by simp) h3⟩, ⟨U, aN_fr hf (by simp) h4, h4'⟩, ⟨f, rd_fr hf (by simp) h5, h5'⟩, ⟨g, rd_fr hf (by simp) h6, h6'⟩, ⟨a7, aN_fr hf (by simp) h7⟩, ⟨a8, aN_fr hf (by simp) h8⟩, ⟨a9, aN_fr hf (by simp) h9⟩, ⟨f1, rd_fr hf (by simp) k1⟩, ⟨f2, rd_fr hf (by simp) k2⟩, f3, rd_fr hf (by simp) k3⟩
theorem c_X8_mix {h : rx_H} {z : Int64} (hf : Fr h0 h mA) (hz : mZ h v u np L t cs z) {x : Int32} {K : Option Value → rx_H → Prop} (hK : ∀ h', Fr h0 h' mA → mZ h' v u np L t cs (mx z x) → K none h') : rx_Cl 165 [.ref 98, .int x] h K := by
  obtain ⟨hi, pl, fo, h1⟩ := hz
  apply en_X8_mix _ _ 60 []
  simp (disch := first | decide | omega) only [rx_W, rx_wp_succ, rx_nx_stop, rx_nx_go, rx_lx_some, rx_fx_some, rx_ax_some, rx_qx_some, rx_ox_some, rx_vx_ref, rx_ix_ref, rx_ld_0, rx_ld_2, rx_ld_3, rx_cx_some, rx_nl, List.getElem?_cons_zero, List.getElem?_cons_succ, List.set_cons_zero, List.set_cons_succ, List.length_cons, List.length_nil, List.take_succ_cons, List.take_zero, List.drop_succ_cons, List.drop_zero, List.reverse_cons, List.reverse_nil, List.nil_append, List.cons_append, Option.toList_some, Option.toList_none, true_and, and_true, and_self, true_or, or_true, false_and, and_false, false_or, or_false, not_false_eq_true, Nat.reduceAdd, Nat.reduceLT, Nat.reduceLeDiff, Nat.reduceBEq, Nat.reduceEqDiff, Bool.or_false, Bool.false_or, if_true, if_false, Bool.false_eq_true, it_X8_mix, h1, mO, rx_ft]
  exact hK _ (Fr_up hf (by simp)) ⟨mIv_z hi, pl, fo, rd_eq _ _ _⟩
theorem l_X8_mp1 (hv : wfV v) {p : Nat} (hp : p < 4) {z0 : Int64} (Q : Option Value → rx_H → Prop)
    (hq : ∀ h, Fr h0 h mA → mZ h v u np L t cs (mxs z0 (fun k => nI (wq v p k)) (v (41 * p) * 5)) → Q none h) :
    ∀ j k h, k + j = v (41 * p) * 5 → Fr h0 h mA → mZ h v u np L t cs (mxs z0 (fun k => nI (wq v p k)) k) → rx_R 166 26 [.ref 98, .int (nI p), .int (nI k)] [] h Q
  | 0, k, h, e, hf, hz => by
    have e' : k = v (41 * p) * 5 := by omega
    subst e'
    have n8 := (hv p hp).2.1
    obtain ⟨pl, fo, h1⟩ := hz.2
    apply rx_wp_sound 60 [26]
    simp (disch := first | decide | omega) only [rx_W, rx_wp_succ, rx_nx_stop, rx_nx_go, rx_lx_some, rx_fx_some, rx_ax_some, rx_qx_some, rx_ox_some, rx_vx_ref, rx_ix_ref, rx_ld_0, rx_ld_2, rx_ld_3, rx_cx_some, rx_nl, List.getElem?_cons_zero, List.getElem?_cons_succ, List.set_cons_zero, List.set_cons_succ, List.length_cons, List.length_nil, List.take_succ_cons, List.take_zero, List.drop_succ_cons, List.drop_zero, List.reverse_cons, List.reverse_nil, List.nil_append, List.cons_append, Option.toList_some, Option.toList_none, true_and, and_true, and_self, true_or, or_true, false_and, and_false, false_or, or_false, not_false_eq_true, Nat.reduceAdd, Nat.reduceLT, Nat.reduceLeDiff, Nat.reduceBEq, Nat.reduceEqDiff, Bool.or_false, Bool.false_or, if_true, if_false, Bool.false_eq_true, nq_eq, nq_lt, nq_le, nq_in_t, nq_bd, nq_ft, nq_clamp, nq_shl31, nq_shr31, nq_bitb, nq_add, nq_mul, fa_and, fa_or, nq_b0, nq_b1, nq_b01, ↓ni_lt_t, ↓ni_lt_f, ↓ni_le_t, ↓ni_le_f, ↓ni_eq_t, ↓ni_eq_f, ↓ni_beq_t, ↓ni_beq_f, it_X8_mixProcess, h1, mO, q_X8_many (mIv_mN hz.1) hp, show 5 * v (41 * p) = v (41 * p) * 5 by omega]
    exact hq h hf hz
  | j + 1, k, h, e, hf, hz => by
    have n8 := (hv p hp).2.1
    obtain ⟨pl, fo, h1⟩ := hz.2
    have em : nI k - nI (k / 5 * 5) = nI (k % 5) := by
      rw [nq_sub (Nat.div_mul_le_self k 5)]
      congr 1
      omega
    apply rx_wp_sound 60 [26]
    simp (disch := first | decide | omega) only [rx_W, rx_wp_succ, rx_nx_stop, rx_nx_go, rx_lx_some, rx_fx_some, rx_ax_some, rx_qx_some, rx_ox_some, rx_vx_ref, rx_ix_ref, rx_ld_0, rx_ld_2, rx_ld_3, rx_cx_some, rx_nl, List.getElem?_cons_zero, List.getElem?_cons_succ, List.set_cons_zero, List.set_cons_succ, List.length_cons, List.length_nil, List.take_succ_cons, List.take_zero, List.drop_succ_cons, List.drop_zero, List.reverse_cons, List.reverse_nil, List.nil_append, List.cons_append, Option.toList_some, Option.toList_none, true_and, and_true, and_self, true_or, or_true, false_and, and_false, false_or, or_false, not_false_eq_true, Nat.reduceAdd, Nat.reduceLT, Nat.reduceLeDiff, Nat.reduceBEq, Nat.reduceEqDiff, Bool.or_false, Bool.false_or, if_true, if_false, Bool.false_eq_true, nq_eq, nq_lt, nq_le, nq_in_t, nq_bd, nq_ft, nq_clamp, nq_shl31, nq_shr31, nq_bitb, nq_add, nq_mul, fa_and, fa_or, nq_b0, nq_b1, nq_b01, ↓ni_lt_t, ↓ni_lt_f, ↓ni_le_t, ↓ni_le_f, ↓ni_eq_t, ↓ni_eq_f, ↓ni_beq_t, ↓ni_beq_f, it_X8_mixProcess, h1, mO, q_X8_many (mIv_mN hz.1) hp, nq_div, em, q_X8_leadsOf (mIv_mN hz.1) hp]
    refine c_X8_mix hf hz (fun h' y1 y2 => ?_)
    simp (disch := first | decide | omega) only [rx_W, rx_wp_succ, rx_nx_stop, rx_nx_go, rx_lx_some, rx_fx_some, rx_ax_some, rx_qx_some, rx_ox_some, rx_vx_ref, rx_ix_ref, rx_ld_0, rx_ld_2, rx_ld_3, rx_cx_some, rx_nl, List.getElem?_cons_zero, List.getElem?_cons_succ, List.set_cons_zero, List.set_cons_succ, List.length_cons, List.length_nil, List.take_succ_cons, List.take_zero, List.drop_succ_cons, List.drop_zero, List.reverse_cons, List.reverse_nil, List.nil_append, List.cons_append, Option.toList_some, Option.toList_none, true_and, and_true, and_self, true_or, or_true, false_and, and_false, false_or, or_false, not_false_eq_true, Nat.reduceAdd, Nat.reduceLT, Nat.reduceLeDiff, Nat.reduceBEq, Nat.reduceEqDiff, Bool.or_false, Bool.false_or, if_true, if_false, Bool.false_eq_true, nq_eq, nq_lt, nq_le, nq_in_t, nq_bd, nq_ft, nq_clamp, nq_shl31, nq_shr31, nq_bitb, nq_add, nq_mul, fa_and, fa_or, nq_b0, nq_b1, nq_b01, ↓ni_lt_t, ↓ni_lt_f, ↓ni_le_t, ↓ni_le_f, ↓ni_eq_t, ↓ni_eq_f, ↓ni_beq_t, ↓ni_beq_f, it_X8_mixProcess]
    rw [show k / 5 * 5 + k % 5 = k by omega] at y2
    exact l_X8_mp1 hv hp Q hq j (k + 1) h' (by omega) y1 y2
theorem l_X8_mp0 (hv : wfV v) {p : Nat} (hp : p < 4) {z0 : Int64} (Q : Option Value → rx_H → Prop)
    (hq : ∀ h, Fr h0 h mA → mZ h v u np L t cs (mxs z0 (fun k => nI (ofF (v (41 * p)) (wq v p) k)) 6) → rx_R 166 24 [.ref 98, .int (nI p), .int (nI 6)] [] h Q) :
    ∀ j k h, k + j = 6 → Fr h0 h mA → mZ h v u np L t cs (mxs z0 (fun k => nI (ofF (v (41 * p)) (wq v p) k)) k) → rx_R 166 2 [.ref 98, .int (nI p), .int (nI k)] [] h Q
  | 0, k, h, e, hf, hz => by
    have e' : k = 6 := by omega
    subst e'
    apply rx_wp_sound 60 [2, 24]
    simp (disch := first | decide | omega) only [rx_W, rx_wp_succ, rx_nx_stop, rx_nx_go, rx_lx_some, rx_fx_some, rx_ax_some, rx_qx_some, rx_ox_some, rx_vx_ref, rx_ix_ref, rx_ld_0, rx_ld_2, rx_ld_3, rx_cx_some, rx_nl, List.getElem?_cons_zero, List.getElem?_cons_succ, List.set_cons_zero, List.set_cons_succ, List.length_cons, List.length_nil, List.take_succ_cons, List.take_zero, List.drop_succ_cons, List.drop_zero, List.reverse_cons, List.reverse_nil, List.nil_append, List.cons_append, Option.toList_some, Option.toList_none, true_and, and_true, and_self, true_or, or_true, false_and, and_false, false_or, or_false, not_false_eq_true, Nat.reduceAdd, Nat.reduceLT, Nat.reduceLeDiff, Nat.reduceBEq, Nat.reduceEqDiff, Bool.or_false, Bool.false_or, if_true, if_false, Bool.false_eq_true, nq_eq, nq_lt, nq_le, nq_in_t, nq_bd, nq_ft, nq_clamp, nq_shl31, nq_shr31, nq_bitb, nq_add, nq_mul, fa_and, fa_or, nq_b0, nq_b1, nq_b01, ↓ni_lt_t, ↓ni_lt_f, ↓ni_le_t, ↓ni_le_f, ↓ni_eq_t, ↓ni_eq_f, ↓ni_beq_t, ↓ni_beq_f, it_X8_mixProcess]
    exact hq h hf hz
  | j + 1, k, h, e, hf, hz => by
    have n8 := (hv p hp).2.1
    obtain ⟨pl, fo, h1⟩ := hz.2
    apply rx_wp_sound 60 [2, 24]
    simp (disch := first | decide | omega) only [rx_W, rx_wp_succ, rx_nx_stop, rx_nx_go, rx_lx_some, rx_fx_some, rx_ax_some, rx_qx_some, rx_ox_some, rx_vx_ref, rx_ix_ref, rx_ld_0, rx_ld_2, rx_ld_3, rx_cx_some, rx_nl, List.getElem?_cons_zero, List.getElem?_cons_succ, List.set_cons_zero, List.set_cons_succ, List.length_cons, List.length_nil, List.take_succ_cons, List.take_zero, List.drop_succ_cons, List.drop_zero, List.reverse_cons, List.reverse_nil, List.nil_append, List.cons_append, Option.toList_some, Option.toList_none, true_and, and_true, and_self, true_or, or_true, false_and, and_false, false_or, or_false, not_false_eq_true, Nat.reduceAdd, Nat.reduceLT, Nat.reduceLeDiff, Nat.reduceBEq, Nat.reduceEqDiff, Bool.or_false, Bool.false_or, if_true, if_false, Bool.false_eq_true, nq_eq, nq_lt, nq_le, nq_in_t, nq_bd, nq_ft, nq_clamp, nq_shl31, nq_shr31, nq_bitb, nq_add, nq_mul, fa_and, fa_or, nq_b0, nq_b1, nq_b01, ↓ni_lt_t, ↓ni_lt_f, ↓ni_le_t, ↓ni_le_f, ↓ni_eq_t, ↓ni_eq_f, ↓ni_beq_t, ↓ni_beq_f, it_X8_mixProcess, h1, mO, q_X8_ofProcess (mIv_mN hz.1) hp n8 (wfP_256 (hv p hp))]
    refine c_X8_mix hf hz (fun h' y1 y2 => ?_)
    simp (disch := first | decide | omega) only [rx_W, rx_wp_succ, rx_nx_stop, rx_nx_go, rx_lx_some, rx_fx_some, rx_ax_some, rx_qx_some, rx_ox_some, rx_vx_ref, rx_ix_ref, rx_ld_0, rx_ld_2, rx_ld_3, rx_cx_some, rx_nl, List.getElem?_cons_zero, List.getElem?_cons_succ, List.set_cons_zero, List.set_cons_succ, List.length_cons, List.length_nil, List.take_succ_cons, List.take_zero, List.drop_succ_cons, List.drop_zero, List.reverse_cons, List.reverse_nil, List.nil_append, List.cons_append, Option.toList_some, Option.toList_none, true_and, and_true, and_self, true_or, or_true, false_and, and_false, false_or, or_false, not_false_eq_true, Nat.reduceAdd, Nat.reduceLT, Nat.reduceLeDiff, Nat.reduceBEq, Nat.reduceEqDiff, Bool.or_false, Bool.false_or, if_true, if_false, Bool.false_eq_true, nq_eq, nq_lt, nq_le, nq_in_t, nq_bd, nq_ft, nq_clamp, nq_shl31, nq_shr31, nq_bitb, nq_add, nq_mul, fa_and, fa_or, nq_b0, nq_b1, nq_b01, ↓ni_lt_t, ↓ni_lt_f, ↓ni_le_t, ↓ni_le_f, ↓ni_eq_t, ↓ni_eq_f, ↓ni_beq_t, ↓ni_beq_f, it_X8_mixProcess]
    exact l_X8_mp0 hv hp Q hq j (k + 1) h' (by omega) y1 y2
theorem c_X8_mixProcess (hv : wfV v) {h : rx_H} {z : Int64} {p : Nat} (hp : p < 4) (hf : Fr h0 h mA) (hz : mZ h v u np L t cs z) {K : Option Value → rx_H → Prop} (hK : ∀ h', Fr h0 h' mA → mZ h' v u np L t cs (dgP v p z) → K none h') : rx_Cl 166 [.ref 98, .int (nI p)] h K := by
  apply en_X8_mixProcess _ _ 60 [2]
  simp (disch := first | decide | omega) only [rx_W, rx_wp_succ, rx_nx_stop, rx_nx_go, rx_lx_some, rx_fx_some, rx_ax_some, rx_qx_some, rx_ox_some, rx_vx_ref, rx_ix_ref, rx_ld_0, rx_ld_2, rx_ld_3, rx_cx_some, rx_nl, List.getElem?_cons_zero, List.getElem?_cons_succ, List.set_cons_zero, List.set_cons_succ, List.length_cons, List.length_nil, List.take_succ_cons, List.take_zero, List.drop_succ_cons, List.drop_zero, List.reverse_cons, List.reverse_nil, List.nil_append, List.cons_append, Option.toList_some, Option.toList_none, true_and, and_true, and_self, true_or, or_true, false_and, and_false, false_or, or_false, not_false_eq_true, Nat.reduceAdd, Nat.reduceLT, Nat.reduceLeDiff, Nat.reduceBEq, Nat.reduceEqDiff, Bool.or_false, Bool.false_or, if_true, if_false, Bool.false_eq_true, nq_eq, nq_lt, nq_le, nq_in_t, nq_bd, nq_ft, nq_clamp, nq_shl31, nq_shr31, nq_bitb, nq_add, nq_mul, fa_and, fa_or, nq_b0, nq_b1, nq_b01, ↓ni_lt_t, ↓ni_lt_f, ↓ni_le_t, ↓ni_le_f, ↓ni_eq_t, ↓ni_eq_f, ↓ni_beq_t, ↓ni_beq_f, it_X8_mixProcess]
  refine l_X8_mp0 (h0 := h0) hv hp _ (fun h1 y1 y2 => ?_) 6 0 h (by omega) hf hz
  apply rx_wp_sound 60 [26]
  simp (disch := first | decide | omega) only [rx_W, rx_wp_succ, rx_nx_stop, rx_nx_go, rx_lx_some, rx_fx_some, rx_ax_some, rx_qx_some, rx_ox_some, rx_vx_ref, rx_ix_ref, rx_ld_0, rx_ld_2, rx_ld_3, rx_cx_some, rx_nl, List.getElem?_cons_zero, List.getElem?_cons_succ, List.set_cons_zero, List.set_cons_succ, List.length_cons, List.length_nil, List.take_succ_cons, List.take_zero, List.drop_succ_cons, List.drop_zero, List.reverse_cons, List.reverse_nil, List.nil_append, List.cons_append, Option.toList_some, Option.toList_none, true_and, and_true, and_self, true_or, or_true, false_and, and_false, false_or, or_false, not_false_eq_true, Nat.reduceAdd, Nat.reduceLT, Nat.reduceLeDiff, Nat.reduceBEq, Nat.reduceEqDiff, Bool.or_false, Bool.false_or, if_true, if_false, Bool.false_eq_true, nq_eq, nq_lt, nq_le, nq_in_t, nq_bd, nq_ft, nq_clamp, nq_shl31, nq_shr31, nq_bitb, nq_add, nq_mul, fa_and, fa_or, nq_b0, nq_b1, nq_b01, ↓ni_lt_t, ↓ni_lt_f, ↓ni_le_t, ↓ni_le_f, ↓ni_eq_t, ↓ni_eq_f, ↓ni_beq_t, ↓ni_beq_f, it_X8_mixProcess]
  exact l_X8_mp1 (h0 := h0) hv hp _ hK (v (41 * p) * 5) 0 h1 (by omega) y1 y2
theorem l_X8_dg0 {z0 : Int64} (Q : Option Value → rx_H → Prop)
    (hq : ∀ h, Fr h0 h mA → mZ h v u np L t cs (mxs z0 (tlF np L cs) 5) → rx_R 167 29 [.ref 98, .int (nI 5), .null, .null, .null] [] h Q) :
    ∀ j k h, k + j = 5 → Fr h0 h mA → mZ h v u np L t cs (mxs z0 (tlF np L cs) k) → rx_R 167 9 [.ref 98, .int (nI k), .null, .null, .null] [] h Q
  | 0, k, h, e, hf, hz => by
    have e' : k = 5 := by omega
    subst e'
    apply rx_wp_sound 60 [9, 29]
    simp (disch := first | decide | omega) only [rx_W, rx_wp_succ, rx_nx_stop, rx_nx_go, rx_lx_some, rx_fx_some, rx_ax_some, rx_qx_some, rx_ox_some, rx_vx_ref, rx_ix_ref, rx_ld_0, rx_ld_2, rx_ld_3, rx_cx_some, rx_nl, List.getElem?_cons_zero, List.getElem?_cons_succ, List.set_cons_zero, List.set_cons_succ, List.length_cons, List.length_nil, List.take_succ_cons, List.take_zero, List.drop_succ_cons, List.drop_zero, List.reverse_cons, List.reverse_nil, List.nil_append, List.cons_append, Option.toList_some, Option.toList_none, true_and, and_true, and_self, true_or, or_true, false_and, and_false, false_or, or_false, not_false_eq_true, Nat.reduceAdd, Nat.reduceLT, Nat.reduceLeDiff, Nat.reduceBEq, Nat.reduceEqDiff, Bool.or_false, Bool.false_or, if_true, if_false, Bool.false_eq_true, nq_eq, nq_lt, nq_le, nq_in_t, nq_bd, nq_ft, nq_clamp, nq_shl31, nq_shr31, nq_bitb, nq_add, nq_mul, fa_and, fa_or, nq_b0, nq_b1, nq_b01, ↓ni_lt_t, ↓ni_lt_f, ↓ni_le_t, ↓ni_le_f, ↓ni_eq_t, ↓ni_eq_f, ↓ni_beq_t, ↓ni_beq_f, it_X8_digest, it_X8_digest_1]
    exact hq h hf hz
  | j + 1, k, h, e, hf, hz => by
    obtain ⟨pl, fo, h1⟩ := hz.2
    apply rx_wp_sound 60 [9, 29]
    simp (disch := first | decide | omega) only [rx_W, rx_wp_succ, rx_nx_stop, rx_nx_go, rx_lx_some, rx_fx_some, rx_ax_some, rx_qx_some, rx_ox_some, rx_vx_ref, rx_ix_ref, rx_ld_0, rx_ld_2, rx_ld_3, rx_cx_some, rx_nl, List.getElem?_cons_zero, List.getElem?_cons_succ, List.set_cons_zero, List.set_cons_succ, List.length_cons, List.length_nil, List.take_succ_cons, List.take_zero, List.drop_succ_cons, List.drop_zero, List.reverse_cons, List.reverse_nil, List.nil_append, List.cons_append, Option.toList_some, Option.toList_none, true_and, and_true, and_self, true_or, or_true, false_and, and_false, false_or, or_false, not_false_eq_true, Nat.reduceAdd, Nat.reduceLT, Nat.reduceLeDiff, Nat.reduceBEq, Nat.reduceEqDiff, Bool.or_false, Bool.false_or, if_true, if_false, Bool.false_eq_true, nq_eq, nq_lt, nq_le, nq_in_t, nq_bd, nq_ft, nq_clamp, nq_shl31, nq_shr31, nq_bitb, nq_add, nq_mul, fa_and, fa_or, nq_b0, nq_b1, nq_b01, ↓ni_lt_t, ↓ni_lt_f, ↓ni_le_t, ↓ni_le_f, ↓ni_eq_t, ↓ni_eq_f, ↓ni_beq_t, ↓ni_beq_f, it_X8_digest, it_X8_digest_1, h1, mO, q_X8_toldIs hz.1]
    refine c_X8_mix hf hz (fun h' y1 y2 => ?_)
    simp (disch := first | decide | omega) only [rx_W, rx_wp_succ, rx_nx_stop, rx_nx_go, rx_lx_some, rx_fx_some, rx_ax_some, rx_qx_some, rx_ox_some, rx_vx_ref, rx_ix_ref, rx_ld_0, rx_ld_2, rx_ld_3, rx_cx_some, rx_nl, List.getElem?_cons_zero, List.getElem?_cons_succ, List.set_cons_zero, List.set_cons_succ, List.length_cons, List.length_nil, List.take_succ_cons, List.take_zero, List.drop_succ_cons, List.drop_zero, List.reverse_cons, List.reverse_nil, List.nil_append, List.cons_append, Option.toList_some, Option.toList_none, true_and, and_true, and_self, true_or, or_true, false_and, and_false, false_or, or_false, not_false_eq_true, Nat.reduceAdd, Nat.reduceLT, Nat.reduceLeDiff, Nat.reduceBEq, Nat.reduceEqDiff, Bool.or_false, Bool.false_or, if_true, if_false, Bool.false_eq_true, nq_eq, nq_lt, nq_le, nq_in_t, nq_bd, nq_ft, nq_clamp, nq_shl31, nq_shr31, nq_bitb, nq_add, nq_mul, fa_and, fa_or, nq_b0, nq_b1, nq_b01, ↓ni_lt_t, ↓ni_lt_f, ↓ni_le_t, ↓ni_le_f, ↓ni_eq_t, ↓ni_eq_f, ↓ni_beq_t, ↓ni_beq_f, it_X8_digest, it_X8_digest_1]
    exact l_X8_dg0 Q hq j (k + 1) h' (by omega) y1 y2
theorem l_X8_dg1 (hv : wfV v) {z0 : Int64} (Q : Option Value → rx_H → Prop)
    (hq : ∀ h, Fr h0 h mA → mZ h v u np L t cs (dgPs v z0 4) → rx_R 167 47 [.ref 98, .int (nI 4), .null, .null, .null] [] h Q) :
    ∀ j p h, p + j = 4 → Fr h0 h mA → mZ h v u np L t cs (dgPs v z0 p) → rx_R 167 31 [.ref 98, .int (nI p), .null, .null, .null] [] h Q
  | 0, p, h, e, hf, hz => by
    have e' : p = 4 := by omega
    subst e'
    apply rx_wp_sound 60 [31, 47]
    simp (disch := first | decide | omega) only [rx_W, rx_wp_succ, rx_nx_stop, rx_nx_go, rx_lx_some, rx_fx_some, rx_ax_some, rx_qx_some, rx_ox_some, rx_vx_ref, rx_ix_ref, rx_ld_0, rx_ld_2, rx_ld_3, rx_cx_some, rx_nl, List.getElem?_cons_zero, List.getElem?_cons_succ, List.set_cons_zero, List.set_cons_succ, List.length_cons, List.length_nil, List.take_succ_cons, List.take_zero, List.drop_succ_cons, List.drop_zero, List.reverse_cons, List.reverse_nil, List.nil_append, List.cons_append, Option.toList_some, Option.toList_none, true_and, and_true, and_self, true_or, or_true, false_and, and_false, false_or, or_false, not_false_eq_true, Nat.reduceAdd, Nat.reduceLT, Nat.reduceLeDiff, Nat.reduceBEq, Nat.reduceEqDiff, Bool.or_false, Bool.false_or, if_true, if_false, Bool.false_eq_true, nq_eq, nq_lt, nq_le, nq_in_t, nq_bd, nq_ft, nq_clamp, nq_shl31, nq_shr31, nq_bitb, nq_add, nq_mul, fa_and, fa_or, nq_b0, nq_b1, nq_b01, ↓ni_lt_t, ↓ni_lt_f, ↓ni_le_t, ↓ni_le_f, ↓ni_eq_t, ↓ni_eq_f, ↓ni_beq_t, ↓ni_beq_f, it_X8_digest, it_X8_digest_1]
    exact hq h hf hz
  | j + 1, p, h, e, hf, hz => by
    obtain ⟨pl, fo, h1⟩ := hz.2
    apply rx_wp_sound 60 [31, 47]
    simp (disch := first | decide | omega) only [rx_W, rx_wp_succ, rx_nx_stop, rx_nx_go, rx_lx_some, rx_fx_some, rx_ax_some, rx_qx_some, rx_ox_some, rx_vx_ref, rx_ix_ref, rx_ld_0, rx_ld_2, rx_ld_3, rx_cx_some, rx_nl, List.getElem?_cons_zero, List.getElem?_cons_succ, List.set_cons_zero, List.set_cons_succ, List.length_cons, List.length_nil, List.take_succ_cons, List.take_zero, List.drop_succ_cons, List.drop_zero, List.reverse_cons, List.reverse_nil, List.nil_append, List.cons_append, Option.toList_some, Option.toList_none, true_and, and_true, and_self, true_or, or_true, false_and, and_false, false_or, or_false, not_false_eq_true, Nat.reduceAdd, Nat.reduceLT, Nat.reduceLeDiff, Nat.reduceBEq, Nat.reduceEqDiff, Bool.or_false, Bool.false_or, if_true, if_false, Bool.false_eq_true, nq_eq, nq_lt, nq_le, nq_in_t, nq_bd, nq_ft, nq_clamp, nq_shl31, nq_shr31, nq_bitb, nq_add, nq_mul, fa_and, fa_or, nq_b0, nq_b1, nq_b01, ↓ni_lt_t, ↓ni_lt_f, ↓ni_le_t, ↓ni_le_f, ↓ni_eq_t, ↓ni_eq_f, ↓ni_beq_t, ↓ni_beq_f, it_X8_digest, it_X8_digest_1, h1, mO]
    refine c_X8_mixProcess hv (by omega) hf hz (fun h' y1 y2 => ?_)
    simp (disch := first | decide | omega) only [rx_W, rx_wp_succ, rx_nx_stop, rx_nx_go, rx_lx_some, rx_fx_some, rx_ax_some, rx_qx_some, rx_ox_some, rx_vx_ref, rx_ix_ref, rx_ld_0, rx_ld_2, rx_ld_3, rx_cx_some, rx_nl, List.getElem?_cons_zero, List.getElem?_cons_succ, List.set_cons_zero, List.set_cons_succ, List.length_cons, List.length_nil, List.take_succ_cons, List.take_zero, List.drop_succ_cons, List.drop_zero, List.reverse_cons, List.reverse_nil, List.nil_append, List.cons_append, Option.toList_some, Option.toList_none, true_and, and_true, and_self, true_or, or_true, false_and, and_false, false_or, or_false, not_false_eq_true, Nat.reduceAdd, Nat.reduceLT, Nat.reduceLeDiff, Nat.reduceBEq, Nat.reduceEqDiff, Bool.or_false, Bool.false_or, if_true, if_false, Bool.false_eq_true, nq_eq, nq_lt, nq_le, nq_in_t, nq_bd, nq_ft, nq_clamp, nq_shl31, nq_shr31, nq_bitb, nq_add, nq_mul, fa_and, fa_or, nq_b0, nq_b1, nq_b01, ↓ni_lt_t, ↓ni_lt_f, ↓ni_le_t, ↓ni_le_f, ↓ni_eq_t, ↓ni_eq_f, ↓ni_beq_t, ↓ni_beq_f, it_X8_digest, it_X8_digest_1]
    exact l_X8_dg1 hv Q hq j (p + 1) h' (by omega) y1 y2
theorem m_faz (hv : wfV v) {h : rx_H} {z : Int64} (hz : mZ h v u np L t cs z) {p q m : Nat} (hp : p < 4) (hq : q < 4) (hm : m < 3) {K : Option Value → rx_H → Prop}
    (hK : ∀ h' x, Fr h h' mA → mZ h' v u np L t cs z → (x = -1 ↔ nfb v p q m = true) → K (some (.int x)) h') : rx_Cl 158 [.ref 98, .int (nI p), .int (nI q), .int (nI m)] h K := by
  obtain ⟨hi, pl, fo, h1⟩ := hz
  obtain ⟨n0, n8, nw, nz, -⟩ := hv p hp
  obtain ⟨m0, m8, mw, mz, -⟩ := hv q hq
  refine rx_Cl_imp (c_X8_faultAt h1 hi.2.2.2.2.2.2.2.2.2 hi.2.1 hp hq hm n0 m0 n8 m8 nw mw nz mz) (fun r h' ⟨y1, J, x, e, y2, y3⟩ => ?_)
  subst e
  refine hK h' x (Fr_mA y1 (by simp)) ⟨mIv_q y1 hi y2, _, _, y2.1⟩ ?_
  unfold nfb
  rw [bP_iff]
  rcases y3 with ⟨g1, g2, g3⟩ | ⟨g1, g2⟩
  · rw [g3]
    exact ⟨fun z => (nI_ne1 (by omega) z).elim, fun z => (isF_NF _ _ _ _ g1 z).elim⟩
  · exact ⟨fun _ => g1, fun _ => g2⟩
theorem l_X8_dg2 (hv : wfV v) {i p q : Nat} (hp : p < 4) (hq' : q < 4) {z0 : Int64} (Q : Option Value → rx_H → Prop)
    (hq : ∀ h, Fr h0 h mA → mZ h v u np L t cs (mxs z0 (fun m => nI (nfb v p q m).toNat) 3) → rx_R 167 104 [.ref 98, .int (nI i), .int (nI p), .int (nI q), .int (nI 3)] [] h Q) :
    ∀ j m h, m + j = 3 → Fr h0 h mA → mZ h v u np L t cs (mxs z0 (fun m => nI (nfb v p q m).toNat) m) → rx_R 167 71 [.ref 98, .int (nI i), .int (nI p), .int (nI q), .int (nI m)] [] h Q
  | 0, m, h, e, hf, hz => by
    have e' : m = 3 := by omega
    subst e'
    apply rx_wp_sound 60 [71, 104]
    simp (disch := first | decide | omega) only [rx_W, rx_wp_succ, rx_nx_stop, rx_nx_go, rx_lx_some, rx_fx_some, rx_ax_some, rx_qx_some, rx_ox_some, rx_vx_ref, rx_ix_ref, rx_ld_0, rx_ld_2, rx_ld_3, rx_cx_some, rx_nl, List.getElem?_cons_zero, List.getElem?_cons_succ, List.set_cons_zero, List.set_cons_succ, List.length_cons, List.length_nil, List.take_succ_cons, List.take_zero, List.drop_succ_cons, List.drop_zero, List.reverse_cons, List.reverse_nil, List.nil_append, List.cons_append, Option.toList_some, Option.toList_none, true_and, and_true, and_self, true_or, or_true, false_and, and_false, false_or, or_false, not_false_eq_true, Nat.reduceAdd, Nat.reduceLT, Nat.reduceLeDiff, Nat.reduceBEq, Nat.reduceEqDiff, Bool.or_false, Bool.false_or, if_true, if_false, Bool.false_eq_true, nq_eq, nq_lt, nq_le, nq_in_t, nq_bd, nq_ft, nq_clamp, nq_shl31, nq_shr31, nq_bitb, nq_add, nq_mul, fa_and, fa_or, nq_b0, nq_b1, nq_b01, ↓ni_lt_t, ↓ni_lt_f, ↓ni_le_t, ↓ni_le_f, ↓ni_eq_t, ↓ni_eq_f, ↓ni_beq_t, ↓ni_beq_f, it_X8_digest, it_X8_digest_1]
    exact hq h hf hz
  | j + 1, m, h, e, hf, hz => by
    obtain ⟨pl, fo, h1⟩ := hz.2
    apply rx_wp_sound 60 [71, 104]
    simp (disch := first | decide | omega) only [rx_W, rx_wp_succ, rx_nx_stop, rx_nx_go, rx_lx_some, rx_fx_some, rx_ax_some, rx_qx_some, rx_ox_some, rx_vx_ref, rx_ix_ref, rx_ld_0, rx_ld_2, rx_ld_3, rx_cx_some, rx_nl, List.getElem?_cons_zero, List.getElem?_cons_succ, List.set_cons_zero, List.set_cons_succ, List.length_cons, List.length_nil, List.take_succ_cons, List.take_zero, List.drop_succ_cons, List.drop_zero, List.reverse_cons, List.reverse_nil, List.nil_append, List.cons_append, Option.toList_some, Option.toList_none, true_and, and_true, and_self, true_or, or_true, false_and, and_false, false_or, or_false, not_false_eq_true, Nat.reduceAdd, Nat.reduceLT, Nat.reduceLeDiff, Nat.reduceBEq, Nat.reduceEqDiff, Bool.or_false, Bool.false_or, if_true, if_false, Bool.false_eq_true, nq_eq, nq_lt, nq_le, nq_in_t, nq_bd, nq_ft, nq_clamp, nq_shl31, nq_shr31, nq_bitb, nq_add, nq_mul, fa_and, fa_or, nq_b0, nq_b1, nq_b01, ↓ni_lt_t, ↓ni_lt_f, ↓ni_le_t, ↓ni_le_f, ↓ni_eq_t, ↓ni_eq_f, ↓ni_beq_t, ↓ni_beq_f, it_X8_digest, it_X8_digest_1, h1, mO]
    refine m_faz hv hz hp hq' (by omega) (fun h1 x y1 y2 y3 => ?_)
    obtain ⟨pl', fo', h1'⟩ := y2.2
    have f2 := Fr_trans hf y1 (C := mA) (fun _ z => z) (fun _ z => z)
    cases c : nfb v p q m with
    | true =>
      have c1 : x = -1 := y3.mpr c
      simp (disch := first | decide | omega) only [rx_W, rx_wp_succ, rx_nx_stop, rx_nx_go, rx_lx_some, rx_fx_some, rx_ax_some, rx_qx_some, rx_ox_some, rx_vx_ref, rx_ix_ref, rx_ld_0, rx_ld_2, rx_ld_3, rx_cx_some, rx_nl, List.getElem?_cons_zero, List.getElem?_cons_succ, List.set_cons_zero, List.set_cons_succ, List.length_cons, List.length_nil, List.take_succ_cons, List.take_zero, List.drop_succ_cons, List.drop_zero, List.reverse_cons, List.reverse_nil, List.nil_append, List.cons_append, Option.toList_some, Option.toList_none, true_and, and_true, and_self, true_or, or_true, false_and, and_false, false_or, or_false, not_false_eq_true, Nat.reduceAdd, Nat.reduceLT, Nat.reduceLeDiff, Nat.reduceBEq, Nat.reduceEqDiff, Bool.or_false, Bool.false_or, if_true, if_false, Bool.false_eq_true, nq_eq, nq_lt, nq_le, nq_in_t, nq_bd, nq_ft, nq_clamp, nq_shl31, nq_shr31, nq_bitb, nq_add, nq_mul, fa_and, fa_or, nq_b0, nq_b1, nq_b01, ↓ni_lt_t, ↓ni_lt_f, ↓ni_le_t, ↓ni_le_f, ↓ni_eq_t, ↓ni_eq_f, ↓ni_beq_t, ↓ni_beq_f, it_X8_digest, it_X8_digest_1, c1, h1', mO]
      refine c_X8_mix f2 y2 (fun h' z1 z2 => ?_)
      simp (disch := first | decide | omega) only [rx_W, rx_wp_succ, rx_nx_stop, rx_nx_go, rx_lx_some, rx_fx_some, rx_ax_some, rx_qx_some, rx_ox_some, rx_vx_ref, rx_ix_ref, rx_ld_0, rx_ld_2, rx_ld_3, rx_cx_some, rx_nl, List.getElem?_cons_zero, List.getElem?_cons_succ, List.set_cons_zero, List.set_cons_succ, List.length_cons, List.length_nil, List.take_succ_cons, List.take_zero, List.drop_succ_cons, List.drop_zero, List.reverse_cons, List.reverse_nil, List.nil_append, List.cons_append, Option.toList_some, Option.toList_none, true_and, and_true, and_self, true_or, or_true, false_and, and_false, false_or, or_false, not_false_eq_true, Nat.reduceAdd, Nat.reduceLT, Nat.reduceLeDiff, Nat.reduceBEq, Nat.reduceEqDiff, Bool.or_false, Bool.false_or, if_true, if_false, Bool.false_eq_true, nq_eq, nq_lt, nq_le, nq_in_t, nq_bd, nq_ft, nq_clamp, nq_shl31, nq_shr31, nq_bitb, nq_add, nq_mul, fa_and, fa_or, nq_b0, nq_b1, nq_b01, ↓ni_lt_t, ↓ni_lt_f, ↓ni_le_t, ↓ni_le_f, ↓ni_eq_t, ↓ni_eq_f, ↓ni_beq_t, ↓ni_beq_f, it_X8_digest, it_X8_digest_1]
      refine l_X8_dg2 hv hp hq' Q hq j (m + 1) h' (by omega) z1 ?_
      have e : mxs z0 (fun m => nI (nfb v p q m).toNat) (m + 1) = mx (mxs z0 (fun m => nI (nfb v p q m).toNat) m) (nI (nfb v p q m).toNat) := rfl
      rw [e, c]
      exact z2
    | false =>
      have c1 : ¬ x = -1 := fun z => by have := y3.mp z; rw [c] at this; cases this
      simp (disch := first | decide | omega) only [rx_W, rx_wp_succ, rx_nx_stop, rx_nx_go, rx_lx_some, rx_fx_some, rx_ax_some, rx_qx_some, rx_ox_some, rx_vx_ref, rx_ix_ref, rx_ld_0, rx_ld_2, rx_ld_3, rx_cx_some, rx_nl, List.getElem?_cons_zero, List.getElem?_cons_succ, List.set_cons_zero, List.set_cons_succ, List.length_cons, List.length_nil, List.take_succ_cons, List.take_zero, List.drop_succ_cons, List.drop_zero, List.reverse_cons, List.reverse_nil, List.nil_append, List.cons_append, Option.toList_some, Option.toList_none, true_and, and_true, and_self, true_or, or_true, false_and, and_false, false_or, or_false, not_false_eq_true, Nat.reduceAdd, Nat.reduceLT, Nat.reduceLeDiff, Nat.reduceBEq, Nat.reduceEqDiff, Bool.or_false, Bool.false_or, if_true, if_false, Bool.false_eq_true, nq_eq, nq_lt, nq_le, nq_in_t, nq_bd, nq_ft, nq_clamp, nq_shl31, nq_shr31, nq_bitb, nq_add, nq_mul, fa_and, fa_or, nq_b0, nq_b1, nq_b01, ↓ni_lt_t, ↓ni_lt_f, ↓ni_le_t, ↓ni_le_f, ↓ni_eq_t, ↓ni_eq_f, ↓ni_beq_t, ↓ni_beq_f, it_X8_digest, it_X8_digest_1, c1, h1', mO]
      refine c_X8_mix f2 y2 (fun h' z1 z2 => ?_)
      simp (disch := first | decide | omega) only [rx_W, rx_wp_succ, rx_nx_stop, rx_nx_go, rx_lx_some, rx_fx_some, rx_ax_some, rx_qx_some, rx_ox_some, rx_vx_ref, rx_ix_ref, rx_ld_0, rx_ld_2, rx_ld_3, rx_cx_some, rx_nl, List.getElem?_cons_zero, List.getElem?_cons_succ, List.set_cons_zero, List.set_cons_succ, List.length_cons, List.length_nil, List.take_succ_cons, List.take_zero, List.drop_succ_cons, List.drop_zero, List.reverse_cons, List.reverse_nil, List.nil_append, List.cons_append, Option.toList_some, Option.toList_none, true_and, and_true, and_self, true_or, or_true, false_and, and_false, false_or, or_false, not_false_eq_true, Nat.reduceAdd, Nat.reduceLT, Nat.reduceLeDiff, Nat.reduceBEq, Nat.reduceEqDiff, Bool.or_false, Bool.false_or, if_true, if_false, Bool.false_eq_true, nq_eq, nq_lt, nq_le, nq_in_t, nq_bd, nq_ft, nq_clamp, nq_shl31, nq_shr31, nq_bitb, nq_add, nq_mul, fa_and, fa_or, nq_b0, nq_b1, nq_b01, ↓ni_lt_t, ↓ni_lt_f, ↓ni_le_t, ↓ni_le_f, ↓ni_eq_t, ↓ni_eq_f, ↓ni_beq_t, ↓ni_beq_f, it_X8_digest, it_X8_digest_1]
      refine l_X8_dg2 hv hp hq' Q hq j (m + 1) h' (by omega) z1 ?_
      have e : mxs z0 (fun m => nI (nfb v p q m).toNat) (m + 1) = mx (mxs z0 (fun m => nI (nfb v p q m).toNat) m) (nI (nfb v p q m).toNat) := rfl
      rw [e, c]
      exact z2
theorem l_X8_dg3 (hv : wfV v) {z0 : Int64} (Q : Option Value → rx_H → Prop)
    (hq : ∀ h, Fr h0 h mA → mZ h v u np L t cs (dgCs v z0 16) → Q (some (.long (dgCs v z0 16))) h) :
    ∀ j i h x2 x3 x4, i + j = 16 → Fr h0 h mA → mZ h v u np L t cs (dgCs v z0 i) → rx_R 167 49 [.ref 98, .int (nI i), x2, x3, x4] [] h Q
  | 0, i, h, x2, x3, x4, e, hf, hz => by
    have e' : i = 16 := by omega
    subst e'
    obtain ⟨pl, fo, h1⟩ := hz.2
    apply rx_wp_sound 60 [49]
    simp (disch := first | decide | omega) only [rx_W, rx_wp_succ, rx_nx_stop, rx_nx_go, rx_lx_some, rx_fx_some, rx_ax_some, rx_qx_some, rx_ox_some, rx_vx_ref, rx_ix_ref, rx_ld_0, rx_ld_2, rx_ld_3, rx_cx_some, rx_nl, List.getElem?_cons_zero, List.getElem?_cons_succ, List.set_cons_zero, List.set_cons_succ, List.length_cons, List.length_nil, List.take_succ_cons, List.take_zero, List.drop_succ_cons, List.drop_zero, List.reverse_cons, List.reverse_nil, List.nil_append, List.cons_append, Option.toList_some, Option.toList_none, true_and, and_true, and_self, true_or, or_true, false_and, and_false, false_or, or_false, not_false_eq_true, Nat.reduceAdd, Nat.reduceLT, Nat.reduceLeDiff, Nat.reduceBEq, Nat.reduceEqDiff, Bool.or_false, Bool.false_or, if_true, if_false, Bool.false_eq_true, nq_eq, nq_lt, nq_le, nq_in_t, nq_bd, nq_ft, nq_clamp, nq_shl31, nq_shr31, nq_bitb, nq_add, nq_mul, fa_and, fa_or, nq_b0, nq_b1, nq_b01, ↓ni_lt_t, ↓ni_lt_f, ↓ni_le_t, ↓ni_le_f, ↓ni_eq_t, ↓ni_eq_f, ↓ni_beq_t, ↓ni_beq_f, it_X8_digest, it_X8_digest_1, h1, mO]
    exact hq h hf hz
  | j + 1, i, h, x2, x3, x4, e, hf, hz => by
    have e1 : dgCs v z0 (i + 1) = if i / 4 = i % 4 then dgCs v z0 i else dgC v (i / 4) (i % 4) (dgCs v z0 i) := rfl
    have em : nI i - nI (i / 4 * 4) = nI (i % 4) := by
      rw [nq_sub (Nat.div_mul_le_self i 4)]
      congr 1
      omega
    by_cases c : i / 4 = i % 4
    · rw [if_pos c] at e1
      rw [← c] at em
      apply rx_wp_sound 60 [49]
      simp (disch := first | decide | omega) only [rx_W, rx_wp_succ, rx_nx_stop, rx_nx_go, rx_lx_some, rx_fx_some, rx_ax_some, rx_qx_some, rx_ox_some, rx_vx_ref, rx_ix_ref, rx_ld_0, rx_ld_2, rx_ld_3, rx_cx_some, rx_nl, List.getElem?_cons_zero, List.getElem?_cons_succ, List.set_cons_zero, List.set_cons_succ, List.length_cons, List.length_nil, List.take_succ_cons, List.take_zero, List.drop_succ_cons, List.drop_zero, List.reverse_cons, List.reverse_nil, List.nil_append, List.cons_append, Option.toList_some, Option.toList_none, true_and, and_true, and_self, true_or, or_true, false_and, and_false, false_or, or_false, not_false_eq_true, Nat.reduceAdd, Nat.reduceLT, Nat.reduceLeDiff, Nat.reduceBEq, Nat.reduceEqDiff, Bool.or_false, Bool.false_or, if_true, if_false, Bool.false_eq_true, nq_eq, nq_lt, nq_le, nq_in_t, nq_bd, nq_ft, nq_clamp, nq_shl31, nq_shr31, nq_bitb, nq_add, nq_mul, fa_and, fa_or, nq_b0, nq_b1, nq_b01, ↓ni_lt_t, ↓ni_lt_f, ↓ni_le_t, ↓ni_le_f, ↓ni_eq_t, ↓ni_eq_f, ↓ni_beq_t, ↓ni_beq_f, it_X8_digest, it_X8_digest_1, nq_div, em]
      exact l_X8_dg3 hv Q hq j (i + 1) h _ _ _ (by omega) hf (by rw [e1]; exact hz)
    · rw [if_neg c] at e1
      apply rx_wp_sound 60 [49, 71]
      simp (disch := first | decide | omega) only [rx_W, rx_wp_succ, rx_nx_stop, rx_nx_go, rx_lx_some, rx_fx_some, rx_ax_some, rx_qx_some, rx_ox_some, rx_vx_ref, rx_ix_ref, rx_ld_0, rx_ld_2, rx_ld_3, rx_cx_some, rx_nl, List.getElem?_cons_zero, List.getElem?_cons_succ, List.set_cons_zero, List.set_cons_succ, List.length_cons, List.length_nil, List.take_succ_cons, List.take_zero, List.drop_succ_cons, List.drop_zero, List.reverse_cons, List.reverse_nil, List.nil_append, List.cons_append, Option.toList_some, Option.toList_none, true_and, and_true, and_self, true_or, or_true, false_and, and_false, false_or, or_false, not_false_eq_true, Nat.reduceAdd, Nat.reduceLT, Nat.reduceLeDiff, Nat.reduceBEq, Nat.reduceEqDiff, Bool.or_false, Bool.false_or, if_true, if_false, Bool.false_eq_true, nq_eq, nq_lt, nq_le, nq_in_t, nq_bd, nq_ft, nq_clamp, nq_shl31, nq_shr31, nq_bitb, nq_add, nq_mul, fa_and, fa_or, nq_b0, nq_b1, nq_b01, ↓ni_lt_t, ↓ni_lt_f, ↓ni_le_t, ↓ni_le_f, ↓ni_eq_t, ↓ni_eq_f, ↓ni_beq_t, ↓ni_beq_f, it_X8_digest, it_X8_digest_1, nq_div, em, c]
      refine l_X8_dg2 (p := i / 4) (q := i % 4) hv (by omega) (by omega) _ (fun h2 y1 y2 => ?_) 3 0 h (by omega) hf hz
      obtain ⟨pl, fo, h1⟩ := y2.2
      have hi := y2.1
      obtain ⟨K0, hK0⟩ := hi.2.2.2.2.2.2.2.2.1
      obtain ⟨n0, n8, -⟩ := hv (i / 4) (by omega)
      obtain ⟨m0, m8, -⟩ := hv (i % 4) (by omega)
      apply rx_wp_sound 60 [49]
      simp (disch := first | decide | omega) only [rx_W, rx_wp_succ, rx_nx_stop, rx_nx_go, rx_lx_some, rx_fx_some, rx_ax_some, rx_qx_some, rx_ox_some, rx_vx_ref, rx_ix_ref, rx_ld_0, rx_ld_2, rx_ld_3, rx_cx_some, rx_nl, List.getElem?_cons_zero, List.getElem?_cons_succ, List.set_cons_zero, List.set_cons_succ, List.length_cons, List.length_nil, List.take_succ_cons, List.take_zero, List.drop_succ_cons, List.drop_zero, List.reverse_cons, List.reverse_nil, List.nil_append, List.cons_append, Option.toList_some, Option.toList_none, true_and, and_true, and_self, true_or, or_true, false_and, and_false, false_or, or_false, not_false_eq_true, Nat.reduceAdd, Nat.reduceLT, Nat.reduceLeDiff, Nat.reduceBEq, Nat.reduceEqDiff, Bool.or_false, Bool.false_or, if_true, if_false, Bool.false_eq_true, nq_eq, nq_lt, nq_le, nq_in_t, nq_bd, nq_ft, nq_clamp, nq_shl31, nq_shr31, nq_bitb, nq_add, nq_mul, fa_and, fa_or, nq_b0, nq_b1, nq_b01, ↓ni_lt_t, ↓ni_lt_f, ↓ni_le_t, ↓ni_le_f, ↓ni_eq_t, ↓ni_eq_f, ↓ni_beq_t, ↓ni_beq_f, it_X8_digest, it_X8_digest_1, h1, mO]
      refine rx_Cl_imp (c_X8_laysLike (mIv_mN hi) hK0 (by omega) (by omega) n8 m8 (wfP_256 (hv _ (by omega))) (wfP_256 (hv _ (by omega)))) (fun r h' ⟨e, y1', K, y2', y3⟩ => ?_)
      subst e
      have h1' := rd_fr y1' (by simp) h1
      have y4 := mIv_106 y1' hi ⟨K, y2'⟩
      have k1 := (y3 0 (by omega)).1
      have eb : (K 0).testBit 8 = alb v (i / 4) (i % 4) := bool_iff (by rw [(y3 0 (by omega)).2 8 (by omega), show (8 : Nat) = 8 + 0 by rfl, alB_cross (by omega) (by omega)]; unfold alb; rw [bP_iff])
      obtain ⟨f, a1, a2⟩ := y2'
      simp (disch := first | decide | omega) only [rx_W, rx_wp_succ, rx_nx_stop, rx_nx_go, rx_lx_some, rx_fx_some, rx_ax_some, rx_qx_some, rx_ox_some, rx_vx_ref, rx_ix_ref, rx_ld_0, rx_ld_2, rx_ld_3, rx_cx_some, rx_nl, List.getElem?_cons_zero, List.getElem?_cons_succ, List.set_cons_zero, List.set_cons_succ, List.length_cons, List.length_nil, List.take_succ_cons, List.take_zero, List.drop_succ_cons, List.drop_zero, List.reverse_cons, List.reverse_nil, List.nil_append, List.cons_append, Option.toList_some, Option.toList_none, true_and, and_true, and_self, true_or, or_true, false_and, and_false, false_or, or_false, not_false_eq_true, Nat.reduceAdd, Nat.reduceLT, Nat.reduceLeDiff, Nat.reduceBEq, Nat.reduceEqDiff, Bool.or_false, Bool.false_or, if_true, if_false, Bool.false_eq_true, nq_eq, nq_lt, nq_le, nq_in_t, nq_bd, nq_ft, nq_clamp, nq_shl31, nq_shr31, nq_bitb, nq_add, nq_mul, fa_and, fa_or, nq_b0, nq_b1, nq_b01, ↓ni_lt_t, ↓ni_lt_f, ↓ni_le_t, ↓ni_le_f, ↓ni_eq_t, ↓ni_eq_f, ↓ni_beq_t, ↓ni_beq_f, it_X8_digest, it_X8_digest_1, h1', mO, a1, a2, eb]
      refine c_X8_mix (Fr_trans y1 (Fr_mA y1' (by simp)) (C := mA) (fun _ z => z) (fun _ z => z)) ⟨y4, _, _, h1'⟩ (fun h3 z1 z2 => ?_)
      simp (disch := first | decide | omega) only [rx_W, rx_wp_succ, rx_nx_stop, rx_nx_go, rx_lx_some, rx_fx_some, rx_ax_some, rx_qx_some, rx_ox_some, rx_vx_ref, rx_ix_ref, rx_ld_0, rx_ld_2, rx_ld_3, rx_cx_some, rx_nl, List.getElem?_cons_zero, List.getElem?_cons_succ, List.set_cons_zero, List.set_cons_succ, List.length_cons, List.length_nil, List.take_succ_cons, List.take_zero, List.drop_succ_cons, List.drop_zero, List.reverse_cons, List.reverse_nil, List.nil_append, List.cons_append, Option.toList_some, Option.toList_none, true_and, and_true, and_self, true_or, or_true, false_and, and_false, false_or, or_false, not_false_eq_true, Nat.reduceAdd, Nat.reduceLT, Nat.reduceLeDiff, Nat.reduceBEq, Nat.reduceEqDiff, Bool.or_false, Bool.false_or, if_true, if_false, Bool.false_eq_true, nq_eq, nq_lt, nq_le, nq_in_t, nq_bd, nq_ft, nq_clamp, nq_shl31, nq_shr31, nq_bitb, nq_add, nq_mul, fa_and, fa_or, nq_b0, nq_b1, nq_b01, ↓ni_lt_t, ↓ni_lt_f, ↓ni_le_t, ↓ni_le_f, ↓ni_eq_t, ↓ni_eq_f, ↓ni_beq_t, ↓ni_beq_f, it_X8_digest, it_X8_digest_1]
      exact l_X8_dg3 hv Q hq j (i + 1) h3 _ _ _ (by omega) z1 (by rw [e1]; exact z2)
theorem m_digest {h : rx_H} (hi : mIv h v u np L t cs) (hv : wfV v) : rx_Cl 167 [.ref 98] h (mP h (v, u, np, L, t, cs) (.long (dgF v np L cs))) := by
  obtain ⟨pl, fo, z, h1⟩ := hi.1
  apply en_X8_digest _ 60 [9]
  simp (disch := first | decide | omega) only [rx_W, rx_wp_succ, rx_nx_stop, rx_nx_go, rx_lx_some, rx_fx_some, rx_ax_some, rx_qx_some, rx_ox_some, rx_vx_ref, rx_ix_ref, rx_ld_0, rx_ld_2, rx_ld_3, rx_cx_some, rx_nl, List.getElem?_cons_zero, List.getElem?_cons_succ, List.set_cons_zero, List.set_cons_succ, List.length_cons, List.length_nil, List.take_succ_cons, List.take_zero, List.drop_succ_cons, List.drop_zero, List.reverse_cons, List.reverse_nil, List.nil_append, List.cons_append, Option.toList_some, Option.toList_none, true_and, and_true, and_self, true_or, or_true, false_and, and_false, false_or, or_false, not_false_eq_true, Nat.reduceAdd, Nat.reduceLT, Nat.reduceLeDiff, Nat.reduceBEq, Nat.reduceEqDiff, Bool.or_false, Bool.false_or, if_true, if_false, Bool.false_eq_true, nq_eq, nq_lt, nq_le, nq_in_t, nq_bd, nq_ft, nq_clamp, nq_shl31, nq_shr31, nq_bitb, nq_add, nq_mul, fa_and, fa_or, nq_b0, nq_b1, nq_b01, ↓ni_lt_t, ↓ni_lt_f, ↓ni_le_t, ↓ni_le_f, ↓ni_eq_t, ↓ni_eq_f, ↓ni_beq_t, ↓ni_beq_f, it_X8_digest, it_X8_digest_1, h1, mO, rx_ft]
  refine l_X8_dg0 (h0 := h) _ (fun h2 y1 y2 => ?_) 5 0 _ (by omega) (Fr_up (Fr_rfl _ _) (by simp)) ⟨mIv_z hi, pl, fo, rd_eq _ _ _⟩
  apply rx_wp_sound 60 [31]
  simp (disch := first | decide | omega) only [rx_W, rx_wp_succ, rx_nx_stop, rx_nx_go, rx_lx_some, rx_fx_some, rx_ax_some, rx_qx_some, rx_ox_some, rx_vx_ref, rx_ix_ref, rx_ld_0, rx_ld_2, rx_ld_3, rx_cx_some, rx_nl, List.getElem?_cons_zero, List.getElem?_cons_succ, List.set_cons_zero, List.set_cons_succ, List.length_cons, List.length_nil, List.take_succ_cons, List.take_zero, List.drop_succ_cons, List.drop_zero, List.reverse_cons, List.reverse_nil, List.nil_append, List.cons_append, Option.toList_some, Option.toList_none, true_and, and_true, and_self, true_or, or_true, false_and, and_false, false_or, or_false, not_false_eq_true, Nat.reduceAdd, Nat.reduceLT, Nat.reduceLeDiff, Nat.reduceBEq, Nat.reduceEqDiff, Bool.or_false, Bool.false_or, if_true, if_false, Bool.false_eq_true, nq_eq, nq_lt, nq_le, nq_in_t, nq_bd, nq_ft, nq_clamp, nq_shl31, nq_shr31, nq_bitb, nq_add, nq_mul, fa_and, fa_or, nq_b0, nq_b1, nq_b01, ↓ni_lt_t, ↓ni_lt_f, ↓ni_le_t, ↓ni_le_f, ↓ni_eq_t, ↓ni_eq_f, ↓ni_beq_t, ↓ni_beq_f, it_X8_digest, it_X8_digest_1]
  refine l_X8_dg1 (h0 := h) hv _ (fun h3 y3 y4 => ?_) 4 0 _ (by omega) y1 y2
  apply rx_wp_sound 60 [49]
  simp (disch := first | decide | omega) only [rx_W, rx_wp_succ, rx_nx_stop, rx_nx_go, rx_lx_some, rx_fx_some, rx_ax_some, rx_qx_some, rx_ox_some, rx_vx_ref, rx_ix_ref, rx_ld_0, rx_ld_2, rx_ld_3, rx_cx_some, rx_nl, List.getElem?_cons_zero, List.getElem?_cons_succ, List.set_cons_zero, List.set_cons_succ, List.length_cons, List.length_nil, List.take_succ_cons, List.take_zero, List.drop_succ_cons, List.drop_zero, List.reverse_cons, List.reverse_nil, List.nil_append, List.cons_append, Option.toList_some, Option.toList_none, true_and, and_true, and_self, true_or, or_true, false_and, and_false, false_or, or_false, not_false_eq_true, Nat.reduceAdd, Nat.reduceLT, Nat.reduceLeDiff, Nat.reduceBEq, Nat.reduceEqDiff, Bool.or_false, Bool.false_or, if_true, if_false, Bool.false_eq_true, nq_eq, nq_lt, nq_le, nq_in_t, nq_bd, nq_ft, nq_clamp, nq_shl31, nq_shr31, nq_bitb, nq_add, nq_mul, fa_and, fa_or, nq_b0, nq_b1, nq_b01, ↓ni_lt_t, ↓ni_lt_f, ↓ni_le_t, ↓ni_le_f, ↓ni_eq_t, ↓ni_eq_f, ↓ni_beq_t, ↓ni_beq_f, it_X8_digest, it_X8_digest_1]
  exact l_X8_dg3 (h0 := h) hv _ (fun h4 y5 y6 => ⟨rfl, y5, y6.1⟩) 16 0 _ _ _ _ (by omega) y3 y4
end DM
