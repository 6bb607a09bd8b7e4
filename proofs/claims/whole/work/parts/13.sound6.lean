section RXC
variable {l : Launch} {dC : Nat → ClassId} {dI : Nat → Nat → Nat} {dA : Nat → ClassId} {b bs L : Nat} {xs : Nat → Int32}
theorem rx_dec {cc : ByteArray} {pc k nx : Nat} {i : Instr} (h : decode cc pc = .ok (i, nx - pc)) (e : nx = pc + k) : decode cc pc = .ok (i, k) := by
  rw [h, e, Nat.add_sub_cancel_left]
theorem rx_fr8 : ∀ mi, mi < 173 → rx_fr mi ≤ 8 := by decide +kernel
theorem rx_cok_of {mi a b' n : Nat} (hm : mi < 173) (h : rx_cok mi a b' n = true) : a < 172 ∧ rx_fr a + 1 ≤ rx_fr mi ∧ 8 + (rx_ml a + 11) + rx_lo a ≤ rx_lo mi ∧ b' = rx_np a + n := by
  unfold rx_cok at h
  simp only [Bool.and_eq_true, decide_eq_true_eq] at h
  obtain ⟨⟨⟨h1, h2⟩, h3⟩, h4⟩ := h
  refine ⟨?_, h2, h3, h4⟩
  by_cases e : a = 172
  · subst e
    have h5 := rx_fr8 mi hm
    have h6 : rx_fr 172 = 8 := by decide +kernel
    omega
  · omega
theorem rx_df_ok (a : Nat) (h : a < 9) : ∀ j, j < rx_N a → defaultValue (rx_ty a j) = vp_V ((rx_df a).map (rx_tv b bs)) j := by
  rcases a with _ | _ | _ | _ | _ | _ | _ | _ | _ | a
  all_goals first | omega | skip
  all_goals (intro j hj; have hj' := hj; revert hj'; simp only [rx_N]; intro hj')
  all_goals (rcases j with _ | _ | _ | _ | _ | _ | _ | _ | _ | _ | _ | _ | _ | _ | _ | _ | j <;> first | rfl | omega)
theorem rx_mincode : Cond.code Lib.Math.min.name Lib.Math.min.code 2 (some .int) ∈ rx_g := List.mem_filter.mpr ⟨List.mem_of_getElem? (i := 346) (by decide +kernel), rfl⟩
theorem rx_obj : Cond.code objectInit ⟨#[0xb1]⟩ 1 none ∈ rx_g := List.mem_filter.mpr ⟨List.mem_of_getElem? (i := 92) (by rfl), rfl⟩
theorem rx_s_iconst {mi pc : Nat} {ls st : List Value} {h : rx_H} {Q : Option Value → rx_H → Prop} {nx a b' k : Nat} {v : Value} {o : rx_O} {n : Int} (hm : mi < 173) (hdec : decode (rx_cc mi) pc = .ok (.iconst n, nx - pc)) (hsh : rx_shape mi pc (.iconst n, nx, a, b', k, v) = true) (hneed : ∀ w ∈ rx_need mi (.iconst n, nx, a, b', k, v), w ∈ rx_g)
    (ho1 : rx_res rx_cn (.iconst n, nx, a, b', k, v) pc ls st h = some o) (ho2 : rx_dis o (fun pc' ls' st' h' => rx_P l dC dI dA b bs L xs mi pc' ls' st' h' Q) (rx_Cg (rx_P l dC dI dA b bs L xs)) Q ls h) : rx_P l dC dI dA b bs L xs mi pc ls st h Q := by
  have h1 : (decide (nx = pc + 1) && decide (v = .int (Int32.ofInt n))) = true := hsh
  simp only [Bool.and_eq_true, decide_eq_true_eq] at h1
  obtain ⟨rfl, rfl⟩ := h1
  cases ho1
  exact rx_P_st (fun p e R s m args below meth c H locs lsA cells slots Z hF hD hW => lv_iconst hF.1 hF.2.1 (rx_dec hdec rfl) rfl hW) ho2
theorem rx_s_bipush {mi pc : Nat} {ls st : List Value} {h : rx_H} {Q : Option Value → rx_H → Prop} {nx a b' k : Nat} {v : Value} {o : rx_O} {n : Int} (hm : mi < 173) (hdec : decode (rx_cc mi) pc = .ok (.bipush n, nx - pc)) (hsh : rx_shape mi pc (.bipush n, nx, a, b', k, v) = true) (hneed : ∀ w ∈ rx_need mi (.bipush n, nx, a, b', k, v), w ∈ rx_g)
    (ho1 : rx_res rx_cn (.bipush n, nx, a, b', k, v) pc ls st h = some o) (ho2 : rx_dis o (fun pc' ls' st' h' => rx_P l dC dI dA b bs L xs mi pc' ls' st' h' Q) (rx_Cg (rx_P l dC dI dA b bs L xs)) Q ls h) : rx_P l dC dI dA b bs L xs mi pc ls st h Q := by
  have h1 : (decide (nx = pc + 2) && decide (v = .int (Int8.ofInt n).toInt32)) = true := hsh
  simp only [Bool.and_eq_true, decide_eq_true_eq] at h1
  obtain ⟨rfl, rfl⟩ := h1
  cases ho1
  exact rx_P_st (fun p e R s m args below meth c H locs lsA cells slots Z hF hD hW => lv_bipush hF.1 hF.2.1 (rx_dec hdec rfl) rfl hW) ho2
theorem rx_s_sipush {mi pc : Nat} {ls st : List Value} {h : rx_H} {Q : Option Value → rx_H → Prop} {nx a b' k : Nat} {v : Value} {o : rx_O} {n : Int} (hm : mi < 173) (hdec : decode (rx_cc mi) pc = .ok (.sipush n, nx - pc)) (hsh : rx_shape mi pc (.sipush n, nx, a, b', k, v) = true) (hneed : ∀ w ∈ rx_need mi (.sipush n, nx, a, b', k, v), w ∈ rx_g)
    (ho1 : rx_res rx_cn (.sipush n, nx, a, b', k, v) pc ls st h = some o) (ho2 : rx_dis o (fun pc' ls' st' h' => rx_P l dC dI dA b bs L xs mi pc' ls' st' h' Q) (rx_Cg (rx_P l dC dI dA b bs L xs)) Q ls h) : rx_P l dC dI dA b bs L xs mi pc ls st h Q := by
  have h1 : (decide (nx = pc + 3) && decide (v = .int (Int16.ofInt n).toInt32)) = true := hsh
  simp only [Bool.and_eq_true, decide_eq_true_eq] at h1
  obtain ⟨rfl, rfl⟩ := h1
  cases ho1
  exact rx_P_st (fun p e R s m args below meth c H locs lsA cells slots Z hF hD hW => lv_sipush hF.1 hF.2.1 (rx_dec hdec rfl) rfl hW) ho2
theorem rx_s_iload_n {mi pc : Nat} {ls st : List Value} {h : rx_H} {Q : Option Value → rx_H → Prop} {nx a b' k : Nat} {v : Value} {o : rx_O} {j : Fin 4} (hm : mi < 173) (hdec : decode (rx_cc mi) pc = .ok (.iload_n j, nx - pc)) (hsh : rx_shape mi pc (.iload_n j, nx, a, b', k, v) = true) (hneed : ∀ w ∈ rx_need mi (.iload_n j, nx, a, b', k, v), w ∈ rx_g)
    (ho1 : rx_res rx_cn (.iload_n j, nx, a, b', k, v) pc ls st h = some o) (ho2 : rx_dis o (fun pc' ls' st' h' => rx_P l dC dI dA b bs L xs mi pc' ls' st' h' Q) (rx_Cg (rx_P l dC dI dA b bs L xs)) Q ls h) : rx_P l dC dI dA b bs L xs mi pc ls st h Q := by
  have h1 : (decide (nx = pc + 1) && decide ((j : Nat) = a)) = true := hsh
  simp only [Bool.and_eq_true, decide_eq_true_eq] at h1
  obtain ⟨rfl, e2⟩ := h1
  obtain ⟨w, h2, rfl⟩ := rx_load_inv ho1
  obtain ⟨y, h3, rfl⟩ := rx_ld0 h2
  refine rx_P_st (fun p e R s m args below meth c H locs lsA cells slots Z hF hD hW => ?_) ho2
  have h4 := hD.2.2.2.2.2.2 a _ h3 (by simp)
  exact lv_iload_n hF.1 hF.2.1 (rx_dec hdec rfl) e2 h4 hW
theorem rx_s_iload {mi pc : Nat} {ls st : List Value} {h : rx_H} {Q : Option Value → rx_H → Prop} {nx a b' k : Nat} {v : Value} {o : rx_O} {j : Nat} (hm : mi < 173) (hdec : decode (rx_cc mi) pc = .ok (.iload j, nx - pc)) (hsh : rx_shape mi pc (.iload j, nx, a, b', k, v) = true) (hneed : ∀ w ∈ rx_need mi (.iload j, nx, a, b', k, v), w ∈ rx_g)
    (ho1 : rx_res rx_cn (.iload j, nx, a, b', k, v) pc ls st h = some o) (ho2 : rx_dis o (fun pc' ls' st' h' => rx_P l dC dI dA b bs L xs mi pc' ls' st' h' Q) (rx_Cg (rx_P l dC dI dA b bs L xs)) Q ls h) : rx_P l dC dI dA b bs L xs mi pc ls st h Q := by
  have h1 : (decide (nx = pc + 2) && decide (j = a)) = true := hsh
  simp only [Bool.and_eq_true, decide_eq_true_eq] at h1
  obtain ⟨rfl, e2⟩ := h1
  obtain ⟨w, h2, rfl⟩ := rx_load_inv ho1
  obtain ⟨y, h3, rfl⟩ := rx_ld0 h2
  refine rx_P_st (fun p e R s m args below meth c H locs lsA cells slots Z hF hD hW => ?_) ho2
  have h4 := hD.2.2.2.2.2.2 a _ h3 (by simp)
  subst e2
  exact lv_iload hF.1 hF.2.1 (rx_dec hdec rfl) h4 hW
theorem rx_s_aload_n {mi pc : Nat} {ls st : List Value} {h : rx_H} {Q : Option Value → rx_H → Prop} {nx a b' k : Nat} {v : Value} {o : rx_O} {j : Fin 4} (hm : mi < 173) (hdec : decode (rx_cc mi) pc = .ok (.aload_n j, nx - pc)) (hsh : rx_shape mi pc (.aload_n j, nx, a, b', k, v) = true) (hneed : ∀ w ∈ rx_need mi (.aload_n j, nx, a, b', k, v), w ∈ rx_g)
    (ho1 : rx_res rx_cn (.aload_n j, nx, a, b', k, v) pc ls st h = some o) (ho2 : rx_dis o (fun pc' ls' st' h' => rx_P l dC dI dA b bs L xs mi pc' ls' st' h' Q) (rx_Cg (rx_P l dC dI dA b bs L xs)) Q ls h) : rx_P l dC dI dA b bs L xs mi pc ls st h Q := by
  have h1 : (decide (nx = pc + 1) && decide ((j : Nat) = a)) = true := hsh
  simp only [Bool.and_eq_true, decide_eq_true_eq] at h1
  obtain ⟨rfl, e2⟩ := h1
  obtain ⟨w, h2, rfl⟩ := rx_load_inv ho1
  obtain ⟨y, h3, rfl⟩ := rx_ld2 h2
  refine rx_P_st (fun p e R s m args below meth c H locs lsA cells slots Z hF hD hW => ?_) ho2
  have h4 := hD.2.2.2.2.2.2 a _ h3 (by simp)
  exact lv_aload_n hF.1 hF.2.1 (rx_dec hdec rfl) e2 h4 hW
theorem rx_s_aload {mi pc : Nat} {ls st : List Value} {h : rx_H} {Q : Option Value → rx_H → Prop} {nx a b' k : Nat} {v : Value} {o : rx_O} {j : Nat} (hm : mi < 173) (hdec : decode (rx_cc mi) pc = .ok (.aload j, nx - pc)) (hsh : rx_shape mi pc (.aload j, nx, a, b', k, v) = true) (hneed : ∀ w ∈ rx_need mi (.aload j, nx, a, b', k, v), w ∈ rx_g)
    (ho1 : rx_res rx_cn (.aload j, nx, a, b', k, v) pc ls st h = some o) (ho2 : rx_dis o (fun pc' ls' st' h' => rx_P l dC dI dA b bs L xs mi pc' ls' st' h' Q) (rx_Cg (rx_P l dC dI dA b bs L xs)) Q ls h) : rx_P l dC dI dA b bs L xs mi pc ls st h Q := by
  have h1 : (decide (nx = pc + 2) && decide (j = a)) = true := hsh
  simp only [Bool.and_eq_true, decide_eq_true_eq] at h1
  obtain ⟨rfl, e2⟩ := h1
  obtain ⟨w, h2, rfl⟩ := rx_load_inv ho1
  obtain ⟨y, h3, rfl⟩ := rx_ld2 h2
  refine rx_P_st (fun p e R s m args below meth c H locs lsA cells slots Z hF hD hW => ?_) ho2
  have h4 := hD.2.2.2.2.2.2 a _ h3 (by simp)
  subst e2
  exact lv_aload hF.1 hF.2.1 (rx_dec hdec rfl) h4 hW
theorem rx_s_lload_n {mi pc : Nat} {ls st : List Value} {h : rx_H} {Q : Option Value → rx_H → Prop} {nx a b' k : Nat} {v : Value} {o : rx_O} {j : Fin 4} (hm : mi < 173) (hdec : decode (rx_cc mi) pc = .ok (.lload_n j, nx - pc)) (hsh : rx_shape mi pc (.lload_n j, nx, a, b', k, v) = true) (hneed : ∀ w ∈ rx_need mi (.lload_n j, nx, a, b', k, v), w ∈ rx_g)
    (ho1 : rx_res rx_cn (.lload_n j, nx, a, b', k, v) pc ls st h = some o) (ho2 : rx_dis o (fun pc' ls' st' h' => rx_P l dC dI dA b bs L xs mi pc' ls' st' h' Q) (rx_Cg (rx_P l dC dI dA b bs L xs)) Q ls h) : rx_P l dC dI dA b bs L xs mi pc ls st h Q := by
  have h1 : (decide (nx = pc + 1) && decide ((j : Nat) = a)) = true := hsh
  simp only [Bool.and_eq_true, decide_eq_true_eq] at h1
  obtain ⟨rfl, e2⟩ := h1
  obtain ⟨w, h2, rfl⟩ := rx_load_inv ho1
  obtain ⟨y, h3, rfl⟩ := rx_ld3 h2
  refine rx_P_st (fun p e R s m args below meth c H locs lsA cells slots Z hF hD hW => ?_) ho2
  have h4 := hD.2.2.2.2.2.2 a _ h3 (by simp)
  exact lv_lload_n hF.1 hF.2.1 (rx_dec hdec rfl) e2 h4 hW
theorem rx_s_lload {mi pc : Nat} {ls st : List Value} {h : rx_H} {Q : Option Value → rx_H → Prop} {nx a b' k : Nat} {v : Value} {o : rx_O} {j : Nat} (hm : mi < 173) (hdec : decode (rx_cc mi) pc = .ok (.lload j, nx - pc)) (hsh : rx_shape mi pc (.lload j, nx, a, b', k, v) = true) (hneed : ∀ w ∈ rx_need mi (.lload j, nx, a, b', k, v), w ∈ rx_g)
    (ho1 : rx_res rx_cn (.lload j, nx, a, b', k, v) pc ls st h = some o) (ho2 : rx_dis o (fun pc' ls' st' h' => rx_P l dC dI dA b bs L xs mi pc' ls' st' h' Q) (rx_Cg (rx_P l dC dI dA b bs L xs)) Q ls h) : rx_P l dC dI dA b bs L xs mi pc ls st h Q := by
  have h1 : (decide (nx = pc + 2) && decide (j = a)) = true := hsh
  simp only [Bool.and_eq_true, decide_eq_true_eq] at h1
  obtain ⟨rfl, e2⟩ := h1
  obtain ⟨w, h2, rfl⟩ := rx_load_inv ho1
  obtain ⟨y, h3, rfl⟩ := rx_ld3 h2
  refine rx_P_st (fun p e R s m args below meth c H locs lsA cells slots Z hF hD hW => ?_) ho2
  have h4 := hD.2.2.2.2.2.2 a _ h3 (by simp)
  subst e2
  exact lv_lload hF.1 hF.2.1 (rx_dec hdec rfl) h4 hW
theorem rx_s_istore_n {mi pc : Nat} {ls st : List Value} {h : rx_H} {Q : Option Value → rx_H → Prop} {nx a b' k : Nat} {v : Value} {o : rx_O} {j : Fin 4} (hm : mi < 173) (hdec : decode (rx_cc mi) pc = .ok (.istore_n j, nx - pc)) (hsh : rx_shape mi pc (.istore_n j, nx, a, b', k, v) = true) (hneed : ∀ w ∈ rx_need mi (.istore_n j, nx, a, b', k, v), w ∈ rx_g)
    (ho1 : rx_res rx_cn (.istore_n j, nx, a, b', k, v) pc ls st h = some o) (ho2 : rx_dis o (fun pc' ls' st' h' => rx_P l dC dI dA b bs L xs mi pc' ls' st' h' Q) (rx_Cg (rx_P l dC dI dA b bs L xs)) Q ls h) : rx_P l dC dI dA b bs L xs mi pc ls st h Q := by
  have h1 : (decide (nx = pc + 1) && decide ((j : Nat) = a)) = true := hsh
  simp only [Bool.and_eq_true, decide_eq_true_eq] at h1
  obtain ⟨rfl, e2⟩ := h1
  obtain ⟨w, w', r, rfl, h2, h3, h4, rfl⟩ := rx_store_inv ho1
  obtain ⟨y, h5, rfl⟩ := rx_ld0 h2
  cases h5
  refine rx_P_ls (fun p e R s m args below meth c H locs lsA cells slots Z hF hD hW => ?_) ho2
  exact lv_istore_n hF.1 hF.2.1 (rx_dec hdec rfl) e2 (rx_LS_has hD.2.2.2) (by rw [← hD.2.2.2.2.2.1]; exact h3) rfl (fun lsA1 h6 => hW lsA1 (rx_LS_set hD.2.2.2 h4 h6))
theorem rx_s_istore {mi pc : Nat} {ls st : List Value} {h : rx_H} {Q : Option Value → rx_H → Prop} {nx a b' k : Nat} {v : Value} {o : rx_O} {j : Nat} (hm : mi < 173) (hdec : decode (rx_cc mi) pc = .ok (.istore j, nx - pc)) (hsh : rx_shape mi pc (.istore j, nx, a, b', k, v) = true) (hneed : ∀ w ∈ rx_need mi (.istore j, nx, a, b', k, v), w ∈ rx_g)
    (ho1 : rx_res rx_cn (.istore j, nx, a, b', k, v) pc ls st h = some o) (ho2 : rx_dis o (fun pc' ls' st' h' => rx_P l dC dI dA b bs L xs mi pc' ls' st' h' Q) (rx_Cg (rx_P l dC dI dA b bs L xs)) Q ls h) : rx_P l dC dI dA b bs L xs mi pc ls st h Q := by
  have h1 : (decide (nx = pc + 2) && decide (j = a)) = true := hsh
  simp only [Bool.and_eq_true, decide_eq_true_eq] at h1
  obtain ⟨rfl, e2⟩ := h1
  obtain ⟨w, w', r, rfl, h2, h3, h4, rfl⟩ := rx_store_inv ho1
  obtain ⟨y, h5, rfl⟩ := rx_ld0 h2
  cases h5
  refine rx_P_ls (fun p e R s m args below meth c H locs lsA cells slots Z hF hD hW => ?_) ho2
  subst e2
  exact lv_istore hF.1 hF.2.1 (rx_dec hdec rfl) (rx_LS_has hD.2.2.2) (by rw [← hD.2.2.2.2.2.1]; exact h3) rfl (fun lsA1 h6 => hW lsA1 (rx_LS_set hD.2.2.2 h4 h6))
theorem rx_s_astore_n {mi pc : Nat} {ls st : List Value} {h : rx_H} {Q : Option Value → rx_H → Prop} {nx a b' k : Nat} {v : Value} {o : rx_O} {j : Fin 4} (hm : mi < 173) (hdec : decode (rx_cc mi) pc = .ok (.astore_n j, nx - pc)) (hsh : rx_shape mi pc (.astore_n j, nx, a, b', k, v) = true) (hneed : ∀ w ∈ rx_need mi (.astore_n j, nx, a, b', k, v), w ∈ rx_g)
    (ho1 : rx_res rx_cn (.astore_n j, nx, a, b', k, v) pc ls st h = some o) (ho2 : rx_dis o (fun pc' ls' st' h' => rx_P l dC dI dA b bs L xs mi pc' ls' st' h' Q) (rx_Cg (rx_P l dC dI dA b bs L xs)) Q ls h) : rx_P l dC dI dA b bs L xs mi pc ls st h Q := by
  have h1 : (decide (nx = pc + 1) && decide ((j : Nat) = a)) = true := hsh
  simp only [Bool.and_eq_true, decide_eq_true_eq] at h1
  obtain ⟨rfl, e2⟩ := h1
  obtain ⟨w, w', r, rfl, h2, h3, h4, rfl⟩ := rx_store_inv ho1
  obtain ⟨y, h5, rfl⟩ := rx_ld2 h2
  cases h5
  refine rx_P_ls (fun p e R s m args below meth c H locs lsA cells slots Z hF hD hW => ?_) ho2
  exact lv_astore_n hF.1 hF.2.1 (rx_dec hdec rfl) e2 (rx_LS_has hD.2.2.2) (by rw [← hD.2.2.2.2.2.1]; exact h3) rfl (fun lsA1 h6 => hW lsA1 (rx_LS_set hD.2.2.2 h4 h6))
theorem rx_s_astore {mi pc : Nat} {ls st : List Value} {h : rx_H} {Q : Option Value → rx_H → Prop} {nx a b' k : Nat} {v : Value} {o : rx_O} {j : Nat} (hm : mi < 173) (hdec : decode (rx_cc mi) pc = .ok (.astore j, nx - pc)) (hsh : rx_shape mi pc (.astore j, nx, a, b', k, v) = true) (hneed : ∀ w ∈ rx_need mi (.astore j, nx, a, b', k, v), w ∈ rx_g)
    (ho1 : rx_res rx_cn (.astore j, nx, a, b', k, v) pc ls st h = some o) (ho2 : rx_dis o (fun pc' ls' st' h' => rx_P l dC dI dA b bs L xs mi pc' ls' st' h' Q) (rx_Cg (rx_P l dC dI dA b bs L xs)) Q ls h) : rx_P l dC dI dA b bs L xs mi pc ls st h Q := by
  have h1 : (decide (nx = pc + 2) && decide (j = a)) = true := hsh
  simp only [Bool.and_eq_true, decide_eq_true_eq] at h1
  obtain ⟨rfl, e2⟩ := h1
  obtain ⟨w, w', r, rfl, h2, h3, h4, rfl⟩ := rx_store_inv ho1
  obtain ⟨y, h5, rfl⟩ := rx_ld2 h2
  cases h5
  refine rx_P_ls (fun p e R s m args below meth c H locs lsA cells slots Z hF hD hW => ?_) ho2
  subst e2
  exact lv_astore hF.1 hF.2.1 (rx_dec hdec rfl) (rx_LS_has hD.2.2.2) (by rw [← hD.2.2.2.2.2.1]; exact h3) rfl (fun lsA1 h6 => hW lsA1 (rx_LS_set hD.2.2.2 h4 h6))
theorem rx_s_lstore_n {mi pc : Nat} {ls st : List Value} {h : rx_H} {Q : Option Value → rx_H → Prop} {nx a b' k : Nat} {v : Value} {o : rx_O} {j : Fin 4} (hm : mi < 173) (hdec : decode (rx_cc mi) pc = .ok (.lstore_n j, nx - pc)) (hsh : rx_shape mi pc (.lstore_n j, nx, a, b', k, v) = true) (hneed : ∀ w ∈ rx_need mi (.lstore_n j, nx, a, b', k, v), w ∈ rx_g)
    (ho1 : rx_res rx_cn (.lstore_n j, nx, a, b', k, v) pc ls st h = some o) (ho2 : rx_dis o (fun pc' ls' st' h' => rx_P l dC dI dA b bs L xs mi pc' ls' st' h' Q) (rx_Cg (rx_P l dC dI dA b bs L xs)) Q ls h) : rx_P l dC dI dA b bs L xs mi pc ls st h Q := by
  have h1 : (decide (nx = pc + 1) && decide ((j : Nat) = a)) = true := hsh
  simp only [Bool.and_eq_true, decide_eq_true_eq] at h1
  obtain ⟨rfl, e2⟩ := h1
  obtain ⟨y, r, rfl, h3, h4, rfl⟩ := rx_lstore_inv ho1
  refine rx_P_ls (fun p e R s m args below meth c H locs lsA cells slots Z hF hD hW => ?_) ho2
  exact lv_lstore_n hF.1 hF.2.1 (rx_dec hdec rfl) e2 (rx_LS_has hD.2.2.2) (by rw [← hD.2.2.2.2.2.1]; exact h3) rfl (fun lsA1 h6 => hW lsA1 (rx_LS_set2 hD.2.2.2 h4 h6))
theorem rx_s_lstore {mi pc : Nat} {ls st : List Value} {h : rx_H} {Q : Option Value → rx_H → Prop} {nx a b' k : Nat} {v : Value} {o : rx_O} {j : Nat} (hm : mi < 173) (hdec : decode (rx_cc mi) pc = .ok (.lstore j, nx - pc)) (hsh : rx_shape mi pc (.lstore j, nx, a, b', k, v) = true) (hneed : ∀ w ∈ rx_need mi (.lstore j, nx, a, b', k, v), w ∈ rx_g)
    (ho1 : rx_res rx_cn (.lstore j, nx, a, b', k, v) pc ls st h = some o) (ho2 : rx_dis o (fun pc' ls' st' h' => rx_P l dC dI dA b bs L xs mi pc' ls' st' h' Q) (rx_Cg (rx_P l dC dI dA b bs L xs)) Q ls h) : rx_P l dC dI dA b bs L xs mi pc ls st h Q := by
  have h1 : (decide (nx = pc + 2) && decide (j = a)) = true := hsh
  simp only [Bool.and_eq_true, decide_eq_true_eq] at h1
  obtain ⟨rfl, e2⟩ := h1
  obtain ⟨y, r, rfl, h3, h4, rfl⟩ := rx_lstore_inv ho1
  refine rx_P_ls (fun p e R s m args below meth c H locs lsA cells slots Z hF hD hW => ?_) ho2
  subst e2
  exact lv_lstore hF.1 hF.2.1 (rx_dec hdec rfl) (rx_LS_has hD.2.2.2) (by rw [← hD.2.2.2.2.2.1]; exact h3) rfl (fun lsA1 h6 => hW lsA1 (rx_LS_set2 hD.2.2.2 h4 h6))
theorem rx_s_iinc {mi pc : Nat} {ls st : List Value} {h : rx_H} {Q : Option Value → rx_H → Prop} {nx a b' k : Nat} {v : Value} {o : rx_O} {j : Nat} {n : Int} (hm : mi < 173) (hdec : decode (rx_cc mi) pc = .ok (.iinc j n, nx - pc)) (hsh : rx_shape mi pc (.iinc j n, nx, a, b', k, v) = true) (hneed : ∀ w ∈ rx_need mi (.iinc j n, nx, a, b', k, v), w ∈ rx_g)
    (ho1 : rx_res rx_cn (.iinc j n, nx, a, b', k, v) pc ls st h = some o) (ho2 : rx_dis o (fun pc' ls' st' h' => rx_P l dC dI dA b bs L xs mi pc' ls' st' h' Q) (rx_Cg (rx_P l dC dI dA b bs L xs)) Q ls h) : rx_P l dC dI dA b bs L xs mi pc ls st h Q := by
  have h1 : (decide (nx = pc + 3) && decide (j = a) && decide (v = .int (Int32.ofInt n))) = true := hsh
  simp only [Bool.and_eq_true, decide_eq_true_eq] at h1
  obtain ⟨⟨rfl, rfl⟩, rfl⟩ := h1
  have e : rx_iinc j (pc + 3) (Int32.ofInt n) ls st h = some o := ho1
  obtain ⟨y, h3, h4, rfl⟩ := rx_iinc_inv e
  refine rx_P_ls (fun p e R s m args below meth c H locs lsA cells slots Z hF hD hW => ?_) ho2
  obtain ⟨q, hq⟩ := List.getElem?_of_mem (rx_pr_mem (b := b) (bs := bs) h3 (by simp))
  exact lv_iinc hF.1 hF.2.1 (rx_dec hdec rfl) (rx_LS_has hD.2.2.2) hq rfl (by rw [← hD.2.2.2.2.2.1]; exact (List.getElem?_eq_some_iff.mp h3).1) rfl (fun lsA1 h6 => hW lsA1 (rx_LS_set (v := .int (y + Int32.ofInt n)) hD.2.2.2 h4 h6))
theorem rx_s_iadd {mi pc : Nat} {ls st : List Value} {h : rx_H} {Q : Option Value → rx_H → Prop} {nx a b' k : Nat} {v : Value} {o : rx_O} (hm : mi < 173) (hdec : decode (rx_cc mi) pc = .ok (.iadd, nx - pc)) (hsh : rx_shape mi pc (.iadd, nx, a, b', k, v) = true) (hneed : ∀ w ∈ rx_need mi (.iadd, nx, a, b', k, v), w ∈ rx_g)
    (ho1 : rx_res rx_cn (.iadd, nx, a, b', k, v) pc ls st h = some o) (ho2 : rx_dis o (fun pc' ls' st' h' => rx_P l dC dI dA b bs L xs mi pc' ls' st' h' Q) (rx_Cg (rx_P l dC dI dA b bs L xs)) Q ls h) : rx_P l dC dI dA b bs L xs mi pc ls st h Q := by
  have h1 : decide (nx = pc + 1) = true := hsh
  simp only [decide_eq_true_eq] at h1
  subst h1
  obtain ⟨x, y, r, rfl, rfl⟩ := rx_b2_inv ho1
  exact rx_P_st (fun p e R s m args below meth c H locs lsA cells slots Z hF hD hW => lv_iadd hF.1 hF.2.1 (rx_dec hdec rfl) hW) ho2
theorem rx_s_isub {mi pc : Nat} {ls st : List Value} {h : rx_H} {Q : Option Value → rx_H → Prop} {nx a b' k : Nat} {v : Value} {o : rx_O} (hm : mi < 173) (hdec : decode (rx_cc mi) pc = .ok (.isub, nx - pc)) (hsh : rx_shape mi pc (.isub, nx, a, b', k, v) = true) (hneed : ∀ w ∈ rx_need mi (.isub, nx, a, b', k, v), w ∈ rx_g)
    (ho1 : rx_res rx_cn (.isub, nx, a, b', k, v) pc ls st h = some o) (ho2 : rx_dis o (fun pc' ls' st' h' => rx_P l dC dI dA b bs L xs mi pc' ls' st' h' Q) (rx_Cg (rx_P l dC dI dA b bs L xs)) Q ls h) : rx_P l dC dI dA b bs L xs mi pc ls st h Q := by
  have h1 : decide (nx = pc + 1) = true := hsh
  simp only [decide_eq_true_eq] at h1
  subst h1
  obtain ⟨x, y, r, rfl, rfl⟩ := rx_b2_inv ho1
  exact rx_P_st (fun p e R s m args below meth c H locs lsA cells slots Z hF hD hW => lv_isub hF.1 hF.2.1 (rx_dec hdec rfl) hW) ho2
theorem rx_s_imul {mi pc : Nat} {ls st : List Value} {h : rx_H} {Q : Option Value → rx_H → Prop} {nx a b' k : Nat} {v : Value} {o : rx_O} (hm : mi < 173) (hdec : decode (rx_cc mi) pc = .ok (.imul, nx - pc)) (hsh : rx_shape mi pc (.imul, nx, a, b', k, v) = true) (hneed : ∀ w ∈ rx_need mi (.imul, nx, a, b', k, v), w ∈ rx_g)
    (ho1 : rx_res rx_cn (.imul, nx, a, b', k, v) pc ls st h = some o) (ho2 : rx_dis o (fun pc' ls' st' h' => rx_P l dC dI dA b bs L xs mi pc' ls' st' h' Q) (rx_Cg (rx_P l dC dI dA b bs L xs)) Q ls h) : rx_P l dC dI dA b bs L xs mi pc ls st h Q := by
  have h1 : decide (nx = pc + 1) = true := hsh
  simp only [decide_eq_true_eq] at h1
  subst h1
  obtain ⟨x, y, r, rfl, rfl⟩ := rx_b2_inv ho1
  exact rx_P_st (fun p e R s m args below meth c H locs lsA cells slots Z hF hD hW => lv_imul hF.1 hF.2.1 (rx_dec hdec rfl) hW) ho2
theorem rx_s_iand {mi pc : Nat} {ls st : List Value} {h : rx_H} {Q : Option Value → rx_H → Prop} {nx a b' k : Nat} {v : Value} {o : rx_O} (hm : mi < 173) (hdec : decode (rx_cc mi) pc = .ok (.iand, nx - pc)) (hsh : rx_shape mi pc (.iand, nx, a, b', k, v) = true) (hneed : ∀ w ∈ rx_need mi (.iand, nx, a, b', k, v), w ∈ rx_g)
    (ho1 : rx_res rx_cn (.iand, nx, a, b', k, v) pc ls st h = some o) (ho2 : rx_dis o (fun pc' ls' st' h' => rx_P l dC dI dA b bs L xs mi pc' ls' st' h' Q) (rx_Cg (rx_P l dC dI dA b bs L xs)) Q ls h) : rx_P l dC dI dA b bs L xs mi pc ls st h Q := by
  have h1 : decide (nx = pc + 1) = true := hsh
  simp only [decide_eq_true_eq] at h1
  subst h1
  obtain ⟨x, y, r, rfl, rfl⟩ := rx_b2_inv ho1
  exact rx_P_st (fun p e R s m args below meth c H locs lsA cells slots Z hF hD hW => lv_iand hF.1 hF.2.1 (rx_dec hdec rfl) hW) ho2
theorem rx_s_ior {mi pc : Nat} {ls st : List Value} {h : rx_H} {Q : Option Value → rx_H → Prop} {nx a b' k : Nat} {v : Value} {o : rx_O} (hm : mi < 173) (hdec : decode (rx_cc mi) pc = .ok (.ior, nx - pc)) (hsh : rx_shape mi pc (.ior, nx, a, b', k, v) = true) (hneed : ∀ w ∈ rx_need mi (.ior, nx, a, b', k, v), w ∈ rx_g)
    (ho1 : rx_res rx_cn (.ior, nx, a, b', k, v) pc ls st h = some o) (ho2 : rx_dis o (fun pc' ls' st' h' => rx_P l dC dI dA b bs L xs mi pc' ls' st' h' Q) (rx_Cg (rx_P l dC dI dA b bs L xs)) Q ls h) : rx_P l dC dI dA b bs L xs mi pc ls st h Q := by
  have h1 : decide (nx = pc + 1) = true := hsh
  simp only [decide_eq_true_eq] at h1
  subst h1
  obtain ⟨x, y, r, rfl, rfl⟩ := rx_b2_inv ho1
  exact rx_P_st (fun p e R s m args below meth c H locs lsA cells slots Z hF hD hW => lv_ior hF.1 hF.2.1 (rx_dec hdec rfl) hW) ho2
theorem rx_s_ixor {mi pc : Nat} {ls st : List Value} {h : rx_H} {Q : Option Value → rx_H → Prop} {nx a b' k : Nat} {v : Value} {o : rx_O} (hm : mi < 173) (hdec : decode (rx_cc mi) pc = .ok (.ixor, nx - pc)) (hsh : rx_shape mi pc (.ixor, nx, a, b', k, v) = true) (hneed : ∀ w ∈ rx_need mi (.ixor, nx, a, b', k, v), w ∈ rx_g)
    (ho1 : rx_res rx_cn (.ixor, nx, a, b', k, v) pc ls st h = some o) (ho2 : rx_dis o (fun pc' ls' st' h' => rx_P l dC dI dA b bs L xs mi pc' ls' st' h' Q) (rx_Cg (rx_P l dC dI dA b bs L xs)) Q ls h) : rx_P l dC dI dA b bs L xs mi pc ls st h Q := by
  have h1 : decide (nx = pc + 1) = true := hsh
  simp only [decide_eq_true_eq] at h1
  subst h1
  obtain ⟨x, y, r, rfl, rfl⟩ := rx_b2_inv ho1
  exact rx_P_st (fun p e R s m args below meth c H locs lsA cells slots Z hF hD hW => lv_ixor hF.1 hF.2.1 (rx_dec hdec rfl) hW) ho2
theorem rx_s_ishl {mi pc : Nat} {ls st : List Value} {h : rx_H} {Q : Option Value → rx_H → Prop} {nx a b' k : Nat} {v : Value} {o : rx_O} (hm : mi < 173) (hdec : decode (rx_cc mi) pc = .ok (.ishl, nx - pc)) (hsh : rx_shape mi pc (.ishl, nx, a, b', k, v) = true) (hneed : ∀ w ∈ rx_need mi (.ishl, nx, a, b', k, v), w ∈ rx_g)
    (ho1 : rx_res rx_cn (.ishl, nx, a, b', k, v) pc ls st h = some o) (ho2 : rx_dis o (fun pc' ls' st' h' => rx_P l dC dI dA b bs L xs mi pc' ls' st' h' Q) (rx_Cg (rx_P l dC dI dA b bs L xs)) Q ls h) : rx_P l dC dI dA b bs L xs mi pc ls st h Q := by
  have h1 : decide (nx = pc + 1) = true := hsh
  simp only [decide_eq_true_eq] at h1
  subst h1
  obtain ⟨x, y, r, rfl, rfl⟩ := rx_b2_inv ho1
  exact rx_P_st (fun p e R s m args below meth c H locs lsA cells slots Z hF hD hW => lv_ishl hF.1 hF.2.1 (rx_dec hdec rfl) hW) ho2
theorem rx_s_ishr {mi pc : Nat} {ls st : List Value} {h : rx_H} {Q : Option Value → rx_H → Prop} {nx a b' k : Nat} {v : Value} {o : rx_O} (hm : mi < 173) (hdec : decode (rx_cc mi) pc = .ok (.ishr, nx - pc)) (hsh : rx_shape mi pc (.ishr, nx, a, b', k, v) = true) (hneed : ∀ w ∈ rx_need mi (.ishr, nx, a, b', k, v), w ∈ rx_g)
    (ho1 : rx_res rx_cn (.ishr, nx, a, b', k, v) pc ls st h = some o) (ho2 : rx_dis o (fun pc' ls' st' h' => rx_P l dC dI dA b bs L xs mi pc' ls' st' h' Q) (rx_Cg (rx_P l dC dI dA b bs L xs)) Q ls h) : rx_P l dC dI dA b bs L xs mi pc ls st h Q := by
  have h1 : decide (nx = pc + 1) = true := hsh
  simp only [decide_eq_true_eq] at h1
  subst h1
  obtain ⟨x, y, r, rfl, rfl⟩ := rx_b2_inv ho1
  exact rx_P_st (fun p e R s m args below meth c H locs lsA cells slots Z hF hD hW => lv_ishr hF.1 hF.2.1 (rx_dec hdec rfl) hW) ho2
theorem rx_s_iushr {mi pc : Nat} {ls st : List Value} {h : rx_H} {Q : Option Value → rx_H → Prop} {nx a b' k : Nat} {v : Value} {o : rx_O} (hm : mi < 173) (hdec : decode (rx_cc mi) pc = .ok (.iushr, nx - pc)) (hsh : rx_shape mi pc (.iushr, nx, a, b', k, v) = true) (hneed : ∀ w ∈ rx_need mi (.iushr, nx, a, b', k, v), w ∈ rx_g)
    (ho1 : rx_res rx_cn (.iushr, nx, a, b', k, v) pc ls st h = some o) (ho2 : rx_dis o (fun pc' ls' st' h' => rx_P l dC dI dA b bs L xs mi pc' ls' st' h' Q) (rx_Cg (rx_P l dC dI dA b bs L xs)) Q ls h) : rx_P l dC dI dA b bs L xs mi pc ls st h Q := by
  have h1 : decide (nx = pc + 1) = true := hsh
  simp only [decide_eq_true_eq] at h1
  subst h1
  obtain ⟨x, y, r, rfl, rfl⟩ := rx_b2_inv ho1
  exact rx_P_st (fun p e R s m args below meth c H locs lsA cells slots Z hF hD hW => lv_iushr hF.1 hF.2.1 (rx_dec hdec rfl) rfl hW) ho2
theorem rx_s_idiv {mi pc : Nat} {ls st : List Value} {h : rx_H} {Q : Option Value → rx_H → Prop} {nx a b' k : Nat} {v : Value} {o : rx_O} (hm : mi < 173) (hdec : decode (rx_cc mi) pc = .ok (.idiv, nx - pc)) (hsh : rx_shape mi pc (.idiv, nx, a, b', k, v) = true) (hneed : ∀ w ∈ rx_need mi (.idiv, nx, a, b', k, v), w ∈ rx_g)
    (ho1 : rx_res rx_cn (.idiv, nx, a, b', k, v) pc ls st h = some o) (ho2 : rx_dis o (fun pc' ls' st' h' => rx_P l dC dI dA b bs L xs mi pc' ls' st' h' Q) (rx_Cg (rx_P l dC dI dA b bs L xs)) Q ls h) : rx_P l dC dI dA b bs L xs mi pc ls st h Q := by
  have h1 : decide (nx = pc + 1) = true := hsh
  simp only [decide_eq_true_eq] at h1
  subst h1
  obtain ⟨x, y, r, rfl, hy, rfl⟩ := rx_b2z_inv ho1
  exact rx_P_st (fun p e R s m args below meth c H locs lsA cells slots Z hF hD hW => lv_idiv hF.1 hF.2.1 (rx_dec hdec rfl) hy hW) ho2
theorem rx_s_irem {mi pc : Nat} {ls st : List Value} {h : rx_H} {Q : Option Value → rx_H → Prop} {nx a b' k : Nat} {v : Value} {o : rx_O} (hm : mi < 173) (hdec : decode (rx_cc mi) pc = .ok (.irem, nx - pc)) (hsh : rx_shape mi pc (.irem, nx, a, b', k, v) = true) (hneed : ∀ w ∈ rx_need mi (.irem, nx, a, b', k, v), w ∈ rx_g)
    (ho1 : rx_res rx_cn (.irem, nx, a, b', k, v) pc ls st h = some o) (ho2 : rx_dis o (fun pc' ls' st' h' => rx_P l dC dI dA b bs L xs mi pc' ls' st' h' Q) (rx_Cg (rx_P l dC dI dA b bs L xs)) Q ls h) : rx_P l dC dI dA b bs L xs mi pc ls st h Q := by
  have h1 : decide (nx = pc + 1) = true := hsh
  simp only [decide_eq_true_eq] at h1
  subst h1
  obtain ⟨x, y, r, rfl, hy, rfl⟩ := rx_b2z_inv ho1
  exact rx_P_st (fun p e R s m args below meth c H locs lsA cells slots Z hF hD hW => lv_irem hF.1 hF.2.1 (rx_dec hdec rfl) hy hW) ho2
theorem rx_s_ladd {mi pc : Nat} {ls st : List Value} {h : rx_H} {Q : Option Value → rx_H → Prop} {nx a b' k : Nat} {v : Value} {o : rx_O} (hm : mi < 173) (hdec : decode (rx_cc mi) pc = .ok (.ladd, nx - pc)) (hsh : rx_shape mi pc (.ladd, nx, a, b', k, v) = true) (hneed : ∀ w ∈ rx_need mi (.ladd, nx, a, b', k, v), w ∈ rx_g)
    (ho1 : rx_res rx_cn (.ladd, nx, a, b', k, v) pc ls st h = some o) (ho2 : rx_dis o (fun pc' ls' st' h' => rx_P l dC dI dA b bs L xs mi pc' ls' st' h' Q) (rx_Cg (rx_P l dC dI dA b bs L xs)) Q ls h) : rx_P l dC dI dA b bs L xs mi pc ls st h Q := by
  have h1 : decide (nx = pc + 1) = true := hsh
  simp only [decide_eq_true_eq] at h1
  subst h1
  obtain ⟨x, y, r, rfl, rfl⟩ := rx_l2_inv ho1
  exact rx_P_st (fun p e R s m args below meth c H locs lsA cells slots Z hF hD hW => lv_ladd hF.1 hF.2.1 (rx_dec hdec rfl) hW) ho2
theorem rx_s_lmul {mi pc : Nat} {ls st : List Value} {h : rx_H} {Q : Option Value → rx_H → Prop} {nx a b' k : Nat} {v : Value} {o : rx_O} (hm : mi < 173) (hdec : decode (rx_cc mi) pc = .ok (.lmul, nx - pc)) (hsh : rx_shape mi pc (.lmul, nx, a, b', k, v) = true) (hneed : ∀ w ∈ rx_need mi (.lmul, nx, a, b', k, v), w ∈ rx_g)
    (ho1 : rx_res rx_cn (.lmul, nx, a, b', k, v) pc ls st h = some o) (ho2 : rx_dis o (fun pc' ls' st' h' => rx_P l dC dI dA b bs L xs mi pc' ls' st' h' Q) (rx_Cg (rx_P l dC dI dA b bs L xs)) Q ls h) : rx_P l dC dI dA b bs L xs mi pc ls st h Q := by
  have h1 : decide (nx = pc + 1) = true := hsh
  simp only [decide_eq_true_eq] at h1
  subst h1
  obtain ⟨x, y, r, rfl, rfl⟩ := rx_l2_inv ho1
  exact rx_P_st (fun p e R s m args below meth c H locs lsA cells slots Z hF hD hW => lv_lmul hF.1 hF.2.1 (rx_dec hdec rfl) hW) ho2
theorem rx_s_ineg {mi pc : Nat} {ls st : List Value} {h : rx_H} {Q : Option Value → rx_H → Prop} {nx a b' k : Nat} {v : Value} {o : rx_O} (hm : mi < 173) (hdec : decode (rx_cc mi) pc = .ok (.ineg, nx - pc)) (hsh : rx_shape mi pc (.ineg, nx, a, b', k, v) = true) (hneed : ∀ w ∈ rx_need mi (.ineg, nx, a, b', k, v), w ∈ rx_g)
    (ho1 : rx_res rx_cn (.ineg, nx, a, b', k, v) pc ls st h = some o) (ho2 : rx_dis o (fun pc' ls' st' h' => rx_P l dC dI dA b bs L xs mi pc' ls' st' h' Q) (rx_Cg (rx_P l dC dI dA b bs L xs)) Q ls h) : rx_P l dC dI dA b bs L xs mi pc ls st h Q := by
  have h1 : decide (nx = pc + 1) = true := hsh
  simp only [decide_eq_true_eq] at h1
  subst h1
  have ho3 : (match (generalizing := false) st with
    | .int x :: r => some (.inl (pc + 1, ls, .int (-x) :: r, h))
    | _ => none : Option rx_O) = some o := ho1
  split at ho3
  · next x r =>
    cases ho3
    exact rx_P_st (fun p e R s m args below meth c H locs lsA cells slots Z hF hD hW => lv_ineg hF.1 hF.2.1 (rx_dec hdec rfl) hW) ho2
  · cases ho3
theorem rx_s_i2l {mi pc : Nat} {ls st : List Value} {h : rx_H} {Q : Option Value → rx_H → Prop} {nx a b' k : Nat} {v : Value} {o : rx_O} (hm : mi < 173) (hdec : decode (rx_cc mi) pc = .ok (.i2l, nx - pc)) (hsh : rx_shape mi pc (.i2l, nx, a, b', k, v) = true) (hneed : ∀ w ∈ rx_need mi (.i2l, nx, a, b', k, v), w ∈ rx_g)
    (ho1 : rx_res rx_cn (.i2l, nx, a, b', k, v) pc ls st h = some o) (ho2 : rx_dis o (fun pc' ls' st' h' => rx_P l dC dI dA b bs L xs mi pc' ls' st' h' Q) (rx_Cg (rx_P l dC dI dA b bs L xs)) Q ls h) : rx_P l dC dI dA b bs L xs mi pc ls st h Q := by
  have h1 : decide (nx = pc + 1) = true := hsh
  simp only [decide_eq_true_eq] at h1
  subst h1
  have ho3 : (match (generalizing := false) st with
    | .int x :: r => some (.inl (pc + 1, ls, .long x.toInt64 :: r, h))
    | _ => none : Option rx_O) = some o := ho1
  split at ho3
  · next x r =>
    cases ho3
    exact rx_P_st (fun p e R s m args below meth c H locs lsA cells slots Z hF hD hW => lv_i2l hF.1 hF.2.1 (rx_dec hdec rfl) rfl hW) ho2
  · cases ho3
theorem rx_s_i2b {mi pc : Nat} {ls st : List Value} {h : rx_H} {Q : Option Value → rx_H → Prop} {nx a b' k : Nat} {v : Value} {o : rx_O} (hm : mi < 173) (hdec : decode (rx_cc mi) pc = .ok (.i2b, nx - pc)) (hsh : rx_shape mi pc (.i2b, nx, a, b', k, v) = true) (hneed : ∀ w ∈ rx_need mi (.i2b, nx, a, b', k, v), w ∈ rx_g)
    (ho1 : rx_res rx_cn (.i2b, nx, a, b', k, v) pc ls st h = some o) (ho2 : rx_dis o (fun pc' ls' st' h' => rx_P l dC dI dA b bs L xs mi pc' ls' st' h' Q) (rx_Cg (rx_P l dC dI dA b bs L xs)) Q ls h) : rx_P l dC dI dA b bs L xs mi pc ls st h Q := by
  have h1 : decide (nx = pc + 1) = true := hsh
  simp only [decide_eq_true_eq] at h1
  subst h1
  have ho3 : (match (generalizing := false) st with
    | .int x :: r => some (.inl (pc + 1, ls, .int x.toInt8.toInt32 :: r, h))
    | _ => none : Option rx_O) = some o := ho1
  split at ho3
  · next x r =>
    cases ho3
    exact rx_P_st (fun p e R s m args below meth c H locs lsA cells slots Z hF hD hW => lv_i2b hF.1 hF.2.1 (rx_dec hdec rfl) rfl hW) ho2
  · cases ho3
theorem rx_s_lcmp {mi pc : Nat} {ls st : List Value} {h : rx_H} {Q : Option Value → rx_H → Prop} {nx a b' k : Nat} {v : Value} {o : rx_O} (hm : mi < 173) (hdec : decode (rx_cc mi) pc = .ok (.lcmp, nx - pc)) (hsh : rx_shape mi pc (.lcmp, nx, a, b', k, v) = true) (hneed : ∀ w ∈ rx_need mi (.lcmp, nx, a, b', k, v), w ∈ rx_g)
    (ho1 : rx_res rx_cn (.lcmp, nx, a, b', k, v) pc ls st h = some o) (ho2 : rx_dis o (fun pc' ls' st' h' => rx_P l dC dI dA b bs L xs mi pc' ls' st' h' Q) (rx_Cg (rx_P l dC dI dA b bs L xs)) Q ls h) : rx_P l dC dI dA b bs L xs mi pc ls st h Q := by
  have h1 : decide (nx = pc + 1) = true := hsh
  simp only [decide_eq_true_eq] at h1
  subst h1
  have ho3 : (match (generalizing := false) st with
    | .long y :: .long x :: r => some (.inl (pc + 1, ls, .int (lg_cmp x y) :: r, h))
    | _ => none : Option rx_O) = some o := ho1
  split at ho3
  · next y x r =>
    cases ho3
    exact rx_P_st (fun p e R s m args below meth c H locs lsA cells slots Z hF hD hW => W.lcmp hF.1 hF.2.1 (rx_dec hdec rfl) hW) ho2
  · cases ho3
theorem rx_s_dup {mi pc : Nat} {ls st : List Value} {h : rx_H} {Q : Option Value → rx_H → Prop} {nx a b' k : Nat} {v : Value} {o : rx_O} (hm : mi < 173) (hdec : decode (rx_cc mi) pc = .ok (.dup, nx - pc)) (hsh : rx_shape mi pc (.dup, nx, a, b', k, v) = true) (hneed : ∀ w ∈ rx_need mi (.dup, nx, a, b', k, v), w ∈ rx_g)
    (ho1 : rx_res rx_cn (.dup, nx, a, b', k, v) pc ls st h = some o) (ho2 : rx_dis o (fun pc' ls' st' h' => rx_P l dC dI dA b bs L xs mi pc' ls' st' h' Q) (rx_Cg (rx_P l dC dI dA b bs L xs)) Q ls h) : rx_P l dC dI dA b bs L xs mi pc ls st h Q := by
  have h1 : decide (nx = pc + 1) = true := hsh
  simp only [decide_eq_true_eq] at h1
  subst h1
  have ho3 : (match (generalizing := false) st with
    | .int x :: r => some (.inl (pc + 1, ls, .int x :: .int x :: r, h))
    | .ref x :: r => some (.inl (pc + 1, ls, .ref x :: .ref x :: r, h))
    | _ => none : Option rx_O) = some o := ho1
  split at ho3
  · next x r =>
    cases ho3
    exact rx_P_st (fun p e R s m args below meth c H locs lsA cells slots Z hF hD hW => lv_dup (va := .int x) hF.1 hF.2.1 (rx_dec hdec rfl) rfl hW) ho2
  · next x r =>
    cases ho3
    exact rx_P_st (fun p e R s m args below meth c H locs lsA cells slots Z hF hD hW => lv_dup (va := .ref (rx_ta b bs x)) hF.1 hF.2.1 (rx_dec hdec rfl) rfl hW) ho2
  · cases ho3
theorem rx_s_pop {mi pc : Nat} {ls st : List Value} {h : rx_H} {Q : Option Value → rx_H → Prop} {nx a b' k : Nat} {v : Value} {o : rx_O} (hm : mi < 173) (hdec : decode (rx_cc mi) pc = .ok (.pop, nx - pc)) (hsh : rx_shape mi pc (.pop, nx, a, b', k, v) = true) (hneed : ∀ w ∈ rx_need mi (.pop, nx, a, b', k, v), w ∈ rx_g)
    (ho1 : rx_res rx_cn (.pop, nx, a, b', k, v) pc ls st h = some o) (ho2 : rx_dis o (fun pc' ls' st' h' => rx_P l dC dI dA b bs L xs mi pc' ls' st' h' Q) (rx_Cg (rx_P l dC dI dA b bs L xs)) Q ls h) : rx_P l dC dI dA b bs L xs mi pc ls st h Q := by
  have h1 : decide (nx = pc + 1) = true := hsh
  simp only [decide_eq_true_eq] at h1
  subst h1
  have ho3 : (match (generalizing := false) st with
    | .int _ :: r => some (.inl (pc + 1, ls, r, h))
    | _ => none : Option rx_O) = some o := ho1
  split at ho3
  · next x r =>
    cases ho3
    exact rx_P_st (fun p e R s m args below meth c H locs lsA cells slots Z hF hD hW => lv_pop (va := .int x) hF.1 hF.2.1 (rx_dec hdec rfl) rfl hW) ho2
  · cases ho3
theorem rx_s_dup2 {mi pc : Nat} {ls st : List Value} {h : rx_H} {Q : Option Value → rx_H → Prop} {nx a b' k : Nat} {v : Value} {o : rx_O} (hm : mi < 173) (hdec : decode (rx_cc mi) pc = .ok (.dup2, nx - pc)) (hsh : rx_shape mi pc (.dup2, nx, a, b', k, v) = true) (hneed : ∀ w ∈ rx_need mi (.dup2, nx, a, b', k, v), w ∈ rx_g)
    (ho1 : rx_res rx_cn (.dup2, nx, a, b', k, v) pc ls st h = some o) (ho2 : rx_dis o (fun pc' ls' st' h' => rx_P l dC dI dA b bs L xs mi pc' ls' st' h' Q) (rx_Cg (rx_P l dC dI dA b bs L xs)) Q ls h) : rx_P l dC dI dA b bs L xs mi pc ls st h Q := by
  have h1 : decide (nx = pc + 1) = true := hsh
  simp only [decide_eq_true_eq] at h1
  subst h1
  have ho3 : (match (generalizing := false) st with
    | .int x :: .ref y :: r => some (.inl (pc + 1, ls, .int x :: .ref y :: .int x :: .ref y :: r, h))
    | _ => none : Option rx_O) = some o := ho1
  split at ho3
  · next x y r =>
    cases ho3
    exact rx_P_st (fun p e R s m args below meth c H locs lsA cells slots Z hF hD hW => lv_dup2_11 (va := .int x) (vb := .ref (rx_ta b bs y)) hF.1 hF.2.1 (rx_dec hdec rfl) rfl rfl hW) ho2
  · cases ho3
theorem rx_s_goto {mi pc : Nat} {ls st : List Value} {h : rx_H} {Q : Option Value → rx_H → Prop} {nx a b' k : Nat} {v : Value} {o : rx_O} {off : Int} (hx : rx_xs pc (.goto off, nx, a, b', k, v) = true) (hm : mi < 173) (hdec : decode (rx_cc mi) pc = .ok (.goto off, nx - pc)) (hsh : rx_shape mi pc (.goto off, nx, a, b', k, v) = true) (hneed : ∀ w ∈ rx_need mi (.goto off, nx, a, b', k, v), w ∈ rx_g)
    (ho1 : rx_res rx_cn (.goto off, nx, a, b', k, v) pc ls st h = some o) (ho2 : rx_dis o (fun pc' ls' st' h' => rx_P l dC dI dA b bs L xs mi pc' ls' st' h' Q) (rx_Cg (rx_P l dC dI dA b bs L xs)) Q ls h) : rx_P l dC dI dA b bs L xs mi pc ls st h Q := by
  have h1 : decide ((pc : Int) + off = (a : Int)) = true := hsh
  simp only [decide_eq_true_eq] at h1
  have h2 : decide (nx = pc + 3) = true := hx
  simp only [decide_eq_true_eq] at h2
  subst h2
  cases ho1
  exact rx_P_st (fun p e R s m args below meth c H locs lsA cells slots Z hF hD hW => lv_goto hF.1 hF.2.1 (rx_dec hdec rfl) h1 hW) ho2
theorem rx_s_ifCond {mi pc : Nat} {ls st : List Value} {h : rx_H} {Q : Option Value → rx_H → Prop} {nx a b' k : Nat} {v : Value} {o : rx_O} {cd : Jvm.ClassFile.Cond} {off : Int} (hm : mi < 173) (hdec : decode (rx_cc mi) pc = .ok (.ifCond cd off, nx - pc)) (hsh : rx_shape mi pc (.ifCond cd off, nx, a, b', k, v) = true) (hneed : ∀ w ∈ rx_need mi (.ifCond cd off, nx, a, b', k, v), w ∈ rx_g)
    (ho1 : rx_res rx_cn (.ifCond cd off, nx, a, b', k, v) pc ls st h = some o) (ho2 : rx_dis o (fun pc' ls' st' h' => rx_P l dC dI dA b bs L xs mi pc' ls' st' h' Q) (rx_Cg (rx_P l dC dI dA b bs L xs)) Q ls h) : rx_P l dC dI dA b bs L xs mi pc ls st h Q := by
  have h1 : (decide (nx = pc + 3) && decide ((pc : Int) + off = (a : Int))) = true := hsh
  simp only [Bool.and_eq_true, decide_eq_true_eq] at h1
  obtain ⟨rfl, e2⟩ := h1
  have ho3 : (match (generalizing := false) st with
    | .int x :: r => rx_br (rx_cmpB cd x 0) a (pc + 3) ls r h
    | _ => none : Option rx_O) = some o := ho1
  split at ho3
  · next x r =>
    unfold rx_br at ho3
    cases hc : rx_cmpB cd x 0 with
    | true =>
      rw [hc] at ho3
      cases ho3
      refine rx_P_st (fun p e R s m args below meth c H locs lsA cells slots Z hF hD hW => ?_) ho2
      cases cd
      · exact lv_if_eq hF.1 hF.2.1 (rx_dec hdec rfl) e2 (fun _ => hW) (fun h9 => absurd (by simpa [rx_cmpB] using hc) h9)
      · exact lv_if_ne hF.1 hF.2.1 (rx_dec hdec rfl) e2 (fun _ => hW) (fun h9 => absurd h9 (by simpa [rx_cmpB] using hc))
      · exact lv_if_lt hF.1 hF.2.1 (rx_dec hdec rfl) e2 (fun _ => hW) (fun h9 => absurd (by simpa [rx_cmpB] using hc) h9)
      · exact lv_if_ge hF.1 hF.2.1 (rx_dec hdec rfl) e2 (fun _ => hW) (fun h9 => absurd (by simpa [rx_cmpB] using hc) h9)
      · exact lv_if_gt hF.1 hF.2.1 (rx_dec hdec rfl) e2 (fun _ => hW) (fun h9 => absurd (by simpa [rx_cmpB] using hc) h9)
      · exact lv_if_le hF.1 hF.2.1 (rx_dec hdec rfl) e2 (fun _ => hW) (fun h9 => absurd (by simpa [rx_cmpB] using hc) h9)
    | false =>
      rw [hc] at ho3
      cases ho3
      refine rx_P_st (fun p e R s m args below meth c H locs lsA cells slots Z hF hD hW => ?_) ho2
      cases cd
      · exact lv_if_eq hF.1 hF.2.1 (rx_dec hdec rfl) e2 (fun h9 => absurd h9 (by simpa [rx_cmpB] using hc)) (fun _ => hW)
      · exact lv_if_ne hF.1 hF.2.1 (rx_dec hdec rfl) e2 (fun h9 => absurd h9 (by simpa [rx_cmpB] using hc)) (fun _ => hW)
      · exact lv_if_lt hF.1 hF.2.1 (rx_dec hdec rfl) e2 (fun h9 => absurd h9 (by simpa [rx_cmpB] using hc)) (fun _ => hW)
      · exact lv_if_ge hF.1 hF.2.1 (rx_dec hdec rfl) e2 (fun h9 => absurd h9 (by simpa [rx_cmpB] using hc)) (fun _ => hW)
      · exact lv_if_gt hF.1 hF.2.1 (rx_dec hdec rfl) e2 (fun h9 => absurd h9 (by simpa [rx_cmpB] using hc)) (fun _ => hW)
      · exact lv_if_le hF.1 hF.2.1 (rx_dec hdec rfl) e2 (fun h9 => absurd h9 (by simpa [rx_cmpB] using hc)) (fun _ => hW)
  · cases ho3
theorem rx_s_if_icmp {mi pc : Nat} {ls st : List Value} {h : rx_H} {Q : Option Value → rx_H → Prop} {nx a b' k : Nat} {v : Value} {o : rx_O} {cd : Jvm.ClassFile.Cond} {off : Int} (hm : mi < 173) (hdec : decode (rx_cc mi) pc = .ok (.if_icmp cd off, nx - pc)) (hsh : rx_shape mi pc (.if_icmp cd off, nx, a, b', k, v) = true) (hneed : ∀ w ∈ rx_need mi (.if_icmp cd off, nx, a, b', k, v), w ∈ rx_g)
    (ho1 : rx_res rx_cn (.if_icmp cd off, nx, a, b', k, v) pc ls st h = some o) (ho2 : rx_dis o (fun pc' ls' st' h' => rx_P l dC dI dA b bs L xs mi pc' ls' st' h' Q) (rx_Cg (rx_P l dC dI dA b bs L xs)) Q ls h) : rx_P l dC dI dA b bs L xs mi pc ls st h Q := by
  have h1 : (decide (nx = pc + 3) && decide ((pc : Int) + off = (a : Int))) = true := hsh
  simp only [Bool.and_eq_true, decide_eq_true_eq] at h1
  obtain ⟨rfl, e2⟩ := h1
  have ho3 : (match (generalizing := false) st with
    | .int y :: .int x :: r => rx_br (rx_cmpB cd x y) a (pc + 3) ls r h
    | _ => none : Option rx_O) = some o := ho1
  split at ho3
  · next y x r =>
    unfold rx_br at ho3
    cases hc : rx_cmpB cd x y with
    | true =>
      rw [hc] at ho3
      cases ho3
      refine rx_P_st (fun p e R s m args below meth c H locs lsA cells slots Z hF hD hW => ?_) ho2
      cases cd
      · exact lv_icmp_eq hF.1 hF.2.1 (rx_dec hdec rfl) e2 (fun _ => hW) (fun h9 => absurd (by simpa [rx_cmpB] using hc) h9)
      · exact lv_icmp_ne hF.1 hF.2.1 (rx_dec hdec rfl) e2 (fun _ => hW) (fun h9 => absurd h9 (by simpa [rx_cmpB] using hc))
      · exact lv_icmp_lt hF.1 hF.2.1 (rx_dec hdec rfl) e2 (fun _ => hW) (fun h9 => absurd (by simpa [rx_cmpB] using hc) h9)
      · exact lv_icmp_ge hF.1 hF.2.1 (rx_dec hdec rfl) e2 (fun _ => hW) (fun h9 => absurd (by simpa [rx_cmpB] using hc) h9)
      · exact lv_icmp_gt hF.1 hF.2.1 (rx_dec hdec rfl) e2 (fun _ => hW) (fun h9 => absurd (by simpa [rx_cmpB] using hc) h9)
      · exact lv_icmp_le hF.1 hF.2.1 (rx_dec hdec rfl) e2 (fun _ => hW) (fun h9 => absurd (by simpa [rx_cmpB] using hc) h9)
    | false =>
      rw [hc] at ho3
      cases ho3
      refine rx_P_st (fun p e R s m args below meth c H locs lsA cells slots Z hF hD hW => ?_) ho2
      cases cd
      · exact lv_icmp_eq hF.1 hF.2.1 (rx_dec hdec rfl) e2 (fun h9 => absurd h9 (by simpa [rx_cmpB] using hc)) (fun _ => hW)
      · exact lv_icmp_ne hF.1 hF.2.1 (rx_dec hdec rfl) e2 (fun h9 => absurd h9 (by simpa [rx_cmpB] using hc)) (fun _ => hW)
      · exact lv_icmp_lt hF.1 hF.2.1 (rx_dec hdec rfl) e2 (fun h9 => absurd h9 (by simpa [rx_cmpB] using hc)) (fun _ => hW)
      · exact lv_icmp_ge hF.1 hF.2.1 (rx_dec hdec rfl) e2 (fun h9 => absurd h9 (by simpa [rx_cmpB] using hc)) (fun _ => hW)
      · exact lv_icmp_gt hF.1 hF.2.1 (rx_dec hdec rfl) e2 (fun h9 => absurd h9 (by simpa [rx_cmpB] using hc)) (fun _ => hW)
      · exact lv_icmp_le hF.1 hF.2.1 (rx_dec hdec rfl) e2 (fun h9 => absurd h9 (by simpa [rx_cmpB] using hc)) (fun _ => hW)
  · cases ho3
theorem rx_s_tableswitch {mi pc : Nat} {ls st : List Value} {h : rx_H} {Q : Option Value → rx_H → Prop} {nx a b' k : Nat} {v : Value} {o : rx_O} {d lo hi : Int} {offs : Array Int} (hm : mi < 173) (hdec : decode (rx_cc mi) pc = .ok (.tableswitch d lo hi offs, nx - pc)) (hsh : rx_shape mi pc (.tableswitch d lo hi offs, nx, a, b', k, v) = true) (hneed : ∀ w ∈ rx_need mi (.tableswitch d lo hi offs, nx, a, b', k, v), w ∈ rx_g)
    (ho1 : rx_res rx_cn (.tableswitch d lo hi offs, nx, a, b', k, v) pc ls st h = some o) (ho2 : rx_dis o (fun pc' ls' st' h' => rx_P l dC dI dA b bs L xs mi pc' ls' st' h' Q) (rx_Cg (rx_P l dC dI dA b bs L xs)) Q ls h) : rx_P l dC dI dA b bs L xs mi pc ls st h Q := by
  have h1 : (decide (0 ≤ (pc : Int) + d) && offs.toList.all (fun o => decide (0 ≤ (pc : Int) + o)) && decide (hi - lo < (offs.size : Int)) && decide (0 ≤ lo)) = true := hsh
  simp only [Bool.and_eq_true, decide_eq_true_eq] at h1
  obtain ⟨⟨⟨e1, e2⟩, e3⟩, e4⟩ := h1
  have ho3 : (match (generalizing := false) st with
    | .int x :: r => some (.inl (rx_sw pc d lo hi offs x, ls, r, h))
    | _ => none : Option rx_O) = some o := ho1
  split at ho3
  · next x r =>
    cases ho3
    refine rx_P_st (fun p e R s m args below meth c H locs lsA cells slots Z hF hD hW => ?_) ho2
    unfold rx_sw at hW
    by_cases hx : x.toInt < lo ∨ hi < x.toInt
    · rw [if_pos hx] at hW
      exact lv_tableOut hF.1 hF.2.1 hdec hx (by unfold rx_tgt; omega) hW
    · rw [if_neg hx] at hW
      have hlt : (x.toInt - lo).toNat < offs.size := by omega
      have hg : offs[(x.toInt - lo).toNat]? = some (offs.getD (x.toInt - lo).toNat d) := by
        rw [Array.getD_eq_getD_getElem?, Array.getElem?_eq_getElem hlt]; rfl
      have hp : 0 ≤ (pc : Int) + offs.getD (x.toInt - lo).toNat d := by
        have := List.all_eq_true.mp e2 (offs.getD (x.toInt - lo).toNat d) (Array.mem_toList_iff.mpr (Array.mem_of_getElem? hg))
        simpa using this
      exact lv_tableIn hF.1 hF.2.1 hdec (fun z => hx (Or.inl z)) (fun z => hx (Or.inr z)) hg (by unfold rx_tgt; omega) hW
  · cases ho3
theorem rx_s_getfield {mi pc : Nat} {ls st : List Value} {h : rx_H} {Q : Option Value → rx_H → Prop} {nx a b' k : Nat} {v : Value} {o : rx_O} {x : Nat} (hm : mi < 173) (hdec : decode (rx_cc mi) pc = .ok (.getfield x, nx - pc)) (hsh : rx_shape mi pc (.getfield x, nx, a, b', k, v) = true) (hneed : ∀ w ∈ rx_need mi (.getfield x, nx, a, b', k, v), w ∈ rx_g)
    (ho1 : rx_res rx_cn (.getfield x, nx, a, b', k, v) pc ls st h = some o) (ho2 : rx_dis o (fun pc' ls' st' h' => rx_P l dC dI dA b bs L xs mi pc' ls' st' h' Q) (rx_Cg (rx_P l dC dI dA b bs L xs)) Q ls h) : rx_P l dC dI dA b bs L xs mi pc ls st h Q := by
  have h1 : (decide (nx = pc + 3) && decide (a < 9) && decide (b' < rx_N a)) = true := hsh
  simp only [Bool.and_eq_true, decide_eq_true_eq] at h1
  obtain ⟨⟨rfl, e2⟩, e3⟩ := h1
  have hw : Cond.fieldLink (rx_y mi).cls x (rx_T a b').1 (rx_T a b').2.1 (rx_T a b').2.2.1 ∈ rx_g := hneed _ List.mem_cons_self
  obtain ⟨i, r, fs, w, rfl, hi, hr, hv, rfl⟩ := rx_get_inv ho1
  refine rx_P_st (fun p e R s m args below meth c H locs lsA cells slots Z hF hD hW => ?_) ho2
  have hP := rx_Dy_at hD hi hr
  rw [rx_map_ref hi]
  exact va_get (D := (dC, dI)) (C := rx_Rn a) (T := rx_T a) (N := rx_N a) (ci := a) (own := (rx_y mi).cls) (ref := (rx_T a b').1) hF.1 hF.2.1 hF.2.2.2.2.1 (rx_lays a e2) hF.2.2.2.1 hF.2.2.2.2.2.1.1 hP 0 rfl (rx_kinds_at a e2) b' e3 (hF.2.2.2.2.1 _ hw) (fun _ h9 => h9) (v := rx_tv b bs w) (by rw [List.getElem?_map, hv]; rfl) (rx_dec hdec rfl) hW
theorem rx_s_putfield {mi pc : Nat} {ls st : List Value} {h : rx_H} {Q : Option Value → rx_H → Prop} {nx a b' k : Nat} {v : Value} {o : rx_O} {x : Nat} (hm : mi < 173) (hdec : decode (rx_cc mi) pc = .ok (.putfield x, nx - pc)) (hsh : rx_shape mi pc (.putfield x, nx, a, b', k, v) = true) (hneed : ∀ w ∈ rx_need mi (.putfield x, nx, a, b', k, v), w ∈ rx_g)
    (ho1 : rx_res rx_cn (.putfield x, nx, a, b', k, v) pc ls st h = some o) (ho2 : rx_dis o (fun pc' ls' st' h' => rx_P l dC dI dA b bs L xs mi pc' ls' st' h' Q) (rx_Cg (rx_P l dC dI dA b bs L xs)) Q ls h) : rx_P l dC dI dA b bs L xs mi pc ls st h Q := by
  have h1 : (decide (nx = pc + 3) && decide (a < 9) && decide (b' < rx_N a) && decide (rx_tk (rx_ty a b') = k) && (decide ((rx_T a b').2.2.2 = false) || (decide ((rx_y mi).name = "<init>") && decide ((rx_T a b').1 = (rx_y mi).cls)))) = true := hsh
  simp only [Bool.and_eq_true, Bool.or_eq_true, decide_eq_true_eq] at h1
  obtain ⟨⟨⟨⟨rfl, e2⟩, e3⟩, rfl⟩, e5⟩ := h1
  have hw : Cond.fieldLink (rx_y mi).cls x (rx_T a b').1 (rx_T a b').2.1 (rx_T a b').2.2.1 ∈ rx_g := hneed _ List.mem_cons_self
  obtain ⟨w, i, r, fs, rfl, hi, hr, hf, hl, rfl⟩ := rx_put_inv ho1
  obtain ⟨f1, f2⟩ := rx_fit_ok (b := b) (bs := bs) hf
  refine rx_P_wr hi (fun p e R s m args below meth c H locs lsA cells slots Z hF hD hW => ?_) ho2
  have hP := hD.1.2.2.2 i _ (Nat.pos_of_ne_zero hi) hr
  have e9 : (w :: .ref i :: r).map (rx_tv b bs) = rx_tv b bs w :: .ref (bs + i) :: r.map (rx_tv b bs) := by rw [List.map_cons, rx_map_ref hi]
  rw [e9]
  refine rx_Wput (rx_lays a e2) hF e2 e3 hw e5 f1 f2 hP (by rw [List.length_map]; exact hl) (rx_dec hdec rfl) (fun H1 locs1 g1 g2 g3 g4 => hW H1 locs1 ?_ g2 g3 g4)
  show va_at (dC, dI) rx_kinds (bs + i, .inr (a, (fs.set b' w).map (rx_tv b bs))) H1
  rw [List.map_set]
  exact g1
theorem rx_s_iaload {mi pc : Nat} {ls st : List Value} {h : rx_H} {Q : Option Value → rx_H → Prop} {nx a b' k : Nat} {v : Value} {o : rx_O} (hm : mi < 173) (hdec : decode (rx_cc mi) pc = .ok (.iaload, nx - pc)) (hsh : rx_shape mi pc (.iaload, nx, a, b', k, v) = true) (hneed : ∀ w ∈ rx_need mi (.iaload, nx, a, b', k, v), w ∈ rx_g)
    (ho1 : rx_res rx_cn (.iaload, nx, a, b', k, v) pc ls st h = some o) (ho2 : rx_dis o (fun pc' ls' st' h' => rx_P l dC dI dA b bs L xs mi pc' ls' st' h' Q) (rx_Cg (rx_P l dC dI dA b bs L xs)) Q ls h) : rx_P l dC dI dA b bs L xs mi pc ls st h Q := by
  have h1 : decide (nx = pc + 1) = true := hsh
  simp only [decide_eq_true_eq] at h1
  subst h1
  obtain ⟨j, i, r, n, f, rfl, hr, hin, rfl⟩ := rx_aload_inv ho1
  refine rx_P_st (fun p e R s m args below meth c H locs lsA cells slots Z hF hD hW => ?_) ho2
  by_cases hi : i = 0
  · subst hi
    have hr0 := hD.1.2.2.1
    cases (show some _ = some _ from hr.symm.trans hr0)
    obtain ⟨scr, q1, q2, q3, q4, q5⟩ := hF.2.2.2.2.2.2.1
    have hlt : j.toNatClampNeg < L := Nat.not_le.mp fun q => hin (Or.inr q)
    exact W.iald (v := .int (xs j.toNatClampNeg)) hF.1 hF.2.1 (by show H[b]? = some scr; rw [hD.2.1 b hF.2.2.2.2.2.2.2.1]; exact q1) q2 q3 (by rw [q4]; exact hin) (q5 _ hlt) rfl rfl (rx_dec hdec rfl) hW
  · have hP := rx_Dy_at hD hi hr
    have e9 : (.int j :: .ref i :: r).map (rx_tv b bs) = .int j :: .ref (bs + i) :: r.map (rx_tv b bs) := by rw [List.map_cons, rx_map_ref hi]; rfl
    rw [e9]
    exact va_iald hF.1 hF.2.1 hF.2.2.2.2.2.1.1 hP 0 0 rfl rfl hin (rx_dec hdec rfl) hW
theorem rx_s_baload {mi pc : Nat} {ls st : List Value} {h : rx_H} {Q : Option Value → rx_H → Prop} {nx a b' k : Nat} {v : Value} {o : rx_O} (hm : mi < 173) (hdec : decode (rx_cc mi) pc = .ok (.baload, nx - pc)) (hsh : rx_shape mi pc (.baload, nx, a, b', k, v) = true) (hneed : ∀ w ∈ rx_need mi (.baload, nx, a, b', k, v), w ∈ rx_g)
    (ho1 : rx_res rx_cn (.baload, nx, a, b', k, v) pc ls st h = some o) (ho2 : rx_dis o (fun pc' ls' st' h' => rx_P l dC dI dA b bs L xs mi pc' ls' st' h' Q) (rx_Cg (rx_P l dC dI dA b bs L xs)) Q ls h) : rx_P l dC dI dA b bs L xs mi pc ls st h Q := by
  have h1 : decide (nx = pc + 1) = true := hsh
  simp only [decide_eq_true_eq] at h1
  subst h1
  have ho3 : (match (generalizing := false) st with
    | .int j :: .ref i :: r => if i = 0 then none else rx_aload 1 (pc + 1) ls (.int j :: .ref i :: r) h
    | _ => none : Option rx_O) = some o := ho1
  split at ho3
  · next j i r =>
    split at ho3
    · cases ho3
    · next hi =>
      obtain ⟨j', i', r', n, f, e0, hr, hin, rfl⟩ := rx_aload_inv ho3
      cases e0
      refine rx_P_st (fun p e R s m args below meth c H locs lsA cells slots Z hF hD hW => ?_) ho2
      have hP := rx_Dy_at hD hi hr
      have e9 : (.int j :: .ref i :: r).map (rx_tv b bs) = .int j :: .ref (bs + i) :: r.map (rx_tv b bs) := by rw [List.map_cons, rx_map_ref hi]; rfl
      rw [e9]
      exact va_bald hF.1 hF.2.1 hF.2.2.2.2.2.1.1 hP 0 1 rfl rfl hin (rx_dec hdec rfl) hW
  · cases ho3
theorem rx_s_iastore {mi pc : Nat} {ls st : List Value} {h : rx_H} {Q : Option Value → rx_H → Prop} {nx a b' k : Nat} {v : Value} {o : rx_O} (hm : mi < 173) (hdec : decode (rx_cc mi) pc = .ok (.iastore, nx - pc)) (hsh : rx_shape mi pc (.iastore, nx, a, b', k, v) = true) (hneed : ∀ w ∈ rx_need mi (.iastore, nx, a, b', k, v), w ∈ rx_g)
    (ho1 : rx_res rx_cn (.iastore, nx, a, b', k, v) pc ls st h = some o) (ho2 : rx_dis o (fun pc' ls' st' h' => rx_P l dC dI dA b bs L xs mi pc' ls' st' h' Q) (rx_Cg (rx_P l dC dI dA b bs L xs)) Q ls h) : rx_P l dC dI dA b bs L xs mi pc ls st h Q := by
  have h1 : decide (nx = pc + 1) = true := hsh
  simp only [decide_eq_true_eq] at h1
  subst h1
  obtain ⟨x, j, i, r, n, f, rfl, hi, hr, hin, rfl⟩ := rx_astore_inv ho1
  refine rx_P_wr hi (fun p e R s m args below meth c H locs lsA cells slots Z hF hD hW => ?_) ho2
  have hP : H[bs + i]? = some (vp_cell (dA 0) (n, .inl f)) := hD.1.2.2.2 i _ (Nat.pos_of_ne_zero hi) hr
  have e9 : (.int x :: .int j :: .ref i :: r).map (rx_tv b bs) = .int x :: .int j :: .ref (bs + i) :: r.map (rx_tv b bs) := by rw [List.map_cons, List.map_cons, rx_map_ref hi]; rfl
  rw [e9]
  refine W.iast hF.1 hF.2.1 hP ((hF.2.2.2.2.2.1.1.2 0 _ rfl).1 n (fun j => .int (f j))) (fun q => by cases q) (by show ¬ (j < 0 ∨ (arrV _ _ _).slots.size ≤ _); rw [arrV_size]; exact hin) rfl rfl (rx_dec hdec rfl) fun H1 g1 g2 g3 => hW H1 _ ?_ g2 g3 rx_lc
  show H1[bs + i]? = some (vp_cell _ _)
  rw [g1]
  exact congrArg some (rx_upd_cell (dA 0) n j.toNatClampNeg f x)
theorem rx_s_bastore {mi pc : Nat} {ls st : List Value} {h : rx_H} {Q : Option Value → rx_H → Prop} {nx a b' k : Nat} {v : Value} {o : rx_O} (hm : mi < 173) (hdec : decode (rx_cc mi) pc = .ok (.bastore, nx - pc)) (hsh : rx_shape mi pc (.bastore, nx, a, b', k, v) = true) (hneed : ∀ w ∈ rx_need mi (.bastore, nx, a, b', k, v), w ∈ rx_g)
    (ho1 : rx_res rx_cn (.bastore, nx, a, b', k, v) pc ls st h = some o) (ho2 : rx_dis o (fun pc' ls' st' h' => rx_P l dC dI dA b bs L xs mi pc' ls' st' h' Q) (rx_Cg (rx_P l dC dI dA b bs L xs)) Q ls h) : rx_P l dC dI dA b bs L xs mi pc ls st h Q := by
  have h1 : decide (nx = pc + 1) = true := hsh
  simp only [decide_eq_true_eq] at h1
  subst h1
  obtain ⟨x, j, i, r, n, f, rfl, hi, hr, hin, rfl⟩ := rx_astore_inv ho1
  refine rx_P_wr hi (fun p e R s m args below meth c H locs lsA cells slots Z hF hD hW => ?_) ho2
  have hP : H[bs + i]? = some (vp_cell (dA 1) (n, .inl f)) := hD.1.2.2.2 i _ (Nat.pos_of_ne_zero hi) hr
  have e9 : (.int x :: .int j :: .ref i :: r).map (rx_tv b bs) = .int x :: .int j :: .ref (bs + i) :: r.map (rx_tv b bs) := by rw [List.map_cons, List.map_cons, rx_map_ref hi]; rfl
  rw [e9]
  refine W.bast hF.1 hF.2.1 hP ((hF.2.2.2.2.2.1.1.2 1 _ rfl).1 n (fun j => .int (f j))) (fun q => by cases q) (by show ¬ (j < 0 ∨ (arrV _ _ _).slots.size ≤ _); rw [arrV_size]; exact hin) rfl rfl (rx_dec hdec rfl) fun H1 g1 g2 g3 => hW H1 _ ?_ g2 g3 rx_lc
  show H1[bs + i]? = some (vp_cell _ _)
  rw [g1]
  exact congrArg some (rx_upd_cell (dA 1) n j.toNatClampNeg f x.toInt8.toInt32)
theorem rx_s_aaload {mi pc : Nat} {ls st : List Value} {h : rx_H} {Q : Option Value → rx_H → Prop} {nx a b' k : Nat} {v : Value} {o : rx_O} (hm : mi < 173) (hdec : decode (rx_cc mi) pc = .ok (.aaload, nx - pc)) (hsh : rx_shape mi pc (.aaload, nx, a, b', k, v) = true) (hneed : ∀ w ∈ rx_need mi (.aaload, nx, a, b', k, v), w ∈ rx_g)
    (ho1 : rx_res rx_cn (.aaload, nx, a, b', k, v) pc ls st h = some o) (ho2 : rx_dis o (fun pc' ls' st' h' => rx_P l dC dI dA b bs L xs mi pc' ls' st' h' Q) (rx_Cg (rx_P l dC dI dA b bs L xs)) Q ls h) : rx_P l dC dI dA b bs L xs mi pc ls st h Q := by
  have h1 : decide (nx = pc + 1) = true := hsh
  simp only [decide_eq_true_eq] at h1
  subst h1
  obtain ⟨j, i, r, t, n, f, q, rfl, hi, hr, ht, hin, hq, rfl⟩ := rx_aaload_inv ho1
  refine rx_P_st (fun p e R s m args below meth c H locs lsA cells slots Z hF hD hW => ?_) ho2
  have hP := rx_Dy_at hD hi hr
  have e9 : (.int j :: .ref i :: r).map (rx_tv b bs) = .int j :: .ref (bs + i) :: r.map (rx_tv b bs) := by rw [List.map_cons, rx_map_ref hi]; rfl
  rw [e9]
  have e8 : va_rf ((f j.toNatClampNeg).map (rx_ta b bs)) = rx_tv b bs (.ref q) := by rw [hq]; rfl
  rcases ht with rfl | rfl
  · refine va_aldq (C := RX4) hF.1 hF.2.1 hF.2.2.2.2.2.1.1 hP 0 2 rfl rfl hin (rx_dec hdec rfl) ?_
    rw [e8]
    exact hW
  · refine va_aldq (C := RX1) hF.1 hF.2.1 hF.2.2.2.2.2.1.1 hP 0 3 rfl rfl hin (rx_dec hdec rfl) ?_
    rw [e8]
    exact hW
theorem rx_s_aastore {mi pc : Nat} {ls st : List Value} {h : rx_H} {Q : Option Value → rx_H → Prop} {nx a b' k : Nat} {v : Value} {o : rx_O} (hm : mi < 173) (hdec : decode (rx_cc mi) pc = .ok (.aastore, nx - pc)) (hsh : rx_shape mi pc (.aastore, nx, a, b', k, v) = true) (hneed : ∀ w ∈ rx_need mi (.aastore, nx, a, b', k, v), w ∈ rx_g)
    (ho1 : rx_res rx_cn (.aastore, nx, a, b', k, v) pc ls st h = some o) (ho2 : rx_dis o (fun pc' ls' st' h' => rx_P l dC dI dA b bs L xs mi pc' ls' st' h' Q) (rx_Cg (rx_P l dC dI dA b bs L xs)) Q ls h) : rx_P l dC dI dA b bs L xs mi pc ls st h Q := by
  have h1 : decide (nx = pc + 1) = true := hsh
  simp only [decide_eq_true_eq] at h1
  subst h1
  obtain ⟨q, j, i, r, t, n, f, fs, rfl, hi, hq0, hr, ht, hin, hq, rfl⟩ := rx_aastore_inv ho1
  refine rx_P_wr hi (fun p e R s m args below meth c H locs lsA cells slots Z hF hD hW => ?_) ho2
  have hP : H[bs + i]? = some (vp_cell (dA t) (n, .inr (.inr (.inr (.inr (fun j => (f j).map (rx_ta b bs))))))) := hD.1.2.2.2 i _ (Nat.pos_of_ne_zero hi) hr
  obtain ⟨r', hr', cellV, g1, g2, g3, -⟩ := hD.1.2.2.2 q _ (Nat.pos_of_ne_zero hq0) hq
  have e9 : (.ref q :: .int j :: .ref i :: r).map (rx_tv b bs) = .ref (bs + q) :: .int j :: .ref (bs + i) :: r.map (rx_tv b bs) := by rw [rx_map_ref hq0, List.map_cons, rx_map_ref hi]; rfl
  rw [e9]
  have hlt : j.toNatClampNeg < n := Nat.not_le.mp fun z => hin (Or.inr z)
  have h0 : ¬ j < 0 := fun z => hin (Or.inl z)
  have key : ∀ (C : String) (T : u_T) (N : Nat), (rx_tys dA)[t]? = some (dA t, .object C) → rx_kinds[rx_tc t]? = some (C, T, N) → W p l e R s m args below meth c H locs cells slots Z (F0 m pc lsA (.ref (bs + q) :: .int j :: .ref (bs + i) :: r.map (rx_tv b bs))) := by
    intro C T N k1 k2
    have hcls := (hF.2.2.2.2.2.1.1.1 (rx_tc t) _ k2).2
    obtain ⟨kA, comp, c1, c2, c3, -⟩ := (hF.2.2.2.2.2.1.1.2 t _ k1).2
    have hcomp : comp = dC (rx_tc t) := Option.some.inj (c3.symm.trans hcls.1)
    subst hcomp
    obtain ⟨kC, hkC, -⟩ := hcls.2
    refine W.aast hF.1 hF.2.1 hP (fun z h => by cases h) (fun h => by cases h) c1 c2 rfl hkC ⟨h0, by show _ < (arrV _ _ _).slots.size; rw [arrV_size]; exact hlt⟩ g1 (fun z h => by rw [g3] at h; cases h) (by rw [g2]; exact hkC) (by rw [g2]; exact va_assign hcls) rfl rfl (rx_dec hdec rfl) fun H1 z1 z2 z3 => hW H1 _ ?_ z2 z3 rx_lc
    show H1[bs + i]? = some (vp_cell (dA t) (n, .inr (.inr (.inr (.inr (fun z => (va_up f j.toNatClampNeg (some q) z).map (rx_ta b bs)))))))
    rw [z1, rx_up_cell]
    have e5 : va_up (fun z => (f z).map (rx_ta b bs)) j.toNatClampNeg (some (bs + q)) = fun z => (va_up f j.toNatClampNeg (some q) z).map (rx_ta b bs) := by
      funext z
      unfold va_up
      by_cases hz : z = j.toNatClampNeg
      · rw [if_pos hz, if_pos hz]
        show some (bs + q) = some (rx_ta b bs q)
        rw [rx_ta_pos hq0]
      · rw [if_neg hz, if_neg hz]
    exact congrArg (fun F => some (vp_cell (dA t) (n, .inr (.inr (.inr (.inr F)))))) e5
  rcases ht with rfl | rfl
  · exact key RX4 TX4 3 rfl rfl
  · exact key RX1 TX1 9 rfl rfl
theorem rx_s_arraylength {mi pc : Nat} {ls st : List Value} {h : rx_H} {Q : Option Value → rx_H → Prop} {nx a b' k : Nat} {v : Value} {o : rx_O} (hm : mi < 173) (hdec : decode (rx_cc mi) pc = .ok (.arraylength, nx - pc)) (hsh : rx_shape mi pc (.arraylength, nx, a, b', k, v) = true) (hneed : ∀ w ∈ rx_need mi (.arraylength, nx, a, b', k, v), w ∈ rx_g)
    (ho1 : rx_res rx_cn (.arraylength, nx, a, b', k, v) pc ls st h = some o) (ho2 : rx_dis o (fun pc' ls' st' h' => rx_P l dC dI dA b bs L xs mi pc' ls' st' h' Q) (rx_Cg (rx_P l dC dI dA b bs L xs)) Q ls h) : rx_P l dC dI dA b bs L xs mi pc ls st h Q := by
  have h1 : decide (nx = pc + 1) = true := hsh
  simp only [decide_eq_true_eq] at h1
  subst h1
  obtain ⟨i, r, t, n, f, rfl, hr, ht, rfl⟩ := rx_alen_inv ho1
  refine rx_P_st (fun p e R s m args below meth c H locs lsA cells slots Z hF hD hW => ?_) ho2
  by_cases hi : i = 0
  · subst hi
    have hr0 := hD.1.2.2.1
    cases (show some _ = some _ from hr.symm.trans hr0)
    obtain ⟨scr, q1, q2, q3, q4, q5⟩ := hF.2.2.2.2.2.2.1
    exact W.alen (n := Int32.ofNat L) hF.1 hF.2.1 (by show H[b]? = some scr; rw [hD.2.1 b hF.2.2.2.2.2.2.2.1]; exact q1) q2 (by rw [q4] <;> rfl) rfl rfl (rx_dec hdec rfl) hW
  · have hP := rx_Dy_at hD hi hr
    rw [rx_map_ref hi]
    rcases ht with rfl | ⟨rfl, -⟩
    · exact va_alen hF.1 hF.2.1 hF.2.2.2.2.2.1.1 hP 0 0 rfl rfl rfl (rx_dec hdec rfl) hW
    · exact va_alen hF.1 hF.2.1 hF.2.2.2.2.2.1.1 hP 0 1 rfl rfl rfl (rx_dec hdec rfl) hW
theorem rx_s_new {mi pc : Nat} {ls st : List Value} {h : rx_H} {Q : Option Value → rx_H → Prop} {nx a b' k : Nat} {v : Value} {o : rx_O} {x : Nat} (hm : mi < 173) (hdec : decode (rx_cc mi) pc = .ok (.new x, nx - pc)) (hsh : rx_shape mi pc (.new x, nx, a, b', k, v) = true) (hneed : ∀ w ∈ rx_need mi (.new x, nx, a, b', k, v), w ∈ rx_g)
    (ho1 : rx_res rx_cn (.new x, nx, a, b', k, v) pc ls st h = some o) (ho2 : rx_dis o (fun pc' ls' st' h' => rx_P l dC dI dA b bs L xs mi pc' ls' st' h' Q) (rx_Cg (rx_P l dC dI dA b bs L xs)) Q ls h) : rx_P l dC dI dA b bs L xs mi pc ls st h Q := by
  have h1 : (decide (nx = pc + 3) && decide (a < 9) && decide (b' = rx_N a)) = true := hsh
  simp only [Bool.and_eq_true, decide_eq_true_eq] at h1
  obtain ⟨⟨rfl, e2⟩, rfl⟩ := h1
  have w1 : Cond.classLink (rx_y mi).cls x (rx_Rn a) ∈ rx_g := hneed _ List.mem_cons_self
  have w2 : Cond.instantiable (rx_Rn a) (rx_N a) ∈ rx_g := hneed _ (List.mem_cons_of_mem _ List.mem_cons_self)
  have w3 : Cond.initialized (rx_Rn a) ∈ rx_g := hneed _ (List.mem_cons_of_mem _ (List.mem_cons_of_mem _ List.mem_cons_self))
  cases ho1
  refine rx_P_mk (fun p e R s m args below meth c H locs lsA cells slots Z hF hD hc hs hW => ?_) ho2
  have hts := hF.2.2.2.2.1
  have hKn := hF.2.2.2.2.2.1.1.1 a _ (rx_kinds_at a e2)
  refine W.newcK hF.1 hF.2.1 hF.2.2.2.1 (hts _ w1) (hts _ w2) (hts _ w3) rfl (rx_dec hdec rfl) hc hs hKn.2.1 rfl fun H1 kC hkC g1 g2 g3 => hW H1 ⟨_, rx_kinds_at a e2, (u_born (rx_ty a) hts (rx_lays a e2) hKn hkC g1 (rx_ty_ok a e2)).to ?_⟩ g2 g3
  intro j hj
  exact rx_df_ok a e2 j hj
theorem rx_s_newarray {mi pc : Nat} {ls st : List Value} {h : rx_H} {Q : Option Value → rx_H → Prop} {nx a b' k : Nat} {v : Value} {o : rx_O} {t : ArrayType} (hm : mi < 173) (hdec : decode (rx_cc mi) pc = .ok (.newarray t, nx - pc)) (hsh : rx_shape mi pc (.newarray t, nx, a, b', k, v) = true) (hneed : ∀ w ∈ rx_need mi (.newarray t, nx, a, b', k, v), w ∈ rx_g)
    (ho1 : rx_res rx_cn (.newarray t, nx, a, b', k, v) pc ls st h = some o) (ho2 : rx_dis o (fun pc' ls' st' h' => rx_P l dC dI dA b bs L xs mi pc' ls' st' h' Q) (rx_Cg (rx_P l dC dI dA b bs L xs)) Q ls h) : rx_P l dC dI dA b bs L xs mi pc ls st h Q := by
  have h1 : (decide (nx = pc + 2) && (decide (t = .int ∧ a = 0) || decide (t = .byte ∧ a = 1))) = true := hsh
  simp only [Bool.and_eq_true, Bool.or_eq_true, decide_eq_true_eq] at h1
  obtain ⟨rfl, e2⟩ := h1
  have w1 : Cond.arrayClass (newarray.typeOf t) ∈ rx_g := hneed _ List.mem_cons_self
  obtain ⟨n, r, rfl, hn, hn2, rfl⟩ := rx_newa_inv ho1
  refine rx_P_mk (fun p e R s m args below meth c H locs lsA cells slots Z hF hD hc hs hW => ?_) ho2
  have hts := hF.2.2.2.2.1
  have hK := hF.2.2.2.2.2.1.1
  rcases e2 with ⟨rfl, rfl⟩ | ⟨rfl, rfl⟩
  · refine va_newaK (atype := .int) hF.1 hF.2.1 (hts _ w1) rfl (rx_dec hdec rfl) rfl hn rfl (by show n.toNatClampNeg * 4 ≤ _; omega) hc hs rfl fun H1 cA g1 g2 g3 g4 g5 => ?_
    have e5 : cA = dA 0 := Option.some.inj (g5.symm.trans (hK.2 0 _ rfl).2)
    subst e5
    exact hW H1 g1 g2 g3
  · refine va_newaK (atype := .byte) hF.1 hF.2.1 (hts _ w1) rfl (rx_dec hdec rfl) rfl hn rfl (by show n.toNatClampNeg * 1 ≤ _; omega) hc hs rfl fun H1 cA g1 g2 g3 g4 g5 => ?_
    have e5 : cA = dA 1 := Option.some.inj (g5.symm.trans (hK.2 1 _ rfl).2)
    subst e5
    exact hW H1 g1 g2 g3
theorem rx_s_anewarray {mi pc : Nat} {ls st : List Value} {h : rx_H} {Q : Option Value → rx_H → Prop} {nx a b' k : Nat} {v : Value} {o : rx_O} {x : Nat} (hm : mi < 173) (hdec : decode (rx_cc mi) pc = .ok (.anewarray x, nx - pc)) (hsh : rx_shape mi pc (.anewarray x, nx, a, b', k, v) = true) (hneed : ∀ w ∈ rx_need mi (.anewarray x, nx, a, b', k, v), w ∈ rx_g)
    (ho1 : rx_res rx_cn (.anewarray x, nx, a, b', k, v) pc ls st h = some o) (ho2 : rx_dis o (fun pc' ls' st' h' => rx_P l dC dI dA b bs L xs mi pc' ls' st' h' Q) (rx_Cg (rx_P l dC dI dA b bs L xs)) Q ls h) : rx_P l dC dI dA b bs L xs mi pc ls st h Q := by
  have h1 : (decide (nx = pc + 3) && decide (a = 2 ∨ a = 3)) = true := hsh
  simp only [Bool.and_eq_true, decide_eq_true_eq] at h1
  obtain ⟨rfl, e2⟩ := h1
  have w1 : Cond.classLink (rx_y mi).cls x (rx_Rn (rx_tc a)) ∈ rx_g := hneed _ List.mem_cons_self
  obtain ⟨n, r, rfl, hn, hn2, rfl⟩ := rx_anew_inv ho1
  refine rx_P_mk (fun p e R s m args below meth c H locs lsA cells slots Z hF hD hc hs hW => ?_) ho2
  have hts := hF.2.2.2.2.1
  have hK := hF.2.2.2.2.2.1
  have key : ∀ C : String, (Cond.classLink (rx_y mi).cls x C).before args s = true → va_AO C s → (rx_tys dA)[a]? = some (dA a, .object C) → W p l e R s m args below meth c H locs cells slots Z (F0 m pc lsA ((.int n :: r).map (rx_tv b bs))) := by
    intro C k1 k2 k3
    refine W.anew hF.1 hF.2.1 hF.2.2.2.1 k1 (va_AO.use k2) rfl (rx_dec hdec rfl) rfl hn (by omega) hc hs fun cA kA comp f1 f2 f3 f4 => ?_
    obtain ⟨_, _, -, -, -, z4⟩ := (hK.1.2 a _ k3).2
    have e5 : cA = dA a := Option.some.inj (f1.symm.trans z4)
    subst e5
    refine hW _ ?_ (by rw [Array.size_push]) (fun q hq => by rw [Array.getElem?_push, if_neg (Nat.ne_of_lt hq)])
    show (H.push _)[H.size]? = some (vp_cell (dA a) (n.toNatClampNeg, .inr (.inr (.inr (.inr (fun _ => none))))))
    rw [Array.getElem?_push_size, arrV_new]
    rfl
  rcases e2 with rfl | rfl
  · exact key RX4 (hts _ w1) hK.2.2.1 rfl
  · exact key RX1 (hts _ w1) hK.2.2.2 rfl
theorem rx_s_ldc {mi pc : Nat} {ls st : List Value} {h : rx_H} {Q : Option Value → rx_H → Prop} {nx a b' k : Nat} {v : Value} {o : rx_O} {x : Nat} (hx : rx_xs pc (.ldc x, nx, a, b', k, v) = true) (hm : mi < 173) (hdec : decode (rx_cc mi) pc = .ok (.ldc x, nx - pc)) (hsh : rx_shape mi pc (.ldc x, nx, a, b', k, v) = true) (hneed : ∀ w ∈ rx_need mi (.ldc x, nx, a, b', k, v), w ∈ rx_g)
    (ho1 : rx_res rx_cn (.ldc x, nx, a, b', k, v) pc ls st h = some o) (ho2 : rx_dis o (fun pc' ls' st' h' => rx_P l dC dI dA b bs L xs mi pc' ls' st' h' Q) (rx_Cg (rx_P l dC dI dA b bs L xs)) Q ls h) : rx_P l dC dI dA b bs L xs mi pc ls st h Q := by
  cases v with
  | int w =>
    have h1 : decide (nx = pc + 2) = true := hsh
    simp only [decide_eq_true_eq] at h1
    subst h1
    have hw : Cond.constant (rx_y mi).cls x w ∈ rx_g := hneed _ List.mem_cons_self
    cases ho1
    exact rx_P_st (fun p e R s m args below meth c H locs lsA cells slots Z hF hD hW => lv_ldc hF.1 hF.2.1 hF.2.2.2.1 (hF.2.2.2.2.1 _ hw) (rx_dec hdec rfl) hW) ho2
  | _ => exact (Bool.false_ne_true hx).elim
theorem rx_s_ldc_w {mi pc : Nat} {ls st : List Value} {h : rx_H} {Q : Option Value → rx_H → Prop} {nx a b' k : Nat} {v : Value} {o : rx_O} {x : Nat} (hx : rx_xs pc (.ldc_w x, nx, a, b', k, v) = true) (hm : mi < 173) (hdec : decode (rx_cc mi) pc = .ok (.ldc_w x, nx - pc)) (hsh : rx_shape mi pc (.ldc_w x, nx, a, b', k, v) = true) (hneed : ∀ w ∈ rx_need mi (.ldc_w x, nx, a, b', k, v), w ∈ rx_g)
    (ho1 : rx_res rx_cn (.ldc_w x, nx, a, b', k, v) pc ls st h = some o) (ho2 : rx_dis o (fun pc' ls' st' h' => rx_P l dC dI dA b bs L xs mi pc' ls' st' h' Q) (rx_Cg (rx_P l dC dI dA b bs L xs)) Q ls h) : rx_P l dC dI dA b bs L xs mi pc ls st h Q := by
  cases v with
  | int w =>
    have h1 : decide (nx = pc + 3) = true := hsh
    simp only [decide_eq_true_eq] at h1
    subst h1
    have hw : Cond.constant (rx_y mi).cls x w ∈ rx_g := hneed _ List.mem_cons_self
    cases ho1
    exact rx_P_st (fun p e R s m args below meth c H locs lsA cells slots Z hF hD hW => lv_ldcw hF.1 hF.2.1 hF.2.2.2.1 (hF.2.2.2.2.1 _ hw) (rx_dec hdec rfl) hW) ho2
  | _ => exact (Bool.false_ne_true hx).elim
theorem rx_s_ldc2_w {mi pc : Nat} {ls st : List Value} {h : rx_H} {Q : Option Value → rx_H → Prop} {nx a b' k : Nat} {v : Value} {o : rx_O} {x : Nat} (hx : rx_xs pc (.ldc2_w x, nx, a, b', k, v) = true) (hm : mi < 173) (hdec : decode (rx_cc mi) pc = .ok (.ldc2_w x, nx - pc)) (hsh : rx_shape mi pc (.ldc2_w x, nx, a, b', k, v) = true) (hneed : ∀ w ∈ rx_need mi (.ldc2_w x, nx, a, b', k, v), w ∈ rx_g)
    (ho1 : rx_res rx_cn (.ldc2_w x, nx, a, b', k, v) pc ls st h = some o) (ho2 : rx_dis o (fun pc' ls' st' h' => rx_P l dC dI dA b bs L xs mi pc' ls' st' h' Q) (rx_Cg (rx_P l dC dI dA b bs L xs)) Q ls h) : rx_P l dC dI dA b bs L xs mi pc ls st h Q := by
  cases v with
  | long w =>
    have h1 : decide (nx = pc + 3) = true := hsh
    simp only [decide_eq_true_eq] at h1
    subst h1
    have hw : Cond.constantLong (rx_y mi).cls x w ∈ rx_g := hneed _ List.mem_cons_self
    cases ho1
    exact rx_P_st (fun p e R s m args below meth c H locs lsA cells slots Z hF hD hW => lv_ldc2 hF.1 hF.2.1 hF.2.2.2.1 (hF.2.2.2.2.1 _ hw) (rx_dec hdec rfl) hW) ho2
  | _ => exact (Bool.false_ne_true hx).elim
theorem rx_s_ireturn {mi pc : Nat} {ls st : List Value} {h : rx_H} {Q : Option Value → rx_H → Prop} {nx a b' k : Nat} {v : Value} {o : rx_O} (hm : mi < 173) (hdec : decode (rx_cc mi) pc = .ok (.ireturn, nx - pc)) (hsh : rx_shape mi pc (.ireturn, nx, a, b', k, v) = true) (hneed : ∀ w ∈ rx_need mi (.ireturn, nx, a, b', k, v), w ∈ rx_g)
    (ho1 : rx_res rx_cn (.ireturn, nx, a, b', k, v) pc ls st h = some o) (ho2 : rx_dis o (fun pc' ls' st' h' => rx_P l dC dI dA b bs L xs mi pc' ls' st' h' Q) (rx_Cg (rx_P l dC dI dA b bs L xs)) Q ls h) : rx_P l dC dI dA b bs L xs mi pc ls st h Q := by
  have h1 : (decide (nx = pc + 1) && (decide (k = 0 ∧ rx_rt mi = some .int) || decide (k = 1 ∧ rx_rt mi = some .boolean))) = true := hsh
  simp only [Bool.and_eq_true, Bool.or_eq_true, decide_eq_true_eq] at h1
  obtain ⟨rfl, e2⟩ := h1
  have ho3 : (match (generalizing := false) st with
    | [.int x] => if decide (k = 0) || decide (x = 0) || decide (x = 1) then some (.inr (.inr (some (.int x)))) else none
    | _ => none : Option rx_O) = some o := ho1
  split at ho3
  · next x =>
    split at ho3
    · next hb =>
      cases ho3
      simp only [Bool.or_eq_true, decide_eq_true_eq] at hb
      refine ⟨⟨_, h, ho2, Nat.le_refl _, Nat.le_refl _⟩, fun p e R s m args below meth c H locs lsA cells slots n0 m0 Z hF hD hc hsl hroom hend => ?_⟩
      have := hend _ h H locs pc lsA ho2 hD.1 hD.2.1 hD.2.2.1 (by omega) (by omega) ⟨rx_dec hdec rfl, by
        rcases e2 with ⟨z1, z2⟩ | ⟨z1, z2⟩
        · exact Or.inl z2
        · rcases hb with (z | z) | z
          · omega
          · exact Or.inr ⟨z2, Or.inl z⟩
          · exact Or.inr ⟨z2, Or.inr z⟩⟩
      rw [show h.1 - n0 = cells by omega, show h.2.1 - m0 = slots by omega] at this
      exact this
    · cases ho3
  · cases ho3
theorem rx_s_lreturn {mi pc : Nat} {ls st : List Value} {h : rx_H} {Q : Option Value → rx_H → Prop} {nx a b' k : Nat} {v : Value} {o : rx_O} (hm : mi < 173) (hdec : decode (rx_cc mi) pc = .ok (.lreturn, nx - pc)) (hsh : rx_shape mi pc (.lreturn, nx, a, b', k, v) = true) (hneed : ∀ w ∈ rx_need mi (.lreturn, nx, a, b', k, v), w ∈ rx_g)
    (ho1 : rx_res rx_cn (.lreturn, nx, a, b', k, v) pc ls st h = some o) (ho2 : rx_dis o (fun pc' ls' st' h' => rx_P l dC dI dA b bs L xs mi pc' ls' st' h' Q) (rx_Cg (rx_P l dC dI dA b bs L xs)) Q ls h) : rx_P l dC dI dA b bs L xs mi pc ls st h Q := by
  have h1 : (decide (nx = pc + 1) && decide (rx_rt mi = some .long)) = true := hsh
  simp only [Bool.and_eq_true, decide_eq_true_eq] at h1
  obtain ⟨rfl, e2⟩ := h1
  have ho3 : (match (generalizing := false) st with
    | [.long x] => some (.inr (.inr (some (.long x))))
    | _ => none : Option rx_O) = some o := ho1
  split at ho3
  · next x =>
    cases ho3
    refine ⟨⟨_, h, ho2, Nat.le_refl _, Nat.le_refl _⟩, fun p e R s m args below meth c H locs lsA cells slots n0 m0 Z hF hD hc hsl hroom hend => ?_⟩
    have := hend _ h H locs pc lsA ho2 hD.1 hD.2.1 hD.2.2.1 (by omega) (by omega) ⟨rx_dec hdec rfl, e2⟩
    rw [show h.1 - n0 = cells by omega, show h.2.1 - m0 = slots by omega] at this
    exact this
  · cases ho3
theorem rx_s_return_ {mi pc : Nat} {ls st : List Value} {h : rx_H} {Q : Option Value → rx_H → Prop} {nx a b' k : Nat} {v : Value} {o : rx_O} (hm : mi < 173) (hdec : decode (rx_cc mi) pc = .ok (.return_, nx - pc)) (hsh : rx_shape mi pc (.return_, nx, a, b', k, v) = true) (hneed : ∀ w ∈ rx_need mi (.return_, nx, a, b', k, v), w ∈ rx_g)
    (ho1 : rx_res rx_cn (.return_, nx, a, b', k, v) pc ls st h = some o) (ho2 : rx_dis o (fun pc' ls' st' h' => rx_P l dC dI dA b bs L xs mi pc' ls' st' h' Q) (rx_Cg (rx_P l dC dI dA b bs L xs)) Q ls h) : rx_P l dC dI dA b bs L xs mi pc ls st h Q := by
  have h1 : (decide (nx = pc + 1) && decide (rx_rt mi = none)) = true := hsh
  simp only [Bool.and_eq_true, decide_eq_true_eq] at h1
  obtain ⟨rfl, e2⟩ := h1
  have ho3 : (match (generalizing := false) st with
    | [] => some (.inr (.inr (none)))
    | _ => none : Option rx_O) = some o := ho1
  split at ho3
  · skip
    cases ho3
    refine ⟨⟨_, h, ho2, Nat.le_refl _, Nat.le_refl _⟩, fun p e R s m args below meth c H locs lsA cells slots n0 m0 Z hF hD hc hsl hroom hend => ?_⟩
    have := hend _ h H locs pc lsA ho2 hD.1 hD.2.1 hD.2.2.1 (by omega) (by omega) ⟨rx_dec hdec rfl, e2⟩
    rw [show h.1 - n0 = cells by omega, show h.2.1 - m0 = slots by omega] at this
    exact this
  · cases ho3
theorem rx_s_areturn {mi pc : Nat} {ls st : List Value} {h : rx_H} {Q : Option Value → rx_H → Prop} {nx a b' k : Nat} {v : Value} {o : rx_O} (hm : mi < 173) (hdec : decode (rx_cc mi) pc = .ok (.areturn, nx - pc)) (hsh : rx_shape mi pc (.areturn, nx, a, b', k, v) = true) (hneed : ∀ w ∈ rx_need mi (.areturn, nx, a, b', k, v), w ∈ rx_g)
    (ho1 : rx_res rx_cn (.areturn, nx, a, b', k, v) pc ls st h = some o) (ho2 : rx_dis o (fun pc' ls' st' h' => rx_P l dC dI dA b bs L xs mi pc' ls' st' h' Q) (rx_Cg (rx_P l dC dI dA b bs L xs)) Q ls h) : rx_P l dC dI dA b bs L xs mi pc ls st h Q := by
  have h1 : (decide (nx = pc + 1) && (match rx_rt mi with
    | some (.object _) => true
    | some (.array _) => true
    | _ => false)) = true := hsh
  simp only [Bool.and_eq_true, decide_eq_true_eq] at h1
  obtain ⟨rfl, e0⟩ := h1
  have e2 : (∃ n, rx_rt mi = some (.object n)) ∨ ∃ t, rx_rt mi = some (.array t) := by
    split at e0
    · next n hn => exact Or.inl ⟨n, hn⟩
    · next n hn => exact Or.inr ⟨n, hn⟩
    · cases e0
  have ho3 : (match (generalizing := false) st with
    | [.ref x] => some (.inr (.inr (some (.ref x))))
    | _ => none : Option rx_O) = some o := ho1
  split at ho3
  · next x =>
    cases ho3
    refine ⟨⟨_, h, ho2, Nat.le_refl _, Nat.le_refl _⟩, fun p e R s m args below meth c H locs lsA cells slots n0 m0 Z hF hD hc hsl hroom hend => ?_⟩
    have := hend _ h H locs pc lsA ho2 hD.1 hD.2.1 hD.2.2.1 (by omega) (by omega) ⟨rx_dec hdec rfl, e2⟩
    rw [show h.1 - n0 = cells by omega, show h.2.1 - m0 = slots by omega] at this
    exact this
  · cases ho3
theorem rx_s_invokestatic {mi pc : Nat} {ls st : List Value} {h : rx_H} {Q : Option Value → rx_H → Prop} {nx a b' k : Nat} {v : Value} {o : rx_O} {x : Nat} (hm : mi < 173) (hdec : decode (rx_cc mi) pc = .ok (.invokestatic x, nx - pc)) (hsh : rx_shape mi pc (.invokestatic x, nx, a, b', k, v) = true) (hneed : ∀ w ∈ rx_need mi (.invokestatic x, nx, a, b', k, v), w ∈ rx_g)
    (ho1 : rx_res rx_cn (.invokestatic x, nx, a, b', k, v) pc ls st h = some o) (ho2 : rx_dis o (fun pc' ls' st' h' => rx_P l dC dI dA b bs L xs mi pc' ls' st' h' Q) (rx_Cg (rx_P l dC dI dA b bs L xs)) Q ls h) : rx_P l dC dI dA b bs L xs mi pc ls st h Q := by
  have h1 : (decide (nx = pc + 3) && (if k = 9 then decide (1 ≤ rx_fr mi) && decide (26 ≤ rx_lo mi) else if k = 7 then decide (1 ≤ rx_fr mi) && decide (21 ≤ rx_lo mi) else rx_cok mi a b' 0 && (decide (k = 0) || decide (Cond.methodLinkNest (rx_y mi).cls x (rx_y a) "BesideWalk" ∈ rx_nest)))) = true := hsh
  obtain ⟨h0, h1x⟩ := rx_and h1
  simp only [decide_eq_true_eq] at h0
  subst h0
  clear h1
  have h1 := h1x
  clear h1x
  have ho3 : (if k = 9 then rx_copy (pc + 3) ls st h else if k = 7 then rx_min (pc + 3) ls st h else rx_call a b' 0 0 (pc + 3) st h) = some o := ho1
  have hnd : ∀ w ∈ (if k = 9 then ([.methodLink (rx_y mi).cls x arraycopyName, .native arraycopyName, .static arraycopyName, .initialized "java/lang/System"] : List Cond) else if k = 7 then [.methodLink (rx_y mi).cls x Lib.Math.min.name, .static Lib.Math.min.name, .initialized "java/lang/Math"] else (if k = 0 then [.methodLink (rx_y mi).cls x (rx_y a)] else []) ++ [.static (rx_y a), .initialized (rx_y a).cls]), w ∈ rx_g := hneed
  by_cases hk9 : k = 9
  · rw [if_pos hk9] at h1 ho3 hnd
    simp only [Bool.and_eq_true, decide_eq_true_eq] at h1
    obtain ⟨n, dp, d, sp, i, r, t, n0, n1, f, g, rfl, hi, hd0, hr4, hr0, hr1, ht, c1, c2, c3, c4, c5, c6, rfl⟩ := rx_copy_inv ho3
    refine rx_P_wr hd0 (fun p e R s m args below meth c H locs lsA cells slots Z hF hD hW => ?_) ho2
    have hP0 : H[bs + i]? = some (vp_cell (dA t) (n0, .inl f)) := hD.1.2.2.2 i _ (Nat.pos_of_ne_zero hi) hr0
    have hP1 : H[bs + d]? = some (vp_cell (dA t) (n1, .inl g)) := hD.1.2.2.2 d _ (Nat.pos_of_ne_zero hd0) hr1
    have e9 : (.int n :: .int dp :: .ref d :: .int sp :: .ref i :: r).map (rx_tv b bs) = .int n :: .int dp :: .ref (bs + d) :: .int sp :: .ref (bs + i) :: r.map (rx_tv b bs) := by
      rw [List.map_cons, List.map_cons, rx_map_ref hd0, List.map_cons, rx_map_ref hi]; rfl
    rw [e9]
    have hcs := rx_cats (b := b) (bs := bs) r
    have hlo := hF.2.2.2.2.2.2.2.2.2.1
    have hfr := hF.2.2.2.2.2.2.2.2.1
    exact rx_Wcopy hF hD.2.2.2.1 (hnd _ (by simp)) (hnd _ (by simp)) (hnd _ (by simp)) (hnd _ (by simp)) ht hP0 hP1 c1 c2 c3 c4 c5 c6 (by omega) (by omega) (rx_dec hdec rfl) (fun H1 locs1 g1 g2 g3 g4 => hW H1 locs1 g1 g2 g3 g4)
  rw [if_neg hk9] at h1 ho3 hnd
  by_cases hk7 : k = 7
  · rw [if_pos hk7] at h1 ho3 hnd
    simp only [Bool.and_eq_true, decide_eq_true_eq] at h1
    unfold rx_min at ho3
    split at ho3
    · next y x' r =>
      split at ho3
      · next hr4 =>
        cases ho3
        refine rx_P_nx (h' := h) ⟨Nat.le_refl _, Nat.le_refl _⟩ (fun p e R s m args below meth c H locs lsA cells slots Z hF hD hcl hsl hW => ?_) ho2
        have hcs := rx_cats (b := b) (bs := bs) r
        have hlo := hF.2.2.2.2.2.2.2.2.2.1
        have hfr := hF.2.2.2.2.2.2.2.2.1
        have hts := hF.2.2.2.2.1
        have hW' := hW H locs lsA hD
        rw [Nat.sub_self, Nat.sub_self, Nat.add_zero, Nat.add_zero] at hW'
        exact va_mmin hF.1 hF.2.1 (hF.2.2.1.trans hD.2.2.2.1.symm) hF.2.2.2.1 (hts _ (hnd _ (by simp))) (hts _ (hnd _ (by simp))) (hts _ (hnd _ (by simp))) (hts _ rx_mincode) (by omega) (by omega) (by omega) (by omega) (rx_dec hdec rfl) hW'
      · cases ho3
    · cases ho3
  rw [if_neg hk7] at h1 ho3 hnd
  obtain ⟨hck, hnk⟩ := rx_and h1
  obtain ⟨ha, hfr, hlo, hnp⟩ := rx_cok_of hm hck
  obtain ⟨As, rest, rfl, hAl, hr4, rfl, hkd⟩ := rx_call_inv ho3
  have w2 : Cond.static (rx_y a) ∈ rx_g := hnd _ (by simp)
  have w3 : Cond.initialized (rx_y a).cls ∈ rx_g := hnd _ (by simp)
  obtain ⟨hl, rc, hc', hPa, hk⟩ := ho2
  have hmet := rx_met (l := l) (b := b) (bs := bs) (dC := dC) (dI := dI) (dA := dA) (L := L) (xs := xs)
  obtain ⟨⟨rq, hq, hQq, q1, q2⟩, hk⟩ := hk
  have hm1 : h.1 ≤ hc'.1 ∧ h.2.1 ≤ hc'.2.1 := by
    obtain ⟨⟨_, _, ⟨rfl, rfl⟩, z1, z2⟩, -⟩ := hPa
    exact ⟨z1, z2⟩
  refine ⟨⟨rq, hq, hQq, Nat.le_trans hm1.1 q1, Nat.le_trans hm1.2 q2⟩, fun p e R s m args below meth c H locs lsA cells slots n0 m0 Z hF hD hcl hsl hroom hend => ?_⟩
  have hrm := hroom rq hq hQq
  have hM := hmet hF.2.2.2.2.2.2.2.1 ha hl hPa
  have hfix : CallFix p m c (rx_cc mi) (rx_ml mi) s args rx_g (rx_y mi).cls := ⟨hF.1, hF.2.1, hF.2.2.1, hF.2.2.2.1, hF.2.2.2.2.1⟩
  have hts := hF.2.2.2.2.1
  have hcont : ∀ (H1 : Heap) (locs1 : List Loc), rx_G dC dI dA b bs L xs hc' H1 → (∀ q : Nat, q ≤ bs → H1[q]? = H[q]?) → (∀ q ∈ locs1, bs < q.base) → W p l e R s m args below meth c H1 locs1 (cells + (hc'.1 - h.1)) (slots + (hc'.2.1 - h.2.1)) Z (F0 m (pc + 3) lsA ((rc.map (rx_tv b bs)).toList ++ rest.map (rx_tv b bs))) := fun H1 locs1 g1 g2 g3 => by
    have := hk p e R s m args below meth c H1 locs1 lsA (cells + (hc'.1 - h.1)) (slots + (hc'.2.1 - h.2.1)) n0 m0 Z hF ⟨g1, fun q hq => (g2 q hq).trans (hD.2.1 q hq), g3, hD.2.2.2⟩ (by omega) (by omega) hroom hend
    have e9 : (rc.toList ++ rest).map (rx_tv b bs) = (rc.map (rx_tv b bs)).toList ++ rest.map (rx_tv b bs) := by cases rc <;> rfl
    rw [e9] at this
    exact this
  have est : (As.reverse ++ rest).map (rx_tv b bs) = (As.map (rx_tv b bs)).reverse ++ rest.map (rx_tv b bs) := by rw [List.map_append, List.map_reverse]
  rw [est]
  by_cases hk0 : k = 0
  · have w1 : Cond.methodLink (rx_y mi).cls x (rx_y a) ∈ rx_g := hnd _ (by simp [hk0])
    exact rx_Wcall (va_runS (As := As.map (rx_tv b bs)) (rest := rest.map (rx_tv b bs)) hfix hM ⟨rx_CB hF ha hfr hlo (n := b') (by omega) w3 (hts _ w1), hts _ w2⟩ ⟨rx_blind, rx_pre hF hD⟩ rfl (by rw [List.length_map]; exact hAl) hD.2.2.2.1 rfl (rx_room4 hr4) (rx_dec hdec rfl) ⟨by omega, by omega⟩) hD.2.2.1 hcont
  · have hn1 : Cond.methodLinkNest (rx_y mi).cls x (rx_y a) "BesideWalk" ∈ rx_nest := by simpa [hk0] using hnk
    exact rx_Wcall (va_runSN (As := As.map (rx_tv b bs)) (rest := rest.map (rx_tv b bs)) hfix hM ⟨rx_CN hF ha hfr hlo (n := b') (by omega) w3 (hF.2.2.2.2.2.1.2.1 _ hn1), hts _ w2, trivial⟩ ⟨rx_blind, rx_pre hF hD⟩ rfl (by rw [List.length_map]; exact hAl) hD.2.2.2.1 rfl (rx_room4 hr4) (rx_dec hdec rfl) ⟨by omega, by omega⟩) hD.2.2.1 hcont
theorem rx_s_invokespecial {mi pc : Nat} {ls st : List Value} {h : rx_H} {Q : Option Value → rx_H → Prop} {nx a b' k : Nat} {v : Value} {o : rx_O} {x : Nat} (hm : mi < 173) (hdec : decode (rx_cc mi) pc = .ok (.invokespecial x, nx - pc)) (hsh : rx_shape mi pc (.invokespecial x, nx, a, b', k, v) = true) (hneed : ∀ w ∈ rx_need mi (.invokespecial x, nx, a, b', k, v), w ∈ rx_g)
    (ho1 : rx_res rx_cn (.invokespecial x, nx, a, b', k, v) pc ls st h = some o) (ho2 : rx_dis o (fun pc' ls' st' h' => rx_P l dC dI dA b bs L xs mi pc' ls' st' h' Q) (rx_Cg (rx_P l dC dI dA b bs L xs)) Q ls h) : rx_P l dC dI dA b bs L xs mi pc ls st h Q := by
  have h1 : (decide (nx = pc + 3) && (if k = 8 then decide (1 ≤ rx_fr mi) && decide (20 ≤ rx_lo mi) else rx_cok mi a b' 1 && decide ((rx_y a).name = "<init>") && decide (rx_rt a = none) && (decide (k = 0) || decide (Cond.methodLinkNest (rx_y mi).cls x (rx_y a) "BesideWalk" ∈ rx_nest)))) = true := hsh
  obtain ⟨h0, h1x⟩ := rx_and h1
  simp only [decide_eq_true_eq] at h0
  subst h0
  clear h1
  have h1 := h1x
  clear h1x
  have ho3 : (if k = 8 then (match (generalizing := false) st with
    | .ref _ :: r => if r.length ≤ 4 then some (.inl (pc + 3, ls, r, h)) else none
    | _ => none) else rx_call a b' 2 0 (pc + 3) st h) = some o := ho1
  have hnd : ∀ w ∈ (if k = 8 then ([.methodLink (rx_y mi).cls x objectInit, .instanceMethod objectInit] : List Cond) else (if k = 0 then [.methodLink (rx_y mi).cls x (rx_y a)] else []) ++ [.instanceMethod (rx_y a), .initialized (rx_y a).cls]), w ∈ rx_g := hneed
  by_cases hk8 : k = 8
  · rw [if_pos hk8] at h1 ho3 hnd
    simp only [Bool.and_eq_true, decide_eq_true_eq] at h1
    split at ho3
    · next i r =>
      split at ho3
      · next hr4 =>
        cases ho3
        refine rx_P_st (fun p e R s m args below meth c H locs lsA cells slots Z hF hD hW => ?_) ho2
        have hcs := rx_cats (b := b) (bs := bs) r
        have hlo := hF.2.2.2.2.2.2.2.2.2.1
        have hfr := hF.2.2.2.2.2.2.2.2.1
        have hts := hF.2.2.2.2.1
        exact W.objInit (a := rx_ta b bs i) (rest := r.map (rx_tv b bs)) hF.1 hF.2.1 hF.2.2.2.1 (hts _ (hnd _ (by simp))) (hts _ (hnd _ (by simp))) (hts _ rx_obj) rfl (by rw [hF.2.2.1]; exact hD.2.2.2.1) rfl (rx_dec hdec rfl) (by omega) (by show 2 * 0 + _ + _ ≤ _; omega) hW
      · cases ho3
    · cases ho3
  rw [if_neg hk8] at h1 ho3 hnd
  obtain ⟨h1a, hnk⟩ := rx_and h1
  obtain ⟨h1b, hrt⟩ := rx_and h1a
  obtain ⟨hck, hnm⟩ := rx_and h1b
  simp only [decide_eq_true_eq] at hrt hnm
  obtain ⟨ha, hfr, hlo, hnp⟩ := rx_cok_of hm hck
  obtain ⟨As, rest, rfl, hAl, hr4, rfl, hkd⟩ := rx_call_inv ho3
  obtain ⟨i, Bs, rfl, hi⟩ : ∃ i Bs, As = .ref i :: Bs ∧ ¬ i = 0 := by
    rcases hkd with z | ⟨z, -⟩ | ⟨-, z⟩
    · cases z
    · cases z
    · exact z
  have w2 : Cond.instanceMethod (rx_y a) ∈ rx_g := hnd _ (by simp)
  have w3 : Cond.initialized (rx_y a).cls ∈ rx_g := hnd _ (by simp)
  obtain ⟨hl, rc, hc', hPa, hk⟩ := ho2
  have hmet := rx_met (l := l) (b := b) (bs := bs) (dC := dC) (dI := dI) (dA := dA) (L := L) (xs := xs)
  obtain ⟨⟨rq, hq, hQq, q1, q2⟩, hk⟩ := hk
  have hm1 : h.1 ≤ hc'.1 ∧ h.2.1 ≤ hc'.2.1 := by
    obtain ⟨⟨_, _, ⟨rfl, rfl⟩, z1, z2⟩, -⟩ := hPa
    exact ⟨z1, z2⟩
  refine ⟨⟨rq, hq, hQq, Nat.le_trans hm1.1 q1, Nat.le_trans hm1.2 q2⟩, fun p e R s m args below meth c H locs lsA cells slots n0 m0 Z hF hD hcl hsl hroom hend => ?_⟩
  have hrm := hroom rq hq hQq
  have hM := hmet hF.2.2.2.2.2.2.2.1 ha hl hPa
  have hfix : CallFix p m c (rx_cc mi) (rx_ml mi) s args rx_g (rx_y mi).cls := ⟨hF.1, hF.2.1, hF.2.2.1, hF.2.2.2.1, hF.2.2.2.2.1⟩
  have hts := hF.2.2.2.2.1
  have hcont : ∀ (H1 : Heap) (locs1 : List Loc), rx_G dC dI dA b bs L xs hc' H1 → (∀ q : Nat, q ≤ bs → H1[q]? = H[q]?) → (∀ q ∈ locs1, bs < q.base) → W p l e R s m args below meth c H1 locs1 (cells + (hc'.1 - h.1)) (slots + (hc'.2.1 - h.2.1)) Z (F0 m (pc + 3) lsA ((rc.map (rx_tv b bs)).toList ++ rest.map (rx_tv b bs))) := fun H1 locs1 g1 g2 g3 => by
    have := hk p e R s m args below meth c H1 locs1 lsA (cells + (hc'.1 - h.1)) (slots + (hc'.2.1 - h.2.1)) n0 m0 Z hF ⟨g1, fun q hq => (g2 q hq).trans (hD.2.1 q hq), g3, hD.2.2.2⟩ (by omega) (by omega) hroom hend
    have e9 : (rc.toList ++ rest).map (rx_tv b bs) = (rc.map (rx_tv b bs)).toList ++ rest.map (rx_tv b bs) := by cases rc <;> rfl
    rw [e9] at this
    exact this
  have est : ((.ref i :: Bs).reverse ++ rest).map (rx_tv b bs) = (Bs.map (rx_tv b bs)).reverse ++ .ref (rx_ta b bs i) :: rest.map (rx_tv b bs) := by
    rw [List.map_append, List.reverse_cons, List.map_append, List.map_reverse]
    simp [rx_tv]
  rw [est]
  have hlB : (Bs.map (rx_tv b bs)).length = rx_np a := by
    rw [List.length_map]
    rw [List.length_cons] at hAl
    omega
  by_cases hk0 : k = 0
  · have w1 : Cond.methodLink (rx_y mi).cls x (rx_y a) ∈ rx_g := hnd _ (by simp [hk0])
    have hcb := rx_CB (mc := hc'.1 - h.1) (ms := hc'.2.1 - h.2.1) hF ha hfr hlo (n := rx_np a) rfl w3 (hts _ w1)
    rw [hrt] at hcb
    exact rx_Wcall (va_runI (b := rx_ta b bs i) (As := Bs.map (rx_tv b bs)) (rest := rest.map (rx_tv b bs)) hfix hM ⟨hcb, hnm, hts _ w2⟩ ⟨rx_blind, rx_pre hF hD⟩ rfl hlB hD.2.2.2.1 rfl (rx_room4 hr4) (rx_dec hdec rfl) ⟨by omega, by omega⟩) hD.2.2.1 hcont
  · have hn1 : Cond.methodLinkNest (rx_y mi).cls x (rx_y a) "BesideWalk" ∈ rx_nest := by simpa [hk0] using hnk
    have hcb := rx_CN (mc := hc'.1 - h.1) (ms := hc'.2.1 - h.2.1) hF ha hfr hlo (n := rx_np a) rfl w3 (hF.2.2.2.2.2.1.2.1 _ hn1)
    rw [hrt] at hcb
    exact rx_Wcall (va_runIN (b := rx_ta b bs i) (As := Bs.map (rx_tv b bs)) (rest := rest.map (rx_tv b bs)) hfix hM ⟨hcb, hnm, hts _ w2⟩ ⟨rx_blind, rx_pre hF hD⟩ rfl hlB hD.2.2.2.1 rfl (rx_room4 hr4) (rx_dec hdec rfl) ⟨by omega, by omega⟩) hD.2.2.1 hcont
theorem rx_s_invokevirtual {mi pc : Nat} {ls st : List Value} {h : rx_H} {Q : Option Value → rx_H → Prop} {nx a b' k : Nat} {v : Value} {o : rx_O} {x : Nat} (hm : mi < 173) (hdec : decode (rx_cc mi) pc = .ok (.invokevirtual x, nx - pc)) (hsh : rx_shape mi pc (.invokevirtual x, nx, a, b', k, v) = true) (hneed : ∀ w ∈ rx_need mi (.invokevirtual x, nx, a, b', k, v), w ∈ rx_g)
    (ho1 : rx_res rx_cn (.invokevirtual x, nx, a, b', k, v) pc ls st h = some o) (ho2 : rx_dis o (fun pc' ls' st' h' => rx_P l dC dI dA b bs L xs mi pc' ls' st' h' Q) (rx_Cg (rx_P l dC dI dA b bs L xs)) Q ls h) : rx_P l dC dI dA b bs L xs mi pc ls st h Q := by
  have h1 : (decide (nx = pc + 3) && rx_cok mi a b' 1 && decide (rx_cn a < 9) && decide ((rx_y a).cls = rx_Rn (rx_cn a))) = true := hsh
  obtain ⟨h1a, hcl2⟩ := rx_and h1
  obtain ⟨h1b, hcn⟩ := rx_and h1a
  obtain ⟨h0, hck⟩ := rx_and h1b
  simp only [decide_eq_true_eq] at h0 hcl2 hcn
  subst h0
  obtain ⟨ha, hfr, hlo, hnp⟩ := rx_cok_of hm hck
  have w1 : Cond.methodLink (rx_y mi).cls x (rx_y a) ∈ rx_g := hneed _ List.mem_cons_self
  have w2 : Cond.instanceMethod (rx_y a) ∈ rx_g := hneed _ (List.mem_cons_of_mem _ List.mem_cons_self)
  have w4 : Cond.selects (rx_y a).cls (rx_y a) (rx_y a) ∈ rx_g := hneed _ (List.mem_cons_of_mem _ (List.mem_cons_of_mem _ List.mem_cons_self))
  have w3 : Cond.initialized (rx_y a).cls ∈ rx_g := hneed _ (List.mem_cons_of_mem _ (List.mem_cons_of_mem _ (List.mem_cons_of_mem _ List.mem_cons_self)))
  obtain ⟨As, rest, rfl, hAl, hr4, rfl, hkd⟩ := rx_call_inv (show rx_call a b' 1 (rx_cn a) (pc + 3) st h = some o from ho1)
  obtain ⟨i, Bs, fs, rfl, hi, hr⟩ : ∃ i Bs fs, As = .ref i :: Bs ∧ ¬ i = 0 ∧ rx_rd h i = some (.inr (rx_cn a, fs)) := by
    rcases hkd with z | ⟨-, z⟩ | ⟨z, -⟩
    · cases z
    · exact z
    · cases z
  obtain ⟨hl, rc, hc', hPa, hk⟩ := ho2
  have hmet := rx_met (l := l) (b := b) (bs := bs) (dC := dC) (dI := dI) (dA := dA) (L := L) (xs := xs)
  obtain ⟨⟨rq, hq, hQq, q1, q2⟩, hk⟩ := hk
  have hm1 : h.1 ≤ hc'.1 ∧ h.2.1 ≤ hc'.2.1 := by
    obtain ⟨⟨_, _, ⟨rfl, rfl⟩, z1, z2⟩, -⟩ := hPa
    exact ⟨z1, z2⟩
  refine ⟨⟨rq, hq, hQq, Nat.le_trans hm1.1 q1, Nat.le_trans hm1.2 q2⟩, fun p e R s m args below meth c H locs lsA cells slots n0 m0 Z hF hD hcl hsl hroom hend => ?_⟩
  have hrm := hroom rq hq hQq
  have hM := hmet hF.2.2.2.2.2.2.2.1 ha hl hPa
  have hfix : CallFix p m c (rx_cc mi) (rx_ml mi) s args rx_g (rx_y mi).cls := ⟨hF.1, hF.2.1, hF.2.2.1, hF.2.2.2.1, hF.2.2.2.2.1⟩
  have hts := hF.2.2.2.2.1
  have hcont : ∀ (H1 : Heap) (locs1 : List Loc), rx_G dC dI dA b bs L xs hc' H1 → (∀ q : Nat, q ≤ bs → H1[q]? = H[q]?) → (∀ q ∈ locs1, bs < q.base) → W p l e R s m args below meth c H1 locs1 (cells + (hc'.1 - h.1)) (slots + (hc'.2.1 - h.2.1)) Z (F0 m (pc + 3) lsA ((rc.map (rx_tv b bs)).toList ++ rest.map (rx_tv b bs))) := fun H1 locs1 g1 g2 g3 => by
    have := hk p e R s m args below meth c H1 locs1 lsA (cells + (hc'.1 - h.1)) (slots + (hc'.2.1 - h.2.1)) n0 m0 Z hF ⟨g1, fun q hq => (g2 q hq).trans (hD.2.1 q hq), g3, hD.2.2.2⟩ (by omega) (by omega) hroom hend
    have e9 : (rc.toList ++ rest).map (rx_tv b bs) = (rc.map (rx_tv b bs)).toList ++ rest.map (rx_tv b bs) := by cases rc <;> rfl
    rw [e9] at this
    exact this
  have est : ((.ref i :: Bs).reverse ++ rest).map (rx_tv b bs) = (Bs.map (rx_tv b bs)).reverse ++ .ref (rx_ta b bs i) :: rest.map (rx_tv b bs) := by
    rw [List.map_append, List.reverse_cons, List.map_append, List.map_reverse]
    simp [rx_tv]
  rw [est]
  have hlB : (Bs.map (rx_tv b bs)).length = rx_np a := by
    rw [List.length_map]
    rw [List.length_cons] at hAl
    omega
  have hrecv : ∃ cellB : Cell, H[rx_ta b bs i]? = some cellB ∧ cellB.vm.isStatics = false ∧ s.vm.findClass (rx_y a).cls = some cellB.cls := by
    rw [rx_ta_pos hi, hcl2]
    exact va_recv hF.2.2.2.2.2.1.1 (rx_Dy_at hD hi hr) (rx_kinds_at _ hcn) (q0 := 0) rfl
  exact rx_Wcall (va_runV (C := (rx_y a).cls) (b := rx_ta b bs i) (As := Bs.map (rx_tv b bs)) (rest := rest.map (rx_tv b bs)) hfix hM ⟨rx_CB hF ha hfr hlo (n := rx_np a) rfl w3 (hts _ w1), hts _ w2, hts _ w4⟩ ⟨rx_blind, hrecv, rx_pre hF hD⟩ rfl hlB hD.2.2.2.1 rfl (rx_room4 hr4) (rx_dec hdec rfl) ⟨by omega, by omega⟩) hD.2.2.1 hcont
end RXC
set_option maxHeartbeats 4000000 in
theorem rx_sound (l : Launch) (dC : Nat → ClassId) (dI : Nat → Nat → Nat) (dA : Nat → ClassId) (b bs L : Nat) (xs : Nat → Int32) : rx_cl (rx_P l dC dI dA b bs L xs) := by
  intro mi pc ls st h Q i hi ho
  obtain ⟨hm, hdec, hsh, hneed⟩ := rx_ok_of hi
  have hx := rx_xs_of hi
  obtain ⟨o, ho1, ho2⟩ := rx_op_some ho
  obtain ⟨ins, nx, a, b', k, v⟩ := i
  cases ins
  case iconst => exact rx_s_iconst hm hdec hsh hneed ho1 ho2
  case bipush => exact rx_s_bipush hm hdec hsh hneed ho1 ho2
  case sipush => exact rx_s_sipush hm hdec hsh hneed ho1 ho2
  case iload_n => exact rx_s_iload_n hm hdec hsh hneed ho1 ho2
  case iload => exact rx_s_iload hm hdec hsh hneed ho1 ho2
  case aload_n => exact rx_s_aload_n hm hdec hsh hneed ho1 ho2
  case aload => exact rx_s_aload hm hdec hsh hneed ho1 ho2
  case lload_n => exact rx_s_lload_n hm hdec hsh hneed ho1 ho2
  case lload => exact rx_s_lload hm hdec hsh hneed ho1 ho2
  case istore_n => exact rx_s_istore_n hm hdec hsh hneed ho1 ho2
  case istore => exact rx_s_istore hm hdec hsh hneed ho1 ho2
  case astore_n => exact rx_s_astore_n hm hdec hsh hneed ho1 ho2
  case astore => exact rx_s_astore hm hdec hsh hneed ho1 ho2
  case lstore_n => exact rx_s_lstore_n hm hdec hsh hneed ho1 ho2
  case lstore => exact rx_s_lstore hm hdec hsh hneed ho1 ho2
  case iinc => exact rx_s_iinc hm hdec hsh hneed ho1 ho2
  case iadd => exact rx_s_iadd hm hdec hsh hneed ho1 ho2
  case isub => exact rx_s_isub hm hdec hsh hneed ho1 ho2
  case imul => exact rx_s_imul hm hdec hsh hneed ho1 ho2
  case iand => exact rx_s_iand hm hdec hsh hneed ho1 ho2
  case ior => exact rx_s_ior hm hdec hsh hneed ho1 ho2
  case ixor => exact rx_s_ixor hm hdec hsh hneed ho1 ho2
  case ishl => exact rx_s_ishl hm hdec hsh hneed ho1 ho2
  case ishr => exact rx_s_ishr hm hdec hsh hneed ho1 ho2
  case iushr => exact rx_s_iushr hm hdec hsh hneed ho1 ho2
  case idiv => exact rx_s_idiv hm hdec hsh hneed ho1 ho2
  case irem => exact rx_s_irem hm hdec hsh hneed ho1 ho2
  case ladd => exact rx_s_ladd hm hdec hsh hneed ho1 ho2
  case lmul => exact rx_s_lmul hm hdec hsh hneed ho1 ho2
  case ineg => exact rx_s_ineg hm hdec hsh hneed ho1 ho2
  case i2l => exact rx_s_i2l hm hdec hsh hneed ho1 ho2
  case i2b => exact rx_s_i2b hm hdec hsh hneed ho1 ho2
  case lcmp => exact rx_s_lcmp hm hdec hsh hneed ho1 ho2
  case dup => exact rx_s_dup hm hdec hsh hneed ho1 ho2
  case pop => exact rx_s_pop hm hdec hsh hneed ho1 ho2
  case dup2 => exact rx_s_dup2 hm hdec hsh hneed ho1 ho2
  case goto => exact rx_s_goto hx hm hdec hsh hneed ho1 ho2
  case ifCond => exact rx_s_ifCond hm hdec hsh hneed ho1 ho2
  case if_icmp => exact rx_s_if_icmp hm hdec hsh hneed ho1 ho2
  case tableswitch => exact rx_s_tableswitch hm hdec hsh hneed ho1 ho2
  case getfield => exact rx_s_getfield hm hdec hsh hneed ho1 ho2
  case putfield => exact rx_s_putfield hm hdec hsh hneed ho1 ho2
  case iaload => exact rx_s_iaload hm hdec hsh hneed ho1 ho2
  case baload => exact rx_s_baload hm hdec hsh hneed ho1 ho2
  case iastore => exact rx_s_iastore hm hdec hsh hneed ho1 ho2
  case bastore => exact rx_s_bastore hm hdec hsh hneed ho1 ho2
  case aaload => exact rx_s_aaload hm hdec hsh hneed ho1 ho2
  case aastore => exact rx_s_aastore hm hdec hsh hneed ho1 ho2
  case arraylength => exact rx_s_arraylength hm hdec hsh hneed ho1 ho2
  case new => exact rx_s_new hm hdec hsh hneed ho1 ho2
  case newarray => exact rx_s_newarray hm hdec hsh hneed ho1 ho2
  case anewarray => exact rx_s_anewarray hm hdec hsh hneed ho1 ho2
  case ldc => exact rx_s_ldc hx hm hdec hsh hneed ho1 ho2
  case ldc_w => exact rx_s_ldc_w hx hm hdec hsh hneed ho1 ho2
  case ldc2_w => exact rx_s_ldc2_w hx hm hdec hsh hneed ho1 ho2
  case ireturn => exact rx_s_ireturn hm hdec hsh hneed ho1 ho2
  case lreturn => exact rx_s_lreturn hm hdec hsh hneed ho1 ho2
  case return_ => exact rx_s_return_ hm hdec hsh hneed ho1 ho2
  case areturn => exact rx_s_areturn hm hdec hsh hneed ho1 ho2
  case invokestatic => exact rx_s_invokestatic hm hdec hsh hneed ho1 ho2
  case invokespecial => exact rx_s_invokespecial hm hdec hsh hneed ho1 ho2
  case invokevirtual => exact rx_s_invokevirtual hm hdec hsh hneed ho1 ho2
  all_goals cases ho1
