/-! ===== the rows that write ===== -/
theorem rx_fit_ok {ty : FieldType} {v : Value} {b bs : Nat} (h : rx_fit (rx_tk ty) v = true) : narrow ty (rx_tv b bs v) = rx_tv b bs v ∧ fits ty (rx_tv b bs v) = true := by
  cases ty <;> cases v <;> simp only [rx_tk, rx_fit] at h <;> first | cases h | skip
  all_goals first | exact ⟨rfl, rfl⟩ | skip
  next x =>
    simp only [Bool.or_eq_true, decide_eq_true_eq] at h
    rcases h with rfl | rfl
    · exact ⟨show narrow .boolean (.int 0) = .int 0 by decide +kernel, show fits .boolean (.int 0) = true by decide +kernel⟩
    · exact ⟨show narrow .boolean (.int 1) = .int 1 by decide +kernel, show fits .boolean (.int 1) = true by decide +kernel⟩
theorem rx_and {p q : Bool} (h : (p && q) = true) : p = true ∧ q = true := by simpa using h
theorem rx_ta_pos {b bs i : Nat} (hi : ¬ i = 0) : rx_ta b bs i = bs + i := by rw [rx_ta, if_neg hi]
theorem rx_map_ref {b bs i : Nat} (hi : ¬ i = 0) (r : List Value) : (Value.ref i :: r).map (rx_tv b bs) = .ref (bs + i) :: r.map (rx_tv b bs) := by
  rw [List.map_cons]
  show Value.ref (rx_ta b bs i) :: _ = _
  rw [rx_ta_pos hi]
theorem rx_cats {b bs : Nat} : ∀ r : List Value, ((r.map (rx_tv b bs)).map fun v => v.category).sum ≤ 2 * r.length
  | [] => Nat.le_refl _
  | v :: t => by
    have ih := rx_cats (b := b) (bs := bs) t
    have h1 := lv_cat (rx_tv b bs v)
    simp only [List.map_cons, List.sum_cons, List.length_cons]
    omega
section RXW
variable {p : Program} {l : Launch} {e : Env} {R : Room} {s : State} {m : MethodId} {args : Array Value} {below : List Frame} {meth : Method} {c : Code} {H : Heap} {locs : List Loc} {cells slots : Nat} {Z : State → Prop}
variable {dC : Nat → ClassId} {dI : Nat → Nat → Nat} {dA : Nat → ClassId} {b bs L : Nat} {xs : Nat → Int32} {mi pc : Nat} {ls : List Value} {lsA : Array Slot} {rest : List Value} {h : rx_H}
theorem rx_Wput {ci : Nat} (hlays : ∀ w ∈ u_ws (rx_Rn ci) (rx_T ci) (rx_N ci), w ∈ rx_g) (hF : rx_Fx dC dI dA b bs L xs mi p R s m args meth c) {index i k : Nat} (e2 : ci < 9) (e3 : k < rx_N ci) (hw : Cond.fieldLink (rx_y mi).cls index (rx_T ci k).1 (rx_T ci k).2.1 (rx_T ci k).2.2.1 ∈ rx_g)
    (hfin : (rx_T ci k).2.2.2 = false ∨ ((rx_y mi).name = "<init>" ∧ (rx_T ci k).1 = (rx_y mi).cls)) {v : Value} (hn : narrow (rx_ty ci k) v = v) (hfit : fits (rx_ty ci k) v = true) {fs : List Value} (hP : va_at (dC, dI) rx_kinds (bs + i, .inr (ci, fs)) H) (hl : k < fs.length) (hdg : decode (rx_cc mi) pc = .ok (.putfield index, 3))
    (kk : ∀ (H1 : Heap) (locs1 : List Loc), va_at (dC, dI) rx_kinds (bs + i, .inr (ci, fs.set k v)) H1 → H1.size = H.size → (∀ q : Nat, q ≠ bs + i → H1[q]? = H[q]?) → (∀ q ∈ locs1, q ∈ locs ∨ q.base = bs + i) → W p l e R s m args below meth c H1 locs1 cells slots Z (F0 m (pc + 3) lsA rest)) :
    W p l e R s m args below meth c H locs cells slots Z (F0 m pc lsA (v :: .ref (bs + i) :: rest)) := by
  obtain ⟨hx, hb, -, hown, hts, hK, -, -, -, -, hnm⟩ := hF
  have hc := rx_kinds_at ci e2
  have hty := rx_ty_ok ci e2
  have hap := va_apart (own := (rx_y mi).cls) hts hlays (rx_ty ci) hty (rx_nm_ok ci e2) hK.1 hc
  obtain ⟨r, h1, cell, q1, q2, q3, q4⟩ := hP
  have hr : r = (rx_Rn ci, rx_T ci, rx_N ci) := Option.some.inj (h1.symm.trans hc)
  subst hr
  obtain ⟨hS, hfc, kC, hkC, hkind⟩ := hK.1.1 ci _ hc
  obtain ⟨cf, kf, fi, f, hi, hsl⟩ := hS k e3
  have hst := (u_facts hfc hkC (u_lays hts hlays e3) hi).1
  have hlay := hts _ (hlays _ (u_in_lay e3))
  have hlc : ∀ q ∈ locs ++ [(⟨bs + i, f.slot⟩ : Loc)], q ∈ locs ∨ q.base = bs + i := fun q hq => by
    rcases List.mem_append.mp hq with z | z
    · exact Or.inl z
    · rw [List.mem_singleton.mp z]; exact Or.inr rfl
  unfold u_lay at hlay
  by_cases hf : (rx_T ci k).2.2.2 = false
  · rw [if_neg (by rw [hf]; decide)] at hlay
    have h6 := u_store hfc hkC hkind hlay hi (hty k e3) hn hfit
    refine W.putK hx hb (f := f) ⟨hown, hts _ hw, ⟨_, _, _, hi⟩, hst⟩ (by rw [q2]; exact h6) q1 q3 (by rw [hsl]; exact k2_hasslot (q4 k e3)) rfl rfl hdg fun H' e1 e4 e5 => ?_
    refine kk H' _ ⟨_, hc, t_OB.to (V := updV (vp_V fs) k v) ⟨_, e1, q2, q3, ?_⟩ (fun j _ => vp_updV_set hl v j)⟩ e4 e5 hlc
    rw [hsl]
    exact t_set q4 hap e3 v
  · rcases hfin with z | ⟨z1, z2⟩
    · exact absurd z hf
    · have hf' : (rx_T ci k).2.2.2 = true := by cases hz : (rx_T ci k).2.2.2 with
        | true => rfl
        | false => exact absurd hz hf
      rw [if_pos hf'] at hlay
      have hcf : m.cls = cf := by
        obtain ⟨_, _, c', _, _, _, -, -, hf', -, -, -, hown2, -⟩ := Cond.laysFinal_spec hlay
        have e1 : c' = cf := by have := hi.symm.trans hf'; simp at this; exact this.1.symm
        rw [z2] at hown2
        rw [← e1]; exact Option.some.inj (hown.symm.trans hown2)
      have h6 := u_fits hfc hkC hkind (Or.inr hlay) hi (hty k e3) hn hfit
      refine W.putFinK hx hb hown (hts _ hw) hi hst hcf (hnm.trans z1) (by rw [q2]; exact h6) q1 q3 (by rw [hsl]; exact k2_hasslot (q4 k e3)) rfl rfl hdg fun H' e1 e4 e5 => ?_
      refine kk H' _ ⟨_, hc, t_OB.to (V := updV (vp_V fs) k v) ⟨_, e1, q2, q3, ?_⟩ (fun j _ => vp_updV_set hl v j)⟩ e4 e5 hlc
      rw [hsl]
      exact t_set q4 hap e3 v
theorem rx_upd_cell (cA : ClassId) (n j : Nat) (f : Nat → Int32) (x : Int32) : (vp_cell cA (n, .inl f)).setSlot j (.int x) = vp_cell cA (n, .inl (upd f j x)) := by
  rw [vp_cell_i, vp_cell_i, arrV_store]
  congr 1
  funext q
  by_cases hq : q = j
  · subst hq
    simp [updV, upd]
  · simp [updV, upd, hq]
theorem rx_up_cell (cA : ClassId) (n j : Nat) (f : Nat → Option Nat) (v : Nat) : (vp_cell cA (n, .inr (.inr (.inr (.inr f))))).setSlot j (.ref v) = vp_cell cA (n, .inr (.inr (.inr (.inr (va_up f j (some v)))))) := by
  rw [vp_cell_q, vp_cell_q, arrV_store]
  congr 1
  funext q
  by_cases hq : q = j
  · subst hq
    simp [updV, va_up, va_rf]
  · simp [updV, va_up, hq]
theorem rx_lc {k i : Nat} {bs : Nat} {locs : List Loc} : ∀ q ∈ locs ++ [(⟨bs + i, k⟩ : Loc)], q ∈ locs ∨ q.base = bs + i := fun q hq => by
  rcases List.mem_append.mp hq with z | z
  · exact Or.inl z
  · rw [List.mem_singleton.mp z]; exact Or.inr rfl
theorem rx_tys_at (t : Nat) (ht : t ≤ 1) : (rx_tys dA)[t]? = some (dA t, if t = 0 then .int else .byte) := by
  rcases t with _ | _ | t
  · rfl
  · rfl
  · omega
theorem rx_Wcopy (hF : rx_Fx dC dI dA b bs L xs mi p R s m args meth c) (hsz : lsA.size = rx_ml mi) {index : Nat} (w1 : Cond.methodLink (rx_y mi).cls index arraycopyName ∈ rx_g) (w2 : Cond.native arraycopyName ∈ rx_g) (w3 : Cond.static arraycopyName ∈ rx_g) (w4 : Cond.initialized "java/lang/System" ∈ rx_g)
    {t i d n0 n1 : Nat} {f g : Nat → Int32} (ht : t ≤ 1) (hc0 : H[bs + i]? = some (vp_cell (dA t) (n0, .inl f))) (hc1 : H[bs + d]? = some (vp_cell (dA t) (n1, .inl g)))
    {sp dp n : Int32} (h1 : ¬ sp < 0) (h2 : ¬ dp < 0) (h3 : ¬ n < 0) (h4 : sp.toNatClampNeg + n.toNatClampNeg ≤ n0) (h5 : dp.toNatClampNeg + n.toNatClampNeg ≤ n1) (hfit : t = 0 ∨ ∀ j, j < n.toNatClampNeg → fits .byte (.int (f (sp.toNatClampNeg + j))) = true)
    (hframes : 1 ≤ R.frames) (hlocals : (rest.map fun v => v.category).sum + 18 ≤ R.locals) (hdg : decode (rx_cc mi) pc = .ok (.invokestatic index, 3))
    (kk : ∀ (H1 : Heap) (locs1 : List Loc), H1[bs + d]? = some (vp_cell (dA t) (n1, .inl (va_cpy f g sp.toNatClampNeg dp.toNatClampNeg n.toNatClampNeg))) → H1.size = H.size → (∀ q : Nat, q ≠ bs + d → H1[q]? = H[q]?) → (∀ q ∈ locs1, q ∈ locs ∨ q.base = bs + d) → W p l e R s m args below meth c H1 locs1 cells slots Z (F0 m (pc + 3) lsA rest)) :
    W p l e R s m args below meth c H locs cells slots Z (F0 m pc lsA (.int n :: .int dp :: .ref (bs + d) :: .int sp :: .ref (bs + i) :: rest)) := by
  obtain ⟨hx, hb, hml, hown, hts, hK, -⟩ := hF
  have nn : ∀ z : Int32, ¬ z < 0 → z.toInt = (z.toNatClampNeg : Int) := by
    intro z hz
    have hz0 : (0 : Int) ≤ z.toInt := by
      have := Int32.not_lt.mp hz
      simpa using Int32.le_iff_toInt_le.mp this
    show z.toInt = ((z.toInt.toNat : Nat) : Int)
    omega
  intro T hT X
  have htt := (hK.1.2 t _ (rx_tys_at t ht)).1
  obtain ⟨-, k0, hk0, cm0, hkk0⟩ := htt n0 (fun j => .int (f j))
  obtain ⟨-, k1, hk1, cm1, hkk1⟩ := htt n1 (fun j => .int (g j))
  obtain ⟨vm', X', step⟩ := X.arraycopy hx hown (hts _ w1) (hts _ w2) (hts _ w3) (hts _ w4) (src := bs + i) (dst := bs + d) (cs := vp_cell (dA t) (n0, .inl f)) (cd := vp_cell (dA t) (n1, .inl g)) (srcPos := sp) (destPos := dp) (n := n) (by rw [hT]; exact hc0) (by rw [hT]; exact hc1)
    (fun _ h => by cases h) (fun _ h => by cases h) (fun h => by cases h) (fun h => by cases h) hk0 hk1 hkk0 hkk1 (by rcases t with _ | _ | t <;> first | rfl | decide | omega) h1 h2 h3
    (by rw [nn sp h1, nn n h3]; show ¬ _ > ((arrV (dA t) n0 (fun j => .int (f j))).slots.size : Int); rw [arrV_size]; omega)
    (by rw [nn dp h2, nn n h3]; show ¬ _ > ((arrV (dA t) n1 (fun j => .int (g j))).slots.size : Int); rw [arrV_size]; omega)
    (fun vm₁ _ j hj => by
      have e : (vp_cell (dA t) (n0, .inl f)).slots.getD (sp.toNatClampNeg + j) .null = .int (f (sp.toNatClampNeg + j)) := by
        show (arrV (dA t) n0 (fun j => .int (f j))).slots.getD _ _ = _
        rw [Array.getD_eq_getD_getElem?, arrV_read _ _ (by omega)]
        rfl
      refine ⟨?_, ?_⟩
      · rw [e]
        rcases t with _ | _ | t
        · rfl
        · rcases hfit with z | z
          · omega
          · exact z j hj
        · omega
      · rw [e]
        exact trivial)
    (g := F0 m pc lsA (.int n :: .int dp :: .ref (bs + d) :: .int sp :: .ref (bs + i) :: rest)) rfl (by rw [hml]; exact hsz) (rest := rest) rfl (by rw [hb]; exact hdg) hframes (by
      have e : nativeFrameWords "java/lang/System" "arraycopy" 5 = 7 := by decide +kernel
      rw [e]; show 2 * 0 + _ + _ ≤ _; omega)
  have e1 : copied (vp_cell (dA t) (n0, .inl f)) (vp_cell (dA t) (n1, .inl g)) sp dp n = vp_cell (dA t) (n1, .inl (va_cpy f g sp.toNatClampNeg dp.toNatClampNeg n.toNatClampNeg)) := va_copied (fun z => .int z) (dA t) (dA t) f g h4
  rw [e1] at X' step
  have hl : bs + d < H.size := (Array.getElem?_eq_some_iff.mp hc1).1
  have hheap : ((T.setVm vm').setCell (bs + d) (vp_cell (dA t) (n1, .inl (va_cpy f g sp.toNatClampNeg dp.toNatClampNeg n.toNatClampNeg)))).heap = H.setIfInBounds (bs + d) (vp_cell (dA t) (n1, .inl (va_cpy f g sp.toNatClampNeg dp.toNatClampNeg n.toNatClampNeg))) := by rw [← hT]; rfl
  obtain ⟨t2, a1, b1⟩ := kk _ _ (show (H.setIfInBounds (bs + d) _)[bs + d]? = some _ by simp [Array.getElem?_setIfInBounds, hl]) (by simp) (fun q hq => by simp [Array.getElem?_setIfInBounds, Ne.symm hq]) (fun q hq => by
      rcases List.mem_append.mp hq with h | h
      · exact Or.inl h
      · obtain ⟨z, -, hz⟩ := List.mem_map.mp h
        rw [← hz]
        exact Or.inr rfl) _ hheap X'
  exact ⟨t2, step t2 a1, b1⟩
end RXW
