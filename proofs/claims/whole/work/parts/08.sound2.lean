/-! ===== a frame's fixed facts, its moving ones, and what is to be shown of an instruction ===== -/
def rx_Fx (dC : Nat → ClassId) (dI : Nat → Nat → Nat) (dA : Nat → ClassId) (b bs L : Nat) (xs : Nat → Int32) (mi : Nat) (p : Program) (R : Room) (s : State) (m : MethodId) (args : Array Value) (meth : Method) (c : Code) : Prop :=
  p.tables.exec = Jvm.exec ∧ c.code = rx_cc mi ∧ c.maxLocals = rx_ml mi ∧ s.vm.findClass (rx_y mi).cls = some m.cls ∧ (∀ w ∈ rx_g, w.before args s = true) ∧ rx_K dC dI dA s ∧ va_X b L xs s s.heap ∧ b ≤ bs ∧ rx_fr mi ≤ R.frames ∧ rx_lo mi ≤ R.locals ∧ meth.name = (rx_y mi).name
def rx_Dy (dC : Nat → ClassId) (dI : Nat → Nat → Nat) (dA : Nat → ClassId) (b bs L : Nat) (xs : Nat → Int32) (mi : Nat) (s : State) (H : Heap) (locs : List Loc) (lsA : Array Slot) (ls : List Value) (h : rx_H) : Prop :=
  rx_G dC dI dA b bs L xs h H ∧ (∀ q : Nat, q ≤ bs → H[q]? = s.heap[q]?) ∧ (∀ q ∈ locs, bs < q.base) ∧ rx_LS b bs lsA (rx_ml mi) ls
def rx_rdec (mi pc : Nat) (r : Option Value) : Prop := match r with
  | some (.int x) => decode (rx_cc mi) pc = .ok (.ireturn, 1) ∧ (rx_rt mi = some .int ∨ (rx_rt mi = some .boolean ∧ (x = 0 ∨ x = 1)))
  | some (.long _) => decode (rx_cc mi) pc = .ok (.lreturn, 1) ∧ rx_rt mi = some .long
  | some (.ref _) => decode (rx_cc mi) pc = .ok (.areturn, 1) ∧ ((∃ n, rx_rt mi = some (.object n)) ∨ ∃ t, rx_rt mi = some (.array t))
  | none => decode (rx_cc mi) pc = .ok (.return_, 1) ∧ rx_rt mi = none
  | _ => False
def rx_P (l : Launch) (dC : Nat → ClassId) (dI : Nat → Nat → Nat) (dA : Nat → ClassId) (b bs L : Nat) (xs : Nat → Int32) : rx_PT := fun mi pc ls st h Q =>
  (∃ r h', Q r h' ∧ h.1 ≤ h'.1 ∧ h.2.1 ≤ h'.2.1) ∧
  ∀ (p : Program) (e : Env) (R : Room) (s : State) (m : MethodId) (args : Array Value) (below : List Frame) (meth : Method) (c : Code) (H : Heap) (locs : List Loc) (lsA : Array Slot) (cells slots n0 m0 : Nat) (Z : State → Prop),
    rx_Fx dC dI dA b bs L xs mi p R s m args meth c → rx_Dy dC dI dA b bs L xs mi s H locs lsA ls h → cells + n0 = h.1 → slots + m0 = h.2.1 →
    (∀ r h', Q r h' → h'.1 ≤ n0 + R.cells ∧ h'.2.1 ≤ m0 + R.slots) →
    (∀ (r : Option Value) (h' : rx_H) (H1 : Heap) (locs1 : List Loc) (pc1 : Nat) (ls1 : Array Slot), Q r h' → rx_G dC dI dA b bs L xs h' H1 → (∀ q : Nat, q ≤ bs → H1[q]? = s.heap[q]?) → (∀ q ∈ locs1, bs < q.base) → n0 ≤ h'.1 → m0 ≤ h'.2.1 → rx_rdec mi pc1 r →
      W p l e R s m args below meth c H1 locs1 (h'.1 - n0) (h'.2.1 - m0) Z (F0 m pc1 ls1 (r.toList.map (rx_tv b bs)))) →
    W p l e R s m args below meth c H locs cells slots Z (F0 m pc lsA (st.map (rx_tv b bs)))
section RXN
variable {l : Launch} {dC : Nat → ClassId} {dI : Nat → Nat → Nat} {dA : Nat → ClassId} {b bs L : Nat} {xs : Nat → Int32} {mi pc pc' : Nat} {ls ls' st st' : List Value} {h h' : rx_H} {Q : Option Value → rx_H → Prop}
theorem rx_P_nx (hm : h.1 ≤ h'.1 ∧ h.2.1 ≤ h'.2.1)
    (hs : ∀ (p : Program) (e : Env) (R : Room) (s : State) (m : MethodId) (args : Array Value) (below : List Frame) (meth : Method) (c : Code) (H : Heap) (locs : List Loc) (lsA : Array Slot) (cells slots : Nat) (Z : State → Prop),
      rx_Fx dC dI dA b bs L xs mi p R s m args meth c → rx_Dy dC dI dA b bs L xs mi s H locs lsA ls h → cells + (h'.1 - h.1) ≤ R.cells → slots + (h'.2.1 - h.2.1) ≤ R.slots →
      (∀ (H1 : Heap) (locs1 : List Loc) (lsA1 : Array Slot), rx_Dy dC dI dA b bs L xs mi s H1 locs1 lsA1 ls' h' → W p l e R s m args below meth c H1 locs1 (cells + (h'.1 - h.1)) (slots + (h'.2.1 - h.2.1)) Z (F0 m pc' lsA1 (st'.map (rx_tv b bs)))) →
      W p l e R s m args below meth c H locs cells slots Z (F0 m pc lsA (st.map (rx_tv b bs))))
    (hk : rx_P l dC dI dA b bs L xs mi pc' ls' st' h' Q) : rx_P l dC dI dA b bs L xs mi pc ls st h Q := by
  obtain ⟨⟨r, h2, hq, m1, m2⟩, hk⟩ := hk
  refine ⟨⟨r, h2, hq, Nat.le_trans hm.1 m1, Nat.le_trans hm.2 m2⟩, ?_⟩
  intro p e R s m args below meth c H locs lsA cells slots n0 m0 Z hF hD hc hsl hroom hend
  have hr := hroom r h2 hq
  refine hs p e R s m args below meth c H locs lsA cells slots Z hF hD (by omega) (by omega) (fun H1 locs1 lsA1 hD1 => ?_)
  exact hk p e R s m args below meth c H1 locs1 lsA1 _ _ n0 m0 Z hF hD1 (by omega) (by omega) hroom hend
/-- an instruction that leaves the heap -/
theorem rx_P_ls
    (hs : ∀ (p : Program) (e : Env) (R : Room) (s : State) (m : MethodId) (args : Array Value) (below : List Frame) (meth : Method) (c : Code) (H : Heap) (locs : List Loc) (lsA : Array Slot) (cells slots : Nat) (Z : State → Prop),
      rx_Fx dC dI dA b bs L xs mi p R s m args meth c → rx_Dy dC dI dA b bs L xs mi s H locs lsA ls h →
      (∀ lsA1 : Array Slot, rx_LS b bs lsA1 (rx_ml mi) ls' → W p l e R s m args below meth c H locs cells slots Z (F0 m pc' lsA1 (st'.map (rx_tv b bs)))) →
      W p l e R s m args below meth c H locs cells slots Z (F0 m pc lsA (st.map (rx_tv b bs))))
    (hk : rx_P l dC dI dA b bs L xs mi pc' ls' st' h Q) : rx_P l dC dI dA b bs L xs mi pc ls st h Q := by
  refine rx_P_nx ⟨Nat.le_refl _, Nat.le_refl _⟩ ?_ hk
  intro p e R s m args below meth c H locs lsA cells slots Z hF hD hc hsl hW
  refine hs p e R s m args below meth c H locs lsA cells slots Z hF hD (fun lsA1 hL => ?_)
  have := hW H locs lsA1 ⟨hD.1, hD.2.1, hD.2.2.1, hL⟩
  simpa using this
theorem rx_P_st
    (hs : ∀ (p : Program) (e : Env) (R : Room) (s : State) (m : MethodId) (args : Array Value) (below : List Frame) (meth : Method) (c : Code) (H : Heap) (locs : List Loc) (lsA : Array Slot) (cells slots : Nat) (Z : State → Prop),
      rx_Fx dC dI dA b bs L xs mi p R s m args meth c → rx_Dy dC dI dA b bs L xs mi s H locs lsA ls h →
      W p l e R s m args below meth c H locs cells slots Z (F0 m pc' lsA (st'.map (rx_tv b bs))) →
      W p l e R s m args below meth c H locs cells slots Z (F0 m pc lsA (st.map (rx_tv b bs))))
    (hk : rx_P l dC dI dA b bs L xs mi pc' ls st' h Q) : rx_P l dC dI dA b bs L xs mi pc ls st h Q :=
  rx_P_ls (fun p e R s m args below meth c H locs lsA cells slots Z hF hD hW => hs p e R s m args below meth c H locs lsA cells slots Z hF hD (hW lsA hD.2.2.2)) hk
/-- one that writes one cell -/
theorem rx_P_wr {i : Nat} {cl : rx_C} (hi : ¬ i = 0)
    (hs : ∀ (p : Program) (e : Env) (R : Room) (s : State) (m : MethodId) (args : Array Value) (below : List Frame) (meth : Method) (c : Code) (H : Heap) (locs : List Loc) (lsA : Array Slot) (cells slots : Nat) (Z : State → Prop),
      rx_Fx dC dI dA b bs L xs mi p R s m args meth c → rx_Dy dC dI dA b bs L xs mi s H locs lsA ls h →
      (∀ (H1 : Heap) (locs1 : List Loc), va_at (dC, dI) rx_kinds (bs + i, rx_te dA b bs cl) H1 → H1.size = H.size → (∀ q : Nat, q ≠ bs + i → H1[q]? = H[q]?) → (∀ q ∈ locs1, q ∈ locs ∨ q.base = bs + i) → W p l e R s m args below meth c H1 locs1 cells slots Z (F0 m pc' lsA (st'.map (rx_tv b bs)))) →
      W p l e R s m args below meth c H locs cells slots Z (F0 m pc lsA (st.map (rx_tv b bs))))
    (hk : rx_P l dC dI dA b bs L xs mi pc' ls st' (rx_up h i cl) Q) : rx_P l dC dI dA b bs L xs mi pc ls st h Q := by
  refine rx_P_nx (h' := rx_up h i cl) ⟨Nat.le_refl _, Nat.le_refl _⟩ ?_ hk
  intro p e R s m args below meth c H locs lsA cells slots Z hF hD hc hsl hW
  refine hs p e R s m args below meth c H locs lsA cells slots Z hF hD (fun H1 locs1 e1 e2 e3 e4 => ?_)
  have := hW H1 locs1 lsA ⟨rx_G_up hD.1 hi e1 e2 e3, fun q hq => (e3 q (by omega)).trans (hD.2.1 q hq), fun q hq => ?_, hD.2.2.2⟩
  · simpa [rx_up] using this
  · rcases e4 q hq with h1 | h1
    · exact hD.2.2.1 q h1
    · rw [h1]; omega
/-- one that makes a cell of n slots -/
theorem rx_P_mk {n : Nat} {cl : rx_C}
    (hs : ∀ (p : Program) (e : Env) (R : Room) (s : State) (m : MethodId) (args : Array Value) (below : List Frame) (meth : Method) (c : Code) (H : Heap) (locs : List Loc) (lsA : Array Slot) (cells slots : Nat) (Z : State → Prop),
      rx_Fx dC dI dA b bs L xs mi p R s m args meth c → rx_Dy dC dI dA b bs L xs mi s H locs lsA ls h → cells + 1 ≤ R.cells → slots + n ≤ R.slots →
      (∀ H1 : Heap, va_at (dC, dI) rx_kinds (H.size, rx_te dA b bs cl) H1 → H1.size = H.size + 1 → (∀ q : Nat, q < H.size → H1[q]? = H[q]?) → W p l e R s m args below meth c H1 locs (cells + 1) (slots + n) Z (F0 m pc' lsA (.ref H.size :: st'.map (rx_tv b bs)))) →
      W p l e R s m args below meth c H locs cells slots Z (F0 m pc lsA (st.map (rx_tv b bs))))
    (hk : rx_P l dC dI dA b bs L xs mi pc' ls (.ref h.1 :: st') (rx_nw h n cl) Q) : rx_P l dC dI dA b bs L xs mi pc ls st h Q := by
  refine rx_P_nx (h' := rx_nw h n cl) ⟨Nat.le_succ _, Nat.le_add_right _ _⟩ ?_ hk
  intro p e R s m args below meth c H locs lsA cells slots Z hF hD hc hsl hW
  have c1 : (rx_nw h n cl).1 - h.1 = 1 := by simp [rx_nw]
  have c2 : (rx_nw h n cl).2.1 - h.2.1 = n := by simp [rx_nw]
  rw [c1] at hc hW
  rw [c2] at hsl hW
  have hz : H.size = bs + h.1 := hD.1.1
  refine hs p e R s m args below meth c H locs lsA cells slots Z hF hD hc hsl (fun H1 e1 e2 e3 => ?_)
  have := hW H1 locs lsA ⟨rx_G_nw hD.1 (by rw [← hz]; exact e1) (by rw [← hz]; exact e2) (by rw [← hz]; exact e3), fun q hq => (e3 q (by have := hD.1.2.1; omega)).trans (hD.2.1 q hq), hD.2.2.1, hD.2.2.2⟩
  have hne : ¬ h.1 = 0 := by have := hD.1.2.1; omega
  have e9 : (List.map (rx_tv b bs) (.ref h.1 :: st')) = .ref H.size :: st'.map (rx_tv b bs) := by
    rw [List.map_cons]
    show Value.ref (rx_ta b bs h.1) :: _ = _
    rw [rx_ta, if_neg hne, hz]
  rw [e9] at this
  exact this
/-- a cell of the picture, at its address -/
theorem rx_Dy_at {s : State} {H : Heap} {locs : List Loc} {lsA : Array Slot} (hD : rx_Dy dC dI dA b bs L xs mi s H locs lsA ls h) {i : Nat} {c : rx_C} (hi : ¬ i = 0) (hr : rx_rd h i = some c) : va_P (dC, dI) rx_kinds [(bs + i, rx_te dA b bs c)] H := by
  intro k q hk
  rcases k with _ | k
  · cases hk
    exact hD.1.2.2.2 i c (by omega) hr
  · simp at hk
end RXN
theorem rx_lk : ∀ (t : List (Nat × rx_I × List Nat)) (pc : Nat) (q : rx_I × List Nat), t.lookup pc = some q → (pc, q) ∈ t
  | [], _, _, h => by simp at h
  | (a, r) :: t, pc, q, h => by
    rw [List.lookup_cons] at h
    cases hb : pc == a with
    | true =>
      rw [hb] at h
      have e : pc = a := by simpa using hb
      cases h
      rw [e]
      exact List.mem_cons_self
    | false =>
      rw [hb] at h
      exact List.mem_cons_of_mem _ (rx_lk t pc q h)
theorem rx_g_in {mi : Nat} {i : rx_I} {ps : List Nat} (h1 : rx_need mi i = ps.filterMap (fun j => lw_tbl[j]?)) (h2 : (rx_need mi i).all goodWord = true) : ∀ w ∈ rx_need mi i, w ∈ rx_g := by
  intro w hw
  refine List.mem_filter.mpr ⟨?_, List.all_eq_true.mp h2 w hw⟩
  rw [h1] at hw
  obtain ⟨j, -, hj⟩ := List.mem_filterMap.mp hw
  exact List.mem_of_getElem? hj
