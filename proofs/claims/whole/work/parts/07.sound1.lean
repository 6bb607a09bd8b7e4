/-! ===== the picture of a heap of the machine ===== -/
def rx_ta (b bs i : Nat) : Nat := if i = 0 then b else bs + i
def rx_tv (b bs : Nat) : Value → Value
  | .ref i => .ref (rx_ta b bs i)
  | v => v
def rx_tx (b bs : Nat) (x : (Nat → Int32) ⊕ (Nat → Int64) ⊕ (Nat → UInt32) ⊕ (Nat → UInt64) ⊕ (Nat → Option Nat)) : (Nat → Int32) ⊕ (Nat → Int64) ⊕ (Nat → UInt32) ⊕ (Nat → UInt64) ⊕ (Nat → Option Nat) := match x with
  | .inr (.inr (.inr (.inr f))) => .inr (.inr (.inr (.inr (fun j => (f j).map (rx_ta b bs)))))
  | y => y
def rx_te (dA : Nat → ClassId) (b bs : Nat) (c : rx_C) : va_E := match c with
  | .inl (t, n, x) => .inl (dA t, n, rx_tx b bs x)
  | .inr (c, fs) => .inr (c, fs.map (rx_tv b bs))
def rx_tys (dA : Nat → ClassId) : List (ClassId × FieldType) := [(dA 0, .int), (dA 1, .byte), (dA 2, .object RX4), (dA 3, .object RX1)]
def rx_K (dC : Nat → ClassId) (dI : Nat → Nat → Nat) (dA : Nat → ClassId) (U : State) : Prop := va_K (dC, dI) rx_kinds (rx_tys dA) U ∧ (∀ w ∈ rx_nest, va_Nw w U) ∧ va_AO RX4 U ∧ va_AO RX1 U
def rx_G (dC : Nat → ClassId) (dI : Nat → Nat → Nat) (dA : Nat → ClassId) (b bs L : Nat) (xs : Nat → Int32) (h : rx_H) (H : Heap) : Prop := H.size = bs + h.1 ∧ 0 < h.1 ∧ h.2.2 0 = some (.inl (0, L, .inl xs)) ∧ ∀ (i : Nat) (c : rx_C), 0 < i → h.2.2 i = some c → va_at (dC, dI) rx_kinds (bs + i, rx_te dA b bs c) H
def rx_LS (b bs : Nat) (lsA : Array Slot) (nL : Nat) (ls : List Value) : Prop := lsA.size = nL ∧ lv_wf lsA ∧ ls.length = nL ∧ ∀ (i : Nat) (v : Value), ls[i]? = some v → v ≠ .null → lsA[i]? = some (.val (rx_tv b bs v))
theorem rx_tv_cat (b bs : Nat) (v : Value) : (rx_tv b bs v).category = v.category := by cases v <;> rfl
theorem rx_K_same {dC : Nat → ClassId} {dI : Nat → Nat → Nat} {dA : Nat → ClassId} {u U : State} (h : u.vm = U.vm) (hK : rx_K dC dI dA u) : rx_K dC dI dA U := by
  have ha : u.vm.Alike U.vm := by rw [h]; exact Vm.Alike.refl _
  refine ⟨va_K.moved ha hK.1, fun w hw => va_Nw.same ?_ h (hK.2.1 w hw), va_AO.moved ha hK.2.2.1, va_AO.moved ha hK.2.2.2⟩
  simp only [rx_nest, List.mem_cons, List.not_mem_nil, or_false] at hw
  rcases hw with rfl | rfl | rfl | rfl | rfl | rfl | rfl | rfl | rfl | rfl | rfl | rfl <;> rfl
theorem rx_K_warm {dC : Nat → ClassId} {dI : Nat → Nat → Nat} {dA : Nat → ClassId} {s U : State} (hW : s.WarmedH U.vm) (hK : rx_K dC dI dA s) : rx_K dC dI dA U := by
  refine ⟨va_K.moved hW.alike hK.1, fun w hw => ?_, va_AO.moved hW.alike hK.2.2.1, va_AO.moved hW.alike hK.2.2.2⟩
  have h1 := hK.2.1 w hw
  simp only [rx_nest, List.mem_cons, List.not_mem_nil, or_false] at hw
  rcases hw with rfl | rfl | rfl | rfl | rfl | rfl | rfl | rfl | rfl | rfl | rfl | rfl <;> exact va_Nw.warmM hW h1
theorem rx_G_up {dC : Nat → ClassId} {dI : Nat → Nat → Nat} {dA : Nat → ClassId} {b bs L : Nat} {xs : Nat → Int32} {h : rx_H} {H H1 : Heap} {i : Nat} {c : rx_C} (hG : rx_G dC dI dA b bs L xs h H) (hi : ¬ i = 0) (e : va_at (dC, dI) rx_kinds (bs + i, rx_te dA b bs c) H1) (z : H1.size = H.size) (o : ∀ q : Nat, q ≠ bs + i → H1[q]? = H[q]?) : rx_G dC dI dA b bs L xs (rx_up h i c) H1 := by
  obtain ⟨g1, g2, g3, g4⟩ := hG
  refine ⟨z.trans g1, g2, ?_, fun j d hj hd => ?_⟩
  · show (if 0 = i then some c else h.2.2 0) = _
    rw [if_neg (fun h => hi h.symm)]
    exact g3
  · have hd' : (if j = i then some c else h.2.2 j) = some d := hd
    by_cases hji : j = i
    · rw [if_pos hji] at hd'
      cases hd'
      rw [hji]
      exact e
    · rw [if_neg hji] at hd'
      exact (g4 j d hj hd').kept (o (bs + j) (by omega))
theorem rx_G_nw {dC : Nat → ClassId} {dI : Nat → Nat → Nat} {dA : Nat → ClassId} {b bs L : Nat} {xs : Nat → Int32} {h : rx_H} {H H1 : Heap} {k : Nat} {c : rx_C} (hG : rx_G dC dI dA b bs L xs h H) (e : va_at (dC, dI) rx_kinds (bs + h.1, rx_te dA b bs c) H1) (z : H1.size = bs + h.1 + 1) (o : ∀ q : Nat, q < bs + h.1 → H1[q]? = H[q]?) : rx_G dC dI dA b bs L xs (rx_nw h k c) H1 := by
  obtain ⟨g1, g2, g3, g4⟩ := hG
  refine ⟨z, Nat.succ_pos _, ?_, fun j d hj hd => ?_⟩
  · show (if 0 = h.1 then some c else h.2.2 0) = _
    rw [if_neg (by omega)]
    exact g3
  · have hd' : (if j = h.1 then some c else h.2.2 j) = some d := hd
    by_cases hji : j = h.1
    · rw [if_pos hji] at hd'
      cases hd'
      rw [hji]
      exact e
    · rw [if_neg hji] at hd'
      have h1 := g4 j d hj hd'
      exact h1.kept (o (bs + j) (by have := h1.lt; rw [g1] at this; exact this))
/-- the locals as the kit's list -/
def rx_pr (b bs : Nat) (ls : List Value) : List (Nat × Value) := (List.range ls.length).filterMap (fun i => match (ls[i]? : Option Value) with
  | some .null => none
  | some v => some (i, rx_tv b bs v)
  | none => none)
theorem rx_pr_mem {b bs : Nat} {ls : List Value} {i : Nat} {v : Value} (h : ls[i]? = some v) (hv : v ≠ .null) : (i, rx_tv b bs v) ∈ rx_pr b bs ls := by
  refine List.mem_filterMap.mpr ⟨i, List.mem_range.mpr (List.getElem?_eq_some_iff.mp h).1, ?_⟩
  rw [h]
  cases v <;> first | rfl | exact absurd rfl hv
theorem rx_pr_of {b bs : Nat} {ls : List Value} {q : Nat × Value} (h : q ∈ rx_pr b bs ls) : ∃ v, ls[q.1]? = some v ∧ v ≠ .null ∧ q.2 = rx_tv b bs v := by
  obtain ⟨i, -, h2⟩ := List.mem_filterMap.mp h
  cases hv : ls[i]? with
  | none => rw [hv] at h2; cases h2
  | some v =>
    rw [hv] at h2
    cases v <;> first | (cases h2; exact ⟨_, hv, by simp, rfl⟩) | cases h2
theorem rx_LS_has {b bs : Nat} {lsA : Array Slot} {nL : Nat} {ls : List Value} (h : rx_LS b bs lsA nL ls) : lv_has lsA nL (rx_pr b bs ls) := by
  refine ⟨h.1, h.2.1, fun q hq => ?_⟩
  obtain ⟨v, h1, h2, h3⟩ := rx_pr_of hq
  rw [h3]
  exact h.2.2.2 _ _ h1 h2
theorem rx_nl_cat {ls : List Value} {a j : Nat} {v : Value} (hn : rx_nl ls a = true) (hj : ls[j]? = some v) (e : j + 1 = a) : ¬ v.category = 2 := by
  subst e
  have h1 : (match ls[j]? with
    | some (.long _) => false
    | some (.double _) => false
    | _ => true) = true := hn
  rw [hj] at h1
  cases v with
  | long x => cases h1
  | double x => cases h1
  | _ => simp [Value.category]
theorem rx_LS_set {b bs : Nat} {lsA lsA' : Array Slot} {nL a : Nat} {ls : List Value} {v : Value} (h : rx_LS b bs lsA nL ls) (hn : rx_nl ls a = true)
    (h' : lv_has lsA' nL ((a, rx_tv b bs v) :: (rx_pr b bs ls).filter (fun q => !(q.1 == a) && !(q.1 + 1 == a && q.2.category == 2)))) : rx_LS b bs lsA' nL (ls.set a v) := by
  refine ⟨h'.1, h'.2.1, by rw [List.length_set]; exact h.2.2.1, fun j w hj hw => ?_⟩
  by_cases hja : j = a
  · subst hja
    have hl : j < ls.length := by
      have := (List.getElem?_eq_some_iff.mp hj).1
      rwa [List.length_set] at this
    rw [List.getElem?_set_self hl] at hj
    cases hj
    exact h'.2.2 _ List.mem_cons_self
  · rw [List.getElem?_set_ne (Ne.symm hja)] at hj
    refine h'.2.2 (j, rx_tv b bs w) (List.mem_cons_of_mem _ (List.mem_filter.mpr ⟨rx_pr_mem hj hw, ?_⟩))
    simp only [Bool.and_eq_true, Bool.not_eq_true', beq_eq_false_iff_ne, ne_eq, Bool.and_eq_false_iff]
    refine ⟨hja, ?_⟩
    by_cases e : j + 1 = a
    · exact Or.inr (by rw [rx_tv_cat]; exact rx_nl_cat hn hj e)
    · exact Or.inl e
theorem rx_LS_set2 {b bs : Nat} {lsA lsA' : Array Slot} {nL a : Nat} {ls : List Value} {x : Int64} (h : rx_LS b bs lsA nL ls) (hn : rx_nl ls a = true)
    (h' : lv_has lsA' nL ((a, Value.long x) :: (rx_pr b bs ls).filter (fun q => !(q.1 == a) && (!(q.1 == a + 1) && !(q.1 + 1 == a && q.2.category == 2))))) : rx_LS b bs lsA' nL ((ls.set a (.long x)).set (a + 1) .null) := by
  refine ⟨h'.1, h'.2.1, by rw [List.length_set, List.length_set]; exact h.2.2.1, fun j w hj hw => ?_⟩
  by_cases hj1 : j = a + 1
  · subst hj1
    have hl : a + 1 < (ls.set a (.long x)).length := by
      have := (List.getElem?_eq_some_iff.mp hj).1
      rwa [List.length_set] at this
    rw [List.getElem?_set_self hl] at hj
    cases hj
    exact absurd rfl hw
  · rw [List.getElem?_set_ne (Ne.symm hj1)] at hj
    by_cases hja : j = a
    · subst hja
      have hl : j < ls.length := by
        have := (List.getElem?_eq_some_iff.mp hj).1
        rwa [List.length_set] at this
      rw [List.getElem?_set_self hl] at hj
      cases hj
      exact h'.2.2 _ List.mem_cons_self
    · rw [List.getElem?_set_ne (Ne.symm hja)] at hj
      refine h'.2.2 (j, rx_tv b bs w) (List.mem_cons_of_mem _ (List.mem_filter.mpr ⟨rx_pr_mem hj hw, ?_⟩))
      simp only [Bool.and_eq_true, Bool.not_eq_true', beq_eq_false_iff_ne, ne_eq, Bool.and_eq_false_iff]
      refine ⟨hja, hj1, ?_⟩
      by_cases e : j + 1 = a
      · exact Or.inr (by rw [rx_tv_cat]; exact rx_nl_cat hn hj e)
      · exact Or.inl e
theorem rx_xp_len (b bs : Nat) : ∀ As : List Value, (lg_sl (As.map (rx_tv b bs))).length = (rx_xp As).length
  | [] => rfl
  | v :: t => by
    have ih := rx_xp_len b bs t
    have e : lg_sl ((v :: t).map (rx_tv b bs)) = (if (rx_tv b bs v).category = 2 then [.val (rx_tv b bs v), .second] else [.val (rx_tv b bs v)]) ++ lg_sl (t.map (rx_tv b bs)) := by simp [lg_sl]
    rw [e, List.length_append, ih]
    cases v <;> simp [rx_xp, rx_tv, Value.category] <;> omega
theorem rx_xp_at (b bs : Nat) : ∀ (As : List Value) (i : Nat) (v : Value), (rx_xp As)[i]? = some v → v ≠ .null → (lg_sl (As.map (rx_tv b bs)))[i]? = some (.val (rx_tv b bs v))
  | [], i, v, h, _ => by simp [rx_xp] at h
  | w :: t, i, v, h, hv => by
    have ih := rx_xp_at b bs t
    have e : lg_sl ((w :: t).map (rx_tv b bs)) = (if (rx_tv b bs w).category = 2 then [.val (rx_tv b bs w), .second] else [.val (rx_tv b bs w)]) ++ lg_sl (t.map (rx_tv b bs)) := by simp [lg_sl]
    rw [e]
    cases w with
    | long x =>
      have h1 : ([Value.long x, .null] ++ rx_xp t)[i]? = some v := h
      show ([Slot.val (.long x), .second] ++ lg_sl (t.map (rx_tv b bs)))[i]? = _
      rcases i with _ | _ | i
      · cases h1; rfl
      · cases h1; exact absurd rfl hv
      · exact ih i v h1 hv
    | double x =>
      have h1 : ([Value.double x, .null] ++ rx_xp t)[i]? = some v := h
      show ([Slot.val (.double x), .second] ++ lg_sl (t.map (rx_tv b bs)))[i]? = _
      rcases i with _ | _ | i
      · cases h1; rfl
      · cases h1; exact absurd rfl hv
      · exact ih i v h1 hv
    | int x =>
      have h1 : ([Value.int x] ++ rx_xp t)[i]? = some v := h
      show ([Slot.val (.int x)] ++ lg_sl (t.map (rx_tv b bs)))[i]? = _
      rcases i with _ | i
      · cases h1; rfl
      · exact ih i v h1 hv
    | float x =>
      have h1 : ([Value.float x] ++ rx_xp t)[i]? = some v := h
      show ([Slot.val (.float x)] ++ lg_sl (t.map (rx_tv b bs)))[i]? = _
      rcases i with _ | i
      · cases h1; rfl
      · exact ih i v h1 hv
    | null =>
      have h1 : ([Value.null] ++ rx_xp t)[i]? = some v := h
      show ([Slot.val .null] ++ lg_sl (t.map (rx_tv b bs)))[i]? = _
      rcases i with _ | i
      · cases h1; rfl
      · exact ih i v h1 hv
    | ref x =>
      have h1 : ([Value.ref x] ++ rx_xp t)[i]? = some v := h
      show ([Slot.val (.ref (rx_ta b bs x))] ++ lg_sl (t.map (rx_tv b bs)))[i]? = _
      rcases i with _ | i
      · cases h1; rfl
      · exact ih i v h1 hv
    | retAddr x =>
      have h1 : ([Value.retAddr x] ++ rx_xp t)[i]? = some v := h
      show ([Slot.val (.retAddr x)] ++ lg_sl (t.map (rx_tv b bs)))[i]? = _
      rcases i with _ | i
      · cases h1; rfl
      · exact ih i v h1 hv
theorem rx_LS_entry (b bs a : Nat) (As : List Value) (hl : (rx_xp As).length ≤ rx_ml a) : rx_LS b bs ((lg_sl (As.map (rx_tv b bs)) ++ List.replicate (rx_ml a - (lg_sl (As.map (rx_tv b bs))).length) Slot.unset).toArray) (rx_ml a) (rx_en a As) := by
  have hl' : (lg_sl (As.map (rx_tv b bs))).length ≤ rx_ml a := by rw [rx_xp_len]; exact hl
  have h := lv_entry (As.map (rx_tv b bs)) hl'
  refine ⟨h.1, h.2.1, by simp [rx_en]; omega, fun i v hi hv => ?_⟩
  rw [List.getElem?_toArray]
  unfold rx_en at hi
  by_cases hil : i < (rx_xp As).length
  · rw [List.getElem?_append_left hil] at hi
    rw [List.getElem?_append_left (by rw [rx_xp_len]; exact hil)]
    exact rx_xp_at b bs As i v hi hv
  · rw [List.getElem?_append_right (by omega)] at hi
    have := List.mem_of_getElem? hi
    exact absurd (List.eq_of_mem_replicate this) hv
