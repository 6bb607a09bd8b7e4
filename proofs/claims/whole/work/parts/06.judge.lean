/-! ===== what the interpreter does, as the least relation that the instructions close ===== -/
def rx_xp : List Value → List Value
  | [] => []
  | v :: t => (match v with
    | .long x => [.long x, .null]
    | .double x => [.double x, .null]
    | w => [w]) ++ rx_xp t
def rx_en (a : Nat) (As : List Value) : List Value := rx_xp As ++ List.replicate (rx_ml a - (rx_xp As).length) .null
def rx_op (i : rx_I) (K : Nat → List Value → List Value → rx_H → Prop) (C : Nat → List Value → rx_H → (Option Value → rx_H → Prop) → Prop) (E : Option Value → rx_H → Prop) (pc : Nat) (ls st : List Value) (h : rx_H) : Prop :=
  match rx_res rx_cn i pc ls st h with
  | none => False
  | some (.inl (pc', ls', st', h')) => K pc' ls' st' h'
  | some (.inr (.inl (a, As, rest, nx))) => C a As h (fun r h' => K nx ls (r.toList ++ rest) h')
  | some (.inr (.inr v)) => E v h
theorem rx_op_mono {i : rx_I} {K K' : Nat → List Value → List Value → rx_H → Prop} {C C' : Nat → List Value → rx_H → (Option Value → rx_H → Prop) → Prop} {E E' : Option Value → rx_H → Prop} {pc : Nat} {ls st : List Value} {h : rx_H}
    (hK : ∀ a b c d, K a b c d → K' a b c d) (hC : ∀ a As h k k', (∀ r h', k r h' → k' r h') → C a As h k → C' a As h k') (hE : ∀ r h, E r h → E' r h) : rx_op i K C E pc ls st h → rx_op i K' C' E' pc ls st h := by
  unfold rx_op
  cases rx_res rx_cn i pc ls st h with
  | none => exact id
  | some o =>
    rcases o with ⟨pc', ls', st', h'⟩ | ⟨a, As, rest, nx⟩ | v
    · exact hK _ _ _ _
    · exact hC _ _ _ _ _ (fun r h' => hK _ _ _ _)
    · exact hE _ _
abbrev rx_PT : Type := Nat → Nat → List Value → List Value → rx_H → (Option Value → rx_H → Prop) → Prop
def rx_Cg (P : rx_PT) (a : Nat) (As : List Value) (h : rx_H) (k : Option Value → rx_H → Prop) : Prop := (rx_xp As).length ≤ rx_ml a ∧ ∃ r h', P a 0 (rx_en a As) [] h (fun r' h2 => r' = r ∧ h2 = h') ∧ k r h'
def rx_cl (P : rx_PT) : Prop := ∀ mi pc ls st h Q i, rx_it mi pc = some i → rx_op i (fun pc' ls' st' h' => P mi pc' ls' st' h' Q) (rx_Cg P) Q pc ls st h → P mi pc ls st h Q
def rx_R : rx_PT := fun mi pc ls st h Q => ∀ P : rx_PT, rx_cl P → P mi pc ls st h Q
theorem rx_R_fold : rx_cl rx_R := by
  intro mi pc ls st h Q i hi ho P hP
  refine hP mi pc ls st h Q i hi (rx_op_mono (fun a b c d hk => hk P hP) ?_ (fun _ _ h => h) ho)
  rintro a As h k k' hk ⟨h1, r, h', hr, hk2⟩
  exact ⟨h1, r, h', hr P hP, hk _ _ hk2⟩
theorem rx_R_unfold {mi pc : Nat} {ls st : List Value} {h : rx_H} {Q : Option Value → rx_H → Prop} (hR : rx_R mi pc ls st h Q) : ∃ i, rx_it mi pc = some i ∧ rx_op i (fun pc' ls' st' h' => rx_R mi pc' ls' st' h' Q) (rx_Cg rx_R) Q pc ls st h := by
  refine hR (fun mi pc ls st h Q => ∃ i, rx_it mi pc = some i ∧ rx_op i (fun pc' ls' st' h' => rx_R mi pc' ls' st' h' Q) (rx_Cg rx_R) Q pc ls st h) ?_
  intro mi pc ls st h Q i hi ho
  refine ⟨i, hi, rx_op_mono (fun a b c d hk => ?_) ?_ (fun _ _ h => h) ho⟩
  · obtain ⟨i', h1, h2⟩ := hk
    exact rx_R_fold _ _ _ _ _ _ i' h1 h2
  · rintro a As h k k' hk ⟨h1, r, h', ⟨i', h3, h4⟩, hk2⟩
    exact ⟨h1, r, h', rx_R_fold _ _ _ _ _ _ i' h3 h4, hk _ _ hk2⟩
theorem rx_R_mono {mi pc : Nat} {ls st : List Value} {h : rx_H} {Q Q' : Option Value → rx_H → Prop} (hR : rx_R mi pc ls st h Q) (hQ : ∀ r h, Q r h → Q' r h) : rx_R mi pc ls st h Q' := by
  refine hR (fun mi pc ls st h Q => ∀ Q' : Option Value → rx_H → Prop, (∀ r h, Q r h → Q' r h) → rx_R mi pc ls st h Q') ?_ Q' hQ
  intro mi pc ls st h Q i hi ho Q' hQ
  refine rx_R_fold _ _ _ _ _ _ i hi (rx_op_mono (fun a b c d hk => hk Q' hQ) ?_ hQ ho)
  rintro a As h k k' hk ⟨h1, r, h', hr, hk2⟩
  exact ⟨h1, r, h', hr _ (fun _ _ h => h), hk _ _ hk2⟩
theorem rx_R_exact {mi pc : Nat} {ls st : List Value} {h : rx_H} {Q : Option Value → rx_H → Prop} (hR : rx_R mi pc ls st h Q) : ∃ r h', rx_R mi pc ls st h (fun r' h2 => r' = r ∧ h2 = h') ∧ Q r h' := by
  refine hR (fun mi pc ls st h Q => ∃ r h', rx_R mi pc ls st h (fun r' h2 => r' = r ∧ h2 = h') ∧ Q r h') ?_
  intro mi pc ls st h Q i hi ho
  unfold rx_op at ho
  cases hres : rx_res rx_cn i pc ls st h with
  | none => rw [hres] at ho; exact ho.elim
  | some o =>
    rcases o with ⟨pc', ls', st', h'⟩ | ⟨a, As, rest, nx⟩ | v
    · rw [hres] at ho
      obtain ⟨r, h2, h3, h4⟩ := ho
      exact ⟨r, h2, rx_R_fold _ _ _ _ _ _ i hi (by unfold rx_op; rw [hres]; exact h3), h4⟩
    · rw [hres] at ho
      obtain ⟨hl, r, h', ⟨r0, h0, hr, rfl, rfl⟩, r2, h2, h3, h4⟩ := ho
      exact ⟨r2, h2, rx_R_fold _ _ _ _ _ _ i hi (by unfold rx_op; rw [hres]; exact ⟨hl, r0, h0, hr, h3⟩), h4⟩
    · rw [hres] at ho
      exact ⟨v, h, rx_R_fold _ _ _ _ _ _ i hi (by unfold rx_op; rw [hres]; exact ⟨rfl, rfl⟩), ho⟩
theorem rx_R_det {mi pc : Nat} {ls st : List Value} {h : rx_H} {Q : Option Value → rx_H → Prop} (hR : rx_R mi pc ls st h Q) : ∀ (r : Option Value) (h' : rx_H), rx_R mi pc ls st h (fun r' h2 => r' = r ∧ h2 = h') → Q r h' := by
  refine hR (fun mi pc ls st h Q => ∀ (r : Option Value) (h' : rx_H), rx_R mi pc ls st h (fun r' h2 => r' = r ∧ h2 = h') → Q r h') ?_
  intro mi pc ls st h Q i hi ho r h' h2
  obtain ⟨i2, hi2, ho2⟩ := rx_R_unfold h2
  cases hi.symm.trans hi2
  unfold rx_op at ho ho2
  cases hres : rx_res rx_cn i pc ls st h with
  | none => rw [hres] at ho; exact ho.elim
  | some o =>
    rcases o with ⟨pc', ls', st', h3⟩ | ⟨a, As, rest, nx⟩ | v
    · rw [hres] at ho ho2
      exact ho r h' ho2
    · rw [hres] at ho ho2
      obtain ⟨hl, rc, hc, hr, hk⟩ := ho
      obtain ⟨-, rc2, hc2, hr2, hk2⟩ := ho2
      obtain ⟨rfl, rfl⟩ := hr rc2 hc2 hr2
      exact hk r h' hk2
    · rw [hres] at ho ho2
      obtain ⟨rfl, rfl⟩ := ho2
      exact ho
/-- a call ends, with k -/
def rx_Cl (a : Nat) (As : List Value) (h : rx_H) (k : Option Value → rx_H → Prop) : Prop := rx_Cg rx_R a As h k
theorem rx_Cl_of {a : Nat} {As : List Value} {h : rx_H} {Q : Option Value → rx_H → Prop} (hl : (rx_xp As).length ≤ rx_ml a) (hR : rx_R a 0 (rx_en a As) [] h Q) : rx_Cl a As h Q := by
  obtain ⟨r, h', h1, h2⟩ := rx_R_exact hR
  exact ⟨hl, r, h', h1, h2⟩
theorem rx_Cl_imp {a : Nat} {As : List Value} {h : rx_H} {Q k : Option Value → rx_H → Prop} (hc : rx_Cl a As h Q) (hk : ∀ r h', Q r h' → k r h') : rx_Cl a As h k := by
  obtain ⟨hl, r, h', h1, h2⟩ := hc
  exact ⟨hl, r, h', h1, hk _ _ h2⟩
theorem rx_Cl_eq {a : Nat} {As : List Value} {h : rx_H} {r : Option Value} {h' : rx_H} (hc : rx_Cl a As h (fun r' h2 => r' = r ∧ h2 = h')) (k : Option Value → rx_H → Prop) : rx_Cl a As h k = k r h' := by
  apply propext
  constructor
  · rintro ⟨hl, r2, h2, e1, hk⟩
    obtain ⟨-, r3, h3, e3, rfl, rfl⟩ := hc
    obtain ⟨rfl, rfl⟩ := rx_R_det e1 _ _ e3
    exact hk
  · intro hk
    exact rx_Cl_imp hc (by rintro _ _ ⟨rfl, rfl⟩; exact hk)
def rx_cut : List Nat → Nat → Bool
  | [], _ => false
  | s :: t, p => p == s || rx_cut t p
/-- k instructions from pc on, but not beyond the pcs of S -/
def rx_wp : Nat → List Nat → Nat → Nat → List Value → List Value → rx_H → (Option Value → rx_H → Prop) → Prop
  | 0, _, mi, pc, ls, st, h, Q => rx_R mi pc ls st h Q
  | k + 1, S, mi, pc, ls, st, h, Q => match rx_it mi pc with
    | none => False
    | some i => rx_op i (fun pc' ls' st' h' => bif rx_cut S pc' then rx_R mi pc' ls' st' h' Q else rx_wp k S mi pc' ls' st' h' Q) rx_Cl Q pc ls st h
theorem rx_wp_sound : ∀ (k : Nat) (S : List Nat) (mi pc : Nat) (ls st : List Value) (h : rx_H) (Q : Option Value → rx_H → Prop), rx_wp k S mi pc ls st h Q → rx_R mi pc ls st h Q
  | 0, _, _, _, _, _, _, _, hw => hw
  | k + 1, S, mi, pc, ls, st, h, Q, hw => by
    unfold rx_wp at hw
    cases hi : rx_it mi pc with
    | none => rw [hi] at hw; exact hw.elim
    | some i =>
      rw [hi] at hw
      refine rx_R_fold _ _ _ _ _ _ i hi (rx_op_mono (fun a b c d hk => ?_) (fun a As h k k' hk hc => rx_Cl_imp hc hk) (fun _ _ h => h) hw)
      cases hc : rx_cut S a with
      | true => rw [hc] at hk; exact hk
      | false => rw [hc] at hk; exact rx_wp_sound k S mi a b c d Q hk
def rx_nx (k : Nat) (S : List Nat) (mi pc : Nat) (ls st : List Value) (h : rx_H) (Q : Option Value → rx_H → Prop) : Prop := bif rx_cut S pc then rx_R mi pc ls st h Q else rx_wp k S mi pc ls st h Q
def rx_ow (o : Option rx_I) (k : Nat) (S : List Nat) (mi pc : Nat) (ls st : List Value) (h : rx_H) (Q : Option Value → rx_H → Prop) : Prop := match o with
  | none => False
  | some i => rx_op i (fun pc' ls' st' h' => rx_nx k S mi pc' ls' st' h' Q) rx_Cl Q pc ls st h
theorem rx_wp_succ (k : Nat) (S : List Nat) (mi pc : Nat) (ls st : List Value) (h : rx_H) (Q : Option Value → rx_H → Prop) : rx_wp (k + 1) S mi pc ls st h Q = rx_ow (rx_it mi pc) k S mi pc ls st h Q := rfl
theorem rx_Cl_wp {a : Nat} {As : List Value} {h : rx_H} {Q : Option Value → rx_H → Prop} (k : Nat) (S : List Nat) (hl : (rx_xp As).length ≤ rx_ml a) (hw : rx_wp k S a 0 (rx_en a As) [] h Q) : rx_Cl a As h Q := rx_Cl_of hl (rx_wp_sound _ _ _ _ _ _ _ _ hw)
