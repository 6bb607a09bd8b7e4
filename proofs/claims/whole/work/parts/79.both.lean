/-! ===== sets out of a property ===== -/
noncomputable def stO (P : Nat → Prop) (n : Nat) : Nat := un (fun i => if bP (P i) = true then 2 ^ i else 0) n
theorem stO_bit (P : Nat → Prop) (n t : Nat) : (stO P n).testBit t = true ↔ t < n ∧ P t := by
  unfold stO
  rw [un_bit]
  constructor
  · rintro ⟨i, hi, hb⟩
    by_cases c : bP (P i) = true
    · rw [if_pos c, Nat.testBit_two_pow] at hb
      have e : i = t := of_decide_eq_true hb
      subst e
      exact ⟨hi, (bP_iff _).mp c⟩
    · rw [if_neg c, Nat.zero_testBit] at hb
      cases hb
  · rintro ⟨hi, hp⟩
    refine ⟨t, hi, ?_⟩
    rw [if_pos ((bP_iff _).mpr hp), Nat.testBit_two_pow]
    simp
theorem stO_lt (P : Nat → Prop) (n : Nat) : stO P n < 2 ^ n := Nat.lt_pow_two_of_testBit _ (fun i hi => by
  cases c : (stO P n).testBit i with
  | false => rfl
  | true => have := ((stO_bit P n i).mp c).1; omega)
theorem pSpec_ex {n : Nat} {w : Nat → Nat} (h : wfP n w) : ∃ R A, pSpec n w R A := by
  obtain ⟨h1, h2, h3, -⟩ := h
  let P : Nat → Prop := fun t => ∀ T, sub 1 T → sub (sucs w n T) T → T.testBit t = true
  refine ⟨stO P n, fun s => stO (fun j => alk n w n w s j ∧ (stO P n).testBit j = true) n, ⟨fun t ht => ?_, fun t ht => ?_, fun T a b t ht => ((stO_bit P n t).mp ht).2 T a b⟩, stO_lt _ _, fun s hs j => ?_⟩
  · refine (stO_bit P n t).mpr ⟨?_, fun T a _ => a t ht⟩
    have e : t = 0 := by
      by_cases c : t = 0
      · exact c
      · rw [show (1 : Nat) = 2 ^ 0 by rfl, Nat.testBit_two_pow] at ht
        have := of_decide_eq_true ht
        omega
    omega
  · obtain ⟨s, b, q1, q2, q3, q4⟩ := (sucs_bit w n _ t).mp ht
    refine (stO_bit P n t).mpr ⟨?_, fun T a b' => b' t ((sucs_bit w n T t).mpr ⟨s, b, q1, q2, ((stO_bit P n s).mp q3).2 T a b', q4⟩)⟩
    apply Classical.byContradiction
    intro c
    have := Nat.testBit_lt_two_pow (Nat.lt_of_lt_of_le (h3 (s * 5 + b) (by omega)) (Nat.pow_le_pow_right (by omega) (by omega : n ≤ t)))
    rw [this] at q4
    cases q4
  · rw [stO_bit]
    exact ⟨fun z => z.2, fun z => ⟨((stO_bit P n j).mp z.2).1, z⟩⟩
theorem isF_ex (n1 : Nat) (w1 : Nat → Nat) (n2 : Nat) (w2 : Nat → Nat) (m : Nat) : NF n1 w1 n2 w2 m ∨ ∃ K, isF n1 w1 n2 w2 m K := by
  by_cases c : ∃ K, ∃ e : eL, (bfs n1 w1 n2 w2 K)[K]? = some e ∧ rsn n1 w1 n2 w2 e.1 ≤ m
  · obtain ⟨K, hK⟩ := c
    obtain ⟨r, ⟨e, r1, r2⟩, r3⟩ := least_of (P := fun K => ∃ e : eL, (bfs n1 w1 n2 w2 K)[K]? = some e ∧ rsn n1 w1 n2 w2 e.1 ≤ m) K hK
    exact Or.inr ⟨r, e, r1, r2, fun i hi f g1 g2 => r3 i hi ⟨f, g1, g2⟩⟩
  · exact Or.inl (fun k i _ f g1 g2 => c ⟨i, f, g1, g2⟩)
theorem wd_ex (t : Nat → Nat) : ∀ L, (∃ l, wdS t L = some l) ∨ ∃ i, wdF t L i
  | 0 => Or.inl ⟨[], rfl⟩
  | L + 1 => by
    rcases wd_ex t L with ⟨l, hl⟩ | ⟨i, a, b, c⟩
    · cases c : wdS t (L + 1) with
      | some l' => exact Or.inl ⟨l', rfl⟩
      | none => exact Or.inr ⟨L, by omega, ⟨l, hl⟩, c⟩
    · exact Or.inr ⟨i, by omega, b, c⟩
/-! ===== both sides, any arguments ===== -/
def wfT (S : St) : Prop := wfS S.1 S.2.1 S.2.2.1 S.2.2.2.1 S.2.2.2.2.1
def bth (a b : Nat) (As : List Value) (S : St) : Prop := ∃ S' r, wfT S' ∧ (∀ h, cIS h S → rx_Cl a (.ref 1 :: As) h (kP h S' (.int r))) ∧ ∀ h, mIS h S → rx_Cl b (.ref 98 :: As) h (mP h S' (.int r))
theorem and_f {a b : Bool} (h : ¬ (a && b) = false) : a = true ∧ b = true := by
  cases a <;> cases b <;> simp_all
section BB
variable {v : Nat → Nat} {u : Nat → Nat → Nat} {np L : Nat} {t : Nat → Nat} {cs : Nat → Int32}
theorem bth_of {a b : Nat} {As : List Value} {v' : Nat → Nat} {u' : Nat → Nat → Nat} {np' L' : Nat} {t' : Nat → Nat} {cs' : Nat → Int32} {r : Int32} (k : ∀ h, cIv h v u np L t cs → rx_Cl a (.ref 1 :: As) h (kP h (v', u', np', L', t', cs') (.int r))) (m : ∀ h, mIv h v u np L t cs → rx_Cl b (.ref 98 :: As) h (mP h (v', u', np', L', t', cs') (.int r))) (w : wfS v' u' np' L' t') : bth a b As (v, u, np, L, t, cs) := ⟨(v', u', np', L', t', cs'), r, w, k, m⟩
theorem b_process (w : wfS v u np L t) (p n : Int32) : bth 69 117 [.int p, .int n] (v, u, np, L, t, cs) := by
  by_cases c : (inR p 4 && in18 n) = false
  · exact bth_of (fun h hc => k_process_bad hc c) (fun h hi => m_process_bad hi c) (w)
  · obtain ⟨c1, c2⟩ := and_f c
    obtain ⟨p0, hp, rfl⟩ := inR_t (by omega) c1
    obtain ⟨n0, h1, h2, rfl⟩ := in18_t c2
    exact bth_of (fun h hc => k_process_ok hc w.1 w.2.2.1 hp h1 h2) (fun h hi => m_process_ok hi w.2.2.1 hp (w.1 _ hp).2.1 h1 h2) (wfS_push w (wfV_set w.1 (wfP_new h1 h2)))
theorem b_move (w : wfS v u np L t) (p f b s : Int32) : bth 70 119 [.int p, .int f, .int b, .int s] (v, u, np, L, t, cs) := by
  have hv := w.1
  cases c : isM v p f b s with
  | false => exact bth_of (fun h hc => k_move_bad hc hv c) (fun h hi => m_move_bad hi hv c) (w)
  | true =>
    obtain ⟨p0, f0, b0, s0, h1, h2, h3, h4, rfl, rfl, rfl, rfl⟩ := isM_t hv c
    cases d : (wq v p0 (f0 * 5 + b0)).testBit s0 with
    | true => exact bth_of (fun h hc => k_move_no hc hv h1 h2 h3 h4 d) (fun h hi => m_move_no hi hv h1 h2 h3 h4 d) (w)
    | false =>
      by_cases g : tot (wq v p0) = 24
      · exact bth_of (fun h hc => k_move_full hc hv h1 h2 h3 h4 d g) (fun h hi => m_move_full hi hv h1 h2 h3 h4 d g) (w)
      · have g' := (hv _ h1).2.2.2.2
        exact bth_of (fun h hc => k_move_ok hc hv w.2.2.1 h1 h2 h3 h4 d g) (fun h hi => m_move_ok hi hv w.2.2.1 h1 h2 h3 h4 d g) (wfS_push w (wfV_set hv (wfP_put (hv _ h1) h2 h3 h4 d (by omega))))
theorem b_unmove (w : wfS v u np L t) (p f b s : Int32) : bth 71 120 [.int p, .int f, .int b, .int s] (v, u, np, L, t, cs) := by
  have hv := w.1
  cases c : isM v p f b s with
  | false => exact bth_of (fun h hc => k_unmove_bad hc hv c) (fun h hi => m_unmove_bad hi hv c) (w)
  | true =>
    obtain ⟨p0, f0, b0, s0, h1, h2, h3, h4, rfl, rfl, rfl, rfl⟩ := isM_t hv c
    cases d : (wq v p0 (f0 * 5 + b0)).testBit s0 with
    | false => exact bth_of (fun h hc => k_unmove_no hc hv h1 h2 h3 h4 d) (fun h hi => m_unmove_no hi hv h1 h2 h3 h4 d) (w)
    | true => exact bth_of (fun h hc => k_unmove_ok hc hv w.2.2.1 h1 h2 h3 h4 d) (fun h hi => m_unmove_ok hi hv w.2.2.1 h1 h2 h3 h4 d) (wfS_push w (wfV_set hv (wfP_drop (hv _ h1) h2 h3)))
theorem b_hides (w : wfS v u np L t) (p n : Int32) : bth 72 122 [.int p, .int n] (v, u, np, L, t, cs) := by
  have hv := w.1
  by_cases c : (inR p 4 && inR n 16) = false
  · exact bth_of (fun h hc => k_hides_bad hc c) (fun h hi => m_hides_bad hi c) (w)
  · obtain ⟨c1, c2⟩ := and_f c
    obtain ⟨p0, hp, rfl⟩ := inR_t (by omega) c1
    obtain ⟨n0, h1, rfl⟩ := inR_t (by omega) c2
    exact bth_of (fun h hc => k_hides_ok hc hv w.2.2.1 hp h1) (fun h hi => m_hides_ok hi hv w.2.2.1 hp h1) (wfS_push w (wfV_set hv (wfP_hd (hv _ hp) 4 (by omega))))
theorem b_renames (w : wfS v u np L t) (p a c : Int32) : bth 73 123 [.int p, .int a, .int c] (v, u, np, L, t, cs) := by
  have hv := w.1
  by_cases d : (inR p 4 && (inR a 4 && inR c 4)) = false
  · exact bth_of (fun h hc => k_renames_bad hc d) (fun h hi => m_renames_bad hi d) (w)
  · obtain ⟨c1, c2⟩ := and_f d
    obtain ⟨c2, c3⟩ := and_f (by rw [c2]; simp)
    obtain ⟨p0, hp, rfl⟩ := inR_t (by omega) c1
    obtain ⟨a0, h1, rfl⟩ := inR_t (by omega) c2
    obtain ⟨e0, h2, rfl⟩ := inR_t (by omega) c3
    exact bth_of (fun h hc => k_renames_ok hc hv w.2.2.1 hp h1 h2) (fun h hi => m_renames_ok hi hv w.2.2.1 hp h1 h2) (wfS_push w (wfV_set hv (wfP_ren (hv _ hp) h1 h2)))
theorem b_together (w : wfS v u np L t) (p q s r : Int32) : bth 74 128 [.int p, .int q, .int s, .int r] (v, u, np, L, t, cs) := by
  have hv := w.1
  by_cases c : inT p q s r = false
  · exact bth_of (fun h hc => k_together_bad hc c) (fun h hi => m_together_bad hi c) (w)
  · obtain ⟨c1, c2⟩ := and_f c
    obtain ⟨c2, c3⟩ := and_f (by rw [c2]; simp)
    obtain ⟨c3, c4⟩ := and_f (by rw [c3]; simp)
    obtain ⟨p0, h1, rfl⟩ := inR_t (by omega) c1
    obtain ⟨q0, h2, rfl⟩ := inR_t (by omega) c2
    obtain ⟨s0, h3, rfl⟩ := inR_t (by omega) c3
    obtain ⟨r0, h4, rfl⟩ := inR_t (by omega) c4
    cases d : gd (GG (wq v p0) (wq v q0) s0 40) with
    | false => exact bth_of (fun h hc => k_together_full hc hv h1 h2 h3 h4 d) (fun h hi => m_together_full hi hv h1 h2 h3 h4 d) (w)
    | true => exact bth_of (fun h hc => k_together_ok hc hv w.2.2.1 h1 h2 h3 h4 d) (fun h hi => m_together_ok hi hv w.2.2.1 h1 h2 h3 h4 d) (wfS_push w (wfV_set hv (wfP_tog d)))
theorem b_presses (w : wfS v u np L t) (p : Int32) : bth 75 134 [.int p] (v, u, np, L, t, cs) := by
  have hv := w.1
  cases c : inR p 4 with
  | false => exact bth_of (fun h hc => k_presses_bad hc c) (fun h hi => m_presses_bad hi c) (w)
  | true =>
    obtain ⟨p0, hp, rfl⟩ := inR_t (by omega) c
    obtain ⟨R, A, hs⟩ := pSpec_ex (hv _ hp)
    exact bth_of (fun h hc => k_presses_ok hc hv w.2.2.1 hp hs) (fun h hi => m_presses_ok hi hv w.2.2.1 hp hs) (wfS_push w (wfV_set hv (wfP_press (hv _ hp) hs)))
theorem b_of (w : wfS v u np L t) (p n : Int32) : bth 76 143 [.int p, .int n] (v, u, np, L, t, cs) := by
  have hv := w.1
  by_cases c : (inR p 4 && inR n 6) = false
  · exact bth_of (fun h hc => k_of_bad hc c) (fun h hi => m_of_bad hi c) (w)
  · obtain ⟨c1, c2⟩ := and_f c
    obtain ⟨p0, hp, rfl⟩ := inR_t (by omega) c1
    obtain ⟨n0, h1, rfl⟩ := inR_t (by omega) c2
    exact bth_of (fun h hc => k_of_ok hc hv hp h1) (fun h hi => m_of_ok hi hv hp h1) (w)
theorem b_leads (w : wfS v u np L t) (p f b : Int32) : bth 77 144 [.int p, .int f, .int b] (v, u, np, L, t, cs) := by
  have hv := w.1
  by_cases c : (isS v p f && inR b 5) = false
  · exact bth_of (fun h hc => k_leads_bad hc hv c) (fun h hi => m_leads_bad hi hv c) (w)
  · obtain ⟨c1, c2⟩ := and_f c
    obtain ⟨p0, s0, hp, hs, rfl, rfl⟩ := isS_t hv c1
    obtain ⟨b0, h1, rfl⟩ := inR_t (by omega) c2
    exact bth_of (fun h hc => k_leads_ok hc hv hp hs h1) (fun h hi => m_leads_ok hi hv hp hs h1) (w)
theorem b_alike (w : wfS v u np L t) (p s q x : Int32) : bth 78 136 [.int p, .int s, .int q, .int x] (v, u, np, L, t, cs) := by
  have hv := w.1
  by_cases c : (isS v p s && isS v q x) = false
  · exact bth_of (fun h hc => k_alike_bad hc hv c) (fun h hi => m_alike_bad hi hv c) (w)
  · obtain ⟨c1, c2⟩ := and_f c
    obtain ⟨p0, s0, hp, hs, rfl, rfl⟩ := isS_t hv c1
    obtain ⟨q0, x0, hq, hx, rfl, rfl⟩ := isS_t hv c2
    exact bth_of (fun h hc => k_alike_ok hc hv hp hq hs hx (bP_iff _)) (fun h hi => m_alike_ok hi hv hp hq hs hx (bP_iff _)) (w)
theorem b_type (w : wfS v u np L t) (x : Int32) : bth 79 145 [.int x] (v, u, np, L, t, cs) := by
  cases c : inR x 128 with
  | false => exact bth_of (fun h hc => k_type_bad hc c) (fun h hi => m_type_bad hi c) (w)
  | true =>
    obtain ⟨c0, h1, rfl⟩ := inR_t (by omega) c
    by_cases d : L = 100
    · exact bth_of (fun h hc => k_type_full hc h1 d) (fun h hi => m_type_full hi h1 d) (w)
    · have hL := w.2.2.2.1
      refine bth_of (fun h hc => k_type_ok hc h1 (by omega)) (fun h hi => m_type_ok hi h1 (by omega)) (⟨w.1, w.2.1, w.2.2.1, by show L + 1 ≤ 100; omega, fun i (hi : i < L + 1) => ?_⟩)
      show va_up t L c0 i < 128
      by_cases e : i = L
      · rw [e, vu_eq]; exact h1
      · rw [vu_ne e]; exact w.2.2.2.2 i (by omega)
theorem b_clear (w : wfS v u np L t) : bth 80 146 [] (v, u, np, L, t, cs) :=
  bth_of (fun h hc => k_clear hc) (fun h hi => m_clear hi) (⟨w.1, w.2.1, w.2.2.1, Nat.zero_le _, fun i (hi : i < 0) => by omega⟩)
theorem b_moves (w : wfS v u np L t) (p : Int32) : bth 81 151 [.int p] (v, u, np, L, t, cs) := by
  have hv := w.1
  cases c : inR p 4 with
  | false => exact bth_of (fun h hc => k_moves_bad hc c) (fun h hi => m_moves_bad hi c) (w)
  | true =>
    obtain ⟨p0, hp, rfl⟩ := inR_t (by omega) c
    cases d : mres t (v (41 * p0)) (wq v p0) L with
    | inl g => exact bth_of (fun h hc => k_moves_no hc hv w.2.2.2.1 w.2.2.2.2 hp d) (fun h hi => m_moves_no hi hv w.2.2.2.1 w.2.2.2.2 hp d) (w)
    | inr W' => exact bth_of (fun h hc => k_moves_ok hc hv w.2.2.1 w.2.2.2.1 w.2.2.2.2 hp d) (fun h hi => m_moves_ok hi hv w.2.2.1 w.2.2.2.1 w.2.2.2.2 hp d) (wfS_push w (wfV_set hv (mres_ok (hv _ hp) d).1))
theorem b_behind (w : wfS v u np L t) (p n : Int32) : bth 82 155 [.int p, .int n] (v, u, np, L, t, cs) := by
  have hv := w.1
  by_cases c : (inR p 4 && inR n 4) = false
  · exact bth_of (fun h hc => k_behind_bad hc c) (fun h hi => m_behind_bad hi c) (w)
  · obtain ⟨c1, c2⟩ := and_f c
    obtain ⟨p0, hp, rfl⟩ := inR_t (by omega) c1
    obtain ⟨n0, h1, rfl⟩ := inR_t (by omega) c2
    rcases wd_ex t L with ⟨l, hl⟩ | ⟨i, hl⟩
    · exact bth_of (fun h hc => k_behind_ok hc hv w.2.2.2.1 w.2.2.2.2 hp h1 hl) (fun h hi => m_behind_ok hi hv w.2.2.2.1 w.2.2.2.2 hp h1 hl) (w)
    · exact bth_of (fun h hc => k_behind_no hc hv w.2.2.2.1 w.2.2.2.2 hp h1 hl) (fun h hi => m_behind_no hi hv w.2.2.2.1 w.2.2.2.2 hp h1 hl) (w)
theorem held_t {p q m : Int32} (c : ¬ (inR p 4 && (inR q 4 && inR m 3)) = false) : ∃ p0 q0 m0, p0 < 4 ∧ q0 < 4 ∧ m0 < 3 ∧ p = nI p0 ∧ q = nI q0 ∧ m = nI m0 := by
  obtain ⟨c1, c2⟩ := and_f c
  obtain ⟨c2, c3⟩ := and_f (by rw [c2]; simp)
  obtain ⟨p0, h1, rfl⟩ := inR_t (by omega) c1
  obtain ⟨q0, h2, rfl⟩ := inR_t (by omega) c2
  obtain ⟨m0, h3, rfl⟩ := inR_t (by omega) c3
  exact ⟨p0, q0, m0, h1, h2, h3, rfl, rfl, rfl⟩
theorem b_holds (w : wfS v u np L t) (p q m : Int32) : bth 83 160 [.int p, .int q, .int m] (v, u, np, L, t, cs) := by
  have hv := w.1
  by_cases c : (inR p 4 && (inR q 4 && inR m 3)) = false
  · exact bth_of (fun h hc => k_holds_bad hc c) (fun h hi => m_holds_bad hi c) (w)
  · obtain ⟨p0, q0, m0, h1, h2, h3, rfl, rfl, rfl⟩ := held_t c
    exact bth_of (fun h hc => k_holds_ok hc hv h1 h2 h3 (bP_iff _)) (fun h hi => m_holds_ok hi hv h1 h2 h3 (bP_iff _)) (w)
theorem b_reason (w : wfS v u np L t) (p q m : Int32) : bth 85 162 [.int p, .int q, .int m] (v, u, np, L, t, cs) := by
  have hv := w.1
  by_cases c : (inR p 4 && (inR q 4 && inR m 3)) = false
  · exact bth_of (fun h hc => k_reason_bad hc c) (fun h hi => m_reason_bad hi c) (w)
  · obtain ⟨p0, q0, m0, h1, h2, h3, rfl, rfl, rfl⟩ := held_t c
    rcases isF_ex (v (41 * p0)) (wq v p0) (v (41 * q0)) (wq v q0) m0 with hN | ⟨K, hF⟩
    · exact bth_of (fun h hc => k_reason_no hc hv h1 h2 h3 hN) (fun h hi => m_reason_no hi hv h1 h2 h3 hN) (w)
    · have hF' := hF
      obtain ⟨e, he, -⟩ := hF'
      exact bth_of (fun h hc => k_reason_ok hc hv h1 h2 h3 hF he) (fun h hi => m_reason_ok hi hv h1 h2 h3 hF he) (w)
theorem b_fault (w : wfS v u np L t) (p q m k : Int32) : bth 84 161 [.int p, .int q, .int m, .int k] (v, u, np, L, t, cs) := by
  have hv := w.1
  by_cases c : (inR p 4 && (inR q 4 && inR m 3)) = false ∨ ¬ -1 ≤ k
  · exact bth_of (fun h hc => k_fault_bad hc c) (fun h hi => m_fault_bad hi c) (w)
  · have hk : -1 ≤ k := Classical.byContradiction fun z => c (Or.inr z)
    obtain ⟨p0, q0, m0, h1, h2, h3, rfl, rfl, rfl⟩ := held_t (fun z => c (Or.inl z))
    rcases isF_ex (v (41 * p0)) (wq v p0) (v (41 * q0)) (wq v q0) m0 with hN | ⟨K, hF⟩
    · exact bth_of (fun h hc => k_fault_no hc hv h1 h2 h3 hk hN) (fun h hi => m_fault_no hi hv h1 h2 h3 hk hN) (w)
    · exact bth_of (fun h hc => k_fault_ok hc hv h1 h2 h3 hk hF) (fun h hi => m_fault_ok hi hv h1 h2 h3 hk hF) (w)
theorem b_told (w : wfS v u np L t) (x : Int32) : bth 87 164 [.int x] (v, u, np, L, t, cs) := by
  cases c : inR x 5 with
  | false => exact bth_of (fun h hc => k_told_bad hc c) (fun h hi => m_told_bad hi c) (w)
  | true =>
    obtain ⟨c0, h1, rfl⟩ := inR_t (by omega) c
    exact bth_of (fun h hc => k_told_ok hc h1) (fun h hi => m_told_ok hi h1) (w)
theorem b_back (w : wfS v u np L t) : bth 86 115 [] (v, u, np, L, t, cs) := by
  cases np with
  | zero => exact bth_of (fun h hc => k_back_no hc rfl) (fun h hi => m_back_no hi rfl) (w)
  | succ n =>
    have h5 := w.2.2.1
    exact bth_of (fun h hc => k_back_ok hc (by omega)) (fun h hi => m_back_ok hi (by omega)) (⟨w.2.1 n (by omega), fun i hi => w.2.1 i (Nat.lt_succ_of_lt hi), Nat.le_of_lt h5, w.2.2.2⟩)
end BB
