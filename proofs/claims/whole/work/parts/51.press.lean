/-! ===== PRESSED ===== -/
theorem alk_symm {n1 n2 : Nat} {w1 w2 : Nat → Nat} {s t : Nat} (h : alk n1 w1 n2 w2 s t) : alk n2 w2 n1 w1 t s := by
  obtain ⟨R, hR, hst⟩ := h
  refine ⟨fun a b => R b a, fun a b hab => ?_, hst⟩
  obtain ⟨g1, g2, g3⟩ := hR b a hab
  exact ⟨g2, g1, fun c hc => ⟨(g3 c hc).2, (g3 c hc).1⟩⟩
theorem alk_trans {n1 n2 n3 : Nat} {w1 w2 w3 : Nat → Nat} {s t u : Nat} (h : alk n1 w1 n2 w2 s t) (h' : alk n2 w2 n3 w3 t u) : alk n1 w1 n3 w3 s u := by
  obtain ⟨R, hR, hst⟩ := h
  obtain ⟨R', hR', htu⟩ := h'
  refine ⟨fun a c => ∃ b, R a b ∧ R' b c, ?_, t, hst, htu⟩
  rintro a c ⟨b, h1, h2⟩
  obtain ⟨g1, g2, g3⟩ := hR a b h1
  obtain ⟨k1, k2, k3⟩ := hR' b c h2
  refine ⟨g1, k2, fun d hd => ⟨fun s' hs' => ?_, fun u' hu' => ?_⟩⟩
  · obtain ⟨t', t1, t2⟩ := (g3 d hd).1 s' hs'
    obtain ⟨u', u1, u2⟩ := (k3 d hd).1 t' t1
    exact ⟨u', u1, t', t2, u2⟩
  · obtain ⟨t', t1, t2⟩ := (k3 d hd).2 u' hu'
    obtain ⟨s', s1, s2⟩ := (g3 d hd).2 t' t1
    exact ⟨s', s1, t', s2, t2⟩
/-- the least bit -/
def lb (x : Nat) : Nat := fa_first x.testBit 16
theorem lb_yes {x i : Nat} (h : x.testBit i = true) (hi : i < 16) : x.testBit (lb x) = true ∧ lb x ≤ i := by
  have h1 : lb x ≤ i := by
    apply Nat.le_of_not_lt
    intro z
    have := fa_first_no x.testBit 16 i z
    rw [h] at this
    cases this
  exact ⟨fa_first_yes x.testBit 16 (Nat.lt_of_le_of_lt h1 hi), h1⟩
theorem lb_no {x i : Nat} (h : i < lb x) : x.testBit i = false := fa_first_no x.testBit 16 i h
theorem lb_eq {x i : Nat} (hi : i < 16) (h : x.testBit i = true) (h2 : ∀ j, j < i → x.testBit j = false) : lb x = i := by
  obtain ⟨a, b⟩ := lb_yes h hi
  by_cases c : lb x < i
  · have := h2 _ c
    rw [a] at this
    cases this
  · omega
def pSpec (n : Nat) (w : Nat → Nat) (R : Nat) (A : Nat → Nat) : Prop := isClo (sucs w n) 1 R ∧ R < 2 ^ n ∧ ∀ s, s < n → ∀ j, (A s).testBit j = true ↔ alk n w n w s j ∧ R.testBit j = true
theorem pSpec_A {n : Nat} {w : Nat → Nat} {R R' : Nat} {A A' : Nat → Nat} (h : pSpec n w R A) (h' : pSpec n w R' A') : R = R' ∧ ∀ s, s < n → A s = A' s := by
  have e := isClo_one h.1 h'.1
  subst e
  exact ⟨rfl, fun s hs => bit_ext fun j => (h.2.2 s hs j).trans (h'.2.2 s hs j).symm⟩
def stB (R : Nat) (A : Nat → Nat) (s : Nat) : Bool := R.testBit s && decide (lb (A s) = s)
def nuF (R : Nat) (A : Nat → Nat) (s : Nat) : Nat := ctb (stB R A) s
def pmF (n : Nat) (w : Nat → Nat) (R : Nat) (A : Nat → Nat) (s b t : Nat) : Nat := un (fun t => if (w (s * 5 + b)).testBit t then 2 ^ nuF R A (lb (A t)) else 0) t
def prW (n : Nat) (w : Nat → Nat) (R : Nat) (A : Nat → Nat) : Nat → Nat → Nat
  | 0, _ => 0
  | s + 1, r => if stB R A s = true ∧ r / 5 = nuF R A s then pmF n w R A s (r % 5) n else prW n w R A s r
def prP (n : Nat) (w : Nat → Nat) (R : Nat) (A : Nat → Nat) (s b : Nat) : Nat → Nat := fun r => if r / 5 = nuF R A s ∧ r % 5 < b then pmF n w R A s (r % 5) n else prW n w R A s r
section PR
variable {n : Nat} {w : Nat → Nat} {R : Nat} {A : Nat → Nat}
theorem nuF_le (s : Nat) : nuF R A s ≤ s := ctb_le _ s
theorem nuF_mono {s t : Nat} (h : s ≤ t) : nuF R A s ≤ nuF R A t := by
  induction t with
  | zero => rw [show s = 0 by omega]; exact Nat.le_refl _
  | succ t ih =>
    by_cases c : s = t + 1
    · rw [c]; exact Nat.le_refl _
    · have := ih (by omega)
      show _ ≤ ctb _ t + _
      unfold nuF at this
      show ctb (stB R A) s ≤ _
      omega
theorem nuF_yes {s : Nat} (h : stB R A s = true) : nuF R A (s + 1) = nuF R A s + 1 := by
  show ctb _ s + (stB R A s).toNat = _
  rw [h]; rfl
theorem nuF_no {s : Nat} (h : stB R A s = false) : nuF R A (s + 1) = nuF R A s := by
  show ctb _ s + (stB R A s).toNat = _
  rw [h]; rfl
theorem prW_0 : ∀ s r, nuF R A s ≤ r / 5 → prW n w R A s r = 0
  | 0, r, _ => rfl
  | s + 1, r, h => by
    show (if stB R A s = true ∧ r / 5 = nuF R A s then _ else prW n w R A s r) = 0
    cases c : stB R A s
    · rw [nuF_no c] at h
      rw [if_neg (fun z => by cases z.1)]
      exact prW_0 s r h
    · rw [nuF_yes c] at h
      rw [if_neg (by omega)]
      exact prW_0 s r (by omega)
theorem prP_0 (s : Nat) : prP n w R A s 0 = prW n w R A s := by
  funext r
  unfold prP
  rw [if_neg (by omega)]
theorem prP_5 {s : Nat} (h : stB R A s = true) : prP n w R A s 5 = prW n w R A (s + 1) := by
  funext r
  show _ = if stB R A s = true ∧ r / 5 = nuF R A s then _ else prW n w R A s r
  unfold prP
  by_cases c : r / 5 = nuF R A s
  · rw [if_pos ⟨c, by omega⟩, if_pos ⟨h, c⟩]
  · rw [if_neg (fun z => c z.1), if_neg (fun z => c z.2)]
theorem prP_at {s b : Nat} (hb : b < 5) : prP n w R A s b (nuF R A s * 5 + b) = 0 := by
  unfold prP
  rw [if_neg (by omega)]
  exact prW_0 s _ (by omega)
theorem prP_step {s b : Nat} (hb : b < 5) : va_up (prP n w R A s b) (nuF R A s * 5 + b) (pmF n w R A s b n) = prP n w R A s (b + 1) := by
  funext r
  unfold va_up prP
  by_cases c : r = nuF R A s * 5 + b
  · rw [if_pos c, if_pos (by omega), show r % 5 = b by omega]
  · rw [if_neg c]
    by_cases d : r / 5 = nuF R A s ∧ r % 5 < b
    · rw [if_pos d, if_pos (by omega)]
    · rw [if_neg d, if_neg (by omega)]
/-- the one that stays for a state that can be got to -/
theorem rep_ok (hs : pSpec n w R A) (hn : n ≤ 8) (hw : ∀ j, j < 40 → w j < 2 ^ n) {t : Nat} (ht : R.testBit t = true) : t < n ∧ (A t).testBit t = true ∧ lb (A t) ≤ t ∧ lb (A t) < n ∧ stB R A (lb (A t)) = true := by
  have htn := bit_lt hs.2.1 ht
  have h1 : (A t).testBit t = true := (hs.2.2 t htn t).mpr ⟨alk_refl (fun j hj => hw j (by omega)) htn, ht⟩
  obtain ⟨h2, h3⟩ := lb_yes h1 (by omega)
  obtain ⟨h4, h5⟩ := (hs.2.2 t htn _).mp h2
  have hrn := bit_lt hs.2.1 h5
  refine ⟨htn, h1, h3, hrn, ?_⟩
  unfold stB
  rw [h5, Bool.true_and, decide_eq_true_eq]
  have h6 : A (lb (A t)) = A t := bit_ext fun j => by
    rw [hs.2.2 _ hrn j, hs.2.2 t htn j]
    exact ⟨fun z => ⟨alk_trans h4 z.1, z.2⟩, fun z => ⟨alk_trans (alk_symm h4) z.1, z.2⟩⟩
  rw [h6]
theorem nuF_rep (hs : pSpec n w R A) (hn : n ≤ 8) (hw : ∀ j, j < 40 → w j < 2 ^ n) {t : Nat} (ht : R.testBit t = true) : nuF R A (lb (A t)) < nuF R A n := by
  obtain ⟨-, -, -, h4, h5⟩ := rep_ok hs hn hw ht
  have := nuF_mono (R := R) (A := A) (s := lb (A t) + 1) (t := n) (by omega)
  rw [nuF_yes h5] at this
  omega
/-- moves of a state that can be got to lead to such -/
theorem reach_to (hs : pSpec n w R A) {s b t : Nat} (h : R.testBit s = true) (hb : b < 5) (ht : (w (s * 5 + b)).testBit t = true) : R.testBit t = true := hs.1.2.1 t ((sucs_bit w n R t).mpr ⟨s, b, bit_lt hs.2.1 h, hb, h, ht⟩)
theorem pmF_lt (hs : pSpec n w R A) (hn : n ≤ 8) (hw : ∀ j, j < 40 → w j < 2 ^ n) {s b : Nat} (h : R.testBit s = true) (hb : b < 5) (t : Nat) : pmF n w R A s b t < 2 ^ nuF R A n := un_lt t (fun i hi => by
  split
  · next c => exact Nat.pow_lt_pow_right (by omega) (nuF_rep hs hn hw (reach_to hs h hb c))
  · exact Nat.two_pow_pos _)
theorem prW_lt (hs : pSpec n w R A) (hn : n ≤ 8) (hw : ∀ j, j < 40 → w j < 2 ^ n) : ∀ s r, prW n w R A s r < 2 ^ nuF R A n
  | 0, r => Nat.two_pow_pos _
  | s + 1, r => by
    show (if stB R A s = true ∧ r / 5 = nuF R A s then _ else prW n w R A s r) < _
    split
    · next c =>
      have := c.1
      unfold stB at this
      rw [Bool.and_eq_true] at this
      exact pmF_lt hs hn hw this.1 (by omega) n
    · exact prW_lt hs hn hw s r
theorem prP_lt (hs : pSpec n w R A) (hn : n ≤ 8) (hw : ∀ j, j < 40 → w j < 2 ^ n) {s : Nat} (h : R.testBit s = true) (b r : Nat) : prP n w R A s b r < 2 ^ nuF R A n := by
  unfold prP
  split
  · exact pmF_lt hs hn hw h (by omega) n
  · exact prW_lt hs hn hw s r
theorem nuF_pos (hs : pSpec n w R A) (hn0 : 1 ≤ n) (hn : n ≤ 8) (hw : ∀ j, j < 40 → w j < 2 ^ n) : 1 ≤ nuF R A n := by
  have h0 : R.testBit 0 = true := hs.1.1 0 (by decide)
  have := nuF_rep hs hn hw h0
  omega
/-! how many moves -/
theorem ctb_or (a k : Nat) : ∀ m, ctb (a ||| 2 ^ k).testBit m ≤ ctb a.testBit m + (if k < m then 1 else 0)
  | 0 => Nat.zero_le _
  | m + 1 => by
    have ih := ctb_or a k m
    rw [ctb_succ, ctb_succ, Nat.testBit_or, Nat.testBit_two_pow]
    by_cases e : k = m
    · subst e
      rw [if_neg (by omega)] at ih
      rw [if_pos (by omega)]
      have : (a.testBit k || decide (k = k)).toNat ≤ 1 := Bool.toNat_le _
      omega
    · rw [decide_eq_false e, Bool.or_false]
      have : (if k < m + 1 then 1 else 0) = (if k < m then 1 else 0) := by
        by_cases c : k < m
        · rw [if_pos c, if_pos (by omega)]
        · rw [if_neg c, if_neg (by omega)]
      omega
theorem bc_img (x : Nat) (g : Nat → Nat) : ∀ m, bc (un (fun t => if x.testBit t then 2 ^ g t else 0) m) ≤ ctb x.testBit m
  | 0 => by rw [show un (fun t => if x.testBit t then 2 ^ g t else 0) 0 = 0 from rfl, bc_0]; exact Nat.zero_le _
  | m + 1 => by
    have ih := bc_img x g m
    rw [un_succ, ctb_succ]
    cases c : x.testBit m
    · rw [if_neg (by simp), Nat.or_zero]
      exact ih
    · rw [if_pos rfl]
      have := ctb_or (un (fun t => if x.testBit t then 2 ^ g t else 0) m) (g m) 8
      unfold bc at ih ⊢
      show _ ≤ _ + 1
      have h2 : (if g m < 8 then 1 else 0) ≤ 1 := by split <;> omega
      omega
theorem ctb_le_add (p : Nat → Bool) (m : Nat) : ∀ d, ctb p m ≤ ctb p (m + d)
  | 0 => Nat.le_refl _
  | d + 1 => Nat.le_trans (ctb_le_add p m d) (Nat.le_add_right _ _)
theorem pmF_bc (hn : n ≤ 8) (s b : Nat) : bc (pmF n w R A s b n) ≤ bc (w (s * 5 + b)) := by
  have h1 := bc_img (w (s * 5 + b)) (fun t => nuF R A (lb (A t))) n
  have h2 := ctb_le_add (w (s * 5 + b)).testBit n (8 - n)
  rw [show n + (8 - n) = 8 by omega] at h2
  exact Nat.le_trans h1 h2
theorem sm_add (f : Nat → Nat) (m : Nat) : ∀ d, fb_sm f m ≤ fb_sm f (m + d)
  | 0 => Nat.le_refl _
  | d + 1 => Nat.le_trans (sm_add f m d) (Nat.le_add_right _ _)
theorem prP_tot (hn : n ≤ 8) {s : Nat} (hs : s < 8) (ih : tot (prW n w R A s) ≤ fb_sm (fun j => bc (w j)) (5 * s)) : ∀ b, b ≤ 5 → tot (prP n w R A s b) ≤ fb_sm (fun j => bc (w j)) (5 * s + b)
  | 0, _ => by rw [prP_0]; exact ih
  | b + 1, hb => by
    have h1 := prP_tot hn hs ih b (by omega)
    have h2 := nuF_le (R := R) (A := A) s
    have h3 := tot_up (prP n w R A s b) (k := nuF R A s * 5 + b) (pmF n w R A s b n) (by omega)
    rw [prP_step (by omega), prP_at (by omega), bc_0] at h3
    have h4 := pmF_bc (w := w) (R := R) (A := A) hn s b
    show _ ≤ fb_sm _ (5 * s + b) + bc (w (5 * s + b))
    rw [show s * 5 + b = 5 * s + b by omega] at h4
    omega
theorem prW_tot (hn : n ≤ 8) : ∀ s, s ≤ 8 → tot (prW n w R A s) ≤ fb_sm (fun j => bc (w j)) (5 * s)
  | 0, _ => by
    rw [show prW n w R A 0 = fun _ => 0 from rfl, tot_0]
    exact Nat.zero_le _
  | s + 1, hs => by
    have ih := prW_tot hn s (by omega)
    cases c : stB R A s
    · have : prW n w R A (s + 1) = prW n w R A s := by
        funext r
        show (if stB R A s = true ∧ r / 5 = nuF R A s then _ else prW n w R A s r) = _
        rw [if_neg (fun z => by rw [c] at z; cases z.1)]
      rw [this]
      exact Nat.le_trans ih (sm_add _ (5 * s) 5)
    · rw [← prP_5 c]
      exact prP_tot hn (by omega) ih 5 (by omega)
theorem prW_tot_le (hn : n ≤ 8) : tot (prW n w R A n) ≤ tot w := by
  have h1 := prW_tot (w := w) (R := R) (A := A) hn n hn
  have h2 := sm_add (fun j => bc (w j)) (5 * n) (40 - 5 * n)
  rw [show 5 * n + (40 - 5 * n) = 40 by omega] at h2
  exact Nat.le_trans h1 h2
/-! the same for all who know it -/
theorem ctb_cong {p p' : Nat → Bool} : ∀ m, (∀ i, i < m → p i = p' i) → ctb p m = ctb p' m
  | 0, _ => rfl
  | m + 1, h => by rw [ctb_succ, ctb_succ, ctb_cong m (fun i hi => h i (by omega)), h m (by omega)]
theorem pSpec_one {R' : Nat} {A' : Nat → Nat} (h : pSpec n w R A) (h' : pSpec n w R' A') (hn : n ≤ 8) (hw : ∀ j, j < 40 → w j < 2 ^ n) : nuF R A n = nuF R' A' n ∧ ∀ r, prW n w R A n r = prW n w R' A' n r := by
  obtain ⟨e1, e2⟩ := pSpec_A h h'
  subst e1
  have e3 : ∀ s, s < n → stB R A s = stB R A' s := fun s hs => by unfold stB; rw [e2 s hs]
  have e4 : ∀ s, s ≤ n → nuF R A s = nuF R A' s := fun s hs => ctb_cong s (fun i hi => e3 i (by omega))
  refine ⟨e4 n (Nat.le_refl _), ?_⟩
  have e5 : ∀ s b, s < n → b < 5 → pmF n w R A s b n = pmF n w R A' s b n := fun s b hs hb => un_cong n (fun t ht => by
    by_cases c : (w (s * 5 + b)).testBit t = true
    · rw [if_pos c, if_pos c, e2 t ht]
      suffices hh : nuF R A (lb (A' t)) = nuF R A' (lb (A' t)) by rw [hh]
      by_cases d : lb (A' t) ≤ n
      · exact e4 _ d
      · have h1 : lb (A' t) ≤ 16 := fa_first_le _ _
        -- beyond n the row is empty, and the number is that of all
        have h2 : ∀ m, n ≤ m → m ≤ 16 → ctb (stB R A) m = ctb (stB R A) n := by
          intro m hm
          induction m with
          | zero => intro _; rw [show n = 0 by omega]
          | succ m ih =>
            intro hm2
            by_cases z : n = m + 1
            · rw [z]
            · rw [ctb_succ, ih (by omega) (by omega)]
              have : stB R A m = false := by
                unfold stB
                cases y : R.testBit m
                · rfl
                · have := bit_lt h.2.1 y; omega
              rw [this]; rfl
        have h3 : ∀ m, n ≤ m → m ≤ 16 → ctb (stB R A') m = ctb (stB R A') n := by
          intro m hm
          induction m with
          | zero => intro _; rw [show n = 0 by omega]
          | succ m ih =>
            intro hm2
            by_cases z : n = m + 1
            · rw [z]
            · rw [ctb_succ, ih (by omega) (by omega)]
              have : stB R A' m = false := by
                unfold stB
                cases y : R.testBit m
                · rfl
                · have := bit_lt h.2.1 y; omega
              rw [this]; rfl
        show ctb (stB R A) (lb (A' t)) = ctb (stB R A') (lb (A' t))
        rw [h2 _ (by omega) h1, h3 _ (by omega) h1]
        exact e4 n (Nat.le_refl _)
    · rw [if_neg c, if_neg c])
  have e6 : ∀ s r, s ≤ n → prW n w R A s r = prW n w R A' s r := by
    intro s r
    induction s with
    | zero => intro _; rfl
    | succ s ih =>
      intro hs
      show (if stB R A s = true ∧ r / 5 = nuF R A s then pmF n w R A s (r % 5) n else prW n w R A s r) = (if stB R A' s = true ∧ r / 5 = nuF R A' s then pmF n w R A' s (r % 5) n else prW n w R A' s r)
      rw [e3 s (by omega), e4 s (by omega), e5 s (r % 5) (by omega) (by omega), ih (by omega)]
  exact fun r => e6 n r (Nat.le_refl _)
end PR
