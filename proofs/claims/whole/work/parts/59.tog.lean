/-! ===== TOGETHER ===== -/
/-- pairs found: how many, which; rows; whether there was room -/
abbrev Sg : Type := Nat × (Nat → Nat) × (Nat → Nat) × Bool
def fdI (f : Nat) (P : Nat → Nat) (x : Nat) : Nat := fa_first (fun k => decide (P k = x)) f
theorem fdI_le (f : Nat) (P : Nat → Nat) (x : Nat) : fdI f P x ≤ f := fa_first_le _ _
theorem fdI_yes {f : Nat} {P : Nat → Nat} {x : Nat} (h : fdI f P x < f) : P (fdI f P x) = x := by
  have := fa_first_yes (fun k => decide (P k = x)) f h
  exact of_decide_eq_true this
theorem fdI_no {f : Nat} {P : Nat → Nat} {x k : Nat} (h : k < fdI f P x) : ¬ P k = x := by
  have := fa_first_no (fun k => decide (P k = x)) f k h
  simpa using this
theorem fdI_eq {f : Nat} {P : Nat → Nat} {x k : Nat} (hk : k < f) (h1 : P k = x) (h2 : ∀ j, j < k → ¬ P j = x) : fdI f P x = k := by
  rcases Nat.lt_trichotomy (fdI f P x) k with z | z | z
  · exact absurd (fdI_yes (by omega)) (h2 _ z)
  · exact z
  · exact absurd h1 (fdI_no z)
theorem fdI_none {f : Nat} {P : Nat → Nat} {x : Nat} (h : ∀ j, j < f → ¬ P j = x) : fdI f P x = f := by
  have h1 := fdI_le f P x
  by_cases c : fdI f P x < f
  · exact absurd (fdI_yes c) (h _ c)
  · omega
theorem fdI_app (f : Nat) (P : Nat → Nat) (x y : Nat) : fdI (f + 1) (va_up P f x) y = if fdI f P y < f then fdI f P y else if x = y then f else f + 1 := by
  by_cases c : fdI f P y < f
  · rw [if_pos c]
    refine fdI_eq (by omega) (by rw [vu_ne (by omega)]; exact fdI_yes c) (fun j hj => ?_)
    rw [vu_ne (by omega)]
    exact fdI_no hj
  · rw [if_neg c]
    have c2 : fdI f P y = f := by have := fdI_le f P y; omega
    have no : ∀ j, j < f → ¬ va_up P f x j = y := fun j hj => by
      rw [vu_ne (by omega)]
      exact fdI_no (by rw [c2]; exact hj)
    by_cases d : x = y
    · rw [if_pos d]
      exact fdI_eq (by omega) (by rw [vu_eq]; exact d) no
    · rw [if_neg d]
      refine fdI_none (fun j hj => ?_)
      by_cases e : j = f
      · rw [e, vu_eq]; exact d
      · exact no j (by omega)
/-- a move to a pair -/
def add1 (i x : Nat) (σ : Sg) : Sg := if fdI σ.1 σ.2.1 x < σ.1 then (σ.1, σ.2.1, va_up σ.2.2.1 i (σ.2.2.1 i ||| 2 ^ fdI σ.1 σ.2.1 x), σ.2.2.2) else if σ.1 < 8 then (σ.1 + 1, va_up σ.2.1 σ.1 x, va_up σ.2.2.1 i (σ.2.2.1 i ||| 2 ^ σ.1), σ.2.2.2) else (σ.1, σ.2.1, σ.2.2.1, false)
def pu2 (i mine others s : Nat) : Nat → Sg → Sg
  | 0, σ => σ
  | t + 1, σ => if mine.testBit s && others.testBit t then add1 i (s * 8 + t) (pu2 i mine others s t σ) else pu2 i mine others s t σ
def pu (i mine others : Nat) : Nat → Sg → Sg
  | 0, σ => σ
  | s + 1, σ => pu2 i mine others s 8 (pu i mine others s σ)
/-- what holds all along (h: pairs whose moves may stand) -/
def sgI (σ : Sg) : Prop := 1 ≤ σ.1 ∧ σ.1 ≤ 8 ∧ (∀ k, k < σ.1 → σ.2.1 k < 64) ∧ (∀ r, σ.2.2.1 r < 2 ^ σ.1) ∧ ∀ r, 5 * σ.1 ≤ r → σ.2.2.1 r = 0
theorem pow_up {a b : Nat} (h : a ≤ b) : 2 ^ a ≤ 2 ^ b := Nat.pow_le_pow_right (by omega) h
theorem add1_I {i x : Nat} {σ : Sg} (h : sgI σ) (hi : i < 5 * σ.1) (hx : x < 64) : sgI (add1 i x σ) ∧ σ.1 ≤ (add1 i x σ).1 := by
  obtain ⟨f, P, W, ok⟩ := σ
  obtain ⟨h1, h2, h3, h4, h5⟩ := h
  have hi : i < 5 * f := hi
  unfold add1
  dsimp only at *
  split
  · next c =>
    refine ⟨⟨h1, h2, h3, fun r => ?_, fun r hr => ?_⟩, Nat.le_refl _⟩
    · show va_up W i _ r < 2 ^ f
      unfold va_up
      split
      · exact Nat.or_lt_two_pow (h4 i) (Nat.pow_lt_pow_right (by omega) c)
      · exact h4 r
    · show va_up W i _ r = 0
      have hr : 5 * f ≤ r := hr
      rw [vu_ne (by omega)]
      exact h5 r hr
  · split
    · next c =>
      refine ⟨⟨by show 1 ≤ f + 1; omega, by show f + 1 ≤ 8; omega, fun k hk => ?_, fun r => ?_, fun r hr => ?_⟩, by show f ≤ f + 1; omega⟩
      · show va_up P f x k < 64
        have hk : k < f + 1 := hk
        by_cases e : k = f
        · rw [e, vu_eq]; exact hx
        · rw [vu_ne e]; exact h3 k (by omega)
      · show va_up W i _ r < 2 ^ (f + 1)
        have pf := pow_up (show f ≤ f + 1 by omega)
        unfold va_up
        split
        · exact Nat.or_lt_two_pow (Nat.lt_of_lt_of_le (h4 i) pf) (Nat.pow_lt_pow_right (by omega) (by omega))
        · exact Nat.lt_of_lt_of_le (h4 r) pf
      · show va_up W i _ r = 0
        have hr : 5 * (f + 1) ≤ r := hr
        rw [vu_ne (by omega)]
        exact h5 r (by omega)
    · exact ⟨⟨h1, h2, h3, h4, h5⟩, Nat.le_refl _⟩
/-- σ' comes of σ by moves -/
def sgL (σ σ' : Sg) : Prop := σ.1 ≤ σ'.1 ∧ (∀ k, k < σ.1 → σ'.2.1 k = σ.2.1 k) ∧ (σ'.2.2.2 = true → σ.2.2.2 = true) ∧ tot σ.2.2.1 ≤ tot σ'.2.2.1
theorem sgL_rfl (σ : Sg) : sgL σ σ := ⟨Nat.le_refl _, fun _ _ => rfl, id, Nat.le_refl _⟩
theorem sgL_trans {a b c : Sg} (x : sgL a b) (y : sgL b c) : sgL a c := ⟨Nat.le_trans x.1 y.1, fun k hk => (y.2.1 k (Nat.lt_of_lt_of_le hk x.1)).trans (x.2.1 k hk), fun z => x.2.2.1 (y.2.2.1 z), Nat.le_trans x.2.2.2 y.2.2.2⟩
theorem bc_or (a k : Nat) : bc a ≤ bc (a ||| 2 ^ k) := cnt_mono (sub_or_l a (2 ^ k)) 8
theorem tot_or (W : Nat → Nat) {i : Nat} (hi : i < 40) (k : Nat) : tot W ≤ tot (va_up W i (W i ||| 2 ^ k)) := by
  have h1 := tot_up W (W i ||| 2 ^ k) hi
  have h2 := bc_or (W i) k
  omega
theorem add1_L {i x : Nat} {σ : Sg} (hi : i < 40) : sgL σ (add1 i x σ) := by
  obtain ⟨f, P, W, ok⟩ := σ
  unfold add1
  dsimp only
  split
  · exact ⟨Nat.le_refl _, fun _ _ => rfl, id, tot_or W hi _⟩
  · split
    · exact ⟨by show f ≤ f + 1; omega, fun k (hk : k < f) => vu_ne (by omega), id, tot_or W hi _⟩
    · exact ⟨Nat.le_refl _, fun _ _ => rfl, fun z => Bool.noConfusion z, Nat.le_refl _⟩
theorem pu2_LI {i mine others s : Nat} (hs : s < 8) (hi : i < 40) : ∀ t σ, t ≤ 8 → sgL σ (pu2 i mine others s t σ) ∧ (sgI σ → i < 5 * σ.1 → sgI (pu2 i mine others s t σ))
  | 0, σ, _ => ⟨sgL_rfl σ, fun h _ => h⟩
  | t + 1, σ, ht => by
    obtain ⟨h1, h2⟩ := pu2_LI (i := i) (mine := mine) (others := others) hs hi t σ (by omega)
    show sgL σ (if mine.testBit s && others.testBit t then add1 i (s * 8 + t) (pu2 i mine others s t σ) else pu2 i mine others s t σ) ∧ (sgI σ → i < 5 * σ.1 → sgI (if mine.testBit s && others.testBit t then add1 i (s * 8 + t) (pu2 i mine others s t σ) else pu2 i mine others s t σ))
    split
    · exact ⟨sgL_trans h1 (add1_L hi), fun a b => (add1_I (h2 a b) (by have := h1.1; omega) (by omega)).1⟩
    · exact ⟨h1, h2⟩
theorem pu_LI {i mine others : Nat} (hi : i < 40) : ∀ s σ, s ≤ 8 → sgL σ (pu i mine others s σ) ∧ (sgI σ → i < 5 * σ.1 → sgI (pu i mine others s σ))
  | 0, σ, _ => ⟨sgL_rfl σ, fun h _ => h⟩
  | s + 1, σ, hs => by
    obtain ⟨h1, h2⟩ := pu_LI (mine := mine) (others := others) hi s σ (by omega)
    obtain ⟨k1, k2⟩ := pu2_LI (mine := mine) (others := others) (by omega : s < 8) hi 8 (pu i mine others s σ) (by omega)
    exact ⟨sgL_trans h1 k1, fun a b => k2 (h2 a b) (by have := h1.1; omega)⟩
section GG
variable (wp wr : Nat → Nat) (set : Nat)
/-- all moves by one kind from one pair -/
def stp (i : Nat) (σ : Sg) : Sg := if i % 5 < 4 ∧ set.testBit (i % 5) = true then pu i (wp (σ.2.1 (i / 5) / 8 * 5 + i % 5)) (wr (σ.2.1 (i / 5) % 8 * 5 + i % 5)) 8 σ else pu i (2 ^ (σ.2.1 (i / 5) / 8)) (wr (σ.2.1 (i / 5) % 8 * 5 + i % 5)) 8 (pu i (wp (σ.2.1 (i / 5) / 8 * 5 + i % 5)) (2 ^ (σ.2.1 (i / 5) % 8)) 8 σ)
def G0 : Sg := (1, fun _ => 0, fun _ => 0, true)
def GG : Nat → Sg
  | 0 => G0
  | i + 1 => if i / 5 < (GG i).1 then stp wp wr set i (GG i) else GG i
def gd (σ : Sg) : Bool := σ.2.2.2 && decide (tot σ.2.2.1 ≤ 24)
theorem stp_LI {i : Nat} (hi : i < 40) (σ : Sg) : sgL σ (stp wp wr set i σ) ∧ (sgI σ → i / 5 < σ.1 → sgI (stp wp wr set i σ)) := by
  unfold stp
  split
  · have := pu_LI (mine := wp (σ.2.1 (i / 5) / 8 * 5 + i % 5)) (others := wr (σ.2.1 (i / 5) % 8 * 5 + i % 5)) hi 8 σ (by omega)
    exact ⟨this.1, fun a b => this.2 a (by omega)⟩
  · have h1 := pu_LI (mine := wp (σ.2.1 (i / 5) / 8 * 5 + i % 5)) (others := 2 ^ (σ.2.1 (i / 5) % 8)) hi 8 σ (by omega)
    have h2 := pu_LI (mine := 2 ^ (σ.2.1 (i / 5) / 8)) (others := wr (σ.2.1 (i / 5) % 8 * 5 + i % 5)) hi 8 (pu i (wp (σ.2.1 (i / 5) / 8 * 5 + i % 5)) (2 ^ (σ.2.1 (i / 5) % 8)) 8 σ) (by omega)
    exact ⟨sgL_trans h1.1 h2.1, fun a b => h2.2 (h1.2 a (by omega)) (by have := h1.1.1; omega)⟩
theorem G0_I : sgI G0 := ⟨Nat.le_refl _, by show 1 ≤ 8; omega, fun k _ => by show 0 < 64; omega, fun r => by show 0 < 2 ^ 1; omega, fun r _ => rfl⟩
theorem GG_succ (i : Nat) : GG wp wr set (i + 1) = if i / 5 < (GG wp wr set i).1 then stp wp wr set i (GG wp wr set i) else GG wp wr set i := rfl
theorem GG_I : ∀ i, i ≤ 40 → sgI (GG wp wr set i)
  | 0, _ => G0_I
  | i + 1, hi => by
    rw [GG_succ]
    split
    · next c => exact (stp_LI wp wr set (by omega) _).2 (GG_I i (by omega)) c
    · exact GG_I i (by omega)
theorem GG_L (i : Nat) : ∀ d, i + d ≤ 40 → sgL (GG wp wr set i) (GG wp wr set (i + d))
  | 0, _ => sgL_rfl _
  | d + 1, h => by
    refine sgL_trans (GG_L i d (by omega)) ?_
    show sgL _ (GG wp wr set (i + d + 1))
    rw [GG_succ]
    split
    · exact (stp_LI wp wr set (by omega) _).1
    · exact sgL_rfl _
theorem gd_L {σ σ' : Sg} (h : sgL σ σ') (hg : gd σ' = true) : gd σ = true := by
  unfold gd at *
  rw [Bool.and_eq_true, decide_eq_true_eq] at *
  exact ⟨h.2.2.1 hg.1, Nat.le_trans h.2.2.2 hg.2⟩
theorem gd_no {i : Nat} (hi : i ≤ 40) (h : gd (GG wp wr set i) = false) : gd (GG wp wr set 40) = false := by
  cases c : gd (GG wp wr set 40)
  · rfl
  · have := gd_L (by have := GG_L wp wr set i (40 - i) (by omega); rw [show i + (40 - i) = 40 by omega] at this; exact this) c
    rw [this] at h
    cases h
/-- no pair is left to be looked at -/
theorem GG_end {k : Nat} (hk : (GG wp wr set (5 * k)).1 ≤ k) : ∀ d, GG wp wr set (5 * k + d) = GG wp wr set (5 * k)
  | 0 => rfl
  | d + 1 => by
    have ih := GG_end hk d
    show GG wp wr set (5 * k + d + 1) = _
    rw [GG_succ, ih, if_neg (by omega)]
end GG
/-! one alone -/
theorem pu2_r {i mine s : Nat} (row : Nat) (hm : mine.testBit s = false) : ∀ t σ, pu2 i mine row s t σ = σ
  | 0, σ => rfl
  | t + 1, σ => by
    show (if mine.testBit s && row.testBit t then _ else pu2 i mine row s t σ) = σ
    rw [hm, Bool.false_and, if_neg (by simp)]
    exact pu2_r row hm t σ
theorem pu2_l {i mine s q : Nat} (σ : Sg) : ∀ t, pu2 i mine (2 ^ q) s t σ = if mine.testBit s = true ∧ q < t then add1 i (s * 8 + q) σ else σ
  | 0 => by rw [if_neg (by omega)]; rfl
  | t + 1 => by
    show (if mine.testBit s && (2 ^ q).testBit t then add1 i (s * 8 + t) (pu2 i mine (2 ^ q) s t σ) else pu2 i mine (2 ^ q) s t σ) = _
    rw [pu2_l σ t, Nat.testBit_two_pow]
    cases c : mine.testBit s
    · rw [Bool.false_and, if_neg (by simp), if_neg (by simp), if_neg (by simp)]
    · rw [Bool.true_and]
      by_cases d : q = t
      · subst d
        rw [decide_eq_true rfl, if_pos rfl, if_neg (by omega), if_pos ⟨rfl, by omega⟩]
      · rw [decide_eq_false d, if_neg (by simp)]
        by_cases e : q < t
        · rw [if_pos ⟨rfl, e⟩, if_pos ⟨rfl, by omega⟩]
        · rw [if_neg (fun z => e z.2), if_neg (fun z => by have := z.2; omega)]
/-- p moves alone, q stays in state q -/
def pL (i row q : Nat) : Nat → Sg → Sg
  | 0, σ => σ
  | s + 1, σ => if row.testBit s then add1 i (s * 8 + q) (pL i row q s σ) else pL i row q s σ
theorem pu_L {i row q : Nat} (hq : q < 8) (σ : Sg) : ∀ s, pu i row (2 ^ q) s σ = pL i row q s σ
  | 0 => rfl
  | s + 1 => by
    show pu2 i row (2 ^ q) s 8 (pu i row (2 ^ q) s σ) = if row.testBit s then add1 i (s * 8 + q) (pL i row q s σ) else pL i row q s σ
    rw [pu_L hq σ s, pu2_l]
    cases c : row.testBit s
    · rw [if_neg (by simp), if_neg (by simp)]
    · rw [if_pos ⟨rfl, hq⟩, if_pos rfl]
def pR1 (i row p : Nat) : Nat → Sg → Sg
  | 0, σ => σ
  | t + 1, σ => if row.testBit t then add1 i (p * 8 + t) (pR1 i row p t σ) else pR1 i row p t σ
theorem pu2_R {i row p : Nat} (σ : Sg) : ∀ t, pu2 i (2 ^ p) row p t σ = pR1 i row p t σ
  | 0 => rfl
  | t + 1 => by
    show (if (2 ^ p).testBit p && row.testBit t then add1 i (p * 8 + t) (pu2 i (2 ^ p) row p t σ) else pu2 i (2 ^ p) row p t σ) = if row.testBit t then add1 i (p * 8 + t) (pR1 i row p t σ) else pR1 i row p t σ
    rw [pu2_R σ t, Nat.testBit_two_pow_self, Bool.true_and]
theorem pu_R {i row p : Nat} (σ : Sg) : ∀ s, pu i (2 ^ p) row s σ = if p < s then pR1 i row p 8 σ else σ
  | 0 => by rw [if_neg (by omega)]; rfl
  | s + 1 => by
    show pu2 i (2 ^ p) row s 8 (pu i (2 ^ p) row s σ) = _
    rw [pu_R σ s]
    by_cases c : p = s
    · subst c
      rw [if_neg (by omega), if_pos (by omega), pu2_R]
    · rw [pu2_r row (by rw [Nat.testBit_two_pow]; exact decide_eq_false c)]
      by_cases d : p < s
      · rw [if_pos d, if_pos (by omega)]
      · rw [if_neg d, if_neg (by omega)]
