/-! ===== ALIKE ===== -/
def Bis (n1 : Nat) (w1 : Nat → Nat) (n2 : Nat) (w2 : Nat → Nat) (R : Nat → Nat → Prop) : Prop := ∀ s t, R s t → s < n1 ∧ t < n2 ∧ ∀ b, b < 5 → (∀ s', (w1 (s * 5 + b)).testBit s' = true → ∃ t', (w2 (t * 5 + b)).testBit t' = true ∧ R s' t') ∧ ∀ t', (w2 (t * 5 + b)).testBit t' = true → ∃ s', (w1 (s * 5 + b)).testBit s' = true ∧ R s' t'
def alk (n1 : Nat) (w1 : Nat → Nat) (n2 : Nat) (w2 : Nat → Nat) (s t : Nat) : Prop := ∃ R, Bis n1 w1 n2 w2 R ∧ R s t
theorem alk_bis (n1 : Nat) (w1 : Nat → Nat) (n2 : Nat) (w2 : Nat → Nat) : Bis n1 w1 n2 w2 (alk n1 w1 n2 w2) := by
  rintro s t ⟨R, hR, hst⟩
  obtain ⟨h1, h2, h3⟩ := hR s t hst
  refine ⟨h1, h2, fun b hb => ⟨fun s' hs => ?_, fun t' ht => ?_⟩⟩
  · obtain ⟨t', t1, t2⟩ := (h3 b hb).1 s' hs
    exact ⟨t', t1, R, hR, t2⟩
  · obtain ⟨s', s1, s2⟩ := (h3 b hb).2 t' ht
    exact ⟨s', s1, R, hR, s2⟩
theorem alk_refl {n : Nat} {w : Nat → Nat} (hw : ∀ j, j < 5 * n → w j < 2 ^ n) {s : Nat} (hs : s < n) : alk n w n w s s := by
  refine ⟨fun a b => a = b ∧ a < n, ?_, rfl, hs⟩
  rintro a b ⟨rfl, ha⟩
  refine ⟨ha, ha, fun b hb => ⟨fun s' hs' => ⟨s', hs', rfl, bit_lt (hw _ (by omega)) hs'⟩, fun s' hs' => ⟨s', hs', rfl, bit_lt (hw _ (by omega)) hs'⟩⟩⟩
/-- rows of two processes side by side -/
def joinW (n1 : Nat) (w1 w2 : Nat → Nat) : Nat → Nat := fun j => if j < 5 * n1 then w1 j else w2 (j - 5 * n1) * 2 ^ n1
theorem sh_bit (x n i : Nat) : (x * 2 ^ n).testBit i = true ↔ n ≤ i ∧ x.testBit (i - n) = true := by
  rw [Nat.testBit_mul_two_pow, Bool.and_eq_true, decide_eq_true_eq]
theorem alk_join {n1 n2 : Nat} {w1 w2 : Nat → Nat} (hw1 : ∀ j, j < 5 * n1 → w1 j < 2 ^ n1) (hw2 : ∀ j, j < 5 * n2 → w2 j < 2 ^ n2) {s t : Nat} (hs : s < n1) (ht : t < n2) : alk (n1 + n2) (joinW n1 w1 w2) (n1 + n2) (joinW n1 w1 w2) s (n1 + t) ↔ alk n1 w1 n2 w2 s t := by
  have e1 : ∀ s b, s < n1 → b < 5 → joinW n1 w1 w2 (s * 5 + b) = w1 (s * 5 + b) := fun s b h1 h2 => by unfold joinW; rw [if_pos (by omega)]
  have e2 : ∀ t b, b < 5 → joinW n1 w1 w2 ((n1 + t) * 5 + b) = w2 (t * 5 + b) * 2 ^ n1 := fun t b h2 => by
    unfold joinW
    rw [if_neg (by omega), show (n1 + t) * 5 + b - 5 * n1 = t * 5 + b by omega]
  constructor
  · rintro ⟨R, hR, hst⟩
    refine ⟨fun s t => s < n1 ∧ t < n2 ∧ R s (n1 + t), ?_, hs, ht, hst⟩
    rintro s t ⟨a1, a2, a3⟩
    obtain ⟨-, -, h3⟩ := hR s (n1 + t) a3
    refine ⟨a1, a2, fun b hb => ⟨fun s' hs' => ?_, fun t' ht' => ?_⟩⟩
    · obtain ⟨j, j1, j2⟩ := (h3 b hb).1 s' (by rw [e1 s b a1 hb]; exact hs')
      rw [e2 t b hb, sh_bit] at j1
      refine ⟨j - n1, j1.2, bit_lt (hw1 _ (by omega)) hs', bit_lt (hw2 _ (by omega)) j1.2, ?_⟩
      rw [show n1 + (j - n1) = j by omega]
      exact j2
    · obtain ⟨s', s1, s2⟩ := (h3 b hb).2 (n1 + t') (by rw [e2 t b hb, sh_bit]; exact ⟨by omega, by rw [show n1 + t' - n1 = t' by omega]; exact ht'⟩)
      rw [e1 s b a1 hb] at s1
      exact ⟨s', s1, bit_lt (hw1 _ (by omega)) s1, bit_lt (hw2 _ (by omega)) ht', s2⟩
  · rintro ⟨R, hR, hst⟩
    refine ⟨fun i j => n1 ≤ j ∧ R i (j - n1), ?_, by omega, by rw [show n1 + t - n1 = t by omega]; exact hst⟩
    rintro i j ⟨a1, a2⟩
    obtain ⟨h1, h2, h3⟩ := hR i (j - n1) a2
    have ej : ∀ b, b < 5 → joinW n1 w1 w2 (j * 5 + b) = w2 ((j - n1) * 5 + b) * 2 ^ n1 := fun b hb => by
      have := e2 (j - n1) b hb
      rw [show n1 + (j - n1) = j by omega] at this
      exact this
    refine ⟨by omega, by omega, fun b hb => ⟨fun s' hs' => ?_, fun t' ht' => ?_⟩⟩
    · rw [e1 i b h1 hb] at hs'
      obtain ⟨t', t1, t2⟩ := (h3 b hb).1 s' hs'
      refine ⟨n1 + t', ?_, by omega, by rw [show n1 + t' - n1 = t' by omega]; exact t2⟩
      rw [ej b hb, sh_bit]
      exact ⟨by omega, by rw [show n1 + t' - n1 = t' by omega]; exact t1⟩
    · rw [ej b hb, sh_bit] at ht'
      obtain ⟨s', s1, s2⟩ := (h3 b hb).2 (t' - n1) ht'.2
      refine ⟨s', by rw [e1 i b h1 hb]; exact s1, ht'.1, s2⟩
/-! ===== going apart ===== -/
/-- an equivalence of N nodes, as rows of bits -/
def eqv (N : Nat) (K : Nat → Nat) : Prop := (∀ i, i < N → K i < 2 ^ N ∧ (K i).testBit i = true) ∧ (∀ i j, i < N → (K i).testBit j = true → (K j).testBit i = true) ∧ ∀ i j k, i < N → (K i).testBit j = true → (K j).testBit k = true → (K i).testBit k = true
/-- images of the rows -/
def img (L K : Nat → Nat) (N r : Nat) : Nat := un (fun i => if (L r).testBit i then K i else 0) N
theorem img_bit (L K : Nat → Nat) (N r t : Nat) : (img L K N r).testBit t = true ↔ ∃ i, i < N ∧ (L r).testBit i = true ∧ (K i).testBit t = true := by
  unfold img
  rw [un_bit]
  constructor
  · rintro ⟨i, h1, h2⟩
    split at h2
    · next h3 => exact ⟨i, h1, h3, h2⟩
    · simp at h2
  · rintro ⟨i, h1, h2, h3⟩
    exact ⟨i, h1, by rw [if_pos h2]; exact h3⟩
def smK (M : Nat → Nat) (i j : Nat) : Nat → Bool
  | 0 => true
  | b + 1 => smK M i j b && decide (M (i * 5 + b) = M (j * 5 + b))
theorem smK_iff (M : Nat → Nat) (i j : Nat) : ∀ k, smK M i j k = true ↔ ∀ b, b < k → M (i * 5 + b) = M (j * 5 + b)
  | 0 => ⟨fun _ b hb => by omega, fun _ => rfl⟩
  | k + 1 => by
    show (smK M i j k && decide (M (i * 5 + k) = M (j * 5 + k))) = true ↔ _
    rw [Bool.and_eq_true, smK_iff M i j k, decide_eq_true_eq]
    constructor
    · rintro ⟨a1, a2⟩ b hb
      by_cases e : b = k
      · subst e; exact a2
      · exact a1 b (by omega)
    · intro h
      exact ⟨fun b hb => h b (by omega), h k (by omega)⟩
def smI (M : Nat → Nat) (i j : Nat) : Bool := smK M i j 5
/-- those of K i that go on being alike -/
def ref1 (M K : Nat → Nat) (i : Nat) : Nat → Nat
  | 0 => K i
  | j + 1 => if (K i).testBit j && !smI M i j then ref1 M K i j ^^^ (ref1 M K i j &&& 2 ^ j) else ref1 M K i j
theorem ref1_bit (M K : Nat → Nat) (i t : Nat) : ∀ n, (ref1 M K i n).testBit t = true ↔ (K i).testBit t = true ∧ (t < n → smI M i t = true)
  | 0 => by
    show (K i).testBit t = true ↔ _
    exact ⟨fun z => ⟨z, fun y => by omega⟩, fun z => z.1⟩
  | n + 1 => by
    have ih := ref1_bit M K i t n
    show (if (K i).testBit n && !smI M i n then ref1 M K i n ^^^ (ref1 M K i n &&& 2 ^ n) else ref1 M K i n).testBit t = true ↔ _
    split
    · next c =>
      rw [Bool.and_eq_true, Bool.not_eq_true'] at c
      rw [clr_bit, ih]
      constructor
      · rintro ⟨⟨a1, a2⟩, a3⟩
        exact ⟨a1, fun z => a2 (by omega)⟩
      · rintro ⟨a1, a2⟩
        refine ⟨⟨a1, fun z => a2 (by omega)⟩, fun z => ?_⟩
        subst z
        have := a2 (by omega)
        rw [c.2] at this
        cases this
    · next c =>
      rw [ih]
      constructor
      · rintro ⟨a1, a2⟩
        refine ⟨a1, fun z => ?_⟩
        by_cases e : t = n
        · subst e
          rw [a1] at c
          cases hs : smI M i t
          · rw [hs] at c; simp at c
          · rfl
        · exact a2 (by omega)
      · rintro ⟨a1, a2⟩
        exact ⟨a1, fun z => a2 (by omega)⟩
theorem smI_iff (M : Nat → Nat) (i j : Nat) : smI M i j = true ↔ ∀ b, b < 5 → M (i * 5 + b) = M (j * 5 + b) := smK_iff M i j 5
section REF
variable {N : Nat} {L K K' : Nat → Nat}
/-- K' is K, refined by the images -/
def rfd (N : Nat) (L K K' : Nat → Nat) : Prop := ∀ i, i < N → ∀ j, (K' i).testBit j = true ↔ (K i).testBit j = true ∧ ∀ b, b < 5 → img L K N (i * 5 + b) = img L K N (j * 5 + b)
theorem eqv_lt (hE : eqv N K) {i j : Nat} (hi : i < N) (h : (K i).testBit j = true) : j < N := bit_lt (hE.1 i hi).1 h
theorem rfd_eqv (hE : eqv N K) (h : rfd N L K K') : eqv N K' := by
  refine ⟨fun i hi => ⟨sub_lt (fun j hj => ((h i hi j).mp hj).1) (hE.1 i hi).1, (h i hi i).mpr ⟨(hE.1 i hi).2, fun _ _ => rfl⟩⟩, fun i j hi hij => ?_, fun i j k hi hij hjk => ?_⟩
  · obtain ⟨a1, a2⟩ := (h i hi j).mp hij
    exact (h j (eqv_lt hE hi a1) i).mpr ⟨hE.2.1 i j hi a1, fun b hb => (a2 b hb).symm⟩
  · obtain ⟨a1, a2⟩ := (h i hi j).mp hij
    obtain ⟨b1, b2⟩ := (h j (eqv_lt hE hi a1) k).mp hjk
    exact (h i hi k).mpr ⟨hE.2.2 i j k hi a1 b1, fun b hb => (a2 b hb).trans (b2 b hb)⟩
theorem rfd_bis (hE : eqv N K) (h : rfd N L K K') {R : Nat → Nat → Prop} (hR : Bis N L N L R) (hRK : ∀ i j, R i j → (K i).testBit j = true) : ∀ i j, R i j → (K' i).testBit j = true := by
  intro i j hij
  obtain ⟨h1, h2, h3⟩ := hR i j hij
  refine (h i h1 j).mpr ⟨hRK i j hij, fun b hb => ?_⟩
  apply bit_ext
  intro t
  rw [img_bit, img_bit]
  constructor
  · rintro ⟨s, s1, s2, s3⟩
    obtain ⟨t', t1, t2⟩ := (h3 b hb).1 s s2
    have ht := hRK s t' t2
    exact ⟨t', eqv_lt hE s1 ht, t1, hE.2.2 t' s t (eqv_lt hE s1 ht) (hE.2.1 s t' s1 ht) s3⟩
  · rintro ⟨s, s1, s2, s3⟩
    obtain ⟨t', t1, t2⟩ := (h3 b hb).2 s s2
    obtain ⟨c1, -⟩ := hR t' s t2
    have ht := hRK t' s t2
    exact ⟨t', c1, t1, hE.2.2 t' s t c1 ht s3⟩
theorem fix_bis (hE : eqv N K) (hL : ∀ r, r < 5 * N → L r < 2 ^ N) (h : ∀ i j, i < N → (K i).testBit j = true → ∀ b, b < 5 → img L K N (i * 5 + b) = img L K N (j * 5 + b)) : Bis N L N L (fun i j => i < N ∧ (K i).testBit j = true) := by
  rintro i j ⟨hi, hij⟩
  have hj := eqv_lt hE hi hij
  refine ⟨hi, hj, fun b hb => ⟨fun s hs => ?_, fun t ht => ?_⟩⟩
  · have hsN := bit_lt (hL (i * 5 + b) (by omega)) hs
    have h1 : (img L K N (i * 5 + b)).testBit s = true := (img_bit _ _ _ _ _).mpr ⟨s, hsN, hs, (hE.1 s hsN).2⟩
    rw [h i j hi hij b hb] at h1
    obtain ⟨t, t1, t2, t3⟩ := (img_bit _ _ _ _ _).mp h1
    exact ⟨t, t2, hsN, hE.2.1 t s t1 t3⟩
  · have htN := bit_lt (hL (j * 5 + b) (by omega)) ht
    have h1 : (img L K N (j * 5 + b)).testBit t = true := (img_bit _ _ _ _ _).mpr ⟨t, htN, ht, (hE.1 t htN).2⟩
    rw [← h i j hi hij b hb] at h1
    obtain ⟨s, s1, s2, s3⟩ := (img_bit _ _ _ _ _).mp h1
    exact ⟨s, s2, s1, s3⟩
/-- how many are the least of those alike -/
def isRp (K : Nat → Nat) (i : Nat) : Bool := decide (∀ j, j < i → (K i).testBit j = false)
theorem isRp_iff (K : Nat → Nat) (i : Nat) : isRp K i = true ↔ ∀ j, j < i → (K i).testBit j = false := by unfold isRp; rw [decide_eq_true_eq]
theorem ctb_mono {p q : Nat → Bool} : ∀ n, (∀ i, i < n → p i = true → q i = true) → ctb p n ≤ ctb q n
  | 0, _ => Nat.le_refl _
  | n + 1, h => by
    have ih := ctb_mono n (fun i hi => h i (by omega))
    rw [ctb_succ, ctb_succ]
    have : (p n).toNat ≤ (q n).toNat := by
      cases hp : p n
      · exact Nat.zero_le _
      · rw [h n (by omega) hp]; exact Nat.le_refl _
    omega
theorem ctb_lt {p q : Nat → Bool} : ∀ n i, (∀ i, i < n → p i = true → q i = true) → i < n → p i = false → q i = true → ctb p n < ctb q n
  | 0, i, _, hi, _, _ => by omega
  | n + 1, i, h, hi, hp, hq => by
    rw [ctb_succ, ctb_succ]
    by_cases e : i = n
    · subst e
      have := ctb_mono i (fun i hi => h i (by omega))
      rw [hp, hq]
      show _ + 0 < _ + 1
      omega
    · have ih := ctb_lt n i (fun i hi => h i (by omega)) (by omega) hp hq
      have : (p n).toNat ≤ (q n).toNat := by
        cases hp : p n
        · exact Nat.zero_le _
        · rw [h n (by omega) hp]; exact Nat.le_refl _
      omega
theorem least_of {P : Nat → Prop} : ∀ n, P n → ∃ r, P r ∧ ∀ j, j < r → ¬ P j := by
  intro n
  induction n using Nat.strongRecOn with
  | ind n ih =>
    intro hn
    by_cases c : ∃ j, j < n ∧ P j
    · obtain ⟨j, j1, j2⟩ := c
      exact ih j j1 j2
    · exact ⟨n, hn, fun j hj z => c ⟨j, hj, z⟩⟩
theorem rfd_more (hE : eqv N K) (h : rfd N L K K') {i j : Nat} (hi : i < N) (h1 : (K i).testBit j = true) (h2 : ¬ (K' i).testBit j = true) : ctb (isRp K) N < ctb (isRp K') N := by
  have hE' := rfd_eqv hE h
  have hj := eqv_lt hE hi h1
  obtain ⟨m, m1, m2⟩ := least_of (P := fun x => (K i).testBit x = true) i (hE.1 i hi).2
  have hm := eqv_lt hE hi m1
  -- one of i, j is apart from m
  have hx : ∃ x, x < N ∧ (K i).testBit x = true ∧ ¬ (K' x).testBit m = true := by
    by_cases c : (K' i).testBit m = true
    · refine ⟨j, hj, h1, fun z => h2 ?_⟩
      exact hE'.2.2 i m j hi c (hE'.2.1 j m hj z)
    · exact ⟨i, hi, (hE.1 i hi).2, c⟩
  obtain ⟨x, x1, x2, x3⟩ := hx
  obtain ⟨r, r1, r2⟩ := least_of (P := fun y => (K' x).testBit y = true) x (hE'.1 x x1).2
  have hr := eqv_lt hE' x1 r1
  have hxr : (K x).testBit r = true := ((h x x1 r).mp r1).1
  have hir : (K i).testBit r = true := hE.2.2 i x r hi x2 hxr
  have hrm : ¬ r = m := fun z => x3 (by rw [← z]; exact r1)
  have hmr : m < r := by
    apply Nat.lt_of_le_of_ne _ (fun z => hrm z.symm)
    apply Nat.le_of_not_lt
    exact fun z => m2 r z hir
  refine ctb_lt N r (fun a ha hp => ?_) hr ?_ ?_
  · rw [isRp_iff] at hp ⊢
    intro b hb
    cases c : (K' a).testBit b
    · rfl
    · have := hp b hb
      rw [((h a ha b).mp c).1] at this
      cases this
  · have : (K r).testBit m = true := hE.2.2 r i m hr (hE.2.1 i r hi hir) m1
    cases c : isRp K r
    · rfl
    · have := (isRp_iff K r).mp c m hmr
      simp_all
  · rw [isRp_iff]
    intro b hb
    cases c : (K' r).testBit b
    · rfl
    · exact absurd (hE'.2.2 x r b x1 r1 c) (r2 b hb)
theorem rp_one (hN : 0 < N) (K : Nat → Nat) : 1 ≤ ctb (isRp K) N := by
  have := ctb_lt (p := fun _ => false) (q := isRp K) N 0 (fun i _ z => by cases z) hN rfl ((isRp_iff K 0).mpr (fun j hj => by omega))
  omega
end REF
