/-! ===== silent closure as a function ===== -/
def itn (g : Nat → Nat) : Nat → Nat → Nat
  | 0, x => x
  | k + 1, x => itn g k (x ||| g x)
theorem itn_clo {g : Nat → Nat} {n : Nat} (hg : mono g) (hb : ∀ x, g x < 2 ^ n) : ∀ k x, x < 2 ^ n → n ≤ cnt n x + k → isClo g x (itn g k x) ∧ itn g k x < 2 ^ n
  | 0, x, hx, hk => by
    have full : ∀ i, i < n → x.testBit i = true := by
      intro i hi
      cases hc : x.testBit i
      · have h1 := cnt_lt (a := x) (b := 2 ^ n - 1) (fun j hj => (full_bit n j).mpr (bit_lt hx hj)) n i hi hc ((full_bit n i).mpr hi)
        have h2 := cnt_le n (2 ^ n - 1)
        omega
      · rfl
    exact ⟨⟨sub_rfl x, fun i hi => full i (bit_lt (hb x) hi), fun T t1 _ => t1⟩, hx⟩
  | k + 1, x, hx, hk => by
    have hx2 : x ||| g x < 2 ^ n := Nat.or_lt_two_pow hx (hb x)
    by_cases e : x ||| g x = x
    · have hid : ∀ k, itn g k x = x := by
        intro k
        induction k with
        | zero => rfl
        | succ k ih => show itn g k (x ||| g x) = x; rw [e]; exact ih
      rw [hid]
      exact ⟨⟨sub_rfl x, or_eq_sub e, fun T t1 _ => t1⟩, hx⟩
    · have h1 := cnt_strict (sub_or_l x (g x)) hx2 e
      obtain ⟨⟨a1, a2, a3⟩, a4⟩ := itn_clo hg hb k (x ||| g x) hx2 (by omega)
      exact ⟨⟨sub_trans (sub_or_l _ _) a1, a2, fun T t1 t2 => a3 T (sub_or t1 (sub_trans (hg x T t1) t2)) t2⟩, a4⟩
/-- ON SILENTLY from a set -/
def sil (n : Nat) (w : Nat → Nat) (x : Nat) : Nat := itn (led w 4 n) n x
theorem led_lt {w : Nat → Nat} {n m : Nat} (b : Nat) (hb : b < 5) (hn : n ≤ 8) (hw : ∀ j, j < 40 → w j < 2 ^ m) (x : Nat) : led w b n x < 2 ^ m := un_lt n (fun i hi => by
  split
  · exact hw _ (by omega)
  · exact Nat.two_pow_pos m)
theorem sil_clo {n : Nat} {w : Nat → Nat} (hn : n ≤ 8) (hw : ∀ j, j < 40 → w j < 2 ^ n) {x : Nat} (hx : x < 2 ^ n) : isClo (led w 4 n) x (sil n w x) ∧ sil n w x < 2 ^ n := itn_clo (led_mono w 4 n) (led_lt 4 (by omega) hn hw) n x hx (by omega)
theorem onF_clo {n : Nat} {w R : Nat → Nat} (hR : ∀ s, s < n → isClo (led w 4 n) (2 ^ s) (R s) ∧ R s < 2 ^ n) {m : Nat} (hm : m < 2 ^ n) : isClo (led w 4 n) m (onF R n m) := by
  refine ⟨fun i hi => ?_, fun t ht => ?_, fun T t1 t2 i hi => ?_⟩
  · have := bit_lt hm hi
    exact (onF_bit _ _ _ _).mpr ⟨i, this, hi, (hR i this).1.1 i ((bit_pow i i).mpr rfl)⟩
  · obtain ⟨s, s1, s2, s3⟩ := (led_bit _ _ _ _ _).mp ht
    obtain ⟨u, u1, u2, u3⟩ := (onF_bit _ _ _ _).mp s2
    exact (onF_bit _ _ _ _).mpr ⟨u, u1, u2, (hR u u1).1.2.1 t ((led_bit _ _ _ _ _).mpr ⟨s, s1, u3, s3⟩)⟩
  · obtain ⟨u, u1, u2, u3⟩ := (onF_bit _ _ _ _).mp hi
    refine (hR u u1).1.2.2 T (fun j hj => ?_) t2 i u3
    rw [← (bit_pow u j).mp hj]
    exact t1 u u2
theorem onF_sil {n : Nat} {w R : Nat → Nat} (hn : n ≤ 8) (hw : ∀ j, j < 40 → w j < 2 ^ n) (hR : ∀ s, s < n → isClo (led w 4 n) (2 ^ s) (R s) ∧ R s < 2 ^ n) {m : Nat} (hm : m < 2 ^ n) : onF R n m = sil n w m := isClo_one (onF_clo hR hm) (sil_clo hn hw hm).1
/-- BEHIND a set by a letter -/
def aft (n : Nat) (w : Nat → Nat) (x a : Nat) : Nat := sil n w (led w a n x)
theorem nxS_bit {w R : Nat → Nat} {n s a t : Nat} (hR : ∀ s, s < n → R s < 2 ^ 8) (ha : a < 4) (ht : t < 8) : (nxS w R n s).testBit (a * 8 + t) = true ↔ (onF R n (w (s * 5 + a))).testBit t = true := by
  unfold nxS
  rw [un_bit]
  constructor
  · rintro ⟨c, c1, c2⟩
    rw [Nat.testBit_mul_two_pow] at c2
    rw [Bool.and_eq_true] at c2
    have c3 : c * 8 ≤ a * 8 + t := by simpa using c2.1
    have c4 := bit_lt (onF_lt hR _) c2.2
    have : c = a := by omega
    subst this
    have e : c * 8 + t - c * 8 = t := by omega
    rw [e] at c2
    exact c2.2
  · intro z
    refine ⟨a, ha, ?_⟩
    rw [Nat.testBit_mul_two_pow, Bool.and_eq_true]
    have e : a * 8 + t - a * 8 = t := by omega
    rw [e]
    exact ⟨by simp, z⟩
theorem aft_byte {n : Nat} {w R : Nat → Nat} (hn : n ≤ 8) (hw : ∀ j, j < 40 → w j < 2 ^ n) (hR : ∀ s, s < n → isClo (led w 4 n) (2 ^ s) (R s) ∧ R s < 2 ^ n) {m a : Nat} (ha : a < 4) : allS (nxS w R n) n m / 2 ^ (a * 8) % 2 ^ 8 = aft n w m a := by
  have p8 : 2 ^ n ≤ 2 ^ 8 := Nat.pow_le_pow_right (by omega) hn
  have hR8 : ∀ s, s < n → R s < 2 ^ 8 := fun s hs => by have := (hR s hs).2; omega
  unfold aft
  rw [← onF_sil hn hw hR (led_lt a (by omega) hn hw m)]
  apply bit_ext
  intro t
  rw [Nat.testBit_mod_two_pow, Nat.testBit_div_two_pow, Bool.and_eq_true, decide_eq_true_eq, onF_bit]
  constructor
  · rintro ⟨t8, ht⟩
    rw [Nat.add_comm] at ht
    obtain ⟨s, s1, s2⟩ := (un_bit _ _ _).mp ht
    split at s2
    · next s3 =>
      obtain ⟨u, u1, u2, u3⟩ := (onF_bit _ _ _ _).mp ((nxS_bit hR8 ha t8).mp s2)
      exact ⟨u, u1, (led_bit _ _ _ _ _).mpr ⟨s, s1, s3, u2⟩, u3⟩
    · simp at s2
  · rintro ⟨u, u1, u2, u3⟩
    obtain ⟨s, s1, s2, s3⟩ := (led_bit _ _ _ _ _).mp u2
    have t8 := bit_lt (hR8 u u1) u3
    refine ⟨t8, ?_⟩
    rw [Nat.add_comm]
    refine (un_bit _ _ _).mpr ⟨s, s1, ?_⟩
    rw [if_pos s2]
    exact (nxS_bit hR8 ha t8).mpr ((onF_bit _ _ _ _).mpr ⟨u, u1, s3, u3⟩)
