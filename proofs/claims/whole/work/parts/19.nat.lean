/-! ===== small numbers ===== -/
theorem nq_add (a b : Nat) : nI a + nI b = nI (a + b) := by
  unfold nI
  rw [Int32.ofNat_add]
theorem nq_mul (a b : Nat) : nI a * nI b = nI (a * b) := by
  unfold nI
  rw [Int32.ofNat_mul]
theorem nq_sub {a b : Nat} (h : b ≤ a) : nI a - nI b = nI (a - b) := by
  have e : nI a = nI (a - b) + nI b := by rw [nq_add, Nat.sub_add_cancel h]
  rw [e]
  exact Int32.add_sub_cancel _ _
theorem nq_eq {a b : Nat} (ha : a < 2 ^ 31) (hb : b < 2 ^ 31) : nI a = nI b ↔ a = b := by
  constructor
  · intro h
    have h1 := congrArg Int32.toInt h
    rw [nI_toInt ha, nI_toInt hb] at h1
    exact Int.ofNat_inj.mp h1
  · rintro rfl; rfl
theorem nq_lt {a b : Nat} (ha : a < 2 ^ 31) (hb : b < 2 ^ 31) : nI a < nI b ↔ a < b := by
  rw [Int32.lt_iff_toInt_lt, nI_toInt ha, nI_toInt hb]
  exact Int.ofNat_lt
theorem nq_le {a b : Nat} (ha : a < 2 ^ 31) (hb : b < 2 ^ 31) : nI a ≤ nI b ↔ a ≤ b := by
  rw [Int32.le_iff_toInt_le, nI_toInt ha, nI_toInt hb]
  exact Int.ofNat_le
theorem nq_bv (n : Nat) : (nI n).toBitVec = BitVec.ofNat 32 n := rfl
theorem nq_of {x : Int32} (h : 0 ≤ x) : ∃ n, n < 2 ^ 31 ∧ x = nI n := by
  refine ⟨x.toInt.toNat, ?_, ?_⟩
  · have := (fb_rng x).2
    have h0 := Int32.le_iff_toInt_le.mp h
    have h1 : (0 : Int32).toInt = 0 := rfl
    omega
  · have h0 := Int32.le_iff_toInt_le.mp h
    have h1 : (0 : Int32).toInt = 0 := rfl
    rw [h1] at h0
    apply (fa_eq _ _).mpr
    have := (fb_rng x).2
    rw [nI_toInt (by omega)]
    omega
theorem nq_shc : ∀ k, k < 32 → ((nI k &&& 31).toBitVec.smod 32).toNat = k := by decide +kernel
theorem nq_shl {k : Nat} (a : Nat) (hk : k < 32) : nI a <<< (nI k &&& 31) = nI (a * 2 ^ k) := by
  apply Int32.toBitVec_inj.mp
  rw [Int32.toBitVec_shiftLeft, BitVec.shiftLeft_eq', nq_shc k hk, nq_bv, nq_bv]
  apply BitVec.eq_of_toNat_eq
  rw [BitVec.toNat_shiftLeft, BitVec.toNat_ofNat, BitVec.toNat_ofNat, Nat.shiftLeft_eq, Nat.mod_mul_mod]
theorem nq_shr {a k : Nat} (ha : a < 2 ^ 31) (hk : k < 32) : nI a >>> (nI k &&& 31) = nI (a / 2 ^ k) := by
  apply Int32.toBitVec_inj.mp
  rw [Int32.toBitVec_shiftRight, BitVec.sshiftRight_eq', nq_shc k hk, nq_bv, nq_bv]
  apply BitVec.eq_of_toInt_eq
  rw [BitVec.toInt_sshiftRight]
  have h1 : (BitVec.ofNat 32 a).toInt = (a : Int) := nI_toInt ha
  have h2 : a / 2 ^ k < 2 ^ 31 := Nat.lt_of_le_of_lt (Nat.div_le_self _ _) ha
  have h3 : (BitVec.ofNat 32 (a / 2 ^ k)).toInt = ((a / 2 ^ k : Nat) : Int) := nI_toInt h2
  rw [h1, h3, Int.shiftRight_eq_div_pow]
  rfl
theorem nq_div {a b : Nat} (ha : a < 2 ^ 31) (hb : b < 2 ^ 31) : nI a / nI b = nI (a / b) := by
  have h2 : a / b < 2 ^ 31 := Nat.lt_of_le_of_lt (Nat.div_le_self _ _) ha
  apply (fa_eq _ _).mpr
  rw [Int32.toInt_div, nI_toInt ha, nI_toInt hb, nI_toInt h2]
  have e : (a : Int).tdiv (b : Int) = ((a / b : Nat) : Int) := by rw [← Int.ofNat_tdiv]
  rw [e]
  clear e
  generalize a / b = q at h2 ⊢
  exact fb_bmod (by omega) (by omega)
theorem nq_rem {a b : Nat} (ha : a < 2 ^ 31) (hb : b < 2 ^ 31) : nI a - nI a / nI b * nI b = nI (a % b) := by
  rw [nq_div ha hb, nq_mul, nq_sub (Nat.div_mul_le_self a b)]
  congr 1
  have := Nat.div_add_mod a b
  rw [Nat.mul_comm] at this
  omega
theorem nq_in {a n : Nat} (ha : a < 2 ^ 31) : (¬ (nI a < 0 ∨ n ≤ (nI a).toNatClampNeg)) ↔ a < n := by
  rw [nI_clamp ha]
  constructor
  · intro h
    exact Nat.not_le.mp fun z => h (Or.inr z)
  · rintro h (z | z)
    · exact nI_pos ha z
    · omega
theorem nq_clamp {a : Nat} (h : a < 2 ^ 31) : (nI a).toNatClampNeg = a := nI_clamp h
theorem nq_neg {a : Nat} (h : a < 2 ^ 31) : ¬ nI a < 0 := nI_pos h
/-- a bit of a small number -/
theorem nq_bit {a k : Nat} (ha : a < 2 ^ 31) (hk : k < 32) : nI a >>> (nI k &&& 31) &&& 1 = if a.testBit k then 1 else 0 := by
  rw [nq_shr ha hk]
  have e : (1 : Int32) = nI 1 := rfl
  rw [e, fa_and]
  have h1 : a / 2 ^ k &&& 1 = if a.testBit k then 1 else 0 := by
    rw [Nat.and_one_is_mod]
    have := Nat.testBit_eq_decide_div_mod_eq (x := a) (i := k)
    rw [this]
    have h3 : a / 2 ^ k % 2 = 0 ∨ a / 2 ^ k % 2 = 1 := by omega
    rcases h3 with h3 | h3 <;> simp [h3]
  rw [h1]
  split <;> rfl
theorem nq_mask {n : Nat} (h : n < 31) : nI 1 <<< (nI n &&& 31) - nI 1 = nI (2 ^ n - 1) := by
  rw [nq_shl 1 (by omega), Nat.one_mul, nq_sub (Nat.one_le_two_pow)]
