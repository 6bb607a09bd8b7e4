/-! ===== numbers of 32 bits ===== -/
theorem nq_eq32 {a b : Nat} (ha : a < 2 ^ 32) (hb : b < 2 ^ 32) : nI a = nI b ↔ a = b := by
  constructor
  · intro h
    have h1 := congrArg (fun x : Int32 => x.toBitVec.toNat) h
    simp only [nq_bv, BitVec.toNat_ofNat] at h1
    rw [Nat.mod_eq_of_lt ha, Nat.mod_eq_of_lt hb] at h1
    exact h1
  · rintro rfl; rfl
theorem nq_and_pow (s : Nat) {k : Nat} (hk : k < 32) : (nI (s &&& 2 ^ k) = nI 0) = (s.testBit k = false) := by
  have h2 : 2 ^ k < 2 ^ 32 := Nat.pow_lt_pow_right (by omega) hk
  have h3 : s &&& 2 ^ k < 2 ^ 32 := Nat.lt_of_le_of_lt Nat.and_le_right h2
  rw [nq_eq32 h3 (by omega)]
  apply propext
  constructor
  · intro h
    have h1 : (s &&& 2 ^ k).testBit k = false := by rw [h]; simp
    rw [Nat.testBit_and, Nat.testBit_two_pow_self, Bool.and_true] at h1
    exact h1
  · intro h
    apply bit_ext
    intro i
    rw [Nat.testBit_and, Nat.testBit_two_pow]
    by_cases e : k = i
    · subst e; simp [h]
    · simp [e]
theorem bit_one {i : Nat} (h : ¬ i = 0) : Nat.testBit 1 i = false := by
  have := Nat.testBit_two_pow_of_ne (n := 0) (m := i) (by omega)
  simpa using this
theorem nq_bit32 {N k : Nat} (hk : k < 32) : rx_shr (nI N) (nI k) &&& nI 1 = nI (N.testBit k).toNat := by
  apply Int32.toBitVec_inj.mp
  unfold rx_shr
  rw [Int32.toBitVec_and, Int32.toBitVec_shiftRight, BitVec.sshiftRight_eq', nq_shc k hk, nq_bv, nq_bv, nq_bv]
  apply BitVec.eq_of_getLsbD_eq
  intro i hi
  rw [BitVec.getLsbD_and, BitVec.getLsbD_sshiftRight, BitVec.getLsbD_ofNat, BitVec.getLsbD_ofNat, BitVec.getLsbD_ofNat]
  by_cases h0 : i = 0
  · subst h0
    cases hb : N.testBit k <;> simp [hk, hb]
  · have e1 := bit_one h0
    have e2 : ((N.testBit k).toNat).testBit i = false := by
      cases N.testBit k
      · simp
      · exact e1
    rw [e1, e2]
    simp
theorem q_X8_has32 (a : Nat) {k : Nat} (hk : k < 32) (h : rx_H) (Q : Option Value → rx_H → Prop) : rx_Cl 106 [.int (nI a), .int (nI k)] h Q = Q (some (.int (nI (a.testBit k).toNat))) h := by
  refine rx_Cl_eq ?_ Q
  apply en_X8_has _ _ 40 []
  simp (disch := first | decide | omega) only [rx_W, rx_wp_succ, rx_nx_stop, rx_nx_go, rx_lx_some, rx_fx_some, rx_ax_some, rx_qx_some, rx_ox_some, rx_vx_ref, rx_ix_ref, rx_ld_0, rx_ld_2, rx_ld_3, rx_cx_some, rx_nl, List.getElem?_cons_zero, List.getElem?_cons_succ, List.set_cons_zero, List.set_cons_succ, List.length_cons, List.length_nil, List.take_succ_cons, List.take_zero, List.drop_succ_cons, List.drop_zero, List.reverse_cons, List.reverse_nil, List.nil_append, List.cons_append, Option.toList_some, Option.toList_none, true_and, and_true, and_self, true_or, or_true, false_and, and_false, false_or, or_false, not_false_eq_true, Nat.reduceAdd, Nat.reduceLT, Nat.reduceLeDiff, Nat.reduceBEq, Nat.reduceEqDiff, Bool.or_false, Bool.false_or, if_true, if_false, Bool.false_eq_true, nq_b0, nq_b1, nq_b01, nq_ft, nq_bit32, it_X8_has]
  cases a.testBit k <;> simp
/-! ===== the missing reader ===== -/
theorem q_X8_ofProcess1 {h : rx_H} {v : Nat → Nat} (hm : mN h v) {p : Nat} (hp : p < 4) (hn : v (41 * p) ≤ 8) (hw : ∀ j, j < 40 → wq v p j < 256) (Q : Option Value → rx_H → Prop) : rx_Cl 142 [.ref 98, .int (nI p), .int (nI 1)] h Q = Q (some (.int (nI (tot (wq v p))))) h := by
  refine rx_Cl_eq ?_ Q
  obtain ⟨pa, le, pl, fo, z, h1⟩ := hm.1
  apply en_X8_ofProcess _ _ _ 40 [8]
  simp (disch := first | decide | omega) only [rx_W, rx_wp_succ, rx_nx_stop, rx_nx_go, rx_lx_some, rx_fx_some, rx_ax_some, rx_qx_some, rx_ox_some, rx_vx_ref, rx_ix_ref, rx_ld_0, rx_ld_2, rx_ld_3, rx_cx_some, rx_nl, List.getElem?_cons_zero, List.getElem?_cons_succ, List.set_cons_zero, List.set_cons_succ, List.length_cons, List.length_nil, List.take_succ_cons, List.take_zero, List.drop_succ_cons, List.drop_zero, List.reverse_cons, List.reverse_nil, List.nil_append, List.cons_append, Option.toList_some, Option.toList_none, true_and, and_true, and_self, true_or, or_true, false_and, and_false, false_or, or_false, not_false_eq_true, Nat.reduceAdd, Nat.reduceLT, Nat.reduceLeDiff, Nat.reduceBEq, Nat.reduceEqDiff, Bool.or_false, Bool.false_or, if_true, if_false, Bool.false_eq_true, nq_eq, nq_lt, nq_le, nq_in_t, nq_bd, nq_ft, nq_clamp, nq_shl31, nq_shr31, nq_bitb, nq_add, nq_mul, fa_and, fa_or, nq_b0, nq_b1, nq_b01, ↓ni_lt_t, ↓ni_lt_f, ↓ni_le_t, ↓ni_le_f, ↓ni_eq_t, ↓ni_eq_f, ↓ni_beq_t, ↓ni_beq_f, it_X8_ofProcess]
  refine l_X8_ofP hm hp hn hw _ ?_ (v (41 * p)) 0 (by omega)
  apply rx_wp_sound 60 [8]
  simp (disch := first | decide | omega) only [rx_W, rx_wp_succ, rx_nx_stop, rx_nx_go, rx_lx_some, rx_fx_some, rx_ax_some, rx_qx_some, rx_ox_some, rx_vx_ref, rx_ix_ref, rx_ld_0, rx_ld_2, rx_ld_3, rx_cx_some, rx_nl, List.getElem?_cons_zero, List.getElem?_cons_succ, List.set_cons_zero, List.set_cons_succ, List.length_cons, List.length_nil, List.take_succ_cons, List.take_zero, List.drop_succ_cons, List.drop_zero, List.reverse_cons, List.reverse_nil, List.nil_append, List.cons_append, Option.toList_some, Option.toList_none, true_and, and_true, and_self, true_or, or_true, false_and, and_false, false_or, or_false, not_false_eq_true, Nat.reduceAdd, Nat.reduceLT, Nat.reduceLeDiff, Nat.reduceBEq, Nat.reduceEqDiff, Bool.or_false, Bool.false_or, if_true, if_false, Bool.false_eq_true, nq_eq, nq_lt, nq_le, nq_in_t, nq_bd, nq_ft, nq_clamp, nq_shl31, nq_shr31, nq_bitb, nq_add, nq_mul, fa_and, fa_or, nq_b0, nq_b1, nq_b01, ↓ni_lt_t, ↓ni_lt_f, ↓ni_le_t, ↓ni_le_f, ↓ni_eq_t, ↓ni_eq_f, ↓ni_beq_t, ↓ni_beq_f, it_X8_ofProcess, q_X8_movesOf hm hp hw, h1, mO, show rx_sw 51 56 0 4 #[33, 39, 45, 47, 50] (nI 1) = 90 by decide]
/-! ===== pigeons ===== -/
theorem php : ∀ (N m : Nat) (f : Nat → Nat), (∀ i, i < m → f i < N) → (∀ i j, i < m → j < m → f i = f j → i = j) → m ≤ N
  | 0, m, f, h1, _ => by
    rcases Nat.eq_zero_or_pos m with z | z
    · omega
    · have := h1 0 z; omega
  | N + 1, m, f, h1, h2 => by
    by_cases hx : ∃ i, i < m ∧ f i = N
    · obtain ⟨i0, i1, i2⟩ := hx
      have key := php N (m - 1) (fun j => f (if j = i0 then m - 1 else j)) (fun j hj => ?_) (fun a b ha hb e => ?_)
      · omega
      · show f (if j = i0 then m - 1 else j) < N
        split
        · next e =>
          have h3 := h1 (m - 1) (by omega)
          have h4 : f (m - 1) ≠ N := fun z => by
            have := h2 (m - 1) i0 (by omega) i1 (z.trans i2.symm)
            omega
          omega
        · next e =>
          have h3 := h1 j (by omega)
          have h4 : f j ≠ N := fun z => e (h2 j i0 (by omega) i1 (z.trans i2.symm))
          omega
      · have e : f (if a = i0 then m - 1 else a) = f (if b = i0 then m - 1 else b) := e
        split at e
        · next ea =>
          split at e
          · next eb => omega
          · next eb =>
            have := h2 _ _ (by omega) (by omega) e
            omega
        · next ea =>
          split at e
          · next eb =>
            have := h2 _ _ (by omega) (by omega) e
            omega
          · next eb => exact h2 _ _ (by omega) (by omega) e
    · have := php N m f (fun i hi => by
        have h3 := h1 i hi
        have h4 : f i ≠ N := fun z => hx ⟨i, hi, z⟩
        omega) h2
      omega
/-! ===== the pairs as they are found ===== -/
abbrev eL : Type := Nat × Nat × Nat
def inL (l : List eL) (x : Nat) : Bool := l.any (fun e => e.1 == x)
theorem inL_iff {l : List eL} {x : Nat} : inL l x = true ↔ ∃ (i : Nat) (e : eL), l[i]? = some e ∧ e.1 = x := by
  unfold inL
  rw [List.any_eq_true]
  constructor
  · rintro ⟨e, he, hx⟩
    obtain ⟨i, hi⟩ := List.getElem?_of_mem he
    exact ⟨i, e, hi, by simpa using hx⟩
  · rintro ⟨i, e, hi, rfl⟩
    exact ⟨e, List.mem_of_getElem? hi, by simp⟩
theorem inL_app (l : List eL) (e : eL) (x : Nat) : inL (l ++ [e]) x = (inL l x || e.1 == x) := by
  unfold inL
  rw [List.any_append]
  simp
def enq (l : List eL) (x k a : Nat) : List eL := if inL l x then l else l ++ [(x, k, a)]
theorem get_app {l : List eL} {i : Nat} {e f : eL} : (l ++ [f])[i]? = some e ↔ l[i]? = some e ∨ (i = l.length ∧ e = f) := by
  rcases Nat.lt_trichotomy i l.length with h | h | h
  · rw [List.getElem?_append_left h]
    constructor
    · exact Or.inl
    · rintro (z | ⟨z, -⟩)
      · exact z
      · omega
  · subst h
    rw [List.getElem?_append_right (Nat.le_refl _), Nat.sub_self]
    constructor
    · intro z
      simp at z
      exact Or.inr ⟨rfl, z.symm⟩
    · rintro (z | ⟨-, z⟩)
      · rw [List.getElem?_eq_none (Nat.le_refl _)] at z
        cases z
      · rw [z]; rfl
  · rw [List.getElem?_eq_none (by simp; omega), List.getElem?_eq_none (by omega)]
    constructor
    · exact Or.inl
    · rintro (z | ⟨z, -⟩)
      · exact z
      · omega
theorem get_lt {l : List eL} {i : Nat} {e : eL} (h : l[i]? = some e) : i < l.length := (List.getElem?_eq_some_iff.mp h).1
theorem get_of {l : List eL} {i : Nat} (h : i < l.length) : ∃ e, l[i]? = some e := ⟨l[i], List.getElem?_eq_getElem h⟩
def gL (n1 n2 : Nat) (l : List eL) : Prop := (∀ (i : Nat) (e : eL), l[i]? = some e → e.1 / 256 < 2 ^ n1 ∧ e.1 % 256 < 2 ^ n2 ∧ e.2.2 < 4 ∧ (0 < i → e.2.1 < i)) ∧ ∀ (i j : Nat) (e f : eL), l[i]? = some e → l[j]? = some f → e.1 = f.1 → i = j
theorem gL_enq {n1 n2 : Nat} {l : List eL} (h : gL n1 n2 l) {x k a : Nat} (h1 : x / 256 < 2 ^ n1) (h2 : x % 256 < 2 ^ n2) (h3 : a < 4) (h4 : 0 < l.length → k < l.length) : gL n1 n2 (enq l x k a) := by
  unfold enq
  split
  · exact h
  · next hx =>
    refine ⟨fun i e he => ?_, fun i j e f he hf hef => ?_⟩
    · rcases get_app.mp he with z | ⟨z1, z2⟩
      · exact h.1 i e z
      · subst z2
        exact ⟨h1, h2, h3, fun z => by rw [z1] at z ⊢; exact h4 z⟩
    · rcases get_app.mp he with z | ⟨z1, z2⟩
      · rcases get_app.mp hf with y | ⟨y1, y2⟩
        · exact h.2 i j e f z y hef
        · subst y2
          exact absurd (inL_iff.mpr ⟨i, e, z, hef⟩) hx
      · rcases get_app.mp hf with y | ⟨y1, y2⟩
        · subst z2
          exact absurd (inL_iff.mpr ⟨j, f, y, hef.symm⟩) hx
        · omega
theorem gL_len {n1 n2 : Nat} (hn : n1 ≤ 8) {l : List eL} (h : gL n1 n2 l) : l.length ≤ 65536 := by
  have p8 : 2 ^ n1 ≤ 2 ^ 8 := Nat.pow_le_pow_right (by omega) hn
  refine php 65536 l.length (fun i => (l[i]?.getD (0, 0, 0)).1) (fun i hi => ?_) (fun i j hi hj e => ?_)
  · obtain ⟨e, he⟩ := get_of hi
    have h1 := (h.1 i e he).1
    show (l[i]?.getD (0, 0, 0)).1 < 65536
    rw [he]
    show e.1 < 65536
    omega
  · obtain ⟨a, ha⟩ := get_of hi
    obtain ⟨b, hb⟩ := get_of hj
    have e : (l[i]?.getD (0, 0, 0)).1 = (l[j]?.getD (0, 0, 0)).1 := e
    rw [ha, hb] at e
    exact h.2 i j a b ha hb e
theorem gL_room {n1 n2 : Nat} (hn : n1 ≤ 8) {l : List eL} (h : gL n1 n2 l) {x : Nat} (h1 : x / 256 < 2 ^ n1) (h2 : x % 256 < 2 ^ n2) (hx : inL l x = false) : l.length < 65536 := by
  have := gL_len hn (gL_enq h (k := 0) (a := 0) h1 h2 (by omega) (fun z => z))
  unfold enq at this
  rw [hx, if_neg (by simp)] at this
  simp at this
  omega
theorem enq_get {l : List eL} {x k a i : Nat} {e : eL} (h : l[i]? = some e) : (enq l x k a)[i]? = some e := by
  unfold enq
  split
  · exact h
  · exact get_app.mpr (Or.inl h)
theorem enq_len (l : List eL) (x k a : Nat) : l.length ≤ (enq l x k a).length := by
  unfold enq
  split
  · exact Nat.le_refl _
  · simp
section BFS
variable (n1 : Nat) (w1 : Nat → Nat) (n2 : Nat) (w2 : Nat → Nat)
def sA (x k a : Nat) (l : List eL) : List eL := if aft n1 w1 (x / 256) a = 0 then l else enq l (aft n1 w1 (x / 256) a * 256 + aft n2 w2 (x % 256) a) k a
def exA (x k : Nat) : Nat → List eL → List eL
  | 0, l => l
  | a + 1, l => sA n1 w1 n2 w2 x k a (exA x k a l)
def bfs : Nat → List eL
  | 0 => [(sil n1 w1 1 * 256 + sil n2 w2 1, 0, 0)]
  | k + 1 => match (bfs k)[k]? with
    | none => bfs k
    | some e => exA n1 w1 n2 w2 e.1 k 4 (bfs k)
def rsn (x : Nat) : Nat := if x % 256 = 0 then 0 else if rfB n1 w1 (x / 256) n2 w2 (x % 256) = false then 1 else if ¬ x / 256 &&& lst n1 w1 = 0 ∧ x % 256 &&& lst n2 w2 = 0 then 2 else 3
/-- the k-th pair has the first fault by mode m -/
def isF (m k : Nat) : Prop := ∃ e : eL, (bfs n1 w1 n2 w2 k)[k]? = some e ∧ rsn n1 w1 n2 w2 e.1 ≤ m ∧ ∀ (i : Nat), i < k → ∀ f : eL, (bfs n1 w1 n2 w2 i)[i]? = some f → ¬ rsn n1 w1 n2 w2 f.1 ≤ m
def noF (m k : Nat) : Prop := ∀ (i : Nat), i < k → ∀ f : eL, (bfs n1 w1 n2 w2 i)[i]? = some f → ¬ rsn n1 w1 n2 w2 f.1 ≤ m
def NF (m : Nat) : Prop := ∀ k, noF n1 w1 n2 w2 m k
theorem isF_one {m k k' : Nat} (h : isF n1 w1 n2 w2 m k) (h' : isF n1 w1 n2 w2 m k') : k = k' := by
  obtain ⟨e, e1, e2, e3⟩ := h
  obtain ⟨f, f1, f2, f3⟩ := h'
  rcases Nat.lt_trichotomy k k' with z | z | z
  · exact absurd e2 (f3 k z e e1)
  · exact z
  · exact absurd f2 (e3 k' z f f1)
theorem isF_NF {m k : Nat} (h : isF n1 w1 n2 w2 m k) (h' : NF n1 w1 n2 w2 m) : False := by
  obtain ⟨e, e1, e2, e3⟩ := h
  exact h' (k + 1) k (by omega) e e1 e2
theorem sA_get {x k a i : Nat} {l : List eL} {e : eL} (h : l[i]? = some e) : (sA n1 w1 n2 w2 x k a l)[i]? = some e := by
  unfold sA
  split
  · exact h
  · exact enq_get h
theorem exA_get {x k : Nat} {l : List eL} {i : Nat} {e : eL} (h : l[i]? = some e) : ∀ a, (exA n1 w1 n2 w2 x k a l)[i]? = some e
  | 0 => h
  | a + 1 => sA_get n1 w1 n2 w2 (exA_get h a)
theorem bfs_step {k i : Nat} {e : eL} (h : (bfs n1 w1 n2 w2 k)[i]? = some e) : (bfs n1 w1 n2 w2 (k + 1))[i]? = some e := by
  show (match (bfs n1 w1 n2 w2 k)[k]? with
    | none => bfs n1 w1 n2 w2 k
    | some e => exA n1 w1 n2 w2 e.1 k 4 (bfs n1 w1 n2 w2 k))[i]? = some e
  split
  · exact h
  · exact exA_get n1 w1 n2 w2 h 4
theorem bfs_get {k i : Nat} {e : eL} (h : (bfs n1 w1 n2 w2 k)[i]? = some e) : ∀ j, (bfs n1 w1 n2 w2 (k + j))[i]? = some e
  | 0 => h
  | j + 1 => bfs_step n1 w1 n2 w2 (bfs_get h j)
theorem bfs_stop {k : Nat} (h : (bfs n1 w1 n2 w2 k)[k]? = none) : ∀ j, bfs n1 w1 n2 w2 (k + j) = bfs n1 w1 n2 w2 k ∧ (bfs n1 w1 n2 w2 (k + j))[k + j]? = none
  | 0 => ⟨rfl, h⟩
  | j + 1 => by
    obtain ⟨i1, i2⟩ := bfs_stop h j
    have e : bfs n1 w1 n2 w2 (k + (j + 1)) = bfs n1 w1 n2 w2 k := by
      show (match (bfs n1 w1 n2 w2 (k + j))[k + j]? with
        | none => bfs n1 w1 n2 w2 (k + j)
        | some e => exA n1 w1 n2 w2 e.1 (k + j) 4 (bfs n1 w1 n2 w2 (k + j))) = _
      rw [i2]
      exact i1
    refine ⟨e, ?_⟩
    rw [e]
    rw [List.getElem?_eq_none_iff] at h ⊢
    omega
theorem noF_end {m k : Nat} (h : (bfs n1 w1 n2 w2 k)[k]? = none) (h2 : noF n1 w1 n2 w2 m k) : NF n1 w1 n2 w2 m := by
  intro k' i hi f hf
  by_cases hik : i < k
  · exact h2 i hik f hf
  · have := (bfs_stop n1 w1 n2 w2 h (i - k)).2
    rw [show k + (i - k) = i by omega, hf] at this
    cases this
variable {n1 w1 n2 w2}
theorem aft_lt {n : Nat} {w : Nat → Nat} (hn : n ≤ 8) (hw : ∀ j, j < 40 → w j < 2 ^ n) (x : Nat) {a : Nat} (ha : a < 4) : aft n w x a < 2 ^ n := (sil_clo hn hw (led_lt a (by omega) hn hw x)).2
theorem pair_dm {a b n1 n2 : Nat} (hn2 : n2 ≤ 8) (h1 : a < 2 ^ n1) (h2 : b < 2 ^ n2) : (a * 256 + b) / 256 < 2 ^ n1 ∧ (a * 256 + b) % 256 < 2 ^ n2 ∧ (a * 256 + b) / 256 = a ∧ (a * 256 + b) % 256 = b := by
  have p8 : 2 ^ n2 ≤ 2 ^ 8 := Nat.pow_le_pow_right (by omega) hn2
  have e1 : (a * 256 + b) / 256 = a := by omega
  have e2 : (a * 256 + b) % 256 = b := by omega
  rw [e1, e2]
  exact ⟨h1, h2, rfl, rfl⟩
theorem gL_sA (hn1 : n1 ≤ 8) (hn2 : n2 ≤ 8) (hw1 : ∀ j, j < 40 → w1 j < 2 ^ n1) (hw2 : ∀ j, j < 40 → w2 j < 2 ^ n2) {l : List eL} (h : gL n1 n2 l) {x k a : Nat} (hk : k < l.length) (ha : a < 4) : gL n1 n2 (sA n1 w1 n2 w2 x k a l) := by
  unfold sA
  split
  · exact h
  · have := pair_dm hn2 (aft_lt hn1 hw1 (x / 256) ha) (aft_lt hn2 hw2 (x % 256) ha)
    exact gL_enq h this.1 this.2.1 ha (fun _ => hk)
theorem sA_len (x k a : Nat) (l : List eL) : l.length ≤ (sA n1 w1 n2 w2 x k a l).length := by
  unfold sA
  split
  · exact Nat.le_refl _
  · exact enq_len _ _ _ _
theorem exA_len (x k : Nat) (l : List eL) : ∀ a, l.length ≤ (exA n1 w1 n2 w2 x k a l).length
  | 0 => Nat.le_refl _
  | a + 1 => Nat.le_trans (exA_len x k l a) (sA_len x k a _)
theorem gL_exA (hn1 : n1 ≤ 8) (hn2 : n2 ≤ 8) (hw1 : ∀ j, j < 40 → w1 j < 2 ^ n1) (hw2 : ∀ j, j < 40 → w2 j < 2 ^ n2) {l : List eL} (h : gL n1 n2 l) {x k : Nat} (hk : k < l.length) : ∀ a, a ≤ 4 → gL n1 n2 (exA n1 w1 n2 w2 x k a l)
  | 0, _ => h
  | a + 1, ha => gL_sA hn1 hn2 hw1 hw2 (gL_exA hn1 hn2 hw1 hw2 h hk a (by omega)) (Nat.lt_of_lt_of_le hk (exA_len x k l a)) (by omega)
theorem gL_nil (n1 n2 : Nat) : gL n1 n2 [] := ⟨fun i e h => by simp at h, fun i j e f h => by simp at h⟩
theorem sil1_lt {n : Nat} {w : Nat → Nat} (hn0 : 1 ≤ n) (hn : n ≤ 8) (hw : ∀ j, j < 40 → w j < 2 ^ n) : sil n w 1 < 2 ^ n ∧ ¬ sil n w 1 = 0 := by
  obtain ⟨h1, h2⟩ := sil_clo hn hw (Nat.one_lt_two_pow (n := n) (by omega))
  exact ⟨h2, nz_bit.mpr ⟨0, h1.1 0 (by decide)⟩⟩
theorem gL_bfs (h01 : 1 ≤ n1) (h02 : 1 ≤ n2) (hn1 : n1 ≤ 8) (hn2 : n2 ≤ 8) (hw1 : ∀ j, j < 40 → w1 j < 2 ^ n1) (hw2 : ∀ j, j < 40 → w2 j < 2 ^ n2) : ∀ k, gL n1 n2 (bfs n1 w1 n2 w2 k)
  | 0 => by
    have d := pair_dm hn2 (sil1_lt h01 hn1 hw1).1 (sil1_lt h02 hn2 hw2).1
    have := gL_enq (gL_nil n1 n2) (k := 0) (a := 0) d.1 d.2.1 (by omega) (fun z => z)
    exact this
  | k + 1 => by
    have ih := gL_bfs h01 h02 hn1 hn2 hw1 hw2 k
    show gL n1 n2 (match (bfs n1 w1 n2 w2 k)[k]? with
      | none => bfs n1 w1 n2 w2 k
      | some e => exA n1 w1 n2 w2 e.1 k 4 (bfs n1 w1 n2 w2 k))
    split
    · exact ih
    · next e he => exact gL_exA hn1 hn2 hw1 hw2 ih (get_lt he) 4 (by omega)
theorem bfs_succ {k : Nat} {e : eL} (h : (bfs n1 w1 n2 w2 k)[k]? = some e) : bfs n1 w1 n2 w2 (k + 1) = exA n1 w1 n2 w2 e.1 k 4 (bfs n1 w1 n2 w2 k) := by
  show (match (bfs n1 w1 n2 w2 k)[k]? with
    | none => bfs n1 w1 n2 w2 k
    | some e => exA n1 w1 n2 w2 e.1 k 4 (bfs n1 w1 n2 w2 k)) = _
  rw [h]
theorem noF_succ {m k : Nat} {e : eL} (h : (bfs n1 w1 n2 w2 k)[k]? = some e) (h1 : noF n1 w1 n2 w2 m k) (h2 : ¬ rsn n1 w1 n2 w2 e.1 ≤ m) : noF n1 w1 n2 w2 m (k + 1) := by
  intro i hi f hf
  by_cases z : i < k
  · exact h1 i z f hf
  · have : i = k := by omega
    subst this
    rw [h] at hf
    cases hf
    exact h2
end BFS
