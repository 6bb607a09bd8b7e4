/-! ===== one instruction's row, for rewriting ===== -/
def rx_lx (o : Option Value) (f : Value → Prop) : Prop := match o with
  | some w => f w
  | none => False
def rx_fx (o : Option rx_C) (ci : Nat) (f : List Value → Prop) : Prop := match o with
  | some (.inr (c, fs)) => c = ci ∧ f fs
  | _ => False
def rx_ax (o : Option rx_C) (tg : Nat) (f : Nat → (Nat → Int32) → Prop) : Prop := match o with
  | some (.inl (t, n, .inl g)) => t = tg ∧ f n g
  | _ => False
def rx_qx (o : Option rx_C) (f : Nat → Nat → (Nat → Option Nat) → Prop) : Prop := match o with
  | some (.inl (t, n, .inr (.inr (.inr (.inr g))))) => (t = 2 ∨ t = 3) ∧ f t n g
  | _ => False
def rx_ox (o : Option Nat) (f : Nat → Prop) : Prop := match o with
  | some q => f q
  | none => False
def rx_vx (As : List Value) (cn : Nat) (h : rx_H) (P : Prop) : Prop := match As with
  | .ref i :: _ => ¬ i = 0 ∧ rx_fx (rx_rd h i) cn (fun _ => P)
  | _ => False
def rx_ix (As : List Value) (P : Prop) : Prop := match As with
  | .ref i :: _ => ¬ i = 0 ∧ P
  | _ => False
theorem rx_fx_some (c ci : Nat) (fs : List Value) (f : List Value → Prop) : rx_fx (some (.inr (c, fs))) ci f = (c = ci ∧ f fs) := rfl
theorem rx_ax_some (t tg n : Nat) (g : Nat → Int32) (f : Nat → (Nat → Int32) → Prop) : rx_ax (some (.inl (t, n, .inl g))) tg f = (t = tg ∧ f n g) := rfl
theorem rx_qx_some (t n : Nat) (g : Nat → Option Nat) (f : Nat → Nat → (Nat → Option Nat) → Prop) : rx_qx (some (.inl (t, n, .inr (.inr (.inr (.inr g)))))) f = ((t = 2 ∨ t = 3) ∧ f t n g) := rfl
theorem rx_ox_some (q : Nat) (f : Nat → Prop) : rx_ox (some q) f = f q := rfl
theorem rx_lx_some (w : Value) (f : Value → Prop) : rx_lx (some w) f = f w := rfl
theorem rx_vx_ref (i : Nat) (As : List Value) (cn : Nat) (h : rx_H) (P : Prop) : rx_vx (.ref i :: As) cn h P = (¬ i = 0 ∧ rx_fx (rx_rd h i) cn (fun _ => P)) := rfl
theorem rx_ix_ref (i : Nat) (As : List Value) (P : Prop) : rx_ix (.ref i :: As) P = (¬ i = 0 ∧ P) := rfl
theorem rx_ld_0 (x : Int32) : rx_ld 0 (some (.int x)) = some (.int x) := rfl
theorem rx_ld_2 (x : Nat) : rx_ld 2 (some (.ref x)) = some (.ref x) := rfl
theorem rx_ld_3 (x : Int64) : rx_ld 3 (some (.long x)) = some (.long x) := rfl
section RXST
variable (k : Nat) (S : List Nat) (mi pc nx a b kd : Nat) (v : Value) (ls r st : List Value) (h : rx_H) (Q : Option Value → rx_H → Prop)
theorem rx_w_iconst (n : Int) : rx_ow (some (.iconst n, nx, a, b, kd, v)) k S mi pc ls st h Q = (rx_nx k S mi nx ls (v :: st) h Q) := rfl
theorem rx_w_bipush (n : Int) : rx_ow (some (.bipush n, nx, a, b, kd, v)) k S mi pc ls st h Q = (rx_nx k S mi nx ls (v :: st) h Q) := rfl
theorem rx_w_sipush (n : Int) : rx_ow (some (.sipush n, nx, a, b, kd, v)) k S mi pc ls st h Q = (rx_nx k S mi nx ls (v :: st) h Q) := rfl
theorem rx_w_ldc (n : Nat) : rx_ow (some (.ldc n, nx, a, b, kd, v)) k S mi pc ls st h Q = (rx_nx k S mi nx ls (v :: st) h Q) := rfl
theorem rx_w_ldc_w (n : Nat) : rx_ow (some (.ldc_w n, nx, a, b, kd, v)) k S mi pc ls st h Q = (rx_nx k S mi nx ls (v :: st) h Q) := rfl
theorem rx_w_ldc2_w (n : Nat) : rx_ow (some (.ldc2_w n, nx, a, b, kd, v)) k S mi pc ls st h Q = (rx_nx k S mi nx ls (v :: st) h Q) := rfl
theorem rx_w_iload_n (j : Fin 4) : rx_ow (some (.iload_n j, nx, a, b, kd, v)) k S mi pc ls st h Q = (rx_lx (rx_ld 0 ls[a]?) (fun w => rx_nx k S mi nx ls (w :: st) h Q)) := by
  show rx_op _ _ _ _ _ _ _ _ = _
  unfold rx_op
  show (match rx_load 0 a nx ls st h with
    | none => False
    | some (.inl (pc', ls', st', h')) => rx_nx k S mi pc' ls' st' h' Q
    | some (.inr (.inl (a, As, rest, nx))) => rx_Cl a As h (fun r h' => rx_nx k S mi nx ls (r.toList ++ rest) h' Q)
    | some (.inr (.inr v)) => Q v h) = _
  unfold rx_load
  cases rx_ld 0 ls[a]? <;> rfl
theorem rx_w_iload (j : Nat) : rx_ow (some (.iload j, nx, a, b, kd, v)) k S mi pc ls st h Q = (rx_lx (rx_ld 0 ls[a]?) (fun w => rx_nx k S mi nx ls (w :: st) h Q)) := by
  show rx_op _ _ _ _ _ _ _ _ = _
  unfold rx_op
  show (match rx_load 0 a nx ls st h with
    | none => False
    | some (.inl (pc', ls', st', h')) => rx_nx k S mi pc' ls' st' h' Q
    | some (.inr (.inl (a, As, rest, nx))) => rx_Cl a As h (fun r h' => rx_nx k S mi nx ls (r.toList ++ rest) h' Q)
    | some (.inr (.inr v)) => Q v h) = _
  unfold rx_load
  cases rx_ld 0 ls[a]? <;> rfl
theorem rx_w_aload_n (j : Fin 4) : rx_ow (some (.aload_n j, nx, a, b, kd, v)) k S mi pc ls st h Q = (rx_lx (rx_ld 2 ls[a]?) (fun w => rx_nx k S mi nx ls (w :: st) h Q)) := by
  show rx_op _ _ _ _ _ _ _ _ = _
  unfold rx_op
  show (match rx_load 2 a nx ls st h with
    | none => False
    | some (.inl (pc', ls', st', h')) => rx_nx k S mi pc' ls' st' h' Q
    | some (.inr (.inl (a, As, rest, nx))) => rx_Cl a As h (fun r h' => rx_nx k S mi nx ls (r.toList ++ rest) h' Q)
    | some (.inr (.inr v)) => Q v h) = _
  unfold rx_load
  cases rx_ld 2 ls[a]? <;> rfl
theorem rx_w_aload (j : Nat) : rx_ow (some (.aload j, nx, a, b, kd, v)) k S mi pc ls st h Q = (rx_lx (rx_ld 2 ls[a]?) (fun w => rx_nx k S mi nx ls (w :: st) h Q)) := by
  show rx_op _ _ _ _ _ _ _ _ = _
  unfold rx_op
  show (match rx_load 2 a nx ls st h with
    | none => False
    | some (.inl (pc', ls', st', h')) => rx_nx k S mi pc' ls' st' h' Q
    | some (.inr (.inl (a, As, rest, nx))) => rx_Cl a As h (fun r h' => rx_nx k S mi nx ls (r.toList ++ rest) h' Q)
    | some (.inr (.inr v)) => Q v h) = _
  unfold rx_load
  cases rx_ld 2 ls[a]? <;> rfl
theorem rx_w_lload_n (j : Fin 4) : rx_ow (some (.lload_n j, nx, a, b, kd, v)) k S mi pc ls st h Q = (rx_lx (rx_ld 3 ls[a]?) (fun w => rx_nx k S mi nx ls (w :: st) h Q)) := by
  show rx_op _ _ _ _ _ _ _ _ = _
  unfold rx_op
  show (match rx_load 3 a nx ls st h with
    | none => False
    | some (.inl (pc', ls', st', h')) => rx_nx k S mi pc' ls' st' h' Q
    | some (.inr (.inl (a, As, rest, nx))) => rx_Cl a As h (fun r h' => rx_nx k S mi nx ls (r.toList ++ rest) h' Q)
    | some (.inr (.inr v)) => Q v h) = _
  unfold rx_load
  cases rx_ld 3 ls[a]? <;> rfl
theorem rx_w_lload (j : Nat) : rx_ow (some (.lload j, nx, a, b, kd, v)) k S mi pc ls st h Q = (rx_lx (rx_ld 3 ls[a]?) (fun w => rx_nx k S mi nx ls (w :: st) h Q)) := by
  show rx_op _ _ _ _ _ _ _ _ = _
  unfold rx_op
  show (match rx_load 3 a nx ls st h with
    | none => False
    | some (.inl (pc', ls', st', h')) => rx_nx k S mi pc' ls' st' h' Q
    | some (.inr (.inl (a, As, rest, nx))) => rx_Cl a As h (fun r h' => rx_nx k S mi nx ls (r.toList ++ rest) h' Q)
    | some (.inr (.inr v)) => Q v h) = _
  unfold rx_load
  cases rx_ld 3 ls[a]? <;> rfl
theorem rx_w_istore_n (j : Fin 4) (x : Int32) : rx_ow (some (.istore_n j, nx, a, b, kd, v)) k S mi pc ls (.int x :: r) h Q = ((a < ls.length ∧ rx_nl ls a = true) ∧ rx_nx k S mi nx (ls.set a (.int x)) r h Q) := by
  show rx_op _ _ _ _ _ _ _ _ = _
  unfold rx_op
  show (match rx_store 0 a nx ls (.int x :: r) h with
    | none => False
    | some (.inl (pc', ls', st', h')) => rx_nx k S mi pc' ls' st' h' Q
    | some (.inr (.inl (a, As, rest, nx))) => rx_Cl a As h (fun r h' => rx_nx k S mi nx ls (r.toList ++ rest) h' Q)
    | some (.inr (.inr v)) => Q v h) = _
  have e : rx_store 0 a nx ls (.int x :: r) h = if decide (a < ls.length) && rx_nl ls a then some (.inl (nx, ls.set a (.int x), r, h)) else none := rfl
  rw [e]
  by_cases hc : (decide (a < ls.length) && rx_nl ls a) = true
  · rw [if_pos hc]
    simp only [Bool.and_eq_true, decide_eq_true_eq] at hc
    simp only [hc, and_self, true_and]
  · rw [if_neg hc]
    simp only [Bool.and_eq_true, decide_eq_true_eq] at hc
    simp only [hc, false_and]
theorem rx_w_istore (j : Nat) (x : Int32) : rx_ow (some (.istore j, nx, a, b, kd, v)) k S mi pc ls (.int x :: r) h Q = ((a < ls.length ∧ rx_nl ls a = true) ∧ rx_nx k S mi nx (ls.set a (.int x)) r h Q) := by
  show rx_op _ _ _ _ _ _ _ _ = _
  unfold rx_op
  show (match rx_store 0 a nx ls (.int x :: r) h with
    | none => False
    | some (.inl (pc', ls', st', h')) => rx_nx k S mi pc' ls' st' h' Q
    | some (.inr (.inl (a, As, rest, nx))) => rx_Cl a As h (fun r h' => rx_nx k S mi nx ls (r.toList ++ rest) h' Q)
    | some (.inr (.inr v)) => Q v h) = _
  have e : rx_store 0 a nx ls (.int x :: r) h = if decide (a < ls.length) && rx_nl ls a then some (.inl (nx, ls.set a (.int x), r, h)) else none := rfl
  rw [e]
  by_cases hc : (decide (a < ls.length) && rx_nl ls a) = true
  · rw [if_pos hc]
    simp only [Bool.and_eq_true, decide_eq_true_eq] at hc
    simp only [hc, and_self, true_and]
  · rw [if_neg hc]
    simp only [Bool.and_eq_true, decide_eq_true_eq] at hc
    simp only [hc, false_and]
theorem rx_w_astore_n (j : Fin 4) (x : Nat) : rx_ow (some (.astore_n j, nx, a, b, kd, v)) k S mi pc ls (.ref x :: r) h Q = ((a < ls.length ∧ rx_nl ls a = true) ∧ rx_nx k S mi nx (ls.set a (.ref x)) r h Q) := by
  show rx_op _ _ _ _ _ _ _ _ = _
  unfold rx_op
  show (match rx_store 2 a nx ls (.ref x :: r) h with
    | none => False
    | some (.inl (pc', ls', st', h')) => rx_nx k S mi pc' ls' st' h' Q
    | some (.inr (.inl (a, As, rest, nx))) => rx_Cl a As h (fun r h' => rx_nx k S mi nx ls (r.toList ++ rest) h' Q)
    | some (.inr (.inr v)) => Q v h) = _
  have e : rx_store 2 a nx ls (.ref x :: r) h = if decide (a < ls.length) && rx_nl ls a then some (.inl (nx, ls.set a (.ref x), r, h)) else none := rfl
  rw [e]
  by_cases hc : (decide (a < ls.length) && rx_nl ls a) = true
  · rw [if_pos hc]
    simp only [Bool.and_eq_true, decide_eq_true_eq] at hc
    simp only [hc, and_self, true_and]
  · rw [if_neg hc]
    simp only [Bool.and_eq_true, decide_eq_true_eq] at hc
    simp only [hc, false_and]
theorem rx_w_astore (j : Nat) (x : Nat) : rx_ow (some (.astore j, nx, a, b, kd, v)) k S mi pc ls (.ref x :: r) h Q = ((a < ls.length ∧ rx_nl ls a = true) ∧ rx_nx k S mi nx (ls.set a (.ref x)) r h Q) := by
  show rx_op _ _ _ _ _ _ _ _ = _
  unfold rx_op
  show (match rx_store 2 a nx ls (.ref x :: r) h with
    | none => False
    | some (.inl (pc', ls', st', h')) => rx_nx k S mi pc' ls' st' h' Q
    | some (.inr (.inl (a, As, rest, nx))) => rx_Cl a As h (fun r h' => rx_nx k S mi nx ls (r.toList ++ rest) h' Q)
    | some (.inr (.inr v)) => Q v h) = _
  have e : rx_store 2 a nx ls (.ref x :: r) h = if decide (a < ls.length) && rx_nl ls a then some (.inl (nx, ls.set a (.ref x), r, h)) else none := rfl
  rw [e]
  by_cases hc : (decide (a < ls.length) && rx_nl ls a) = true
  · rw [if_pos hc]
    simp only [Bool.and_eq_true, decide_eq_true_eq] at hc
    simp only [hc, and_self, true_and]
  · rw [if_neg hc]
    simp only [Bool.and_eq_true, decide_eq_true_eq] at hc
    simp only [hc, false_and]
theorem rx_w_lstore_n (j : Fin 4) (x : Int64) : rx_ow (some (.lstore_n j, nx, a, b, kd, v)) k S mi pc ls (.long x :: r) h Q = ((a + 1 < ls.length ∧ rx_nl ls a = true) ∧ rx_nx k S mi nx ((ls.set a (.long x)).set (a + 1) .null) r h Q) := by
  show rx_op _ _ _ _ _ _ _ _ = _
  unfold rx_op
  show (match rx_lstore a nx ls (.long x :: r) h with
    | none => False
    | some (.inl (pc', ls', st', h')) => rx_nx k S mi pc' ls' st' h' Q
    | some (.inr (.inl (a, As, rest, nx))) => rx_Cl a As h (fun r h' => rx_nx k S mi nx ls (r.toList ++ rest) h' Q)
    | some (.inr (.inr v)) => Q v h) = _
  have e : rx_lstore a nx ls (.long x :: r) h = if decide (a + 1 < ls.length) && rx_nl ls a then some (.inl (nx, (ls.set a (.long x)).set (a + 1) .null, r, h)) else none := rfl
  rw [e]
  by_cases hc : (decide (a + 1 < ls.length) && rx_nl ls a) = true
  · rw [if_pos hc]
    simp only [Bool.and_eq_true, decide_eq_true_eq] at hc
    simp only [hc, and_self, true_and]
  · rw [if_neg hc]
    simp only [Bool.and_eq_true, decide_eq_true_eq] at hc
    simp only [hc, false_and]
theorem rx_w_lstore (j : Nat) (x : Int64) : rx_ow (some (.lstore j, nx, a, b, kd, v)) k S mi pc ls (.long x :: r) h Q = ((a + 1 < ls.length ∧ rx_nl ls a = true) ∧ rx_nx k S mi nx ((ls.set a (.long x)).set (a + 1) .null) r h Q) := by
  show rx_op _ _ _ _ _ _ _ _ = _
  unfold rx_op
  show (match rx_lstore a nx ls (.long x :: r) h with
    | none => False
    | some (.inl (pc', ls', st', h')) => rx_nx k S mi pc' ls' st' h' Q
    | some (.inr (.inl (a, As, rest, nx))) => rx_Cl a As h (fun r h' => rx_nx k S mi nx ls (r.toList ++ rest) h' Q)
    | some (.inr (.inr v)) => Q v h) = _
  have e : rx_lstore a nx ls (.long x :: r) h = if decide (a + 1 < ls.length) && rx_nl ls a then some (.inl (nx, (ls.set a (.long x)).set (a + 1) .null, r, h)) else none := rfl
  rw [e]
  by_cases hc : (decide (a + 1 < ls.length) && rx_nl ls a) = true
  · rw [if_pos hc]
    simp only [Bool.and_eq_true, decide_eq_true_eq] at hc
    simp only [hc, and_self, true_and]
  · rw [if_neg hc]
    simp only [Bool.and_eq_true, decide_eq_true_eq] at hc
    simp only [hc, false_and]
def rx_cx (o : Option Value) (f : Int32 → Prop) : Prop := match o with
  | some (.int x) => f x
  | _ => False
theorem rx_cx_some (x : Int32) (f : Int32 → Prop) : rx_cx (some (.int x)) f = f x := rfl
theorem rx_w_iinc (j : Nat) (n : Int) (y : Int32) : rx_ow (some (.iinc j n, nx, a, b, kd, .int y)) k S mi pc ls st h Q = (rx_cx ls[a]? (fun x => rx_nl ls a = true ∧ rx_nx k S mi nx (ls.set a (.int (x + y))) st h Q)) := by
  show rx_op _ _ _ _ _ _ _ _ = _
  unfold rx_op
  show (match rx_iinc a nx y ls st h with
    | none => False
    | some (.inl (pc', ls', st', h')) => rx_nx k S mi pc' ls' st' h' Q
    | some (.inr (.inl (a, As, rest, nx))) => rx_Cl a As h (fun r h' => rx_nx k S mi nx ls (r.toList ++ rest) h' Q)
    | some (.inr (.inr v)) => Q v h) = _
  unfold rx_iinc rx_cx
  cases hl : ls[a]? with
  | none => rfl
  | some w =>
    cases w with
    | int x =>
      dsimp only
      cases hn : rx_nl ls a <;> simp
    | _ => rfl
theorem rx_w_iadd (x y : Int32) : rx_ow (some (.iadd, nx, a, b, kd, v)) k S mi pc ls (.int y :: .int x :: r) h Q = (rx_nx k S mi nx ls (.int (x + y) :: r) h Q) := rfl
theorem rx_w_isub (x y : Int32) : rx_ow (some (.isub, nx, a, b, kd, v)) k S mi pc ls (.int y :: .int x :: r) h Q = (rx_nx k S mi nx ls (.int (x - y) :: r) h Q) := rfl
theorem rx_w_imul (x y : Int32) : rx_ow (some (.imul, nx, a, b, kd, v)) k S mi pc ls (.int y :: .int x :: r) h Q = (rx_nx k S mi nx ls (.int (x * y) :: r) h Q) := rfl
theorem rx_w_iand (x y : Int32) : rx_ow (some (.iand, nx, a, b, kd, v)) k S mi pc ls (.int y :: .int x :: r) h Q = (rx_nx k S mi nx ls (.int (x &&& y) :: r) h Q) := rfl
theorem rx_w_ior (x y : Int32) : rx_ow (some (.ior, nx, a, b, kd, v)) k S mi pc ls (.int y :: .int x :: r) h Q = (rx_nx k S mi nx ls (.int (x ||| y) :: r) h Q) := rfl
theorem rx_w_ixor (x y : Int32) : rx_ow (some (.ixor, nx, a, b, kd, v)) k S mi pc ls (.int y :: .int x :: r) h Q = (rx_nx k S mi nx ls (.int (x ^^^ y) :: r) h Q) := rfl
theorem rx_w_ishl (x y : Int32) : rx_ow (some (.ishl, nx, a, b, kd, v)) k S mi pc ls (.int y :: .int x :: r) h Q = (rx_nx k S mi nx ls (.int (x <<< (y &&& 31)) :: r) h Q) := rfl
theorem rx_w_ishr (x y : Int32) : rx_ow (some (.ishr, nx, a, b, kd, v)) k S mi pc ls (.int y :: .int x :: r) h Q = (rx_nx k S mi nx ls (.int (x >>> (y &&& 31)) :: r) h Q) := rfl
theorem rx_w_iushr (x y : Int32) : rx_ow (some (.iushr, nx, a, b, kd, v)) k S mi pc ls (.int y :: .int x :: r) h Q = (rx_nx k S mi nx ls (.int ((x.toUInt32 >>> (y.toUInt32 &&& Int32.toUInt32 31)).toInt32) :: r) h Q) := rfl
theorem rx_w_idiv (x y : Int32) : rx_ow (some (.idiv, nx, a, b, kd, v)) k S mi pc ls (.int y :: .int x :: r) h Q = (¬ y = 0 ∧ rx_nx k S mi nx ls (.int (x / y) :: r) h Q) := by
  show rx_op _ _ _ _ _ _ _ _ = _
  unfold rx_op
  show (match rx_b2z (fun x y => x / y) nx ls (.int y :: .int x :: r) h with
    | none => False
    | some (.inl (pc', ls', st', h')) => rx_nx k S mi pc' ls' st' h' Q
    | some (.inr (.inl (a, As, rest, nx))) => rx_Cl a As h (fun r h' => rx_nx k S mi nx ls (r.toList ++ rest) h' Q)
    | some (.inr (.inr v)) => Q v h) = _
  unfold rx_b2z
  by_cases hy : y = 0
  · simp [hy]
  · simp [hy]
theorem rx_w_irem (x y : Int32) : rx_ow (some (.irem, nx, a, b, kd, v)) k S mi pc ls (.int y :: .int x :: r) h Q = (¬ y = 0 ∧ rx_nx k S mi nx ls (.int (x - x / y * y) :: r) h Q) := by
  show rx_op _ _ _ _ _ _ _ _ = _
  unfold rx_op
  show (match rx_b2z (fun x y => x - x / y * y) nx ls (.int y :: .int x :: r) h with
    | none => False
    | some (.inl (pc', ls', st', h')) => rx_nx k S mi pc' ls' st' h' Q
    | some (.inr (.inl (a, As, rest, nx))) => rx_Cl a As h (fun r h' => rx_nx k S mi nx ls (r.toList ++ rest) h' Q)
    | some (.inr (.inr v)) => Q v h) = _
  unfold rx_b2z
  by_cases hy : y = 0
  · simp [hy]
  · simp [hy]
theorem rx_w_ladd (x y : Int64) : rx_ow (some (.ladd, nx, a, b, kd, v)) k S mi pc ls (.long y :: .long x :: r) h Q = (rx_nx k S mi nx ls (.long (x + y) :: r) h Q) := rfl
theorem rx_w_lmul (x y : Int64) : rx_ow (some (.lmul, nx, a, b, kd, v)) k S mi pc ls (.long y :: .long x :: r) h Q = (rx_nx k S mi nx ls (.long (x * y) :: r) h Q) := rfl
theorem rx_w_ineg (x : Int32) : rx_ow (some (.ineg, nx, a, b, kd, v)) k S mi pc ls (.int x :: r) h Q = (rx_nx k S mi nx ls (.int (-x) :: r) h Q) := rfl
theorem rx_w_i2l (x : Int32) : rx_ow (some (.i2l, nx, a, b, kd, v)) k S mi pc ls (.int x :: r) h Q = (rx_nx k S mi nx ls (.long x.toInt64 :: r) h Q) := rfl
theorem rx_w_i2b (x : Int32) : rx_ow (some (.i2b, nx, a, b, kd, v)) k S mi pc ls (.int x :: r) h Q = (rx_nx k S mi nx ls (.int x.toInt8.toInt32 :: r) h Q) := rfl
theorem rx_w_lcmp (x y : Int64) : rx_ow (some (.lcmp, nx, a, b, kd, v)) k S mi pc ls (.long y :: .long x :: r) h Q = (rx_nx k S mi nx ls (.int (lg_cmp x y) :: r) h Q) := rfl
theorem rx_w_dup_i (x : Int32) : rx_ow (some (.dup, nx, a, b, kd, v)) k S mi pc ls (.int x :: r) h Q = (rx_nx k S mi nx ls (.int x :: .int x :: r) h Q) := rfl
theorem rx_w_dup_r (x : Nat) : rx_ow (some (.dup, nx, a, b, kd, v)) k S mi pc ls (.ref x :: r) h Q = (rx_nx k S mi nx ls (.ref x :: .ref x :: r) h Q) := rfl
theorem rx_w_pop (x : Int32) : rx_ow (some (.pop, nx, a, b, kd, v)) k S mi pc ls (.int x :: r) h Q = (rx_nx k S mi nx ls (r) h Q) := rfl
theorem rx_w_dup2 (x : Int32) (y : Nat) : rx_ow (some (.dup2, nx, a, b, kd, v)) k S mi pc ls (.int x :: .ref y :: r) h Q = (rx_nx k S mi nx ls (.int x :: .ref y :: .int x :: .ref y :: r) h Q) := rfl
theorem rx_w_goto (n : Int) : rx_ow (some (.goto n, nx, a, b, kd, v)) k S mi pc ls st h Q = (rx_nx k S mi a ls st h Q) := rfl
theorem rx_w_icmp_eq (n : Int) (x y : Int32) : rx_ow (some (.if_icmp .eq n, nx, a, b, kd, v)) k S mi pc ls (.int y :: .int x :: r) h Q = (if x = y then rx_nx k S mi a ls r h Q else rx_nx k S mi nx ls r h Q) := by
  show rx_op _ _ _ _ _ _ _ _ = _
  unfold rx_op
  show (match rx_br (rx_cmpB .eq x y) a nx ls r h with
    | none => False
    | some (.inl (pc', ls', st', h')) => rx_nx k S mi pc' ls' st' h' Q
    | some (.inr (.inl (a, As, rest, nx))) => rx_Cl a As h (fun r h' => rx_nx k S mi nx ls (r.toList ++ rest) h' Q)
    | some (.inr (.inr v)) => Q v h) = _
  by_cases hc : x = y <;> simp [rx_br, rx_cmpB, hc]
theorem rx_w_if_eq (n : Int) (x : Int32) : rx_ow (some (.ifCond .eq n, nx, a, b, kd, v)) k S mi pc ls (.int x :: r) h Q = (if x = 0 then rx_nx k S mi a ls r h Q else rx_nx k S mi nx ls r h Q) := by
  show rx_op _ _ _ _ _ _ _ _ = _
  unfold rx_op
  show (match rx_br (rx_cmpB .eq x 0) a nx ls r h with
    | none => False
    | some (.inl (pc', ls', st', h')) => rx_nx k S mi pc' ls' st' h' Q
    | some (.inr (.inl (a, As, rest, nx))) => rx_Cl a As h (fun r h' => rx_nx k S mi nx ls (r.toList ++ rest) h' Q)
    | some (.inr (.inr v)) => Q v h) = _
  by_cases hc : x = 0 <;> simp [rx_br, rx_cmpB, hc]
theorem rx_w_icmp_ne (n : Int) (x y : Int32) : rx_ow (some (.if_icmp .ne n, nx, a, b, kd, v)) k S mi pc ls (.int y :: .int x :: r) h Q = (if x = y then rx_nx k S mi nx ls r h Q else rx_nx k S mi a ls r h Q) := by
  show rx_op _ _ _ _ _ _ _ _ = _
  unfold rx_op
  show (match rx_br (rx_cmpB .ne x y) a nx ls r h with
    | none => False
    | some (.inl (pc', ls', st', h')) => rx_nx k S mi pc' ls' st' h' Q
    | some (.inr (.inl (a, As, rest, nx))) => rx_Cl a As h (fun r h' => rx_nx k S mi nx ls (r.toList ++ rest) h' Q)
    | some (.inr (.inr v)) => Q v h) = _
  by_cases hc : x = y <;> simp [rx_br, rx_cmpB, hc]
theorem rx_w_if_ne (n : Int) (x : Int32) : rx_ow (some (.ifCond .ne n, nx, a, b, kd, v)) k S mi pc ls (.int x :: r) h Q = (if x = 0 then rx_nx k S mi nx ls r h Q else rx_nx k S mi a ls r h Q) := by
  show rx_op _ _ _ _ _ _ _ _ = _
  unfold rx_op
  show (match rx_br (rx_cmpB .ne x 0) a nx ls r h with
    | none => False
    | some (.inl (pc', ls', st', h')) => rx_nx k S mi pc' ls' st' h' Q
    | some (.inr (.inl (a, As, rest, nx))) => rx_Cl a As h (fun r h' => rx_nx k S mi nx ls (r.toList ++ rest) h' Q)
    | some (.inr (.inr v)) => Q v h) = _
  by_cases hc : x = 0 <;> simp [rx_br, rx_cmpB, hc]
theorem rx_w_icmp_lt (n : Int) (x y : Int32) : rx_ow (some (.if_icmp .lt n, nx, a, b, kd, v)) k S mi pc ls (.int y :: .int x :: r) h Q = (if x < y then rx_nx k S mi a ls r h Q else rx_nx k S mi nx ls r h Q) := by
  show rx_op _ _ _ _ _ _ _ _ = _
  unfold rx_op
  show (match rx_br (rx_cmpB .lt x y) a nx ls r h with
    | none => False
    | some (.inl (pc', ls', st', h')) => rx_nx k S mi pc' ls' st' h' Q
    | some (.inr (.inl (a, As, rest, nx))) => rx_Cl a As h (fun r h' => rx_nx k S mi nx ls (r.toList ++ rest) h' Q)
    | some (.inr (.inr v)) => Q v h) = _
  by_cases hc : x < y <;> simp [rx_br, rx_cmpB, hc]
theorem rx_w_if_lt (n : Int) (x : Int32) : rx_ow (some (.ifCond .lt n, nx, a, b, kd, v)) k S mi pc ls (.int x :: r) h Q = (if x < 0 then rx_nx k S mi a ls r h Q else rx_nx k S mi nx ls r h Q) := by
  show rx_op _ _ _ _ _ _ _ _ = _
  unfold rx_op
  show (match rx_br (rx_cmpB .lt x 0) a nx ls r h with
    | none => False
    | some (.inl (pc', ls', st', h')) => rx_nx k S mi pc' ls' st' h' Q
    | some (.inr (.inl (a, As, rest, nx))) => rx_Cl a As h (fun r h' => rx_nx k S mi nx ls (r.toList ++ rest) h' Q)
    | some (.inr (.inr v)) => Q v h) = _
  by_cases hc : x < 0 <;> simp [rx_br, rx_cmpB, hc]
theorem rx_w_icmp_ge (n : Int) (x y : Int32) : rx_ow (some (.if_icmp .ge n, nx, a, b, kd, v)) k S mi pc ls (.int y :: .int x :: r) h Q = (if y ≤ x then rx_nx k S mi a ls r h Q else rx_nx k S mi nx ls r h Q) := by
  show rx_op _ _ _ _ _ _ _ _ = _
  unfold rx_op
  show (match rx_br (rx_cmpB .ge x y) a nx ls r h with
    | none => False
    | some (.inl (pc', ls', st', h')) => rx_nx k S mi pc' ls' st' h' Q
    | some (.inr (.inl (a, As, rest, nx))) => rx_Cl a As h (fun r h' => rx_nx k S mi nx ls (r.toList ++ rest) h' Q)
    | some (.inr (.inr v)) => Q v h) = _
  by_cases hc : y ≤ x <;> simp [rx_br, rx_cmpB, hc]
theorem rx_w_if_ge (n : Int) (x : Int32) : rx_ow (some (.ifCond .ge n, nx, a, b, kd, v)) k S mi pc ls (.int x :: r) h Q = (if 0 ≤ x then rx_nx k S mi a ls r h Q else rx_nx k S mi nx ls r h Q) := by
  show rx_op _ _ _ _ _ _ _ _ = _
  unfold rx_op
  show (match rx_br (rx_cmpB .ge x 0) a nx ls r h with
    | none => False
    | some (.inl (pc', ls', st', h')) => rx_nx k S mi pc' ls' st' h' Q
    | some (.inr (.inl (a, As, rest, nx))) => rx_Cl a As h (fun r h' => rx_nx k S mi nx ls (r.toList ++ rest) h' Q)
    | some (.inr (.inr v)) => Q v h) = _
  by_cases hc : 0 ≤ x <;> simp [rx_br, rx_cmpB, hc]
theorem rx_w_icmp_gt (n : Int) (x y : Int32) : rx_ow (some (.if_icmp .gt n, nx, a, b, kd, v)) k S mi pc ls (.int y :: .int x :: r) h Q = (if y < x then rx_nx k S mi a ls r h Q else rx_nx k S mi nx ls r h Q) := by
  show rx_op _ _ _ _ _ _ _ _ = _
  unfold rx_op
  show (match rx_br (rx_cmpB .gt x y) a nx ls r h with
    | none => False
    | some (.inl (pc', ls', st', h')) => rx_nx k S mi pc' ls' st' h' Q
    | some (.inr (.inl (a, As, rest, nx))) => rx_Cl a As h (fun r h' => rx_nx k S mi nx ls (r.toList ++ rest) h' Q)
    | some (.inr (.inr v)) => Q v h) = _
  by_cases hc : y < x <;> simp [rx_br, rx_cmpB, hc]
theorem rx_w_if_gt (n : Int) (x : Int32) : rx_ow (some (.ifCond .gt n, nx, a, b, kd, v)) k S mi pc ls (.int x :: r) h Q = (if 0 < x then rx_nx k S mi a ls r h Q else rx_nx k S mi nx ls r h Q) := by
  show rx_op _ _ _ _ _ _ _ _ = _
  unfold rx_op
  show (match rx_br (rx_cmpB .gt x 0) a nx ls r h with
    | none => False
    | some (.inl (pc', ls', st', h')) => rx_nx k S mi pc' ls' st' h' Q
    | some (.inr (.inl (a, As, rest, nx))) => rx_Cl a As h (fun r h' => rx_nx k S mi nx ls (r.toList ++ rest) h' Q)
    | some (.inr (.inr v)) => Q v h) = _
  by_cases hc : 0 < x <;> simp [rx_br, rx_cmpB, hc]
theorem rx_w_icmp_le (n : Int) (x y : Int32) : rx_ow (some (.if_icmp .le n, nx, a, b, kd, v)) k S mi pc ls (.int y :: .int x :: r) h Q = (if x ≤ y then rx_nx k S mi a ls r h Q else rx_nx k S mi nx ls r h Q) := by
  show rx_op _ _ _ _ _ _ _ _ = _
  unfold rx_op
  show (match rx_br (rx_cmpB .le x y) a nx ls r h with
    | none => False
    | some (.inl (pc', ls', st', h')) => rx_nx k S mi pc' ls' st' h' Q
    | some (.inr (.inl (a, As, rest, nx))) => rx_Cl a As h (fun r h' => rx_nx k S mi nx ls (r.toList ++ rest) h' Q)
    | some (.inr (.inr v)) => Q v h) = _
  by_cases hc : x ≤ y <;> simp [rx_br, rx_cmpB, hc]
theorem rx_w_if_le (n : Int) (x : Int32) : rx_ow (some (.ifCond .le n, nx, a, b, kd, v)) k S mi pc ls (.int x :: r) h Q = (if x ≤ 0 then rx_nx k S mi a ls r h Q else rx_nx k S mi nx ls r h Q) := by
  show rx_op _ _ _ _ _ _ _ _ = _
  unfold rx_op
  show (match rx_br (rx_cmpB .le x 0) a nx ls r h with
    | none => False
    | some (.inl (pc', ls', st', h')) => rx_nx k S mi pc' ls' st' h' Q
    | some (.inr (.inl (a, As, rest, nx))) => rx_Cl a As h (fun r h' => rx_nx k S mi nx ls (r.toList ++ rest) h' Q)
    | some (.inr (.inr v)) => Q v h) = _
  by_cases hc : x ≤ 0 <;> simp [rx_br, rx_cmpB, hc]
theorem rx_w_tableswitch (d lo hi : Int) (offs : Array Int) (x : Int32) : rx_ow (some (.tableswitch d lo hi offs, nx, a, b, kd, v)) k S mi pc ls (.int x :: r) h Q = (rx_nx k S mi (rx_sw pc d lo hi offs x) ls r h Q) := rfl
theorem rx_w_getfield (n i : Nat) : rx_ow (some (.getfield n, nx, a, b, kd, v)) k S mi pc ls (.ref i :: r) h Q = (¬ i = 0 ∧ rx_fx (rx_rd h i) a (fun fs => rx_lx fs[b]? (fun w => rx_nx k S mi nx ls (w :: r) h Q))) := by
  show rx_op _ _ _ _ _ _ _ _ = _
  unfold rx_op
  show (match rx_get a b nx ls (.ref i :: r) h with
    | none => False
    | some (.inl (pc', ls', st', h')) => rx_nx k S mi pc' ls' st' h' Q
    | some (.inr (.inl (a, As, rest, nx))) => rx_Cl a As h (fun r h' => rx_nx k S mi nx ls (r.toList ++ rest) h' Q)
    | some (.inr (.inr v)) => Q v h) = _
  unfold rx_get rx_fx
  by_cases hi : i = 0
  · simp [hi]
  · simp only [hi, if_false, not_false_eq_true, true_and]
    generalize rx_rd h i = oo
    rcases oo with _ | ⟨t, x⟩ | ⟨c, fs⟩
    · rfl
    · rfl
    · dsimp only
      by_cases hc : c = a
      · simp only [hc, if_true, true_and]
        cases fs[b]? <;> rfl
      · simp [hc]
theorem rx_w_putfield (n i : Nat) (w : Value) : rx_ow (some (.putfield n, nx, a, b, kd, v)) k S mi pc ls (w :: .ref i :: r) h Q = (¬ i = 0 ∧ rx_fx (rx_rd h i) a (fun fs => (rx_fit kd w = true ∧ b < fs.length) ∧ rx_nx k S mi nx ls r (rx_up h i (.inr (a, fs.set b w))) Q)) := by
  show rx_op _ _ _ _ _ _ _ _ = _
  unfold rx_op
  show (match rx_put a b kd nx ls (w :: .ref i :: r) h with
    | none => False
    | some (.inl (pc', ls', st', h')) => rx_nx k S mi pc' ls' st' h' Q
    | some (.inr (.inl (a, As, rest, nx))) => rx_Cl a As h (fun r h' => rx_nx k S mi nx ls (r.toList ++ rest) h' Q)
    | some (.inr (.inr v)) => Q v h) = _
  unfold rx_put rx_fx
  by_cases hi : i = 0
  · simp [hi]
  · simp only [hi, if_false, not_false_eq_true, true_and]
    generalize rx_rd h i = oo
    rcases oo with _ | ⟨t, x⟩ | ⟨c, fs⟩
    · rfl
    · rfl
    · dsimp only
      by_cases hc : c = a
      · subst hc
        simp only [if_true, true_and]
        by_cases hb : rx_fit kd w = true ∧ b < fs.length
        · simp [hb]
        · have hb2 : ¬ (rx_fit kd w && decide (b < fs.length)) = true := by simpa using hb
          rw [if_neg hb2]
          simp only [hb, false_and]
      · simp [hc]
theorem rx_w_iaload (j : Int32) (i : Nat) : rx_ow (some (.iaload, nx, a, b, kd, v)) k S mi pc ls (.int j :: .ref i :: r) h Q = (rx_ax (rx_rd h i) 0 (fun n f => ¬ (j < 0 ∨ n ≤ j.toNatClampNeg) ∧ rx_nx k S mi nx ls (.int (f j.toNatClampNeg) :: r) h Q)) := by
  show rx_op _ _ _ _ _ _ _ _ = _
  unfold rx_op
  show (match rx_aload 0 nx ls (.int j :: .ref i :: r) h with
    | none => False
    | some (.inl (pc', ls', st', h')) => rx_nx k S mi pc' ls' st' h' Q
    | some (.inr (.inl (a, As, rest, nx))) => rx_Cl a As h (fun r h' => rx_nx k S mi nx ls (r.toList ++ rest) h' Q)
    | some (.inr (.inr v)) => Q v h) = _
  unfold rx_aload rx_ax
  dsimp only
  generalize rx_rd h i = oo
  rcases oo with _ | ⟨t, n, f | f⟩ | ⟨c, fs⟩
  · rfl
  · dsimp only
    by_cases ht : t = 0
    · subst ht
      simp only [if_true, true_and]
      by_cases hj : j < 0 ∨ n ≤ j.toNatClampNeg
      · rw [if_pos hj]; simp [hj]
      · rw [if_neg hj]; simp [hj]
    · simp [ht]
  · rfl
  · rfl
theorem rx_w_baload (j : Int32) (i : Nat) : rx_ow (some (.baload, nx, a, b, kd, v)) k S mi pc ls (.int j :: .ref i :: r) h Q = (¬ i = 0 ∧ rx_ax (rx_rd h i) 1 (fun n f => ¬ (j < 0 ∨ n ≤ j.toNatClampNeg) ∧ rx_nx k S mi nx ls (.int (f j.toNatClampNeg) :: r) h Q)) := by
  show rx_op _ _ _ _ _ _ _ _ = _
  unfold rx_op
  show (match if i = 0 then none else rx_aload 1 nx ls (.int j :: .ref i :: r) h with
    | none => False
    | some (.inl (pc', ls', st', h')) => rx_nx k S mi pc' ls' st' h' Q
    | some (.inr (.inl (a, As, rest, nx))) => rx_Cl a As h (fun r h' => rx_nx k S mi nx ls (r.toList ++ rest) h' Q)
    | some (.inr (.inr v)) => Q v h) = _
  by_cases hi : i = 0
  · simp [hi]
  · simp only [hi, if_false, not_false_eq_true, true_and]
    unfold rx_aload rx_ax
    dsimp only
    generalize rx_rd h i = oo
    rcases oo with _ | ⟨t, n, f | f⟩ | ⟨c, fs⟩
    · rfl
    rotate_left
    · rfl
    · rfl
    · dsimp only
      by_cases ht : t = 1
      · subst ht
        simp only [if_true, true_and]
        by_cases hj : j < 0 ∨ n ≤ j.toNatClampNeg
        · rw [if_pos hj]; simp [hj]
        · rw [if_neg hj]; simp [hj]
      · simp [ht]
theorem rx_w_iastore (x j : Int32) (i : Nat) : rx_ow (some (.iastore, nx, a, b, kd, v)) k S mi pc ls (.int x :: .int j :: .ref i :: r) h Q = (¬ i = 0 ∧ rx_ax (rx_rd h i) 0 (fun n f => ¬ (j < 0 ∨ n ≤ j.toNatClampNeg) ∧ rx_nx k S mi nx ls r (rx_up h i (.inl (0, n, .inl (upd f j.toNatClampNeg (x))))) Q)) := by
  show rx_op _ _ _ _ _ _ _ _ = _
  unfold rx_op
  show (match rx_astore 0 nx (fun x => x) ls (.int x :: .int j :: .ref i :: r) h with
    | none => False
    | some (.inl (pc', ls', st', h')) => rx_nx k S mi pc' ls' st' h' Q
    | some (.inr (.inl (a, As, rest, nx))) => rx_Cl a As h (fun r h' => rx_nx k S mi nx ls (r.toList ++ rest) h' Q)
    | some (.inr (.inr v)) => Q v h) = _
  unfold rx_astore rx_ax
  by_cases hi : i = 0
  · simp [hi]
  · simp only [hi, if_false, not_false_eq_true, true_and]
    generalize rx_rd h i = oo
    rcases oo with _ | ⟨t, n, f | f⟩ | ⟨c, fs⟩
    · rfl
    rotate_left
    · rfl
    · rfl
    · dsimp only
      by_cases ht : t = 0
      · subst ht
        simp only [if_true, true_and]
        by_cases hj : j < 0 ∨ n ≤ j.toNatClampNeg
        · rw [if_pos hj]; simp [hj]
        · rw [if_neg hj]; simp [hj]
      · simp [ht]
theorem rx_w_bastore (x j : Int32) (i : Nat) : rx_ow (some (.bastore, nx, a, b, kd, v)) k S mi pc ls (.int x :: .int j :: .ref i :: r) h Q = (¬ i = 0 ∧ rx_ax (rx_rd h i) 1 (fun n f => ¬ (j < 0 ∨ n ≤ j.toNatClampNeg) ∧ rx_nx k S mi nx ls r (rx_up h i (.inl (1, n, .inl (upd f j.toNatClampNeg (x.toInt8.toInt32))))) Q)) := by
  show rx_op _ _ _ _ _ _ _ _ = _
  unfold rx_op
  show (match rx_astore 1 nx (fun x => x.toInt8.toInt32) ls (.int x :: .int j :: .ref i :: r) h with
    | none => False
    | some (.inl (pc', ls', st', h')) => rx_nx k S mi pc' ls' st' h' Q
    | some (.inr (.inl (a, As, rest, nx))) => rx_Cl a As h (fun r h' => rx_nx k S mi nx ls (r.toList ++ rest) h' Q)
    | some (.inr (.inr v)) => Q v h) = _
  unfold rx_astore rx_ax
  by_cases hi : i = 0
  · simp [hi]
  · simp only [hi, if_false, not_false_eq_true, true_and]
    generalize rx_rd h i = oo
    rcases oo with _ | ⟨t, n, f | f⟩ | ⟨c, fs⟩
    · rfl
    rotate_left
    · rfl
    · rfl
    · dsimp only
      by_cases ht : t = 1
      · subst ht
        simp only [if_true, true_and]
        by_cases hj : j < 0 ∨ n ≤ j.toNatClampNeg
        · rw [if_pos hj]; simp [hj]
        · rw [if_neg hj]; simp [hj]
      · simp [ht]
theorem rx_w_aaload (j : Int32) (i : Nat) : rx_ow (some (.aaload, nx, a, b, kd, v)) k S mi pc ls (.int j :: .ref i :: r) h Q = (¬ i = 0 ∧ rx_qx (rx_rd h i) (fun _ n f => ¬ (j < 0 ∨ n ≤ j.toNatClampNeg) ∧ rx_ox (f j.toNatClampNeg) (fun q => rx_nx k S mi nx ls (.ref q :: r) h Q))) := by
  show rx_op _ _ _ _ _ _ _ _ = _
  unfold rx_op
  show (match rx_aaload nx ls (.int j :: .ref i :: r) h with
    | none => False
    | some (.inl (pc', ls', st', h')) => rx_nx k S mi pc' ls' st' h' Q
    | some (.inr (.inl (a, As, rest, nx))) => rx_Cl a As h (fun r h' => rx_nx k S mi nx ls (r.toList ++ rest) h' Q)
    | some (.inr (.inr v)) => Q v h) = _
  unfold rx_aaload rx_qx
  by_cases hi : i = 0
  · simp [hi]
  · simp only [hi, if_false, not_false_eq_true, true_and]
    generalize rx_rd h i = oo
    rcases oo with _ | ⟨t, n, f | f | f | f | f⟩ | ⟨c, fs⟩
    · rfl
    · rfl
    · rfl
    · rfl
    · rfl
    rotate_left
    · rfl
    · dsimp only
      by_cases ht : t = 2 ∨ t = 3
      · simp only [ht, if_true, true_and]
        by_cases hj : j < 0 ∨ n ≤ j.toNatClampNeg
        · rw [if_pos hj]; simp [hj]
        · rw [if_neg hj]
          simp only [hj, not_false_eq_true, true_and]
          cases f j.toNatClampNeg <;> rfl
      · simp [ht]
theorem rx_w_aastore (j : Int32) (i q : Nat) : rx_ow (some (.aastore, nx, a, b, kd, v)) k S mi pc ls (.ref q :: .int j :: .ref i :: r) h Q = (¬ (i = 0 ∨ q = 0) ∧ rx_qx (rx_rd h i) (fun t n f => ¬ (j < 0 ∨ n ≤ j.toNatClampNeg) ∧ rx_fx (rx_rd h q) (rx_tc t) (fun _ => rx_nx k S mi nx ls r (rx_up h i (.inl (t, n, .inr (.inr (.inr (.inr (va_up f j.toNatClampNeg (some q)))))))) Q))) := by
  show rx_op _ _ _ _ _ _ _ _ = _
  unfold rx_op
  show (match rx_aastore nx ls (.ref q :: .int j :: .ref i :: r) h with
    | none => False
    | some (.inl (pc', ls', st', h')) => rx_nx k S mi pc' ls' st' h' Q
    | some (.inr (.inl (a, As, rest, nx))) => rx_Cl a As h (fun r h' => rx_nx k S mi nx ls (r.toList ++ rest) h' Q)
    | some (.inr (.inr v)) => Q v h) = _
  unfold rx_aastore rx_qx
  by_cases hi : i = 0 ∨ q = 0
  · simp [hi]
  · simp only [hi, if_false, not_false_eq_true, true_and]
    generalize rx_rd h i = oo
    rcases oo with _ | ⟨t, n, f | f | f | f | f⟩ | ⟨c, fs⟩
    · rfl
    · rfl
    · rfl
    · rfl
    · rfl
    rotate_left
    · rfl
    · dsimp only
      by_cases ht : t = 2 ∨ t = 3
      · simp only [ht, if_true, true_and]
        by_cases hj : j < 0 ∨ n ≤ j.toNatClampNeg
        · rw [if_pos hj]; simp [hj]
        · rw [if_neg hj]
          simp only [hj, not_false_eq_true, true_and]
          unfold rx_fx
          generalize rx_rd h q = oq
          rcases oq with _ | ⟨t', x⟩ | ⟨c, fs⟩
          · rfl
          · rfl
          · dsimp only
            by_cases hc : c = rx_tc t
            · simp [hc]
            · simp [hc]
      · simp [ht]
theorem rx_w_arraylength (i : Nat) : rx_ow (some (.arraylength, nx, a, b, kd, v)) k S mi pc ls (.ref i :: r) h Q = (match rx_rd h i with
  | some (.inl (t, n, .inl _)) => (t = 0 ∨ (t = 1 ∧ ¬ i = 0)) ∧ rx_nx k S mi nx ls (.int (Int32.ofNat n) :: r) h Q
  | _ => False) := by
  show rx_op _ _ _ _ _ _ _ _ = _
  unfold rx_op
  show (match rx_alen nx ls (.ref i :: r) h with
    | none => False
    | some (.inl (pc', ls', st', h')) => rx_nx k S mi pc' ls' st' h' Q
    | some (.inr (.inl (a, As, rest, nx))) => rx_Cl a As h (fun r h' => rx_nx k S mi nx ls (r.toList ++ rest) h' Q)
    | some (.inr (.inr v)) => Q v h) = _
  unfold rx_alen
  dsimp only
  generalize rx_rd h i = oo
  rcases oo with _ | ⟨t, n, f | f⟩ | ⟨c, fs⟩
  · rfl
  rotate_left
  · rfl
  · rfl
  · dsimp only
    by_cases ht : t = 0 ∨ (t = 1 ∧ ¬ i = 0)
    · simp only [ht, if_true, true_and]
    · simp only [ht, if_false, false_and]
theorem rx_w_new (n : Nat) : rx_ow (some (.new n, nx, a, b, kd, v)) k S mi pc ls st h Q = (rx_nx k S mi nx ls (.ref h.1 :: st) (rx_nw h b (.inr (a, rx_df a))) Q) := rfl
theorem rx_w_newarray (t : ArrayType) (n : Int32) : rx_ow (some (.newarray t, nx, a, b, kd, v)) k S mi pc ls (.int n :: r) h Q = (¬ (n < 0 ∨ 134217728 < n.toNatClampNeg) ∧ rx_nx k S mi nx ls (.ref h.1 :: r) (rx_nw h n.toNatClampNeg (.inl (a, n.toNatClampNeg, .inl (fun _ => 0)))) Q) := by
  show rx_op _ _ _ _ _ _ _ _ = _
  unfold rx_op
  show (match rx_newa a nx ls (.int n :: r) h with
    | none => False
    | some (.inl (pc', ls', st', h')) => rx_nx k S mi pc' ls' st' h' Q
    | some (.inr (.inl (a, As, rest, nx))) => rx_Cl a As h (fun r h' => rx_nx k S mi nx ls (r.toList ++ rest) h' Q)
    | some (.inr (.inr v)) => Q v h) = _
  unfold rx_newa
  by_cases hn : n < 0 ∨ 134217728 < n.toNatClampNeg
  · simp [hn]
  · simp [hn]
theorem rx_w_anewarray (t : Nat) (n : Int32) : rx_ow (some (.anewarray t, nx, a, b, kd, v)) k S mi pc ls (.int n :: r) h Q = (¬ (n < 0 ∨ 134217728 < n.toNatClampNeg) ∧ rx_nx k S mi nx ls (.ref h.1 :: r) (rx_nw h n.toNatClampNeg (.inl (a, n.toNatClampNeg, .inr (.inr (.inr (.inr (fun _ => none))))))) Q) := by
  show rx_op _ _ _ _ _ _ _ _ = _
  unfold rx_op
  show (match rx_anew a nx ls (.int n :: r) h with
    | none => False
    | some (.inl (pc', ls', st', h')) => rx_nx k S mi pc' ls' st' h' Q
    | some (.inr (.inl (a, As, rest, nx))) => rx_Cl a As h (fun r h' => rx_nx k S mi nx ls (r.toList ++ rest) h' Q)
    | some (.inr (.inr v)) => Q v h) = _
  unfold rx_anew
  by_cases hn : n < 0 ∨ 134217728 < n.toNatClampNeg
  · simp [hn]
  · simp [hn]
theorem rx_w_objinit (n i : Nat) : rx_ow (some (.invokespecial n, nx, a, b, 8, v)) k S mi pc ls (.ref i :: r) h Q = (r.length ≤ 4 ∧ rx_nx k S mi nx ls r h Q) := by
  show rx_op _ _ _ _ _ _ _ _ = _
  unfold rx_op
  show (match (if r.length ≤ 4 then some (.inl (nx, ls, r, h)) else none : Option rx_O) with
    | none => False
    | some (.inl (pc', ls', st', h')) => rx_nx k S mi pc' ls' st' h' Q
    | some (.inr (.inl (a, As, rest, nx))) => rx_Cl a As h (fun r h' => rx_nx k S mi nx ls (r.toList ++ rest) h' Q)
    | some (.inr (.inr v)) => Q v h) = _
  by_cases hn : r.length ≤ 4
  · simp only [hn, if_true, true_and]
  · simp only [hn, if_false, false_and]
theorem rx_w_static0 (n : Nat) : rx_ow (some (.invokestatic n, nx, a, b, 0, v)) k S mi pc ls st h Q = ((b ≤ st.length ∧ (st.drop b).length ≤ 4) ∧ rx_Cl a (st.take b).reverse h (fun rr h' => rx_nx k S mi nx ls (rr.toList ++ st.drop b) h' Q)) := by
  show rx_op _ _ _ _ _ _ _ _ = _
  unfold rx_op
  show (match rx_call a b 0 0 nx st h with
    | none => False
    | some (.inl (pc', ls', st', h')) => rx_nx k S mi pc' ls' st' h' Q
    | some (.inr (.inl (a, As, rest, nx))) => rx_Cl a As h (fun r h' => rx_nx k S mi nx ls (r.toList ++ rest) h' Q)
    | some (.inr (.inr v)) => Q v h) = _
  unfold rx_call
  by_cases hb : b ≤ st.length ∧ (st.drop b).length ≤ 4
  · have hb2 : (decide (b ≤ st.length) && decide ((st.drop b).length ≤ 4)) = true := by simpa using hb
    rw [if_pos hb2]
    simp only [hb, and_self, true_and]
  · have hb2 : ¬ (decide (b ≤ st.length) && decide ((st.drop b).length ≤ 4)) = true := by simpa using hb
    rw [if_neg hb2]
    simp only [hb, false_and]
theorem rx_w_special0 (n : Nat) : rx_ow (some (.invokespecial n, nx, a, b, 0, v)) k S mi pc ls st h Q = ((b ≤ st.length ∧ (st.drop b).length ≤ 4) ∧ rx_ix (st.take b).reverse (rx_Cl a (st.take b).reverse h (fun rr h' => rx_nx k S mi nx ls (rr.toList ++ st.drop b) h' Q))) := by
  show rx_op _ _ _ _ _ _ _ _ = _
  unfold rx_op
  show (match rx_call a b 2 0 nx st h with
    | none => False
    | some (.inl (pc', ls', st', h')) => rx_nx k S mi pc' ls' st' h' Q
    | some (.inr (.inl (a, As, rest, nx))) => rx_Cl a As h (fun r h' => rx_nx k S mi nx ls (r.toList ++ rest) h' Q)
    | some (.inr (.inr v)) => Q v h) = _
  unfold rx_call
  by_cases hb : b ≤ st.length ∧ (st.drop b).length ≤ 4
  · have hb2 : (decide (b ≤ st.length) && decide ((st.drop b).length ≤ 4)) = true := by simpa using hb
    rw [if_pos hb2]
    simp only [hb, and_self, true_and]
    unfold rx_ix
    cases (st.take b).reverse with
    | nil => rfl
    | cons w t =>
      cases w with
      | ref i =>
        dsimp only
        by_cases hi : i = 0
        · simp [hi]
        · simp [hi]
      | _ => rfl
  · have hb2 : ¬ (decide (b ≤ st.length) && decide ((st.drop b).length ≤ 4)) = true := by simpa using hb
    rw [if_neg hb2]
    simp only [hb, false_and]
theorem rx_w_static1 (n : Nat) : rx_ow (some (.invokestatic n, nx, a, b, 1, v)) k S mi pc ls st h Q = ((b ≤ st.length ∧ (st.drop b).length ≤ 4) ∧ rx_Cl a (st.take b).reverse h (fun rr h' => rx_nx k S mi nx ls (rr.toList ++ st.drop b) h' Q)) := by
  show rx_op _ _ _ _ _ _ _ _ = _
  unfold rx_op
  show (match rx_call a b 0 0 nx st h with
    | none => False
    | some (.inl (pc', ls', st', h')) => rx_nx k S mi pc' ls' st' h' Q
    | some (.inr (.inl (a, As, rest, nx))) => rx_Cl a As h (fun r h' => rx_nx k S mi nx ls (r.toList ++ rest) h' Q)
    | some (.inr (.inr v)) => Q v h) = _
  unfold rx_call
  by_cases hb : b ≤ st.length ∧ (st.drop b).length ≤ 4
  · have hb2 : (decide (b ≤ st.length) && decide ((st.drop b).length ≤ 4)) = true := by simpa using hb
    rw [if_pos hb2]
    simp only [hb, and_self, true_and]
  · have hb2 : ¬ (decide (b ≤ st.length) && decide ((st.drop b).length ≤ 4)) = true := by simpa using hb
    rw [if_neg hb2]
    simp only [hb, false_and]
theorem rx_w_special1 (n : Nat) : rx_ow (some (.invokespecial n, nx, a, b, 1, v)) k S mi pc ls st h Q = ((b ≤ st.length ∧ (st.drop b).length ≤ 4) ∧ rx_ix (st.take b).reverse (rx_Cl a (st.take b).reverse h (fun rr h' => rx_nx k S mi nx ls (rr.toList ++ st.drop b) h' Q))) := by
  show rx_op _ _ _ _ _ _ _ _ = _
  unfold rx_op
  show (match rx_call a b 2 0 nx st h with
    | none => False
    | some (.inl (pc', ls', st', h')) => rx_nx k S mi pc' ls' st' h' Q
    | some (.inr (.inl (a, As, rest, nx))) => rx_Cl a As h (fun r h' => rx_nx k S mi nx ls (r.toList ++ rest) h' Q)
    | some (.inr (.inr v)) => Q v h) = _
  unfold rx_call
  by_cases hb : b ≤ st.length ∧ (st.drop b).length ≤ 4
  · have hb2 : (decide (b ≤ st.length) && decide ((st.drop b).length ≤ 4)) = true := by simpa using hb
    rw [if_pos hb2]
    simp only [hb, and_self, true_and]
    unfold rx_ix
    cases (st.take b).reverse with
    | nil => rfl
    | cons w t =>
      cases w with
      | ref i =>
        dsimp only
        by_cases hi : i = 0
        · simp [hi]
        · simp [hi]
      | _ => rfl
  · have hb2 : ¬ (decide (b ≤ st.length) && decide ((st.drop b).length ≤ 4)) = true := by simpa using hb
    rw [if_neg hb2]
    simp only [hb, false_and]
theorem rx_w_virtual (n : Nat) : rx_ow (some (.invokevirtual n, nx, a, b, kd, v)) k S mi pc ls st h Q = ((b ≤ st.length ∧ (st.drop b).length ≤ 4) ∧ rx_vx (st.take b).reverse (rx_cn a) h (rx_Cl a (st.take b).reverse h (fun rr h' => rx_nx k S mi nx ls (rr.toList ++ st.drop b) h' Q))) := by
  show rx_op _ _ _ _ _ _ _ _ = _
  unfold rx_op
  show (match rx_call a b 1 (rx_cn a) nx st h with
    | none => False
    | some (.inl (pc', ls', st', h')) => rx_nx k S mi pc' ls' st' h' Q
    | some (.inr (.inl (a, As, rest, nx))) => rx_Cl a As h (fun r h' => rx_nx k S mi nx ls (r.toList ++ rest) h' Q)
    | some (.inr (.inr v)) => Q v h) = _
  unfold rx_call
  by_cases hb : b ≤ st.length ∧ (st.drop b).length ≤ 4
  · have hb2 : (decide (b ≤ st.length) && decide ((st.drop b).length ≤ 4)) = true := by simpa using hb
    rw [if_pos hb2]
    simp only [hb, and_self, true_and]
    unfold rx_vx
    cases (st.take b).reverse with
    | nil => rfl
    | cons w t =>
      cases w with
      | ref i =>
        dsimp only
        by_cases hi : i = 0
        · simp [hi]
        · simp only [hi, if_false, not_false_eq_true, true_and]
          unfold rx_fx
          generalize rx_rd h i = oo
          rcases oo with _ | ⟨t', x⟩ | ⟨c, fs⟩
          · rfl
          · rfl
          · dsimp only
            by_cases hc : c = rx_cn a
            · simp [hc]
            · simp [hc]
      | _ => rfl
  · have hb2 : ¬ (decide (b ≤ st.length) && decide ((st.drop b).length ≤ 4)) = true := by simpa using hb
    rw [if_neg hb2]
    simp only [hb, false_and]
theorem rx_w_min (n : Nat) (x y : Int32) : rx_ow (some (.invokestatic n, nx, a, b, 7, v)) k S mi pc ls (.int y :: .int x :: r) h Q = (r.length ≤ 4 ∧ rx_nx k S mi nx ls (.int (if y < x then y else x) :: r) h Q) := by
  show rx_op _ _ _ _ _ _ _ _ = _
  unfold rx_op
  show (match rx_min nx ls (.int y :: .int x :: r) h with
    | none => False
    | some (.inl (pc', ls', st', h')) => rx_nx k S mi pc' ls' st' h' Q
    | some (.inr (.inl (a, As, rest, nx))) => rx_Cl a As h (fun r h' => rx_nx k S mi nx ls (r.toList ++ rest) h' Q)
    | some (.inr (.inr v)) => Q v h) = _
  unfold rx_min
  by_cases hr : r.length ≤ 4
  · simp [hr]
  · simp [hr]
def rx_cpx (h : rx_H) (i d : Nat) (sp dp n : Int32) (K : rx_H → Prop) : Prop := match rx_rd h i, rx_rd h d with
  | some (.inl (t, n0, .inl f)), some (.inl (u, n1, .inl g)) => (t ≤ 1 ∧ u = t ∧ ¬ sp < 0 ∧ ¬ dp < 0 ∧ ¬ n < 0 ∧ sp.toNatClampNeg + n.toNatClampNeg ≤ n0 ∧ dp.toNatClampNeg + n.toNatClampNeg ≤ n1 ∧ (t = 0 ∨ ∀ j, j < n.toNatClampNeg → fits .byte (.int (f (sp.toNatClampNeg + j))) = true)) ∧ K (rx_up h d (.inl (u, n1, .inl (va_cpy f g sp.toNatClampNeg dp.toNatClampNeg n.toNatClampNeg))))
  | _, _ => False
theorem rx_w_copy (m : Nat) (n dp sp : Int32) (d i : Nat) : rx_ow (some (.invokestatic m, nx, a, b, 9, v)) k S mi pc ls (.int n :: .int dp :: .ref d :: .int sp :: .ref i :: r) h Q = ((¬ (i = 0 ∨ d = 0 ∨ 4 < r.length)) ∧ rx_cpx h i d sp dp n (fun h' => rx_nx k S mi nx ls r h' Q)) := by
  show rx_op _ _ _ _ _ _ _ _ = _
  unfold rx_op
  show (match rx_copy nx ls (.int n :: .int dp :: .ref d :: .int sp :: .ref i :: r) h with
    | none => False
    | some (.inl (pc', ls', st', h')) => rx_nx k S mi pc' ls' st' h' Q
    | some (.inr (.inl (a, As, rest, nx))) => rx_Cl a As h (fun r h' => rx_nx k S mi nx ls (r.toList ++ rest) h' Q)
    | some (.inr (.inr v)) => Q v h) = _
  unfold rx_copy rx_cpx
  by_cases hi : i = 0 ∨ d = 0 ∨ 4 < r.length
  · simp only [hi, if_true, not_true_eq_false, false_and]
  · simp only [hi, if_false, not_false_eq_true, true_and]
    generalize rx_rd h i = oi
    generalize rx_rd h d = od
    rcases oi with _ | ⟨t, n0, f | f⟩ | ⟨c, fs⟩ <;> rcases od with _ | ⟨u, n1, g | g⟩ | ⟨c', fs'⟩ <;> try rfl
    · dsimp only
      by_cases hc : t ≤ 1 ∧ u = t ∧ ¬ sp < 0 ∧ ¬ dp < 0 ∧ ¬ n < 0 ∧ sp.toNatClampNeg + n.toNatClampNeg ≤ n0 ∧ dp.toNatClampNeg + n.toNatClampNeg ≤ n1 ∧ (t = 0 ∨ ∀ j, j < n.toNatClampNeg → fits .byte (.int (f (sp.toNatClampNeg + j))) = true)
      · rw [if_pos hc]
        exact propext ⟨fun z => ⟨hc, z⟩, fun z => z.2⟩
      · rw [if_neg hc]
        exact propext ⟨fun z => z.elim, fun z => hc z.1⟩
theorem rx_w_ireturn0 (x : Int32) : rx_ow (some (.ireturn, nx, a, b, 0, v)) k S mi pc ls [.int x] h Q = (Q (some (.int x)) h) := rfl
theorem rx_w_ireturn1 (x : Int32) : rx_ow (some (.ireturn, nx, a, b, 1, v)) k S mi pc ls [.int x] h Q = ((x = 0 ∨ x = 1) ∧ Q (some (.int x)) h) := by
  show rx_op _ _ _ _ _ _ _ _ = _
  unfold rx_op
  show (match (if decide (1 = 0) || decide (x = 0) || decide (x = 1) then some (.inr (.inr (some (.int x)))) else none : Option rx_O) with
    | none => False
    | some (.inl (pc', ls', st', h')) => rx_nx k S mi pc' ls' st' h' Q
    | some (.inr (.inl (a, As, rest, nx))) => rx_Cl a As h (fun r h' => rx_nx k S mi nx ls (r.toList ++ rest) h' Q)
    | some (.inr (.inr v)) => Q v h) = _
  by_cases hx : x = 0 ∨ x = 1
  · have h2 : (decide (1 = 0) || decide (x = 0) || decide (x = 1)) = true := by simpa using hx
    rw [if_pos h2]
    simp only [hx, true_and]
  · have h2 : ¬ (decide (1 = 0) || decide (x = 0) || decide (x = 1)) = true := by simpa using hx
    rw [if_neg h2]
    simp only [hx, false_and]
theorem rx_w_lreturn (x : Int64) : rx_ow (some (.lreturn, nx, a, b, kd, v)) k S mi pc ls [.long x] h Q = (Q (some (.long x)) h) := rfl
theorem rx_w_areturn (x : Nat) : rx_ow (some (.areturn, nx, a, b, kd, v)) k S mi pc ls [.ref x] h Q = (Q (some (.ref x)) h) := rfl
theorem rx_w_return_ : rx_ow (some (.return_, nx, a, b, kd, v)) k S mi pc ls [] h Q = (Q none h) := rfl
end RXST
theorem rx_nx_nil (k : Nat) (mi pc : Nat) (ls st : List Value) (h : rx_H) (Q : Option Value → rx_H → Prop) : rx_nx k [] mi pc ls st h Q = rx_wp k [] mi pc ls st h Q := rfl
theorem rx_nx_cons (k : Nat) (s : Nat) (S : List Nat) (mi pc : Nat) (ls st : List Value) (h : rx_H) (Q : Option Value → rx_H → Prop) : rx_nx k (s :: S) mi pc ls st h Q = (if rx_cut (s :: S) pc = true then rx_R mi pc ls st h Q else rx_wp k (s :: S) mi pc ls st h Q) := by
  unfold rx_nx
  cases rx_cut (s :: S) pc <;> rfl
theorem rx_nx_stop {k : Nat} {S : List Nat} {mi pc : Nat} {ls st : List Value} {h : rx_H} {Q : Option Value → rx_H → Prop} (hc : rx_cut S pc = true) : rx_nx k S mi pc ls st h Q = rx_R mi pc ls st h Q := by
  unfold rx_nx
  rw [hc]; rfl
theorem rx_nx_go {k : Nat} {S : List Nat} {mi pc : Nat} {ls st : List Value} {h : rx_H} {Q : Option Value → rx_H → Prop} (hc : rx_cut S pc = false) : rx_nx k S mi pc ls st h Q = rx_wp k S mi pc ls st h Q := by
  unfold rx_nx
  rw [hc]; rfl
theorem rx_cut_cons (s : Nat) (t : List Nat) (p : Nat) : rx_cut (s :: t) p = (p == s || rx_cut t p) := rfl
theorem rx_cut_nil (p : Nat) : rx_cut [] p = false := rfl
def rx_shl (x y : Int32) : Int32 := x <<< (y &&& 31)
def rx_shr (x y : Int32) : Int32 := x >>> (y &&& 31)
def rx_ush (x y : Int32) : Int32 := (x.toUInt32 >>> (y.toUInt32 &&& Int32.toUInt32 31)).toInt32
theorem rx_W : (∀ (k : Nat) (S : List Nat) (mi : Nat) (pc : Nat) (nx : Nat) (a : Nat) (b : Nat) (kd : Nat) (v : Value) (ls : List Value) (st : List Value) (h : rx_H) (Q : Option Value → rx_H → Prop) (n : Int), rx_ow (some (.iconst n, nx, a, b, kd, v)) k S mi pc ls st h Q = (rx_nx k S mi nx ls (v :: st) h Q)) ∧
  (∀ (k : Nat) (S : List Nat) (mi : Nat) (pc : Nat) (nx : Nat) (a : Nat) (b : Nat) (kd : Nat) (v : Value) (ls : List Value) (st : List Value) (h : rx_H) (Q : Option Value → rx_H → Prop) (n : Int), rx_ow (some (.bipush n, nx, a, b, kd, v)) k S mi pc ls st h Q = (rx_nx k S mi nx ls (v :: st) h Q)) ∧
  (∀ (k : Nat) (S : List Nat) (mi : Nat) (pc : Nat) (nx : Nat) (a : Nat) (b : Nat) (kd : Nat) (v : Value) (ls : List Value) (st : List Value) (h : rx_H) (Q : Option Value → rx_H → Prop) (n : Int), rx_ow (some (.sipush n, nx, a, b, kd, v)) k S mi pc ls st h Q = (rx_nx k S mi nx ls (v :: st) h Q)) ∧
  (∀ (k : Nat) (S : List Nat) (mi : Nat) (pc : Nat) (nx : Nat) (a : Nat) (b : Nat) (kd : Nat) (v : Value) (ls : List Value) (st : List Value) (h : rx_H) (Q : Option Value → rx_H → Prop) (n : Nat), rx_ow (some (.ldc n, nx, a, b, kd, v)) k S mi pc ls st h Q = (rx_nx k S mi nx ls (v :: st) h Q)) ∧
  (∀ (k : Nat) (S : List Nat) (mi : Nat) (pc : Nat) (nx : Nat) (a : Nat) (b : Nat) (kd : Nat) (v : Value) (ls : List Value) (st : List Value) (h : rx_H) (Q : Option Value → rx_H → Prop) (n : Nat), rx_ow (some (.ldc_w n, nx, a, b, kd, v)) k S mi pc ls st h Q = (rx_nx k S mi nx ls (v :: st) h Q)) ∧
  (∀ (k : Nat) (S : List Nat) (mi : Nat) (pc : Nat) (nx : Nat) (a : Nat) (b : Nat) (kd : Nat) (v : Value) (ls : List Value) (st : List Value) (h : rx_H) (Q : Option Value → rx_H → Prop) (n : Nat), rx_ow (some (.ldc2_w n, nx, a, b, kd, v)) k S mi pc ls st h Q = (rx_nx k S mi nx ls (v :: st) h Q)) ∧
  (∀ (k : Nat) (S : List Nat) (mi : Nat) (pc : Nat) (nx : Nat) (a : Nat) (b : Nat) (kd : Nat) (v : Value) (ls : List Value) (st : List Value) (h : rx_H) (Q : Option Value → rx_H → Prop) (j : Fin 4), rx_ow (some (.iload_n j, nx, a, b, kd, v)) k S mi pc ls st h Q = (rx_lx (rx_ld 0 ls[a]?) (fun w => rx_nx k S mi nx ls (w :: st) h Q))) ∧
  (∀ (k : Nat) (S : List Nat) (mi : Nat) (pc : Nat) (nx : Nat) (a : Nat) (b : Nat) (kd : Nat) (v : Value) (ls : List Value) (st : List Value) (h : rx_H) (Q : Option Value → rx_H → Prop) (j : Nat), rx_ow (some (.iload j, nx, a, b, kd, v)) k S mi pc ls st h Q = (rx_lx (rx_ld 0 ls[a]?) (fun w => rx_nx k S mi nx ls (w :: st) h Q))) ∧
  (∀ (k : Nat) (S : List Nat) (mi : Nat) (pc : Nat) (nx : Nat) (a : Nat) (b : Nat) (kd : Nat) (v : Value) (ls : List Value) (st : List Value) (h : rx_H) (Q : Option Value → rx_H → Prop) (j : Fin 4), rx_ow (some (.aload_n j, nx, a, b, kd, v)) k S mi pc ls st h Q = (rx_lx (rx_ld 2 ls[a]?) (fun w => rx_nx k S mi nx ls (w :: st) h Q))) ∧
  (∀ (k : Nat) (S : List Nat) (mi : Nat) (pc : Nat) (nx : Nat) (a : Nat) (b : Nat) (kd : Nat) (v : Value) (ls : List Value) (st : List Value) (h : rx_H) (Q : Option Value → rx_H → Prop) (j : Nat), rx_ow (some (.aload j, nx, a, b, kd, v)) k S mi pc ls st h Q = (rx_lx (rx_ld 2 ls[a]?) (fun w => rx_nx k S mi nx ls (w :: st) h Q))) ∧
  (∀ (k : Nat) (S : List Nat) (mi : Nat) (pc : Nat) (nx : Nat) (a : Nat) (b : Nat) (kd : Nat) (v : Value) (ls : List Value) (st : List Value) (h : rx_H) (Q : Option Value → rx_H → Prop) (j : Fin 4), rx_ow (some (.lload_n j, nx, a, b, kd, v)) k S mi pc ls st h Q = (rx_lx (rx_ld 3 ls[a]?) (fun w => rx_nx k S mi nx ls (w :: st) h Q))) ∧
  (∀ (k : Nat) (S : List Nat) (mi : Nat) (pc : Nat) (nx : Nat) (a : Nat) (b : Nat) (kd : Nat) (v : Value) (ls : List Value) (st : List Value) (h : rx_H) (Q : Option Value → rx_H → Prop) (j : Nat), rx_ow (some (.lload j, nx, a, b, kd, v)) k S mi pc ls st h Q = (rx_lx (rx_ld 3 ls[a]?) (fun w => rx_nx k S mi nx ls (w :: st) h Q))) ∧
  (∀ (k : Nat) (S : List Nat) (mi : Nat) (pc : Nat) (nx : Nat) (a : Nat) (b : Nat) (kd : Nat) (v : Value) (ls : List Value) (r : List Value) (h : rx_H) (Q : Option Value → rx_H → Prop) (j : Fin 4) (x : Int32), rx_ow (some (.istore_n j, nx, a, b, kd, v)) k S mi pc ls (.int x :: r) h Q = ((a < ls.length ∧ rx_nl ls a = true) ∧ rx_nx k S mi nx (ls.set a (.int x)) r h Q)) ∧
  (∀ (k : Nat) (S : List Nat) (mi : Nat) (pc : Nat) (nx : Nat) (a : Nat) (b : Nat) (kd : Nat) (v : Value) (ls : List Value) (r : List Value) (h : rx_H) (Q : Option Value → rx_H → Prop) (j : Nat) (x : Int32), rx_ow (some (.istore j, nx, a, b, kd, v)) k S mi pc ls (.int x :: r) h Q = ((a < ls.length ∧ rx_nl ls a = true) ∧ rx_nx k S mi nx (ls.set a (.int x)) r h Q)) ∧
  (∀ (k : Nat) (S : List Nat) (mi : Nat) (pc : Nat) (nx : Nat) (a : Nat) (b : Nat) (kd : Nat) (v : Value) (ls : List Value) (r : List Value) (h : rx_H) (Q : Option Value → rx_H → Prop) (j : Fin 4) (x : Nat), rx_ow (some (.astore_n j, nx, a, b, kd, v)) k S mi pc ls (.ref x :: r) h Q = ((a < ls.length ∧ rx_nl ls a = true) ∧ rx_nx k S mi nx (ls.set a (.ref x)) r h Q)) ∧
  (∀ (k : Nat) (S : List Nat) (mi : Nat) (pc : Nat) (nx : Nat) (a : Nat) (b : Nat) (kd : Nat) (v : Value) (ls : List Value) (r : List Value) (h : rx_H) (Q : Option Value → rx_H → Prop) (j : Nat) (x : Nat), rx_ow (some (.astore j, nx, a, b, kd, v)) k S mi pc ls (.ref x :: r) h Q = ((a < ls.length ∧ rx_nl ls a = true) ∧ rx_nx k S mi nx (ls.set a (.ref x)) r h Q)) ∧
  (∀ (k : Nat) (S : List Nat) (mi : Nat) (pc : Nat) (nx : Nat) (a : Nat) (b : Nat) (kd : Nat) (v : Value) (ls : List Value) (r : List Value) (h : rx_H) (Q : Option Value → rx_H → Prop) (j : Fin 4) (x : Int64), rx_ow (some (.lstore_n j, nx, a, b, kd, v)) k S mi pc ls (.long x :: r) h Q = ((a + 1 < ls.length ∧ rx_nl ls a = true) ∧ rx_nx k S mi nx ((ls.set a (.long x)).set (a + 1) .null) r h Q)) ∧
  (∀ (k : Nat) (S : List Nat) (mi : Nat) (pc : Nat) (nx : Nat) (a : Nat) (b : Nat) (kd : Nat) (v : Value) (ls : List Value) (r : List Value) (h : rx_H) (Q : Option Value → rx_H → Prop) (j : Nat) (x : Int64), rx_ow (some (.lstore j, nx, a, b, kd, v)) k S mi pc ls (.long x :: r) h Q = ((a + 1 < ls.length ∧ rx_nl ls a = true) ∧ rx_nx k S mi nx ((ls.set a (.long x)).set (a + 1) .null) r h Q)) ∧
  (∀ (k : Nat) (S : List Nat) (mi : Nat) (pc : Nat) (nx : Nat) (a : Nat) (b : Nat) (kd : Nat) (ls : List Value) (st : List Value) (h : rx_H) (Q : Option Value → rx_H → Prop) (j : Nat) (n : Int) (y : Int32), rx_ow (some (.iinc j n, nx, a, b, kd, .int y)) k S mi pc ls st h Q = (rx_cx ls[a]? (fun x => rx_nl ls a = true ∧ rx_nx k S mi nx (ls.set a (.int (x + y))) st h Q))) ∧
  (∀ (k : Nat) (S : List Nat) (mi : Nat) (pc : Nat) (nx : Nat) (a : Nat) (b : Nat) (kd : Nat) (v : Value) (ls : List Value) (r : List Value) (h : rx_H) (Q : Option Value → rx_H → Prop) (x y : Int32), rx_ow (some (.iadd, nx, a, b, kd, v)) k S mi pc ls (.int y :: .int x :: r) h Q = (rx_nx k S mi nx ls (.int (x + y) :: r) h Q)) ∧
  (∀ (k : Nat) (S : List Nat) (mi : Nat) (pc : Nat) (nx : Nat) (a : Nat) (b : Nat) (kd : Nat) (v : Value) (ls : List Value) (r : List Value) (h : rx_H) (Q : Option Value → rx_H → Prop) (x y : Int32), rx_ow (some (.isub, nx, a, b, kd, v)) k S mi pc ls (.int y :: .int x :: r) h Q = (rx_nx k S mi nx ls (.int (x - y) :: r) h Q)) ∧
  (∀ (k : Nat) (S : List Nat) (mi : Nat) (pc : Nat) (nx : Nat) (a : Nat) (b : Nat) (kd : Nat) (v : Value) (ls : List Value) (r : List Value) (h : rx_H) (Q : Option Value → rx_H → Prop) (x y : Int32), rx_ow (some (.imul, nx, a, b, kd, v)) k S mi pc ls (.int y :: .int x :: r) h Q = (rx_nx k S mi nx ls (.int (x * y) :: r) h Q)) ∧
  (∀ (k : Nat) (S : List Nat) (mi : Nat) (pc : Nat) (nx : Nat) (a : Nat) (b : Nat) (kd : Nat) (v : Value) (ls : List Value) (r : List Value) (h : rx_H) (Q : Option Value → rx_H → Prop) (x y : Int32), rx_ow (some (.iand, nx, a, b, kd, v)) k S mi pc ls (.int y :: .int x :: r) h Q = (rx_nx k S mi nx ls (.int (x &&& y) :: r) h Q)) ∧
  (∀ (k : Nat) (S : List Nat) (mi : Nat) (pc : Nat) (nx : Nat) (a : Nat) (b : Nat) (kd : Nat) (v : Value) (ls : List Value) (r : List Value) (h : rx_H) (Q : Option Value → rx_H → Prop) (x y : Int32), rx_ow (some (.ior, nx, a, b, kd, v)) k S mi pc ls (.int y :: .int x :: r) h Q = (rx_nx k S mi nx ls (.int (x ||| y) :: r) h Q)) ∧
  (∀ (k : Nat) (S : List Nat) (mi : Nat) (pc : Nat) (nx : Nat) (a : Nat) (b : Nat) (kd : Nat) (v : Value) (ls : List Value) (r : List Value) (h : rx_H) (Q : Option Value → rx_H → Prop) (x y : Int32), rx_ow (some (.ixor, nx, a, b, kd, v)) k S mi pc ls (.int y :: .int x :: r) h Q = (rx_nx k S mi nx ls (.int (x ^^^ y) :: r) h Q)) ∧
  (∀ (k : Nat) (S : List Nat) (mi : Nat) (pc : Nat) (nx : Nat) (a : Nat) (b : Nat) (kd : Nat) (v : Value) (ls : List Value) (r : List Value) (h : rx_H) (Q : Option Value → rx_H → Prop) (x y : Int32), rx_ow (some (.ishl, nx, a, b, kd, v)) k S mi pc ls (.int y :: .int x :: r) h Q = (rx_nx k S mi nx ls (.int (rx_shl x y) :: r) h Q)) ∧
  (∀ (k : Nat) (S : List Nat) (mi : Nat) (pc : Nat) (nx : Nat) (a : Nat) (b : Nat) (kd : Nat) (v : Value) (ls : List Value) (r : List Value) (h : rx_H) (Q : Option Value → rx_H → Prop) (x y : Int32), rx_ow (some (.ishr, nx, a, b, kd, v)) k S mi pc ls (.int y :: .int x :: r) h Q = (rx_nx k S mi nx ls (.int (rx_shr x y) :: r) h Q)) ∧
  (∀ (k : Nat) (S : List Nat) (mi : Nat) (pc : Nat) (nx : Nat) (a : Nat) (b : Nat) (kd : Nat) (v : Value) (ls : List Value) (r : List Value) (h : rx_H) (Q : Option Value → rx_H → Prop) (x y : Int32), rx_ow (some (.iushr, nx, a, b, kd, v)) k S mi pc ls (.int y :: .int x :: r) h Q = (rx_nx k S mi nx ls (.int (rx_ush x y) :: r) h Q)) ∧
  (∀ (k : Nat) (S : List Nat) (mi : Nat) (pc : Nat) (nx : Nat) (a : Nat) (b : Nat) (kd : Nat) (v : Value) (ls : List Value) (r : List Value) (h : rx_H) (Q : Option Value → rx_H → Prop) (x y : Int32), rx_ow (some (.idiv, nx, a, b, kd, v)) k S mi pc ls (.int y :: .int x :: r) h Q = (¬ y = nI 0 ∧ rx_nx k S mi nx ls (.int (x / y) :: r) h Q)) ∧
  (∀ (k : Nat) (S : List Nat) (mi : Nat) (pc : Nat) (nx : Nat) (a : Nat) (b : Nat) (kd : Nat) (v : Value) (ls : List Value) (r : List Value) (h : rx_H) (Q : Option Value → rx_H → Prop) (x y : Int32), rx_ow (some (.irem, nx, a, b, kd, v)) k S mi pc ls (.int y :: .int x :: r) h Q = (¬ y = nI 0 ∧ rx_nx k S mi nx ls (.int (x - x / y * y) :: r) h Q)) ∧
  (∀ (k : Nat) (S : List Nat) (mi : Nat) (pc : Nat) (nx : Nat) (a : Nat) (b : Nat) (kd : Nat) (v : Value) (ls : List Value) (r : List Value) (h : rx_H) (Q : Option Value → rx_H → Prop) (x y : Int64), rx_ow (some (.ladd, nx, a, b, kd, v)) k S mi pc ls (.long y :: .long x :: r) h Q = (rx_nx k S mi nx ls (.long (x + y) :: r) h Q)) ∧
  (∀ (k : Nat) (S : List Nat) (mi : Nat) (pc : Nat) (nx : Nat) (a : Nat) (b : Nat) (kd : Nat) (v : Value) (ls : List Value) (r : List Value) (h : rx_H) (Q : Option Value → rx_H → Prop) (x y : Int64), rx_ow (some (.lmul, nx, a, b, kd, v)) k S mi pc ls (.long y :: .long x :: r) h Q = (rx_nx k S mi nx ls (.long (x * y) :: r) h Q)) ∧
  (∀ (k : Nat) (S : List Nat) (mi : Nat) (pc : Nat) (nx : Nat) (a : Nat) (b : Nat) (kd : Nat) (v : Value) (ls : List Value) (r : List Value) (h : rx_H) (Q : Option Value → rx_H → Prop) (x : Int32), rx_ow (some (.ineg, nx, a, b, kd, v)) k S mi pc ls (.int x :: r) h Q = (rx_nx k S mi nx ls (.int (-x) :: r) h Q)) ∧
  (∀ (k : Nat) (S : List Nat) (mi : Nat) (pc : Nat) (nx : Nat) (a : Nat) (b : Nat) (kd : Nat) (v : Value) (ls : List Value) (r : List Value) (h : rx_H) (Q : Option Value → rx_H → Prop) (x : Int32), rx_ow (some (.i2l, nx, a, b, kd, v)) k S mi pc ls (.int x :: r) h Q = (rx_nx k S mi nx ls (.long x.toInt64 :: r) h Q)) ∧
  (∀ (k : Nat) (S : List Nat) (mi : Nat) (pc : Nat) (nx : Nat) (a : Nat) (b : Nat) (kd : Nat) (v : Value) (ls : List Value) (r : List Value) (h : rx_H) (Q : Option Value → rx_H → Prop) (x : Int32), rx_ow (some (.i2b, nx, a, b, kd, v)) k S mi pc ls (.int x :: r) h Q = (rx_nx k S mi nx ls (.int x.toInt8.toInt32 :: r) h Q)) ∧
  (∀ (k : Nat) (S : List Nat) (mi : Nat) (pc : Nat) (nx : Nat) (a : Nat) (b : Nat) (kd : Nat) (v : Value) (ls : List Value) (r : List Value) (h : rx_H) (Q : Option Value → rx_H → Prop) (x y : Int64), rx_ow (some (.lcmp, nx, a, b, kd, v)) k S mi pc ls (.long y :: .long x :: r) h Q = (rx_nx k S mi nx ls (.int (lg_cmp x y) :: r) h Q)) ∧
  (∀ (k : Nat) (S : List Nat) (mi : Nat) (pc : Nat) (nx : Nat) (a : Nat) (b : Nat) (kd : Nat) (v : Value) (ls : List Value) (r : List Value) (h : rx_H) (Q : Option Value → rx_H → Prop) (x : Int32), rx_ow (some (.dup, nx, a, b, kd, v)) k S mi pc ls (.int x :: r) h Q = (rx_nx k S mi nx ls (.int x :: .int x :: r) h Q)) ∧
  (∀ (k : Nat) (S : List Nat) (mi : Nat) (pc : Nat) (nx : Nat) (a : Nat) (b : Nat) (kd : Nat) (v : Value) (ls : List Value) (r : List Value) (h : rx_H) (Q : Option Value → rx_H → Prop) (x : Nat), rx_ow (some (.dup, nx, a, b, kd, v)) k S mi pc ls (.ref x :: r) h Q = (rx_nx k S mi nx ls (.ref x :: .ref x :: r) h Q)) ∧
  (∀ (k : Nat) (S : List Nat) (mi : Nat) (pc : Nat) (nx : Nat) (a : Nat) (b : Nat) (kd : Nat) (v : Value) (ls : List Value) (r : List Value) (h : rx_H) (Q : Option Value → rx_H → Prop) (x : Int32), rx_ow (some (.pop, nx, a, b, kd, v)) k S mi pc ls (.int x :: r) h Q = (rx_nx k S mi nx ls (r) h Q)) ∧
  (∀ (k : Nat) (S : List Nat) (mi : Nat) (pc : Nat) (nx : Nat) (a : Nat) (b : Nat) (kd : Nat) (v : Value) (ls : List Value) (r : List Value) (h : rx_H) (Q : Option Value → rx_H → Prop) (x : Int32) (y : Nat), rx_ow (some (.dup2, nx, a, b, kd, v)) k S mi pc ls (.int x :: .ref y :: r) h Q = (rx_nx k S mi nx ls (.int x :: .ref y :: .int x :: .ref y :: r) h Q)) ∧
  (∀ (k : Nat) (S : List Nat) (mi : Nat) (pc : Nat) (nx : Nat) (a : Nat) (b : Nat) (kd : Nat) (v : Value) (ls : List Value) (st : List Value) (h : rx_H) (Q : Option Value → rx_H → Prop) (n : Int), rx_ow (some (.goto n, nx, a, b, kd, v)) k S mi pc ls st h Q = (rx_nx k S mi a ls st h Q)) ∧
  (∀ (k : Nat) (S : List Nat) (mi : Nat) (pc : Nat) (nx : Nat) (a : Nat) (b : Nat) (kd : Nat) (v : Value) (ls : List Value) (r : List Value) (h : rx_H) (Q : Option Value → rx_H → Prop) (n : Int) (x y : Int32), rx_ow (some (.if_icmp .eq n, nx, a, b, kd, v)) k S mi pc ls (.int y :: .int x :: r) h Q = (if x = y then rx_nx k S mi a ls r h Q else rx_nx k S mi nx ls r h Q)) ∧
  (∀ (k : Nat) (S : List Nat) (mi : Nat) (pc : Nat) (nx : Nat) (a : Nat) (b : Nat) (kd : Nat) (v : Value) (ls : List Value) (r : List Value) (h : rx_H) (Q : Option Value → rx_H → Prop) (n : Int) (x : Int32), rx_ow (some (.ifCond .eq n, nx, a, b, kd, v)) k S mi pc ls (.int x :: r) h Q = (if x = nI 0 then rx_nx k S mi a ls r h Q else rx_nx k S mi nx ls r h Q)) ∧
  (∀ (k : Nat) (S : List Nat) (mi : Nat) (pc : Nat) (nx : Nat) (a : Nat) (b : Nat) (kd : Nat) (v : Value) (ls : List Value) (r : List Value) (h : rx_H) (Q : Option Value → rx_H → Prop) (n : Int) (x y : Int32), rx_ow (some (.if_icmp .ne n, nx, a, b, kd, v)) k S mi pc ls (.int y :: .int x :: r) h Q = (if x = y then rx_nx k S mi nx ls r h Q else rx_nx k S mi a ls r h Q)) ∧
  (∀ (k : Nat) (S : List Nat) (mi : Nat) (pc : Nat) (nx : Nat) (a : Nat) (b : Nat) (kd : Nat) (v : Value) (ls : List Value) (r : List Value) (h : rx_H) (Q : Option Value → rx_H → Prop) (n : Int) (x : Int32), rx_ow (some (.ifCond .ne n, nx, a, b, kd, v)) k S mi pc ls (.int x :: r) h Q = (if x = nI 0 then rx_nx k S mi nx ls r h Q else rx_nx k S mi a ls r h Q)) ∧
  (∀ (k : Nat) (S : List Nat) (mi : Nat) (pc : Nat) (nx : Nat) (a : Nat) (b : Nat) (kd : Nat) (v : Value) (ls : List Value) (r : List Value) (h : rx_H) (Q : Option Value → rx_H → Prop) (n : Int) (x y : Int32), rx_ow (some (.if_icmp .lt n, nx, a, b, kd, v)) k S mi pc ls (.int y :: .int x :: r) h Q = (if x < y then rx_nx k S mi a ls r h Q else rx_nx k S mi nx ls r h Q)) ∧
  (∀ (k : Nat) (S : List Nat) (mi : Nat) (pc : Nat) (nx : Nat) (a : Nat) (b : Nat) (kd : Nat) (v : Value) (ls : List Value) (r : List Value) (h : rx_H) (Q : Option Value → rx_H → Prop) (n : Int) (x : Int32), rx_ow (some (.ifCond .lt n, nx, a, b, kd, v)) k S mi pc ls (.int x :: r) h Q = (if x < nI 0 then rx_nx k S mi a ls r h Q else rx_nx k S mi nx ls r h Q)) ∧
  (∀ (k : Nat) (S : List Nat) (mi : Nat) (pc : Nat) (nx : Nat) (a : Nat) (b : Nat) (kd : Nat) (v : Value) (ls : List Value) (r : List Value) (h : rx_H) (Q : Option Value → rx_H → Prop) (n : Int) (x y : Int32), rx_ow (some (.if_icmp .ge n, nx, a, b, kd, v)) k S mi pc ls (.int y :: .int x :: r) h Q = (if y ≤ x then rx_nx k S mi a ls r h Q else rx_nx k S mi nx ls r h Q)) ∧
  (∀ (k : Nat) (S : List Nat) (mi : Nat) (pc : Nat) (nx : Nat) (a : Nat) (b : Nat) (kd : Nat) (v : Value) (ls : List Value) (r : List Value) (h : rx_H) (Q : Option Value → rx_H → Prop) (n : Int) (x : Int32), rx_ow (some (.ifCond .ge n, nx, a, b, kd, v)) k S mi pc ls (.int x :: r) h Q = (if nI 0 ≤ x then rx_nx k S mi a ls r h Q else rx_nx k S mi nx ls r h Q)) ∧
  (∀ (k : Nat) (S : List Nat) (mi : Nat) (pc : Nat) (nx : Nat) (a : Nat) (b : Nat) (kd : Nat) (v : Value) (ls : List Value) (r : List Value) (h : rx_H) (Q : Option Value → rx_H → Prop) (n : Int) (x y : Int32), rx_ow (some (.if_icmp .gt n, nx, a, b, kd, v)) k S mi pc ls (.int y :: .int x :: r) h Q = (if y < x then rx_nx k S mi a ls r h Q else rx_nx k S mi nx ls r h Q)) ∧
  (∀ (k : Nat) (S : List Nat) (mi : Nat) (pc : Nat) (nx : Nat) (a : Nat) (b : Nat) (kd : Nat) (v : Value) (ls : List Value) (r : List Value) (h : rx_H) (Q : Option Value → rx_H → Prop) (n : Int) (x : Int32), rx_ow (some (.ifCond .gt n, nx, a, b, kd, v)) k S mi pc ls (.int x :: r) h Q = (if nI 0 < x then rx_nx k S mi a ls r h Q else rx_nx k S mi nx ls r h Q)) ∧
  (∀ (k : Nat) (S : List Nat) (mi : Nat) (pc : Nat) (nx : Nat) (a : Nat) (b : Nat) (kd : Nat) (v : Value) (ls : List Value) (r : List Value) (h : rx_H) (Q : Option Value → rx_H → Prop) (n : Int) (x y : Int32), rx_ow (some (.if_icmp .le n, nx, a, b, kd, v)) k S mi pc ls (.int y :: .int x :: r) h Q = (if x ≤ y then rx_nx k S mi a ls r h Q else rx_nx k S mi nx ls r h Q)) ∧
  (∀ (k : Nat) (S : List Nat) (mi : Nat) (pc : Nat) (nx : Nat) (a : Nat) (b : Nat) (kd : Nat) (v : Value) (ls : List Value) (r : List Value) (h : rx_H) (Q : Option Value → rx_H → Prop) (n : Int) (x : Int32), rx_ow (some (.ifCond .le n, nx, a, b, kd, v)) k S mi pc ls (.int x :: r) h Q = (if x ≤ nI 0 then rx_nx k S mi a ls r h Q else rx_nx k S mi nx ls r h Q)) ∧
  (∀ (k : Nat) (S : List Nat) (mi : Nat) (pc : Nat) (nx : Nat) (a : Nat) (b : Nat) (kd : Nat) (v : Value) (ls : List Value) (r : List Value) (h : rx_H) (Q : Option Value → rx_H → Prop) (d lo hi : Int) (offs : Array Int) (x : Int32), rx_ow (some (.tableswitch d lo hi offs, nx, a, b, kd, v)) k S mi pc ls (.int x :: r) h Q = (rx_nx k S mi (rx_sw pc d lo hi offs x) ls r h Q)) ∧
  (∀ (k : Nat) (S : List Nat) (mi : Nat) (pc : Nat) (nx : Nat) (a : Nat) (b : Nat) (kd : Nat) (v : Value) (ls : List Value) (r : List Value) (h : rx_H) (Q : Option Value → rx_H → Prop) (n i : Nat), rx_ow (some (.getfield n, nx, a, b, kd, v)) k S mi pc ls (.ref i :: r) h Q = (¬ i = 0 ∧ rx_fx (rx_rd h i) a (fun fs => rx_lx fs[b]? (fun w => rx_nx k S mi nx ls (w :: r) h Q)))) ∧
  (∀ (k : Nat) (S : List Nat) (mi : Nat) (pc : Nat) (nx : Nat) (a : Nat) (b : Nat) (kd : Nat) (v : Value) (ls : List Value) (r : List Value) (h : rx_H) (Q : Option Value → rx_H → Prop) (n i : Nat) (w : Value), rx_ow (some (.putfield n, nx, a, b, kd, v)) k S mi pc ls (w :: .ref i :: r) h Q = (¬ i = 0 ∧ rx_fx (rx_rd h i) a (fun fs => (rx_fit kd w = true ∧ b < fs.length) ∧ rx_nx k S mi nx ls r (rx_up h i (.inr (a, fs.set b w))) Q))) ∧
  (∀ (k : Nat) (S : List Nat) (mi : Nat) (pc : Nat) (nx : Nat) (a : Nat) (b : Nat) (kd : Nat) (v : Value) (ls : List Value) (r : List Value) (h : rx_H) (Q : Option Value → rx_H → Prop) (j : Int32) (i : Nat), rx_ow (some (.iaload, nx, a, b, kd, v)) k S mi pc ls (.int j :: .ref i :: r) h Q = (rx_ax (rx_rd h i) 0 (fun n f => ¬ (j < nI 0 ∨ n ≤ j.toNatClampNeg) ∧ rx_nx k S mi nx ls (.int (f j.toNatClampNeg) :: r) h Q))) ∧
  (∀ (k : Nat) (S : List Nat) (mi : Nat) (pc : Nat) (nx : Nat) (a : Nat) (b : Nat) (kd : Nat) (v : Value) (ls : List Value) (r : List Value) (h : rx_H) (Q : Option Value → rx_H → Prop) (j : Int32) (i : Nat), rx_ow (some (.baload, nx, a, b, kd, v)) k S mi pc ls (.int j :: .ref i :: r) h Q = (¬ i = 0 ∧ rx_ax (rx_rd h i) 1 (fun n f => ¬ (j < nI 0 ∨ n ≤ j.toNatClampNeg) ∧ rx_nx k S mi nx ls (.int (f j.toNatClampNeg) :: r) h Q))) ∧
  (∀ (k : Nat) (S : List Nat) (mi : Nat) (pc : Nat) (nx : Nat) (a : Nat) (b : Nat) (kd : Nat) (v : Value) (ls : List Value) (r : List Value) (h : rx_H) (Q : Option Value → rx_H → Prop) (x j : Int32) (i : Nat), rx_ow (some (.iastore, nx, a, b, kd, v)) k S mi pc ls (.int x :: .int j :: .ref i :: r) h Q = (¬ i = 0 ∧ rx_ax (rx_rd h i) 0 (fun n f => ¬ (j < nI 0 ∨ n ≤ j.toNatClampNeg) ∧ rx_nx k S mi nx ls r (rx_up h i (.inl (0, n, .inl (upd f j.toNatClampNeg (x))))) Q))) ∧
  (∀ (k : Nat) (S : List Nat) (mi : Nat) (pc : Nat) (nx : Nat) (a : Nat) (b : Nat) (kd : Nat) (v : Value) (ls : List Value) (r : List Value) (h : rx_H) (Q : Option Value → rx_H → Prop) (x j : Int32) (i : Nat), rx_ow (some (.bastore, nx, a, b, kd, v)) k S mi pc ls (.int x :: .int j :: .ref i :: r) h Q = (¬ i = 0 ∧ rx_ax (rx_rd h i) 1 (fun n f => ¬ (j < nI 0 ∨ n ≤ j.toNatClampNeg) ∧ rx_nx k S mi nx ls r (rx_up h i (.inl (1, n, .inl (upd f j.toNatClampNeg (x.toInt8.toInt32))))) Q))) ∧
  (∀ (k : Nat) (S : List Nat) (mi : Nat) (pc : Nat) (nx : Nat) (a : Nat) (b : Nat) (kd : Nat) (v : Value) (ls : List Value) (r : List Value) (h : rx_H) (Q : Option Value → rx_H → Prop) (j : Int32) (i : Nat), rx_ow (some (.aaload, nx, a, b, kd, v)) k S mi pc ls (.int j :: .ref i :: r) h Q = (¬ i = 0 ∧ rx_qx (rx_rd h i) (fun _ n f => ¬ (j < nI 0 ∨ n ≤ j.toNatClampNeg) ∧ rx_ox (f j.toNatClampNeg) (fun q => rx_nx k S mi nx ls (.ref q :: r) h Q)))) ∧
  (∀ (k : Nat) (S : List Nat) (mi : Nat) (pc : Nat) (nx : Nat) (a : Nat) (b : Nat) (kd : Nat) (v : Value) (ls : List Value) (r : List Value) (h : rx_H) (Q : Option Value → rx_H → Prop) (j : Int32) (i q : Nat), rx_ow (some (.aastore, nx, a, b, kd, v)) k S mi pc ls (.ref q :: .int j :: .ref i :: r) h Q = (¬ (i = 0 ∨ q = 0) ∧ rx_qx (rx_rd h i) (fun t n f => ¬ (j < nI 0 ∨ n ≤ j.toNatClampNeg) ∧ rx_fx (rx_rd h q) (rx_tc t) (fun _ => rx_nx k S mi nx ls r (rx_up h i (.inl (t, n, .inr (.inr (.inr (.inr (va_up f j.toNatClampNeg (some q)))))))) Q)))) ∧
  (∀ (k : Nat) (S : List Nat) (mi : Nat) (pc : Nat) (nx : Nat) (a : Nat) (b : Nat) (kd : Nat) (v : Value) (ls : List Value) (r : List Value) (h : rx_H) (Q : Option Value → rx_H → Prop) (i : Nat), rx_ow (some (.arraylength, nx, a, b, kd, v)) k S mi pc ls (.ref i :: r) h Q = (match rx_rd h i with
  | some (.inl (t, n, .inl _)) => (t = 0 ∨ (t = 1 ∧ ¬ i = 0)) ∧ rx_nx k S mi nx ls (.int (Int32.ofNat n) :: r) h Q
  | _ => False)) ∧
  (∀ (k : Nat) (S : List Nat) (mi : Nat) (pc : Nat) (nx : Nat) (a : Nat) (b : Nat) (kd : Nat) (v : Value) (ls : List Value) (st : List Value) (h : rx_H) (Q : Option Value → rx_H → Prop) (n : Nat), rx_ow (some (.new n, nx, a, b, kd, v)) k S mi pc ls st h Q = (rx_nx k S mi nx ls (.ref h.1 :: st) (rx_nw h b (.inr (a, rx_df a))) Q)) ∧
  (∀ (k : Nat) (S : List Nat) (mi : Nat) (pc : Nat) (nx : Nat) (a : Nat) (b : Nat) (kd : Nat) (v : Value) (ls : List Value) (r : List Value) (h : rx_H) (Q : Option Value → rx_H → Prop) (t : ArrayType) (n : Int32), rx_ow (some (.newarray t, nx, a, b, kd, v)) k S mi pc ls (.int n :: r) h Q = (¬ (n < nI 0 ∨ 134217728 < n.toNatClampNeg) ∧ rx_nx k S mi nx ls (.ref h.1 :: r) (rx_nw h n.toNatClampNeg (.inl (a, n.toNatClampNeg, .inl (fun _ => 0)))) Q)) ∧
  (∀ (k : Nat) (S : List Nat) (mi : Nat) (pc : Nat) (nx : Nat) (a : Nat) (b : Nat) (kd : Nat) (v : Value) (ls : List Value) (r : List Value) (h : rx_H) (Q : Option Value → rx_H → Prop) (t : Nat) (n : Int32), rx_ow (some (.anewarray t, nx, a, b, kd, v)) k S mi pc ls (.int n :: r) h Q = (¬ (n < nI 0 ∨ 134217728 < n.toNatClampNeg) ∧ rx_nx k S mi nx ls (.ref h.1 :: r) (rx_nw h n.toNatClampNeg (.inl (a, n.toNatClampNeg, .inr (.inr (.inr (.inr (fun _ => none))))))) Q)) ∧
  (∀ (k : Nat) (S : List Nat) (mi : Nat) (pc : Nat) (nx : Nat) (a : Nat) (b : Nat) (v : Value) (ls : List Value) (r : List Value) (h : rx_H) (Q : Option Value → rx_H → Prop) (n i : Nat), rx_ow (some (.invokespecial n, nx, a, b, 8, v)) k S mi pc ls (.ref i :: r) h Q = (r.length ≤ 4 ∧ rx_nx k S mi nx ls r h Q)) ∧
  (∀ (k : Nat) (S : List Nat) (mi : Nat) (pc : Nat) (nx : Nat) (a : Nat) (b : Nat) (v : Value) (ls : List Value) (st : List Value) (h : rx_H) (Q : Option Value → rx_H → Prop) (n : Nat), rx_ow (some (.invokestatic n, nx, a, b, 0, v)) k S mi pc ls st h Q = ((b ≤ st.length ∧ (st.drop b).length ≤ 4) ∧ rx_Cl a (st.take b).reverse h (fun rr h' => rx_nx k S mi nx ls (rr.toList ++ st.drop b) h' Q))) ∧
  (∀ (k : Nat) (S : List Nat) (mi : Nat) (pc : Nat) (nx : Nat) (a : Nat) (b : Nat) (v : Value) (ls : List Value) (st : List Value) (h : rx_H) (Q : Option Value → rx_H → Prop) (n : Nat), rx_ow (some (.invokespecial n, nx, a, b, 0, v)) k S mi pc ls st h Q = ((b ≤ st.length ∧ (st.drop b).length ≤ 4) ∧ rx_ix (st.take b).reverse (rx_Cl a (st.take b).reverse h (fun rr h' => rx_nx k S mi nx ls (rr.toList ++ st.drop b) h' Q)))) ∧
  (∀ (k : Nat) (S : List Nat) (mi : Nat) (pc : Nat) (nx : Nat) (a : Nat) (b : Nat) (v : Value) (ls : List Value) (st : List Value) (h : rx_H) (Q : Option Value → rx_H → Prop) (n : Nat), rx_ow (some (.invokestatic n, nx, a, b, 1, v)) k S mi pc ls st h Q = ((b ≤ st.length ∧ (st.drop b).length ≤ 4) ∧ rx_Cl a (st.take b).reverse h (fun rr h' => rx_nx k S mi nx ls (rr.toList ++ st.drop b) h' Q))) ∧
  (∀ (k : Nat) (S : List Nat) (mi : Nat) (pc : Nat) (nx : Nat) (a : Nat) (b : Nat) (v : Value) (ls : List Value) (st : List Value) (h : rx_H) (Q : Option Value → rx_H → Prop) (n : Nat), rx_ow (some (.invokespecial n, nx, a, b, 1, v)) k S mi pc ls st h Q = ((b ≤ st.length ∧ (st.drop b).length ≤ 4) ∧ rx_ix (st.take b).reverse (rx_Cl a (st.take b).reverse h (fun rr h' => rx_nx k S mi nx ls (rr.toList ++ st.drop b) h' Q)))) ∧
  (∀ (k : Nat) (S : List Nat) (mi : Nat) (pc : Nat) (nx : Nat) (a : Nat) (b : Nat) (kd : Nat) (v : Value) (ls : List Value) (st : List Value) (h : rx_H) (Q : Option Value → rx_H → Prop) (n : Nat), rx_ow (some (.invokevirtual n, nx, a, b, kd, v)) k S mi pc ls st h Q = ((b ≤ st.length ∧ (st.drop b).length ≤ 4) ∧ rx_vx (st.take b).reverse (rx_cn a) h (rx_Cl a (st.take b).reverse h (fun rr h' => rx_nx k S mi nx ls (rr.toList ++ st.drop b) h' Q)))) ∧
  (∀ (k : Nat) (S : List Nat) (mi : Nat) (pc : Nat) (nx : Nat) (a : Nat) (b : Nat) (v : Value) (ls : List Value) (r : List Value) (h : rx_H) (Q : Option Value → rx_H → Prop) (n : Nat) (x y : Int32), rx_ow (some (.invokestatic n, nx, a, b, 7, v)) k S mi pc ls (.int y :: .int x :: r) h Q = (r.length ≤ 4 ∧ rx_nx k S mi nx ls (.int (if y < x then y else x) :: r) h Q)) ∧
  (∀ (k : Nat) (S : List Nat) (mi : Nat) (pc : Nat) (nx : Nat) (a : Nat) (b : Nat) (v : Value) (ls : List Value) (r : List Value) (h : rx_H) (Q : Option Value → rx_H → Prop) (m : Nat) (n dp sp : Int32) (d i : Nat), rx_ow (some (.invokestatic m, nx, a, b, 9, v)) k S mi pc ls (.int n :: .int dp :: .ref d :: .int sp :: .ref i :: r) h Q = ((¬ (i = 0 ∨ d = 0 ∨ 4 < r.length)) ∧ rx_cpx h i d sp dp n (fun h' => rx_nx k S mi nx ls r h' Q))) ∧
  (∀ (k : Nat) (S : List Nat) (mi : Nat) (pc : Nat) (nx : Nat) (a : Nat) (b : Nat) (v : Value) (ls : List Value) (h : rx_H) (Q : Option Value → rx_H → Prop) (x : Int32), rx_ow (some (.ireturn, nx, a, b, 0, v)) k S mi pc ls [.int x] h Q = (Q (some (.int x)) h)) ∧
  (∀ (k : Nat) (S : List Nat) (mi : Nat) (pc : Nat) (nx : Nat) (a : Nat) (b : Nat) (v : Value) (ls : List Value) (h : rx_H) (Q : Option Value → rx_H → Prop) (x : Int32), rx_ow (some (.ireturn, nx, a, b, 1, v)) k S mi pc ls [.int x] h Q = ((x = nI 0 ∨ x = nI 1) ∧ Q (some (.int x)) h)) ∧
  (∀ (k : Nat) (S : List Nat) (mi : Nat) (pc : Nat) (nx : Nat) (a : Nat) (b : Nat) (kd : Nat) (v : Value) (ls : List Value) (h : rx_H) (Q : Option Value → rx_H → Prop) (x : Int64), rx_ow (some (.lreturn, nx, a, b, kd, v)) k S mi pc ls [.long x] h Q = (Q (some (.long x)) h)) ∧
  (∀ (k : Nat) (S : List Nat) (mi : Nat) (pc : Nat) (nx : Nat) (a : Nat) (b : Nat) (kd : Nat) (v : Value) (ls : List Value) (h : rx_H) (Q : Option Value → rx_H → Prop) (x : Nat), rx_ow (some (.areturn, nx, a, b, kd, v)) k S mi pc ls [.ref x] h Q = (Q (some (.ref x)) h)) ∧
  (∀ (k : Nat) (S : List Nat) (mi : Nat) (pc : Nat) (nx : Nat) (a : Nat) (b : Nat) (kd : Nat) (v : Value) (ls : List Value) (h : rx_H) (Q : Option Value → rx_H → Prop), rx_ow (some (.return_, nx, a, b, kd, v)) k S mi pc ls [] h Q = (Q none h)) := ⟨rx_w_iconst, rx_w_bipush, rx_w_sipush, rx_w_ldc, rx_w_ldc_w, rx_w_ldc2_w, rx_w_iload_n, rx_w_iload, rx_w_aload_n, rx_w_aload, rx_w_lload_n, rx_w_lload, rx_w_istore_n, rx_w_istore, rx_w_astore_n, rx_w_astore, rx_w_lstore_n, rx_w_lstore, rx_w_iinc, rx_w_iadd, rx_w_isub, rx_w_imul, rx_w_iand, rx_w_ior, rx_w_ixor, rx_w_ishl, rx_w_ishr, rx_w_iushr, rx_w_idiv, rx_w_irem, rx_w_ladd, rx_w_lmul, rx_w_ineg, rx_w_i2l, rx_w_i2b, rx_w_lcmp, rx_w_dup_i, rx_w_dup_r, rx_w_pop, rx_w_dup2, rx_w_goto, rx_w_icmp_eq, rx_w_if_eq, rx_w_icmp_ne, rx_w_if_ne, rx_w_icmp_lt, rx_w_if_lt, rx_w_icmp_ge, rx_w_if_ge, rx_w_icmp_gt, rx_w_if_gt, rx_w_icmp_le, rx_w_if_le, rx_w_tableswitch, rx_w_getfield, rx_w_putfield, rx_w_iaload, rx_w_baload, rx_w_iastore, rx_w_bastore, rx_w_aaload, rx_w_aastore, rx_w_arraylength, rx_w_new, rx_w_newarray, rx_w_anewarray, rx_w_objinit, rx_w_static0, rx_w_special0, rx_w_static1, rx_w_special1, rx_w_virtual, rx_w_min, rx_w_copy, rx_w_ireturn0, rx_w_ireturn1, rx_w_lreturn, rx_w_areturn, rx_w_return_⟩
