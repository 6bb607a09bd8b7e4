/-! ===== a pure interpreter of the bytecode that the claim uses: heap = a map from numbers to cells, references are those numbers; 0 is the script ===== -/
abbrev rx_C : Type := (Nat × vp_A) ⊕ (Nat × List Value)
/-- cells, slots, the map -/
abbrev rx_H : Type := Nat × Nat × (Nat → Option rx_C)
def rx_rd (h : rx_H) (i : Nat) : Option rx_C := h.2.2 i
def rx_up (h : rx_H) (i : Nat) (c : rx_C) : rx_H := (h.1, h.2.1, fun j => if j = i then some c else h.2.2 j)
def rx_nw (h : rx_H) (k : Nat) (c : rx_C) : rx_H := (h.1 + 1, h.2.1 + k, fun j => if j = h.1 then some c else h.2.2 j)
/-- instruction, next pc, two numbers, a kind, a constant -/
abbrev rx_I : Type := Instr × Nat × Nat × Nat × Nat × Value
/-- goes on | calls (method, arguments, the stack below) | returns -/
abbrev rx_O : Type := (Nat × List Value × List Value × rx_H) ⊕ (Nat × List Value × List Value × Nat) ⊕ Option Value
def rx_nl : List Value → Nat → Bool
  | _, 0 => true
  | l, a + 1 => match l[a]? with
    | some (.long _) => false
    | some (.double _) => false
    | _ => true
def rx_cmp (c : Jvm.ClassFile.Cond) (x y : Int32) : Prop := match c with
  | .eq => x = y
  | .ne => ¬ x = y
  | .lt => x < y
  | .ge => y ≤ x
  | .gt => y < x
  | .le => x ≤ y
def rx_cmpB (c : Jvm.ClassFile.Cond) (x y : Int32) : Bool := match c with
  | .eq => decide (x = y)
  | .ne => !decide (x = y)
  | .lt => decide (x < y)
  | .ge => decide (y ≤ x)
  | .gt => decide (y < x)
  | .le => decide (x ≤ y)
/-- what a field of kind k keeps: 0 int, 1 boolean, 2 reference, 3 long -/
def rx_fit : Nat → Value → Bool
  | 0, .int _ => true
  | 1, .int x => decide (x = 0) || decide (x = 1)
  | 2, .ref _ => true
  | 3, .long _ => true
  | _, _ => false
def rx_ld (k : Nat) (v : Option Value) : Option Value := match k, v with
  | 0, some (.int x) => some (.int x)
  | 2, some (.ref x) => some (.ref x)
  | 3, some (.long x) => some (.long x)
  | _, _ => none
def rx_b2 (f : Int32 → Int32 → Int32) (nx : Nat) (ls st : List Value) (h : rx_H) : Option rx_O := match st with
  | .int y :: .int x :: r => some (.inl (nx, ls, .int (f x y) :: r, h))
  | _ => none
def rx_b2z (f : Int32 → Int32 → Int32) (nx : Nat) (ls st : List Value) (h : rx_H) : Option rx_O := match st with
  | .int y :: .int x :: r => if y = 0 then none else some (.inl (nx, ls, .int (f x y) :: r, h))
  | _ => none
def rx_l2 (f : Int64 → Int64 → Int64) (nx : Nat) (ls st : List Value) (h : rx_H) : Option rx_O := match st with
  | .long y :: .long x :: r => some (.inl (nx, ls, .long (f x y) :: r, h))
  | _ => none
def rx_load (k a nx : Nat) (ls st : List Value) (h : rx_H) : Option rx_O := match rx_ld k ls[a]? with
  | some v => some (.inl (nx, ls, v :: st, h))
  | none => none
/-- an int or a reference comes into a local -/
def rx_store (k a nx : Nat) (ls st : List Value) (h : rx_H) : Option rx_O := match st with
  | v :: r => match rx_ld k (some v) with
    | some w => if decide (a < ls.length) && rx_nl ls a then some (.inl (nx, ls.set a w, r, h)) else none
    | none => none
  | _ => none
def rx_lstore (a nx : Nat) (ls st : List Value) (h : rx_H) : Option rx_O := match st with
  | .long x :: r => if decide (a + 1 < ls.length) && rx_nl ls a then some (.inl (nx, (ls.set a (.long x)).set (a + 1) .null, r, h)) else none
  | _ => none
def rx_iinc (a nx : Nat) (n : Int32) (ls st : List Value) (h : rx_H) : Option rx_O := match ls[a]? with
  | some (.int x) => if rx_nl ls a then some (.inl (nx, ls.set a (.int (x + n)), st, h)) else none
  | _ => none
def rx_get (ci k nx : Nat) (ls st : List Value) (h : rx_H) : Option rx_O := match st with
  | .ref i :: r => if i = 0 then none else match rx_rd h i with
    | some (.inr (c, fs)) => if c = ci then match fs[k]? with
      | some v => some (.inl (nx, ls, v :: r, h))
      | none => none
      else none
    | _ => none
  | _ => none
def rx_put (ci k kd nx : Nat) (ls st : List Value) (h : rx_H) : Option rx_O := match st with
  | v :: .ref i :: r => if i = 0 then none else match rx_rd h i with
    | some (.inr (c, fs)) => if c = ci then (if rx_fit kd v && decide (k < fs.length) then some (.inl (nx, ls, r, rx_up h i (.inr (c, fs.set k v)))) else none) else none
    | _ => none
  | _ => none
/-- tag 0: int rows, 1: byte rows -/
def rx_aload (tg nx : Nat) (ls st : List Value) (h : rx_H) : Option rx_O := match st with
  | .int j :: .ref i :: r => match rx_rd h i with
    | some (.inl (t, n, .inl f)) => if t = tg then (if j < 0 ∨ n ≤ j.toNatClampNeg then none else some (.inl (nx, ls, .int (f j.toNatClampNeg) :: r, h))) else none
    | _ => none
  | _ => none
def rx_astore (tg nx : Nat) (nar : Int32 → Int32) (ls st : List Value) (h : rx_H) : Option rx_O := match st with
  | .int x :: .int j :: .ref i :: r => if i = 0 then none else match rx_rd h i with
    | some (.inl (t, n, .inl f)) => if t = tg then (if j < 0 ∨ n ≤ j.toNatClampNeg then none else some (.inl (nx, ls, r, rx_up h i (.inl (t, n, .inl (upd f j.toNatClampNeg (nar x))))))) else none
    | _ => none
  | _ => none
/-- tag 2: rows of Proc (kind 4), 3: of Outlook (kind 1) -/
def rx_tc (t : Nat) : Nat := if t = 2 then 4 else 1
def rx_aaload (nx : Nat) (ls st : List Value) (h : rx_H) : Option rx_O := match st with
  | .int j :: .ref i :: r => if i = 0 then none else match rx_rd h i with
    | some (.inl (t, n, .inr (.inr (.inr (.inr f))))) => if t = 2 ∨ t = 3 then (if j < 0 ∨ n ≤ j.toNatClampNeg then none else match f j.toNatClampNeg with
      | some q => some (.inl (nx, ls, .ref q :: r, h))
      | none => none) else none
    | _ => none
  | _ => none
def rx_aastore (nx : Nat) (ls st : List Value) (h : rx_H) : Option rx_O := match st with
  | .ref q :: .int j :: .ref i :: r => if i = 0 ∨ q = 0 then none else match rx_rd h i with
    | some (.inl (t, n, .inr (.inr (.inr (.inr f))))) => if t = 2 ∨ t = 3 then (if j < 0 ∨ n ≤ j.toNatClampNeg then none else match rx_rd h q with
      | some (.inr (c, _)) => if c = rx_tc t then some (.inl (nx, ls, r, rx_up h i (.inl (t, n, .inr (.inr (.inr (.inr (va_up f j.toNatClampNeg (some q))))))))) else none
      | _ => none) else none
    | _ => none
  | _ => none
def rx_alen (nx : Nat) (ls st : List Value) (h : rx_H) : Option rx_O := match st with
  | .ref i :: r => match rx_rd h i with
    | some (.inl (t, n, .inl _)) => if t = 0 ∨ (t = 1 ∧ ¬ i = 0) then some (.inl (nx, ls, .int (Int32.ofNat n) :: r, h)) else none
    | _ => none
  | _ => none
def rx_newa (tg nx : Nat) (ls st : List Value) (h : rx_H) : Option rx_O := match st with
  | .int n :: r => if n < 0 ∨ 134217728 < n.toNatClampNeg then none else some (.inl (nx, ls, .ref h.1 :: r, rx_nw h n.toNatClampNeg (.inl (tg, n.toNatClampNeg, .inl (fun _ => 0)))))
  | _ => none
def rx_anew (tg nx : Nat) (ls st : List Value) (h : rx_H) : Option rx_O := match st with
  | .int n :: r => if n < 0 ∨ 134217728 < n.toNatClampNeg then none else some (.inl (nx, ls, .ref h.1 :: r, rx_nw h n.toNatClampNeg (.inl (tg, n.toNatClampNeg, .inr (.inr (.inr (.inr (fun _ => none))))))))
  | _ => none
/-- a new object's fields -/
def rx_df : Nat → List Value
  | 0 => [.null, .null, .null, .null, .int 0, .int 0]
  | 1 => [.int 0, .int 0, .int 0, .int 0, .null, .null, .null, .null, .null]
  | 2 => [.null, .null, .int 0, .int 0]
  | 3 => [.int 0, .int 0, .null]
  | 4 => [.int 0, .int 0, .null]
  | 5 => [.null, .null, .null, .null, .null, .null, .int 0]
  | 6 => [.int 0, .int 0, .null, .null, .int 0, .int 0, .int 0, .int 0]
  | 7 => [.null, .null, .null, .null, .null, .null, .null, .null, .int 0, .int 0, .int 0]
  | 8 => [.null, .null, .null, .int 0, .null, .null, .int 0, .null, .null, .null, .int 0, .null, .null, .null, .int 0, .long 0]
  | _ => []
def rx_copy (nx : Nat) (ls st : List Value) (h : rx_H) : Option rx_O := match st with
  | .int n :: .int dp :: .ref d :: .int sp :: .ref i :: r => if i = 0 ∨ d = 0 ∨ 4 < r.length then none else match rx_rd h i, rx_rd h d with
    | some (.inl (t, n0, .inl f)), some (.inl (u, n1, .inl g)) => if t ≤ 1 ∧ u = t ∧ ¬ sp < 0 ∧ ¬ dp < 0 ∧ ¬ n < 0 ∧ sp.toNatClampNeg + n.toNatClampNeg ≤ n0 ∧ dp.toNatClampNeg + n.toNatClampNeg ≤ n1 ∧ (t = 0 ∨ ∀ j, j < n.toNatClampNeg → fits .byte (.int (f (sp.toNatClampNeg + j))) = true)
      then some (.inl (nx, ls, r, rx_up h d (.inl (u, n1, .inl (va_cpy f g sp.toNatClampNeg dp.toNatClampNeg n.toNatClampNeg))))) else none
    | _, _ => none
  | _ => none
def rx_min (nx : Nat) (ls st : List Value) (h : rx_H) : Option rx_O := match st with
  | .int y :: .int x :: r => if r.length ≤ 4 then some (.inl (nx, ls, .int (if y < x then y else x) :: r, h)) else none
  | _ => none
def rx_br (c : Bool) (a nx : Nat) (ls r : List Value) (h : rx_H) : Option rx_O := bif c then some (.inl (a, ls, r, h)) else some (.inl (nx, ls, r, h))
def rx_tgt (pc : Nat) (off : Int) : Nat := ((pc : Int) + off).toNat
def rx_sw (pc : Nat) (dflt lo hi : Int) (offs : Array Int) (x : Int32) : Nat := if x.toInt < lo ∨ hi < x.toInt then rx_tgt pc dflt else rx_tgt pc (offs.getD (x.toInt - lo).toNat dflt)
/-- a call: nr values of the stack are its arguments; kind 0 static, 1 of an object, 2 a maker -/
def rx_call (a nr kd cn nx : Nat) (st : List Value) (h : rx_H) : Option rx_O :=
  if decide (nr ≤ st.length) && decide ((st.drop nr).length ≤ 4) then match kd, (st.take nr).reverse with
    | 0, As => some (.inr (.inl (a, As, st.drop nr, nx)))
    | 1, .ref i :: As => if i = 0 then none else match rx_rd h i with
      | some (.inr (c, _)) => if c = cn then some (.inr (.inl (a, .ref i :: As, st.drop nr, nx))) else none
      | _ => none
    | 2, .ref i :: As => if i = 0 then none else some (.inr (.inl (a, .ref i :: As, st.drop nr, nx)))
    | _, _ => none
  else none
def rx_res (cn : Nat → Nat) (i : rx_I) (pc : Nat) (ls st : List Value) (h : rx_H) : Option rx_O := match i with
  | (.iconst _, nx, _, _, _, v) => some (.inl (nx, ls, v :: st, h))
  | (.bipush _, nx, _, _, _, v) => some (.inl (nx, ls, v :: st, h))
  | (.sipush _, nx, _, _, _, v) => some (.inl (nx, ls, v :: st, h))
  | (.ldc _, nx, _, _, _, v) => some (.inl (nx, ls, v :: st, h))
  | (.ldc_w _, nx, _, _, _, v) => some (.inl (nx, ls, v :: st, h))
  | (.ldc2_w _, nx, _, _, _, v) => some (.inl (nx, ls, v :: st, h))
  | (.iload_n _, nx, a, _, _, _) => rx_load 0 a nx ls st h
  | (.iload _, nx, a, _, _, _) => rx_load 0 a nx ls st h
  | (.aload_n _, nx, a, _, _, _) => rx_load 2 a nx ls st h
  | (.aload _, nx, a, _, _, _) => rx_load 2 a nx ls st h
  | (.lload_n _, nx, a, _, _, _) => rx_load 3 a nx ls st h
  | (.lload _, nx, a, _, _, _) => rx_load 3 a nx ls st h
  | (.istore_n _, nx, a, _, _, _) => rx_store 0 a nx ls st h
  | (.istore _, nx, a, _, _, _) => rx_store 0 a nx ls st h
  | (.astore_n _, nx, a, _, _, _) => rx_store 2 a nx ls st h
  | (.astore _, nx, a, _, _, _) => rx_store 2 a nx ls st h
  | (.lstore_n _, nx, a, _, _, _) => rx_lstore a nx ls st h
  | (.lstore _, nx, a, _, _, _) => rx_lstore a nx ls st h
  | (.iinc _ _, nx, a, _, _, .int n) => rx_iinc a nx n ls st h
  | (.iadd, nx, _, _, _, _) => rx_b2 (fun x y => x + y) nx ls st h
  | (.isub, nx, _, _, _, _) => rx_b2 (fun x y => x - y) nx ls st h
  | (.imul, nx, _, _, _, _) => rx_b2 (fun x y => x * y) nx ls st h
  | (.iand, nx, _, _, _, _) => rx_b2 (fun x y => x &&& y) nx ls st h
  | (.ior, nx, _, _, _, _) => rx_b2 (fun x y => x ||| y) nx ls st h
  | (.ixor, nx, _, _, _, _) => rx_b2 (fun x y => x ^^^ y) nx ls st h
  | (.ishl, nx, _, _, _, _) => rx_b2 (fun x y => x <<< (y &&& 31)) nx ls st h
  | (.ishr, nx, _, _, _, _) => rx_b2 (fun x y => x >>> (y &&& 31)) nx ls st h
  | (.iushr, nx, _, _, _, _) => rx_b2 (fun x y => (x.toUInt32 >>> (y.toUInt32 &&& Int32.toUInt32 31)).toInt32) nx ls st h
  | (.idiv, nx, _, _, _, _) => rx_b2z (fun x y => x / y) nx ls st h
  | (.irem, nx, _, _, _, _) => rx_b2z (fun x y => x - x / y * y) nx ls st h
  | (.ladd, nx, _, _, _, _) => rx_l2 (fun x y => x + y) nx ls st h
  | (.lmul, nx, _, _, _, _) => rx_l2 (fun x y => x * y) nx ls st h
  | (.ineg, nx, _, _, _, _) => match st with
    | .int x :: r => some (.inl (nx, ls, .int (-x) :: r, h))
    | _ => none
  | (.i2l, nx, _, _, _, _) => match st with
    | .int x :: r => some (.inl (nx, ls, .long x.toInt64 :: r, h))
    | _ => none
  | (.i2b, nx, _, _, _, _) => match st with
    | .int x :: r => some (.inl (nx, ls, .int x.toInt8.toInt32 :: r, h))
    | _ => none
  | (.lcmp, nx, _, _, _, _) => match st with
    | .long y :: .long x :: r => some (.inl (nx, ls, .int (lg_cmp x y) :: r, h))
    | _ => none
  | (.dup, nx, _, _, _, _) => match st with
    | .int x :: r => some (.inl (nx, ls, .int x :: .int x :: r, h))
    | .ref x :: r => some (.inl (nx, ls, .ref x :: .ref x :: r, h))
    | _ => none
  | (.pop, nx, _, _, _, _) => match st with
    | .int _ :: r => some (.inl (nx, ls, r, h))
    | _ => none
  | (.dup2, nx, _, _, _, _) => match st with
    | .int x :: .ref y :: r => some (.inl (nx, ls, .int x :: .ref y :: .int x :: .ref y :: r, h))
    | _ => none
  | (.goto _, _, a, _, _, _) => some (.inl (a, ls, st, h))
  | (.ifCond c _, nx, a, _, _, _) => match st with
    | .int x :: r => rx_br (rx_cmpB c x 0) a nx ls r h
    | _ => none
  | (.if_icmp c _, nx, a, _, _, _) => match st with
    | .int y :: .int x :: r => rx_br (rx_cmpB c x y) a nx ls r h
    | _ => none
  | (.tableswitch d lo hi offs, _, _, _, _, _) => match st with
    | .int x :: r => some (.inl (rx_sw pc d lo hi offs x, ls, r, h))
    | _ => none
  | (.getfield _, nx, a, b, _, _) => rx_get a b nx ls st h
  | (.putfield _, nx, a, b, k, _) => rx_put a b k nx ls st h
  | (.iaload, nx, _, _, _, _) => rx_aload 0 nx ls st h
  | (.baload, nx, _, _, _, _) => match st with
    | .int j :: .ref i :: r => if i = 0 then none else rx_aload 1 nx ls (.int j :: .ref i :: r) h
    | _ => none
  | (.iastore, nx, _, _, _, _) => rx_astore 0 nx (fun x => x) ls st h
  | (.bastore, nx, _, _, _, _) => rx_astore 1 nx (fun x => x.toInt8.toInt32) ls st h
  | (.aaload, nx, _, _, _, _) => rx_aaload nx ls st h
  | (.aastore, nx, _, _, _, _) => rx_aastore nx ls st h
  | (.arraylength, nx, _, _, _, _) => rx_alen nx ls st h
  | (.new _, nx, a, b, _, _) => some (.inl (nx, ls, .ref h.1 :: st, rx_nw h b (.inr (a, rx_df a))))
  | (.newarray _, nx, a, _, _, _) => rx_newa a nx ls st h
  | (.anewarray _, nx, a, _, _, _) => rx_anew a nx ls st h
  | (.invokespecial _, nx, a, b, k, _) => if k = 8 then (match st with
    | .ref _ :: r => if r.length ≤ 4 then some (.inl (nx, ls, r, h)) else none
    | _ => none) else rx_call a b 2 0 nx st h
  | (.invokestatic _, nx, a, b, k, _) => if k = 9 then rx_copy nx ls st h else if k = 7 then rx_min nx ls st h else rx_call a b 0 0 nx st h
  | (.invokevirtual _, nx, a, b, _, _) => rx_call a b 1 (cn a) nx st h
  | (.ireturn, _, _, _, k, _) => match st with
    | [.int x] => if decide (k = 0) || decide (x = 0) || decide (x = 1) then some (.inr (.inr (some (.int x)))) else none
    | _ => none
  | (.lreturn, _, _, _, _, _) => match st with
    | [.long x] => some (.inr (.inr (some (.long x))))
    | _ => none
  | (.areturn, _, _, _, _, _) => match st with
    | [.ref x] => some (.inr (.inr (some (.ref x))))
    | _ => none
  | (.return_, _, _, _, _, _) => match st with
    | [] => some (.inr (.inr none))
    | _ => none
  | _ => none
