/-! ===== what an instruction's answer says of its start ===== -/
def rx_dis (o : rx_O) (K : Nat → List Value → List Value → rx_H → Prop) (C : Nat → List Value → rx_H → (Option Value → rx_H → Prop) → Prop) (E : Option Value → rx_H → Prop) (ls : List Value) (h : rx_H) : Prop := match o with
  | .inl (pc', ls', st', h') => K pc' ls' st' h'
  | .inr (.inl (a, As, rest, nx)) => C a As h (fun r h' => K nx ls (r.toList ++ rest) h')
  | .inr (.inr v) => E v h
theorem rx_op_some {i : rx_I} {K : Nat → List Value → List Value → rx_H → Prop} {C : Nat → List Value → rx_H → (Option Value → rx_H → Prop) → Prop} {E : Option Value → rx_H → Prop} {pc : Nat} {ls st : List Value} {h : rx_H} (ho : rx_op i K C E pc ls st h) : ∃ o, rx_res rx_cn i pc ls st h = some o ∧ rx_dis o K C E ls h := by
  unfold rx_op at ho
  cases hr : rx_res rx_cn i pc ls st h with
  | none => rw [hr] at ho; exact ho.elim
  | some o =>
    rw [hr] at ho
    refine ⟨o, rfl, ?_⟩
    rcases o with ⟨pc', ls', st', h'⟩ | ⟨a, As, rest, nx⟩ | v <;> exact ho
section RXV
variable {nx a k ci tg : Nat} {ls st : List Value} {h : rx_H} {o : rx_O} {f : Int32 → Int32 → Int32} {g : Int64 → Int64 → Int64}
theorem rx_b2_inv (e : rx_b2 f nx ls st h = some o) : ∃ x y r, st = .int y :: .int x :: r ∧ o = .inl (nx, ls, .int (f x y) :: r, h) := by
  unfold rx_b2 at e
  split at e
  · next y x r => cases e; exact ⟨x, y, r, rfl, rfl⟩
  · cases e
theorem rx_b2z_inv (e : rx_b2z f nx ls st h = some o) : ∃ x y r, st = .int y :: .int x :: r ∧ ¬ y = 0 ∧ o = .inl (nx, ls, .int (f x y) :: r, h) := by
  unfold rx_b2z at e
  split at e
  · next y x r =>
    split at e
    · cases e
    · next hy => cases e; exact ⟨x, y, r, rfl, hy, rfl⟩
  · cases e
theorem rx_l2_inv (e : rx_l2 g nx ls st h = some o) : ∃ x y r, st = .long y :: .long x :: r ∧ o = .inl (nx, ls, .long (g x y) :: r, h) := by
  unfold rx_l2 at e
  split at e
  · next y x r => cases e; exact ⟨x, y, r, rfl, rfl⟩
  · cases e
theorem rx_ld0 {ov : Option Value} {v : Value} (e : rx_ld 0 ov = some v) : ∃ x, ov = some (.int x) ∧ v = .int x := by
  rcases ov with _ | w
  · cases e
  · cases w <;> first | (cases e; exact ⟨_, rfl, rfl⟩) | cases e
theorem rx_ld2 {ov : Option Value} {v : Value} (e : rx_ld 2 ov = some v) : ∃ x, ov = some (.ref x) ∧ v = .ref x := by
  rcases ov with _ | w
  · cases e
  · cases w <;> first | (cases e; exact ⟨_, rfl, rfl⟩) | cases e
theorem rx_ld3 {ov : Option Value} {v : Value} (e : rx_ld 3 ov = some v) : ∃ x, ov = some (.long x) ∧ v = .long x := by
  rcases ov with _ | w
  · cases e
  · cases w <;> first | (cases e; exact ⟨_, rfl, rfl⟩) | cases e
theorem rx_load_inv (e : rx_load k a nx ls st h = some o) : ∃ v, rx_ld k ls[a]? = some v ∧ o = .inl (nx, ls, v :: st, h) := by
  unfold rx_load at e
  split at e
  · next v hv => cases e; exact ⟨v, hv, rfl⟩
  · cases e
theorem rx_store_inv (e : rx_store k a nx ls st h = some o) : ∃ v w r, st = v :: r ∧ rx_ld k (some v) = some w ∧ a < ls.length ∧ rx_nl ls a = true ∧ o = .inl (nx, ls.set a w, r, h) := by
  unfold rx_store at e
  split at e
  · next v r =>
    split at e
    · next w hw =>
      split at e
      · next hc =>
        cases e
        simp only [Bool.and_eq_true, decide_eq_true_eq] at hc
        exact ⟨v, w, r, rfl, hw, hc.1, hc.2, rfl⟩
      · cases e
    · cases e
  · cases e
theorem rx_lstore_inv (e : rx_lstore a nx ls st h = some o) : ∃ x r, st = .long x :: r ∧ a + 1 < ls.length ∧ rx_nl ls a = true ∧ o = .inl (nx, (ls.set a (.long x)).set (a + 1) .null, r, h) := by
  unfold rx_lstore at e
  split at e
  · next x r =>
    split at e
    · next hc =>
      cases e
      simp only [Bool.and_eq_true, decide_eq_true_eq] at hc
      exact ⟨x, r, rfl, hc.1, hc.2, rfl⟩
    · cases e
  · cases e
theorem rx_iinc_inv {n : Int32} (e : rx_iinc a nx n ls st h = some o) : ∃ x, ls[a]? = some (.int x) ∧ rx_nl ls a = true ∧ o = .inl (nx, ls.set a (.int (x + n)), st, h) := by
  unfold rx_iinc at e
  split at e
  · next x hx =>
    split at e
    · next hc => cases e; exact ⟨x, hx, hc, rfl⟩
    · cases e
  · cases e
theorem rx_get_inv (e : rx_get ci k nx ls st h = some o) : ∃ i r fs v, st = .ref i :: r ∧ ¬ i = 0 ∧ rx_rd h i = some (.inr (ci, fs)) ∧ fs[k]? = some v ∧ o = .inl (nx, ls, v :: r, h) := by
  unfold rx_get at e
  split at e
  · next i r =>
    split at e
    · cases e
    · next hi =>
      split at e
      · next c fs hr =>
        split at e
        · next hc =>
          subst hc
          split at e
          · next v hv => cases e; exact ⟨i, r, fs, v, rfl, hi, hr, hv, rfl⟩
          · cases e
        · cases e
      · cases e
  · cases e
theorem rx_put_inv {kd : Nat} (e : rx_put ci k kd nx ls st h = some o) : ∃ v i r fs, st = v :: .ref i :: r ∧ ¬ i = 0 ∧ rx_rd h i = some (.inr (ci, fs)) ∧ rx_fit kd v = true ∧ k < fs.length ∧ o = .inl (nx, ls, r, rx_up h i (.inr (ci, fs.set k v))) := by
  unfold rx_put at e
  split at e
  · next v i r =>
    split at e
    · cases e
    · next hi =>
      split at e
      · next c fs hr =>
        split at e
        · next hc =>
          subst hc
          split at e
          · next hb =>
            cases e
            simp only [Bool.and_eq_true, decide_eq_true_eq] at hb
            exact ⟨v, i, r, fs, rfl, hi, hr, hb.1, hb.2, rfl⟩
          · cases e
        · cases e
      · cases e
  · cases e
theorem rx_aload_inv (e : rx_aload tg nx ls st h = some o) : ∃ j i r n f, st = .int j :: .ref i :: r ∧ rx_rd h i = some (.inl (tg, n, .inl f)) ∧ vp_in j n ∧ o = .inl (nx, ls, .int (f j.toNatClampNeg) :: r, h) := by
  unfold rx_aload at e
  split at e
  · next j i r =>
    split at e
    · next t n f hr =>
      split at e
      · next ht =>
        subst ht
        split at e
        · cases e
        · next hin => cases e; exact ⟨j, i, r, n, f, rfl, hr, hin, rfl⟩
      · cases e
    · cases e
  · cases e
theorem rx_astore_inv {nar : Int32 → Int32} (e : rx_astore tg nx nar ls st h = some o) : ∃ x j i r n f, st = .int x :: .int j :: .ref i :: r ∧ ¬ i = 0 ∧ rx_rd h i = some (.inl (tg, n, .inl f)) ∧ vp_in j n ∧ o = .inl (nx, ls, r, rx_up h i (.inl (tg, n, .inl (upd f j.toNatClampNeg (nar x))))) := by
  unfold rx_astore at e
  split at e
  · next x j i r =>
    split at e
    · cases e
    · next hi =>
      split at e
      · next t n f hr =>
        split at e
        · next ht =>
          subst ht
          split at e
          · cases e
          · next hin => cases e; exact ⟨x, j, i, r, n, f, rfl, hi, hr, hin, rfl⟩
        · cases e
      · cases e
  · cases e
theorem rx_aaload_inv (e : rx_aaload nx ls st h = some o) : ∃ j i r t n f q, st = .int j :: .ref i :: r ∧ ¬ i = 0 ∧ rx_rd h i = some (.inl (t, n, .inr (.inr (.inr (.inr f))))) ∧ (t = 2 ∨ t = 3) ∧ vp_in j n ∧ f j.toNatClampNeg = some q ∧ o = .inl (nx, ls, .ref q :: r, h) := by
  unfold rx_aaload at e
  split at e
  · next j i r =>
    split at e
    · cases e
    · next hi =>
      split at e
      · next t n f hr =>
        split at e
        · next ht =>
          split at e
          · cases e
          · next hin =>
            split at e
            · next q hq => cases e; exact ⟨j, i, r, t, n, f, q, rfl, hi, hr, ht, hin, hq, rfl⟩
            · cases e
        · cases e
      · cases e
  · cases e
theorem rx_aastore_inv (e : rx_aastore nx ls st h = some o) : ∃ q j i r t n f fs, st = .ref q :: .int j :: .ref i :: r ∧ ¬ i = 0 ∧ ¬ q = 0 ∧ rx_rd h i = some (.inl (t, n, .inr (.inr (.inr (.inr f))))) ∧ (t = 2 ∨ t = 3) ∧ vp_in j n ∧ rx_rd h q = some (.inr (rx_tc t, fs)) ∧ o = .inl (nx, ls, r, rx_up h i (.inl (t, n, .inr (.inr (.inr (.inr (va_up f j.toNatClampNeg (some q)))))))) := by
  unfold rx_aastore at e
  split at e
  · next q j i r =>
    split at e
    · cases e
    · next hi =>
      split at e
      · next t n f hr =>
        split at e
        · next ht =>
          split at e
          · cases e
          · next hin =>
            split at e
            · next c fs hq =>
              split at e
              · next hc =>
                subst hc
                cases e
                exact ⟨q, j, i, r, t, n, f, fs, rfl, fun z => hi (Or.inl z), fun z => hi (Or.inr z), hr, ht, hin, hq, rfl⟩
              · cases e
            · cases e
        · cases e
      · cases e
  · cases e
theorem rx_alen_inv (e : rx_alen nx ls st h = some o) : ∃ i r t n f, st = .ref i :: r ∧ rx_rd h i = some (.inl (t, n, .inl f)) ∧ (t = 0 ∨ (t = 1 ∧ ¬ i = 0)) ∧ o = .inl (nx, ls, .int (Int32.ofNat n) :: r, h) := by
  unfold rx_alen at e
  split at e
  · next i r =>
    split at e
    · next t n f hr =>
      split at e
      · next ht => cases e; exact ⟨i, r, t, n, f, rfl, hr, ht, rfl⟩
      · cases e
    · cases e
  · cases e
theorem rx_newa_inv (e : rx_newa tg nx ls st h = some o) : ∃ n r, st = .int n :: r ∧ ¬ n < 0 ∧ n.toNatClampNeg ≤ 134217728 ∧ o = .inl (nx, ls, .ref h.1 :: r, rx_nw h n.toNatClampNeg (.inl (tg, n.toNatClampNeg, .inl (fun _ => 0)))) := by
  unfold rx_newa at e
  split at e
  · next n r =>
    split at e
    · cases e
    · next hn => cases e; exact ⟨n, r, rfl, fun z => hn (Or.inl z), Nat.not_lt.mp fun z => hn (Or.inr z), rfl⟩
  · cases e
theorem rx_anew_inv (e : rx_anew tg nx ls st h = some o) : ∃ n r, st = .int n :: r ∧ ¬ n < 0 ∧ n.toNatClampNeg ≤ 134217728 ∧ o = .inl (nx, ls, .ref h.1 :: r, rx_nw h n.toNatClampNeg (.inl (tg, n.toNatClampNeg, .inr (.inr (.inr (.inr (fun _ => none))))))) := by
  unfold rx_anew at e
  split at e
  · next n r =>
    split at e
    · cases e
    · next hn => cases e; exact ⟨n, r, rfl, fun z => hn (Or.inl z), Nat.not_lt.mp fun z => hn (Or.inr z), rfl⟩
  · cases e
theorem rx_copy_inv (e : rx_copy nx ls st h = some o) : ∃ n dp d sp i r t n0 n1 f g, st = .int n :: .int dp :: .ref d :: .int sp :: .ref i :: r ∧ ¬ i = 0 ∧ ¬ d = 0 ∧ r.length ≤ 4 ∧ rx_rd h i = some (.inl (t, n0, .inl f)) ∧ rx_rd h d = some (.inl (t, n1, .inl g)) ∧ t ≤ 1 ∧ ¬ sp < 0 ∧ ¬ dp < 0 ∧ ¬ n < 0 ∧ sp.toNatClampNeg + n.toNatClampNeg ≤ n0 ∧ dp.toNatClampNeg + n.toNatClampNeg ≤ n1 ∧ (t = 0 ∨ ∀ j, j < n.toNatClampNeg → fits .byte (.int (f (sp.toNatClampNeg + j))) = true) ∧
    o = .inl (nx, ls, r, rx_up h d (.inl (t, n1, .inl (va_cpy f g sp.toNatClampNeg dp.toNatClampNeg n.toNatClampNeg)))) := by
  unfold rx_copy at e
  split at e
  · next n dp d sp i r =>
    split at e
    · cases e
    · next hi =>
      split at e
      · next t n0 f u n1 g h1 h2 =>
        split at e
        · next hc =>
          obtain ⟨c1, rfl, c3, c4, c5, c6, c7, c8⟩ := hc
          cases e
          exact ⟨n, dp, d, sp, i, r, _, n0, n1, f, g, rfl, fun z => hi (Or.inl z), fun z => hi (Or.inr (Or.inl z)), Nat.not_lt.mp fun z => hi (Or.inr (Or.inr z)), h1, h2, c1, c3, c4, c5, c6, c7, c8, rfl⟩
        · cases e
      · cases e
  · cases e
theorem rx_call_inv {nr kd cn : Nat} (e : rx_call a nr kd cn nx st h = some o) : ∃ As rest, st = As.reverse ++ rest ∧ As.length = nr ∧ rest.length ≤ 4 ∧ o = .inr (.inl (a, As, rest, nx)) ∧ (kd = 0 ∨ (kd = 1 ∧ ∃ i Bs fs, As = .ref i :: Bs ∧ ¬ i = 0 ∧ rx_rd h i = some (.inr (cn, fs))) ∨ (kd = 2 ∧ ∃ i Bs, As = .ref i :: Bs ∧ ¬ i = 0)) := by
  unfold rx_call at e
  split at e
  · next hc =>
    simp only [Bool.and_eq_true, decide_eq_true_eq] at hc
    have e1 : st = ((st.take nr).reverse).reverse ++ st.drop nr := by rw [List.reverse_reverse, List.take_append_drop]
    have e2 : ((st.take nr).reverse).length = nr := by rw [List.length_reverse, List.length_take]; omega
    split at e
    · cases e
      exact ⟨_, _, e1, e2, hc.2, rfl, Or.inl rfl⟩
    · next i Bs hA =>
      split at e
      · cases e
      · next hi =>
        split at e
        · next c fs hr =>
          split at e
          · next hcn =>
            subst hcn
            cases e
            rw [hA] at e1 e2
            exact ⟨_, _, e1, e2, hc.2, rfl, Or.inr (Or.inl ⟨rfl, i, Bs, fs, rfl, hi, hr⟩)⟩
          · cases e
        · cases e
    · next i Bs hA =>
      split at e
      · cases e
      · next hi =>
        cases e
        rw [hA] at e1 e2
        exact ⟨_, _, e1, e2, hc.2, rfl, Or.inr (Or.inr ⟨rfl, i, Bs, rfl, hi⟩)⟩
    · cases e
  · cases e
end RXV
