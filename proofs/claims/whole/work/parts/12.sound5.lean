/-! ===== the interpreter is sound: every instruction ===== -/
theorem rx_ok_of {mi pc : Nat} {i : rx_I} (hi : rx_it mi pc = some i) : mi < 173 ∧ decode (rx_cc mi) pc = .ok (i.1, i.2.1 - pc) ∧ rx_shape mi pc i = true ∧ ∀ w ∈ rx_need mi i, w ∈ rx_g := by
  unfold rx_it at hi
  cases hq : (rx_tbs.getD mi []).lookup pc with
  | none => rw [hq] at hi; cases hi
  | some q =>
    rw [hq] at hi
    have e : q.1 = i := Option.some.inj hi
    by_cases hm : mi < 173
    · have h1 := List.all_eq_true.mp (rx_ck mi hm) _ (rx_lk _ _ _ hq)
      unfold rx_okI at h1
      simp only [Bool.and_eq_true, decide_eq_true_eq] at h1
      rw [e] at h1
      exact ⟨hm, h1.1.1.1, h1.1.1.2, rx_g_in h1.1.2 h1.2⟩
    · have h0 : rx_tbs.getD mi [] = [] := by
        have : rx_tbs.length = 173 := by decide +kernel
        rw [List.getD_eq_getElem?_getD, List.getElem?_eq_none (by omega)]
        rfl
      rw [h0] at hq
      cases hq
def rx_xs (pc : Nat) (i : rx_I) : Bool := match i with
  | (.goto _, nx, _, _, _, _) => decide (nx = pc + 3)
  | (.ldc _, _, _, _, _, v) => (match v with
    | .int _ => true
    | _ => false)
  | (.ldc_w _, _, _, _, _, v) => (match v with
    | .int _ => true
    | _ => false)
  | (.ldc2_w _, _, _, _, _, v) => (match v with
    | .long _ => true
    | _ => false)
  | _ => true
theorem rx_xck : rx_tbs.all (fun t => t.all (fun q => rx_xs q.1 q.2.1)) = true := by decide +kernel
theorem rx_xs_of {mi pc : Nat} {i : rx_I} (hi : rx_it mi pc = some i) : rx_xs pc i = true := by
  unfold rx_it at hi
  cases hq : (rx_tbs.getD mi []).lookup pc with
  | none => rw [hq] at hi; cases hi
  | some q =>
    rw [hq] at hi
    have e : q.1 = i := Option.some.inj hi
    have h1 := rx_lk _ _ _ hq
    by_cases hm : mi < rx_tbs.length
    · have h2 : rx_tbs.getD mi [] ∈ rx_tbs := by
        rw [List.getD_eq_getElem?_getD, List.getElem?_eq_getElem hm]
        exact List.getElem_mem hm
      have h3 := List.all_eq_true.mp (List.all_eq_true.mp rx_xck _ h2) _ h1
      rw [← e]
      exact h3
    · have h0 : rx_tbs.getD mi [] = [] := by rw [List.getD_eq_getElem?_getD, List.getElem?_eq_none (by omega)]; rfl
      rw [h0] at hq
      cases hq
theorem rx_m_of {a : Nat} (h : a < 173) : plainName (rx_y a).cls = true ∧ (rx_y a).cls ≠ "java/lang/invoke/MethodHandle" ∧ (rx_y a).cls ≠ "java/lang/invoke/VarHandle" ∧ (parseMethodDescriptor (rx_y a).desc).map (fun d => d.parameters.length) = some (rx_np a) := by
  have h1 := List.all_eq_true.mp rx_mok a (List.mem_range.mpr h)
  unfold rx_okM at h1
  simp only [Bool.and_eq_true, decide_eq_true_eq] at h1
  exact ⟨h1.1.1.1, h1.1.1.2, h1.1.2, h1.2⟩
def rx_ws (a : Nat) : List Cond := Cond.code (rx_y a) (rx_cc a) (rx_ml a) (rx_rt a) :: rx_g
theorem rx_cd_g {a : Nat} (h : a < 172) : Cond.code (rx_y a) (rx_cc a) (rx_ml a) (rx_rt a) ∈ rx_g := List.mem_filter.mpr ⟨rx_cd a h, rfl⟩
theorem rx_good {a : Nat} (h : a < 172) : GoodIn rx_g (rx_ws a) := by
  intro w hw
  have h1 : w ∈ rx_g := by
    rcases List.mem_cons.mp hw with rfl | z
    · exact rx_cd_g h
    · exact z
  exact ⟨h1, good_of_word (List.mem_filter.mp h1).2⟩
def rx_Pc (dC : Nat → ClassId) (dI : Nat → Nat → Nat) (dA : Nat → ClassId) (b bs L : Nat) (xs : Nat → Int32) (As : List Value) (h : rx_H) : Array Value → State → Prop := va_Pc (As.map (rx_tv b bs)) (fun U => rx_G dC dI dA b bs L xs h U.heap ∧ rx_K dC dI dA U ∧ va_X b L xs U U.heap)
def rx_Qc (dC : Nat → ClassId) (dI : Nat → Nat → Nat) (dA : Nat → ClassId) (b bs L : Nat) (xs : Nat → Int32) (r : Option Value) (h' : rx_H) : Array Value → State → Outcome → State → Prop := fun _ st oc t => oc = .returned (r.map (rx_tv b bs)) ∧ rx_G dC dI dA b bs L xs h' t.heap ∧ ∀ q : Nat, q ≤ bs → t.heap[q]? = st.heap[q]?
section RXM
variable {l : Launch} {dC : Nat → ClassId} {dI : Nat → Nat → Nat} {dA : Nat → ClassId} {b bs L : Nat} {xs : Nat → Int32}
set_option maxHeartbeats 2000000 in
theorem rx_met (hb : b ≤ bs) {a : Nat} (ha : a < 172) {As : List Value} {h h' : rx_H} {r : Option Value} (hl : (rx_xp As).length ≤ rx_ml a) (hP : rx_P l dC dI dA b bs L xs a 0 (rx_en a As) [] h (fun r' h2 => r' = r ∧ h2 = h')) :
    Met l (rx_y a) (rx_ws a) ({ frames := rx_fr a, cells := h'.1 - h.1, slots := h'.2.1 - h.2.1, locals := rx_lo a }) (rx_Pc dC dI dA b bs L xs As h) (rx_Qc dC dI dA b bs L xs r h') (h'.1 - h.1) (h'.2.1 - h.2.1) (fun q => bs < q) := by
  have ha' : a < 173 := by omega
  obtain ⟨⟨r0, h0, ⟨e1, e2⟩, m1, m2⟩, hP⟩ := hP
  rw [e2] at m1 m2
  refine Met.ofW (cc := rx_cc a) (maxL := rx_ml a) (ret := rx_rt a) (rx_m_of ha').1 rfl ?_
  intro p e s m args below meth c s₁ B hml hv
  obtain ⟨rfl, hG, hK, hX⟩ := hv
  have hts := atoms_spec (ws := rx_ws a) B.pre
  have hlocks := B.notSynchronized
  rw [lg_entry_eq]
  have hF : rx_Fx dC dI dA b bs L xs a p ({ frames := rx_fr a, cells := h'.1 - h.1, slots := h'.2.1 - h.2.1, locals := rx_lo a }) s m (As.map (rx_tv b bs)).toArray meth c :=
    ⟨B.exec, B.bytes, hml, findClass_of_methodNamed B.named, fun w hw => hts w (List.mem_cons_of_mem _ hw), hK, hX, hb, Nat.le_refl _, Nat.le_refl _, (name_of_methodNamed B.named B.method).1⟩
  refine hP p e _ s m _ below meth c s.heap [] _ 0 0 h.1 h.2.1 _ hF ⟨hG, fun _ _ => rfl, fun q hq => absurd hq List.not_mem_nil, rx_LS_entry b bs a As hl⟩ (by omega) (by omega) ?_ ?_
  · rintro r' h2 ⟨rfl, rfl⟩
    constructor
    · show h2.1 ≤ h.1 + (h2.1 - h.1); omega
    · show h2.2.1 ≤ h.2.1 + (h2.2.1 - h.2.1); omega
  · rintro r' h2 H1 locs1 pc1 ls1 ⟨rfl, rfl⟩ hG1 hlow hloc n1 n2 hrd
    have hq : ∀ t : State, t.heap = H1 → s.WarmedH t.vm → rx_Qc dC dI dA b bs L xs r' h2 (As.map (rx_tv b bs)).toArray s (.returned (r'.map (rx_tv b bs))) t := fun t ht _ => ⟨rfl, by rw [ht]; exact hG1, fun q hq => by rw [ht]; exact hlow q hq⟩
    rcases r' with _ | v
    · exact W.vret B.exec B.bytes (B.returns.trans hrd.2) hq hloc hrd.1
    · cases v with
      | int x =>
        rcases hrd.2 with z | ⟨z, zz⟩
        · exact W.iret B.exec B.bytes (B.returns.trans z) hq hloc hrd.1
        · refine W.zret B.exec B.bytes (B.returns.trans z) ?_ hq hloc hrd.1
          rcases zz with rfl | rfl <;> decide +kernel
      | long x => exact W.lret B.exec B.bytes (B.returns.trans hrd.2) hq hloc hrd.1
      | ref x =>
        rcases hrd.2 with ⟨n, z⟩ | ⟨n, z⟩
        · exact W.aret B.exec B.bytes (B.returns.trans z) (Or.inl ⟨_, rfl⟩) (Or.inr ⟨_, rfl⟩) hq hloc hrd.1
        · exact W.aret B.exec B.bytes (B.returns.trans z) (Or.inr ⟨_, rfl⟩) (Or.inr ⟨_, rfl⟩) hq hloc hrd.1
      | float x => exact hrd.elim
      | double x => exact hrd.elim
      | null => exact hrd.elim
      | retAddr x => exact hrd.elim
theorem rx_blind {As : List Value} {h : rx_H} : FrameBlind (rx_Pc dC dI dA b bs L xs As h) := by
  intro a U g mk q
  obtain ⟨q0, q1, q2, q3⟩ := q
  exact ⟨q0, q1, rx_K_same (u := U) (U := U.calling g mk a) rfl q2, va_X.moved (u := U) (U := U.calling g mk a) (Vm.Alike.refl U.vm) q3⟩
variable {p : Program} {e : Env} {R : Room} {s : State} {m : MethodId} {args : Array Value} {below : List Frame} {meth : Method} {c : Code} {H : Heap} {locs : List Loc} {cells slots : Nat} {Z : State → Prop} {mi pc : Nat} {ls : List Value} {lsA : Array Slot} {h : rx_H}
theorem rx_pre (hF : rx_Fx dC dI dA b bs L xs mi p R s m args meth c) (hD : rx_Dy dC dI dA b bs L xs mi s H locs lsA ls h) {As : List Value} : ∀ U : State, U.heap = H → s.WarmedH U.vm → rx_Pc dC dI dA b bs L xs As h (As.map (rx_tv b bs)).toArray U := by
  intro U hU hW
  obtain ⟨-, -, -, -, -, hK, hX, hb, -⟩ := hF
  refine ⟨rfl, by rw [hU]; exact hD.1, rx_K_warm hW hK, ?_⟩
  refine va_X.moved hW.alike (hX.kept ?_)
  rw [hU]
  exact hD.2.1 b hb
theorem rx_Wcall {mc ms : Nat} {st0 rest : List Value} {r : Option Value} {h' : rx_H} {arr : Array Value} (hr : va_Run p l e R s m args below meth c H locs cells slots mc ms (F0 m pc lsA st0) rest (rx_Qc dC dI dA b bs L xs r h' arr) (fun q => bs < q)) (hloc : ∀ q ∈ locs, bs < q.base)
    (kk : ∀ (H1 : Heap) (locs1 : List Loc), rx_G dC dI dA b bs L xs h' H1 → (∀ q : Nat, q ≤ bs → H1[q]? = H[q]?) → (∀ q ∈ locs1, bs < q.base) → W p l e R s m args below meth c H1 locs1 (cells + mc) (slots + ms) Z (F0 m (pc + 3) lsA ((r.map (rx_tv b bs)).toList ++ rest))) : W p l e R s m args below meth c H locs cells slots Z (F0 m pc lsA st0) := by
  intro T hT X
  obtain ⟨v, st₀, t, T', L', h0, X', hL, e1, e2, ⟨hv, hG, hlow⟩, st⟩ := hr T hT X
  injection hv with hv
  subst hv
  obtain ⟨t2, a1, b1⟩ := kk T'.heap (locs ++ L') (by rw [e1]; exact hG) (fun q hq => by rw [e1, hlow q hq, h0]) (fun q hq => by
    rcases List.mem_append.mp hq with z | z
    · exact hloc q z
    · exact hL q z) T' rfl X'
  exact ⟨t2, st t2 a1, b1⟩
/-- the call's own facts -/
theorem rx_CB (hF : rx_Fx dC dI dA b bs L xs mi p R s m args meth c) {a n mc ms : Nat} {own : String} {index : Nat} (ha : a < 172) (hfr : rx_fr a + 1 ≤ rx_fr mi) (hlo : 8 + (rx_ml a + 11) + rx_lo a ≤ rx_lo mi) (hn : n = rx_np a) (hini : Cond.initialized (rx_y a).cls ∈ rx_g) (hlink : (Cond.methodLink own index (rx_y a)).before args s = true) :
    CallB R s args own index (rx_y a) (rx_cc a) (rx_ml a) (rx_rt a) (rx_ws a) ({ frames := rx_fr a, cells := mc, slots := ms, locals := rx_lo a }) mc ms n := by
  have ho := rx_m_of (a := a) (by omega)
  obtain ⟨-, -, -, -, hts, -, -, -, r1, r2, -⟩ := hF
  refine ⟨rfl, rfl, Nat.le_trans hfr r1, Nat.le_trans hlo r2, pay_in hts (rx_good ha), List.mem_cons_self, hts _ (rx_cd_g ha), hts _ hini, ⟨ho.2.1, ho.2.2.1⟩, fun sig hs => ?_, hlink⟩
  have h2 := ho.2.2.2
  rw [hs] at h2
  rw [hn]
  exact (Option.some.inj h2).symm
theorem rx_CN (hF : rx_Fx dC dI dA b bs L xs mi p R s m args meth c) {a n mc ms : Nat} {own host : String} {index : Nat} (ha : a < 172) (hfr : rx_fr a + 1 ≤ rx_fr mi) (hlo : 8 + (rx_ml a + 11) + rx_lo a ≤ rx_lo mi) (hn : n = rx_np a) (hini : Cond.initialized (rx_y a).cls ∈ rx_g) (hlink : va_Nw (.methodLinkNest own index (rx_y a) host) s) :
    va_CN R s args own index (rx_y a) host (rx_cc a) (rx_ml a) (rx_rt a) (rx_ws a) ({ frames := rx_fr a, cells := mc, slots := ms, locals := rx_lo a }) mc ms n := by
  have ho := rx_m_of (a := a) (by omega)
  obtain ⟨-, -, -, -, hts, -, -, -, r1, r2, -⟩ := hF
  refine ⟨⟨rfl, rfl, Nat.le_trans hfr r1, Nat.le_trans hlo r2, pay_in hts (rx_good ha), List.mem_cons_self⟩, hts _ (rx_cd_g ha), hts _ hini, ⟨ho.2.1, ho.2.2.1⟩, fun sig hs => ?_, va_Nw.use rfl hlink⟩
  have h2 := ho.2.2.2
  rw [hs] at h2
  rw [hn]
  exact (Option.some.inj h2).symm
theorem rx_room4 {m : MethodId} {pc : Nat} {ls : Array Slot} {st r : List Value} (h : r.length ≤ 4) : 2 * (F0 m pc ls st).monitorRoom + ((r.map (rx_tv b bs)).map fun v => v.category).sum ≤ 8 := lv_room (Nat.le_trans (rx_cats r) (by omega))
end RXM
