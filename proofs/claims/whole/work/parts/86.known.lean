/-! ===== what the tables say of the classes ===== -/
theorem arr_p {s : State} {A : Array Value} {ty : FieldType} (h : (Cond.arrayClass ty).before A s = true) : ∃ cA, ArrOfT s cA ty ∧ s.vm.findClass ("[" ++ ty.toString) = some cA := by
  obtain ⟨cA, kA, comp, h1, h2, h3⟩ := Cond.arrayClass_spec h
  exact ⟨cA, fun n z => ⟨fun k h => (by cases h), kA, h2, comp, h3⟩, h1⟩
theorem arr_o {s : State} {A : Array Value} {C : String} (h : (Cond.arrayOver (.object C)).before A s = true) : ∃ cA, ArrOfT s cA (.object C) ∧ va_RA s cA (.object C) := by
  obtain ⟨comp, cA, kA, h0, -, h2, h3, h1⟩ := Cond.arrayOver_spec h
  exact ⟨cA, fun n z => ⟨fun k h => (by cases h), kA, h2, comp, h3⟩, kA, comp, h2, h3, h0, h1⟩
theorem rx_K_ex {s : State} {A : Array Value} (hts : ∀ w ∈ lw_tbl, w.before A s = true) : ∃ dC dI dA, rx_K dC dI dA s := by
  have hg : ∀ w ∈ rx_g, w.before A s = true := fun w hw => hts w (List.mem_filter.mp hw).1
  obtain ⟨c0, i0, k0⟩ := u_known hg (rx_lays 0 (by omega)) (hts (.instantiable RX0 6) (by decide +kernel))
  obtain ⟨c1, i1, k1⟩ := u_known hg (rx_lays 1 (by omega)) (hts (.instantiable RX1 9) (by decide +kernel))
  obtain ⟨c2, i2, k2⟩ := u_known hg (rx_lays 2 (by omega)) (hts (.instantiable RX2 4) (by decide +kernel))
  obtain ⟨c3, i3, k3⟩ := u_known hg (rx_lays 3 (by omega)) (hts (.instantiable RX3 3) (by decide +kernel))
  obtain ⟨c4, i4, k4⟩ := u_known hg (rx_lays 4 (by omega)) (hts (.instantiable RX4 3) (by decide +kernel))
  obtain ⟨c5, i5, k5⟩ := u_known hg (rx_lays 5 (by omega)) (hts (.instantiable RX5 7) (by decide +kernel))
  obtain ⟨c6, i6, k6⟩ := u_known hg (rx_lays 6 (by omega)) (hts (.instantiable RX6 8) (by decide +kernel))
  obtain ⟨c7, i7, k7⟩ := u_known hg (rx_lays 7 (by omega)) (hts (.instantiable RX7 11) (by decide +kernel))
  obtain ⟨c8, i8, k8⟩ := u_known hg (rx_lays 8 (by omega)) (hts (.instantiable RX8 16) (by decide +kernel))
  obtain ⟨a0, p0, q0⟩ := arr_p (hts (.arrayClass .int) (by decide +kernel))
  obtain ⟨a1, p1, q1⟩ := arr_p (hts (.arrayClass .byte) (by decide +kernel))
  obtain ⟨a2, p2, q2⟩ := arr_o (hts (.arrayOver (.object RX4)) (by decide +kernel))
  obtain ⟨a3, p3, q3⟩ := arr_o (hts (.arrayOver (.object RX1)) (by decide +kernel))
  refine ⟨fun c => match c with | 0 => c0 | 1 => c1 | 2 => c2 | 3 => c3 | 4 => c4 | 5 => c5 | 6 => c6 | 7 => c7 | _ => c8, fun c => match c with | 0 => i0 | 1 => i1 | 2 => i2 | 3 => i3 | 4 => i4 | 5 => i5 | 6 => i6 | 7 => i7 | _ => i8, fun c => match c with | 0 => a0 | 1 => a1 | 2 => a2 | _ => a3, ⟨fun c q hq => ?_, fun k q hq => ?_⟩, fun w hw => ?_, hts (.arrayOver (.object RX4)) (by decide +kernel), hts (.arrayOver (.object RX1)) (by decide +kernel)⟩
  · match c, hq with
    | 0, hq => cases hq; exact k0
    | 1, hq => cases hq; exact k1
    | 2, hq => cases hq; exact k2
    | 3, hq => cases hq; exact k3
    | 4, hq => cases hq; exact k4
    | 5, hq => cases hq; exact k5
    | 6, hq => cases hq; exact k6
    | 7, hq => cases hq; exact k7
    | 8, hq => cases hq; exact k8
    | _ + 9, hq => cases hq
  · match k, hq with
    | 0, hq => cases hq; exact ⟨p0, q0⟩
    | 1, hq => cases hq; exact ⟨p1, q1⟩
    | 2, hq => cases hq; exact ⟨p2, q2⟩
    | 3, hq => cases hq; exact ⟨p3, q3⟩
    | _ + 4, hq => cases hq
  · have h1 : ∀ w ∈ rx_nest, w ∈ lw_tbl := by decide +kernel
    have h2 : ∀ w ∈ rx_nest, w.onTables = true := by decide +kernel
    exact va_Nw.of (h2 w hw) (hts w (h1 w hw))
