/-! ===== the class's cells ===== -/
def bO (c0 c1 c2 : Int32) : rx_C := .inr (7, [.ref 2, .ref 3, .ref 4, .ref 46, .ref 49, .ref 56, .ref 61, .ref 64, .int c0, .int c1, .int c2])
def rwO (t n : Nat) (f : Nat → Option Nat) : rx_C := .inl (t, n, .inr (.inr (.inr (.inr f))))
/-- an Outlook that must look anew -/
def oF (h : rx_H) (q : Nat) : Prop := ∃ sb lo n O R N F A, oO h q 0 sb lo n ∧ oR h q O R N F A ∧ N 0 = 0 ∧ F 0 = 0 ∧ A 0 = 0
def oI (h : rx_H) (q n : Nat) (w : Nat → Nat) : Prop := oF h q ∨ oK h q n w
def psO (c nx : Nat) : rx_C := .inr (3, [.int (nI c), .int (nI nx), .ref 5])
def psI (h : rx_H) (u : Nat → Nat → Nat) (np : Nat) : Prop := ∃ (nx : Nat) (rn : Nat → Nat) (rw : Nat → Nat → Nat) (fR : Nat → Option Nat), nx < 5 ∧ rx_rd h 4 = some (psO np nx) ∧ rx_rd h 5 = some (rwO 2 20 fR) ∧ (∀ j, j < 20 → fR j = some (6 + 2 * j)) ∧ (∀ j, j < 20 → pW h (6 + 2 * j) (rn j) (rw j)) ∧ ∀ i, i < np → ∀ p, p < 4 → rn ((nx + 5 - np + i) % 5 * 4 + p) = u i (41 * p) ∧ ∀ k, k < 40 → rw ((nx + 5 - np + i) % 5 * 4 + p) k = wq (u i) p k
def cPR (h : rx_H) : Prop := (∃ f, rx_rd h 2 = some (rwO 2 4 f) ∧ ∀ p, p < 4 → f p = some (66 + 8 * p)) ∧ ∃ f, rx_rd h 3 = some (rwO 3 4 f) ∧ ∀ p, p < 4 → f p = some (68 + 8 * p)
def cIv (h : rx_H) (v : Nat → Nat) (u : Nat → Nat → Nat) (np L : Nat) (t : Nat → Nat) (cs : Nat → Int32) : Prop :=
  rx_rd h 1 = some (bO (cs 0) (cs 1) (cs 2)) ∧ cPR h ∧ (∀ p, p < 4 → pW h (66 + 8 * p) (v (41 * p)) (wq v p)) ∧ (∀ p, p < 4 → oI h (68 + 8 * p) (v (41 * p)) (wq v p)) ∧ psI h u np ∧ tI h L t ∧ sI h ∧ kI h ∧ pgI h ∧ ∃ n w, pW h 64 n w
def cIS (h : rx_H) (S : St) : Prop := cIv h S.1 S.2.1 S.2.2.1 S.2.2.2.1 S.2.2.2.2.1 S.2.2.2.2.2
theorem oK_cong {h : rx_H} {q n : Nat} {w w' : Nat → Nat} (hn : n ≤ 8) (e : ∀ j, j < 40 → w j = w' j) (hk : oK h q n w) : oK h q n w' := by
  obtain ⟨lo, O, R, N, F, A, ho, hr, e1, e2, e3, e4, e5, e6, e7⟩ := hk
  have s1 : stb n w = stb n w' := un_cong n (fun s hs => by rw [e (s * 5 + 4) (by omega)])
  have s2 : ∀ s, s < n → ofS w s = ofS w' s := fun s hs => un_cong 4 (fun a ha => by rw [e (s * 5 + a) (by omega)])
  have s3 : led w 4 n = led w' 4 n := funext fun x => un_cong n (fun s hs => by rw [e (s * 5 + 4) (by omega)])
  have s4 : ∀ T, good w n T ↔ good w' n T := fun T => ⟨fun g s hs => ⟨(g s hs).1, by rw [← e (s * 5 + 4) (by have := (g s hs).1; omega)]; exact (g s hs).2⟩, fun g s hs => ⟨(g s hs).1, by rw [e (s * 5 + 4) (by have := (g s hs).1; omega)]; exact (g s hs).2⟩⟩
  have s5 : ∀ s, s < n → nxS w R n s = nxS w' R n s := fun s hs => un_cong 4 (fun a ha => by rw [e (s * 5 + a) (by omega)])
  refine ⟨lo, O, R, N, F, A, by rw [← s1]; exact ho, hr, fun s hs => (e1 s hs).trans (s2 s hs), ⟨(s4 lo).mp e2.1, fun T hT => e2.2 T ((s4 T).mpr hT)⟩, e3, by rw [← s3]; exact e4, fun m hm => (e5 m hm).trans (allS_cong s5 m), fun m hm => ?_, fun m hm => ?_⟩
  · rw [e6 m hm, s1]
    exact allS_cong (fun s hs => by unfold ofD; rw [s2 s hs]) m
  · rw [e7 m hm, s1]
    exact allS_cong (fun s hs => by unfold alD; rw [s2 s hs]) m
theorem oI_cong {h : rx_H} {q n : Nat} {w w' : Nat → Nat} (hn : n ≤ 8) (e : ∀ j, j < 40 → w j = w' j) (hk : oI h q n w) : oI h q n w' := hk.elim Or.inl (fun z => Or.inr (oK_cong hn e z))
/-- the reference's cells and the script stay -/
def FC (h h' : rx_H) : Prop := h.1 ≤ h'.1 ∧ rx_rd h' 0 = rx_rd h 0 ∧ Sm h h' 98 109
theorem FC_rfl (h : rx_H) : FC h h := ⟨Nat.le_refl _, rfl, fun _ _ _ => rfl⟩
theorem FC_trans {h h1 h2 : rx_H} (x : FC h h1) (y : FC h1 h2) : FC h h2 := ⟨Nat.le_trans x.1 y.1, y.2.1.trans x.2.1, Sm_trans x.2.2 y.2.2⟩
theorem FC_fr {h h' : rx_H} {A : List Nat} (hf : Fr h h' A) (hA : ∀ i ∈ A, 0 < i ∧ i < 98) : FC h h' := ⟨Nat.le_of_eq hf.1.symm, hf.2.2 0 (fun z => by have := hA 0 z; omega), Sm_fr hf (fun i hi => by have := hA i hi; omega)⟩
theorem FC_ft {h h' : rx_H} (hf : FT h h') : FC h h' := ⟨hf.1, hf.2 0 (by omega) (by omega), fun i z1 z2 => hf.2 i (by omega) (by omega)⟩
theorem oF_sm {h h' : rx_H} {q a b : Nat} (hs : Sm h h' a b) (h1 : a ≤ q) (h2 : q + 5 ≤ b) (hk : oF h q) : oF h' q := by
  obtain ⟨sb, lo, n, O, R, N, F, A, ho, hr, hh⟩ := hk
  exact ⟨sb, lo, n, O, R, N, F, A, oO_sm hs h1 (by omega) ho, oR_sm hs h1 h2 hr, hh⟩
theorem oI_sm {h h' : rx_H} {q n a b : Nat} {w : Nat → Nat} (hs : Sm h h' a b) (h1 : a ≤ q) (h2 : q + 5 ≤ b) (hk : oI h q n w) : oI h' q n w := hk.elim (fun z => Or.inl (oF_sm hs h1 h2 z)) (fun z => Or.inr (oK_sm hs h1 h2 z))
theorem psI_sm {h h' : rx_H} {u : Nat → Nat → Nat} {np : Nat} (hs : Sm h h' 4 45) (hp : psI h u np) : psI h' u np := by
  obtain ⟨nx, rn, rw, fR, a1, a2, a3, a4, a5, a6⟩ := hp
  exact ⟨nx, rn, rw, fR, a1, (hs 4 (by omega) (by omega)).trans a2, (hs 5 (by omega) (by omega)).trans a3, a4, fun j hj => pW_sm hs (by omega) (by omega) (a5 j hj), a6⟩
theorem tI_sm {h h' : rx_H} {L : Nat} {t : Nat → Nat} (hs : Sm h h' 46 48) (ht : tI h L t) : tI h' L t := by
  obtain ⟨⟨wl, st, fb, fr, b, h1⟩, ⟨g, h2⟩, f, h3, h4⟩ := ht
  exact ⟨⟨wl, st, fb, fr, b, (hs 46 (by omega) (by omega)).trans h1⟩, ⟨g, (hs 47 (by omega) (by omega)).trans h2⟩, f, (hs 48 (by omega) (by omega)).trans h3, h4⟩
theorem kI_sm {h h' : rx_H} (hs : Sm h h' 56 60) (hk : kI h) : kI h' := by
  obtain ⟨nd, sc, Ld, Im, Lk, Nb, k1, k2, k3, k4, k5⟩ := hk
  exact ⟨nd, sc, Ld, Im, Lk, Nb, (hs 56 (by omega) (by omega)).trans k1, aN_sm hs (by omega) (by omega) k2, aN_sm hs (by omega) (by omega) k3, aN_sm hs (by omega) (by omega) k4, aN_sm hs (by omega) (by omega) k5⟩
theorem pgI_sm {h h' : rx_H} (hs : Sm h h' 61 63) (hk : pgI h) : pgI h' := by
  obtain ⟨⟨f, ft, k1⟩, ⟨g, k2⟩, g', k3⟩ := hk
  exact ⟨⟨f, ft, (hs 61 (by omega) (by omega)).trans k1⟩, ⟨g, (hs 62 (by omega) (by omega)).trans k2⟩, g', (hs 63 (by omega) (by omega)).trans k3⟩
theorem cPR_sm {h h' : rx_H} (hs : Sm h h' 2 3) (hk : cPR h) : cPR h' := by
  obtain ⟨⟨f, k1, k2⟩, g, k3, k4⟩ := hk
  exact ⟨⟨f, (hs 2 (by omega) (by omega)).trans k1, k2⟩, g, (hs 3 (by omega) (by omega)).trans k3, k4⟩
theorem sI_fr {h h' : rx_H} {A : List Nat} (hf : Fr h h' A) (hA : ∀ i ∈ A, i < 49 ∨ (55 < i ∧ i < 110)) (hs : sI h) : sI h' := by
  obtain ⟨l, fF, fW, a1, a2, a3, a4⟩ := hs
  exact ⟨l, fF, fW, sQ_fr hf (fun i hi => by have := hA i hi; omega) a1, a2, rd_fr hf (fun z => by have := hA _ z; omega) a3, rd_fr hf (fun z => by have := hA _ z; omega) a4⟩
theorem dr_sm {h h' : rx_H} (hs : Sm h h' 64 65) (hk : ∃ n w, pW h 64 n w) : ∃ n w, pW h' 64 n w := by
  obtain ⟨n, w, k⟩ := hk
  exact ⟨n, w, pW_sm hs (by omega) (by omega) k⟩
section CI
variable {h h' : rx_H} {v : Nat → Nat} {u : Nat → Nat → Nat} {np L : Nat} {t : Nat → Nat} {cs : Nat → Int32}
/-- the reference does something -/
theorem cIv_m (hf : Fr h h' mA) (hc : cIv h v u np L t cs) : cIv h' v u np L t cs := by
  obtain ⟨b1, b2, b3, b4, b5, b6, b7, b8, b9, b10⟩ := hc
  have s : Sm h h' 1 97 := Sm_fr hf (fun i hi => by simp at hi; omega)
  exact ⟨(s 1 (by omega) (by omega)).trans b1, cPR_sm (Sm_sub s (by omega) (by omega)) b2, fun p hp => pW_sm s (by omega) (by omega) (b3 p hp), fun p hp => oI_sm s (by omega) (by omega) (b4 p hp), psI_sm (Sm_sub s (by omega) (by omega)) b5, tI_sm (Sm_sub s (by omega) (by omega)) b6, sI_fr hf (fun i hi => by simp at hi; omega) b7, kI_sm (Sm_sub s (by omega) (by omega)) b8, pgI_sm (Sm_sub s (by omega) (by omega)) b9, dr_sm (Sm_sub s (by omega) (by omega)) b10⟩
/-- the class does something -/
theorem mIv_c (hf : FC h h') (hi : mIv h v u np L t cs) : mIv h' v u np L t cs := by
  have s := hf.2.2
  obtain ⟨⟨pl, fo, z, h1⟩, h2, ⟨a3, h3⟩, ⟨U, h4, h4'⟩, ⟨f, h5, h5'⟩, ⟨g, h6, h6'⟩, ⟨a7, h7⟩, ⟨a8, h8⟩, ⟨a9, h9⟩, ⟨f1, k1⟩, ⟨f2, k2⟩, f3, k3⟩ := hi
  exact ⟨⟨pl, fo, z, (s 98 (by omega) (by omega)).trans h1⟩, aN_sm s (by omega) (by omega) h2, ⟨a3, aN_sm s (by omega) (by omega) h3⟩, ⟨U, aN_sm s (by omega) (by omega) h4, h4'⟩, ⟨f, (s 102 (by omega) (by omega)).trans h5, h5'⟩, ⟨g, (s 103 (by omega) (by omega)).trans h6, h6'⟩, ⟨a7, aN_sm s (by omega) (by omega) h7⟩, ⟨a8, aN_sm s (by omega) (by omega) h8⟩, ⟨a9, aN_sm s (by omega) (by omega) h9⟩, ⟨f1, (s 107 (by omega) (by omega)).trans k1⟩, ⟨f2, (s 108 (by omega) (by omega)).trans k2⟩, f3, (s 109 (by omega) (by omega)).trans k3⟩
/-- working cells -/
theorem cIv_w {A : List Nat} (hf : Fr h h' A) (hA : ∀ i ∈ A, (46 ≤ i ∧ i ≤ 48) ∨ (56 ≤ i ∧ i ≤ 65)) (hc : cIv h v u np L t cs) {t' : Nat → Nat} {L' : Nat} (c1 : tI h' L' t') (c2 : kI h') (c3 : pgI h') (c4 : ∃ n w, pW h' 64 n w) : cIv h' v u np L' t' cs := by
  obtain ⟨b1, b2, b3, b4, b5, -, b7, -, -, -⟩ := hc
  have s : Sm h h' 1 45 := Sm_fr hf (fun i hi => by have := hA i hi; omega)
  have s2 : Sm h h' 66 97 := Sm_fr hf (fun i hi => by have := hA i hi; omega)
  exact ⟨(s 1 (by omega) (by omega)).trans b1, cPR_sm (Sm_sub s (by omega) (by omega)) b2, fun p hp => pW_sm s2 (by omega) (by omega) (b3 p hp), fun p hp => oI_sm s2 (by omega) (by omega) (b4 p hp), psI_sm (Sm_sub s (by omega) (by omega)) b5, c1, sI_fr hf (fun i hi => by have := hA i hi; omega) b7, c2, c3, c4⟩
/-- a search -/
theorem cIv_s (hf : FT h h') (hs : sI h') (hc : cIv h v u np L t cs) : cIv h' v u np L t cs := by
  obtain ⟨b1, b2, b3, b4, b5, b6, -, b8, b9, b10⟩ := hc
  have s := FT_sl hf
  have s2 := FT_sm hf
  exact ⟨(s 1 (by omega) (by omega)).trans b1, cPR_sm (Sm_sub s (by omega) (by omega)) b2, fun p hp => pW_sm s2 (by omega) (by omega) (b3 p hp), fun p hp => oI_sm s2 (by omega) (by omega) (b4 p hp), psI_sm (Sm_sub s (by omega) (by omega)) b5, tI_sm (Sm_sub s (by omega) (by omega)) b6, hs, kI_sm (Sm_sub s2 (by omega) (by omega)) b8, pgI_sm (Sm_sub s2 (by omega) (by omega)) b9, dr_sm (Sm_sub s2 (by omega) (by omega)) b10⟩
/-- one process and its outlook -/
theorem cIv_p {A : List Nat} {p n : Nat} {w : Nat → Nat} (hv : wfV v) (hn : n ≤ 8) (hp : p < 4) (hf : Fr h h' A) (hA : ∀ i ∈ A, 66 + 8 * p ≤ i ∧ i ≤ 73 + 8 * p) (hc : cIv h v u np L t cs) (c1 : pW h' (66 + 8 * p) n w) (c2 : oI h' (68 + 8 * p) n w) : cIv h' (setP v p n w) u np L t cs := by
  obtain ⟨b1, b2, b3, b4, b5, b6, b7, b8, b9, b10⟩ := hc
  have s : Sm h h' 1 65 := Sm_fr hf (fun i hi => by have := hA i hi; omega)
  refine ⟨(s 1 (by omega) (by omega)).trans b1, cPR_sm (Sm_sub s (by omega) (by omega)) b2, fun p' hp' => ?_, fun p' hp' => ?_, psI_sm (Sm_sub s (by omega) (by omega)) b5, tI_sm (Sm_sub s (by omega) (by omega)) b6, sI_fr hf (fun i hi => by have := hA i hi; omega) b7, kI_sm (Sm_sub s (by omega) (by omega)) b8, pgI_sm (Sm_sub s (by omega) (by omega)) b9, dr_sm (Sm_sub s (by omega) (by omega)) b10⟩
  · by_cases c : p' = p
    · subst c
      rw [setP_n]
      exact pW_cong c1 (fun j hj => (setP_w v p' n w hj).symm)
    · rw [setP_n' v n w c]
      exact pW_cong (pW_sm (a := 66 + 8 * p') (b := 73 + 8 * p') (Sm_fr hf (fun i hi => by have := hA i hi; omega)) (by omega) (by omega) (b3 p' hp')) (fun j hj => (setP_w' v n w c hj).symm)
  · by_cases c : p' = p
    · subst c
      rw [setP_n]
      exact oI_cong hn (fun j hj => (setP_w v p' n w hj).symm) c2
    · rw [setP_n' v n w c]
      exact oI_cong (hv p' hp').2.1 (fun j hj => (setP_w' v n w c hj).symm) (oI_sm (a := 66 + 8 * p') (b := 73 + 8 * p') (Sm_fr hf (fun i hi => by have := hA i hi; omega)) (by omega) (by omega) (b4 p' hp'))
end CI
