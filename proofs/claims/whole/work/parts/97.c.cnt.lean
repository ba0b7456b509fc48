theorem pCnt_le (cp : Nat → Option Nat) : ∀ q, pCnt cp q ≤ q := by
  intro q
  induction q with
  | zero => exact Nat.le_refl 0
  | succ q ih =>
    show pCnt cp q + (if (cp q).isSome then 1 else 0) ≤ q + 1
    split <;> omega
theorem cnt_loop {σ : St} {t : TH} {n : Nat} (hn : n ≤ 30) (hb : σ.1 22 0 = 1) (h5 : R_stk t σ n) (x : Int32) : ∀ f q, q ≤ 64 → 64 < f + q → M_count_L68 f σ (nI q) (nI (pCnt (tP t 15 0) q)) x = some (nI 64, nI (pCnt (tP t 15 0) 64)) := by
  intro f
  induction f with
  | zero =>
    intro q h1 h2
    exact absurd h2 (by omega)
  | succ f ih =>
    intro q hq hf
    unfold M_count_L68
    rcases Nat.lt_or_ge q 64 with h | h
    · rw [if_neg (show ¬ (64 : Int32) ≤ nI q from fun z => by have := (nI_leI (a := 64) (by omega) (by omega)).mp z; omega), hb, if_neg (show ¬ (1 : Int32) = 0 by decide), chkI_nI h (by omega), nI_nat (by omega), nm_eq, nm_eq, nm_eq, nm_eq]
      have st : pCnt (tP t 15 0) (q + 1) = pCnt (tP t 15 0) q + (if (tP t 15 0 q).isSome then 1 else 0) := rfl
      rcases h5.2.1 hb q h with ⟨g1, g2⟩ | ⟨k, g0, g1, g2⟩
      · rw [g1, if_pos (by decide), nI_1, show (0 : Int32) = nI 0 from rfl, nI_add]
        rw [g2, if_neg (by decide)] at st
        rw [← st]
        exact ih (q + 1) (by omega) (by omega)
      · rw [g1, if_neg (nI_pos (show k < 2 ^ 31 by omega)), nI_1, nI_1]
        rw [g2, if_pos (show (some k).isSome = true from rfl)] at st
        rw [← st]
        exact ih (q + 1) (by omega) (by omega)
    · rw [if_pos (show (64 : Int32) ≤ nI q from (nI_leI (a := 64) (by omega) (by omega)).mpr h), show q = 64 by omega]
theorem cnt_loop0 {σ : St} (hb : σ.1 22 0 = 0) (x : Int32) : ∀ f q, q ≤ 64 → 64 < f + q → M_count_L68 f σ (nI q) 0 x = some (nI 64, 0) := by
  intro f
  induction f with
  | zero =>
    intro q h1 h2
    exact absurd h2 (by omega)
  | succ f ih =>
    intro q hq hf
    unfold M_count_L68
    rcases Nat.lt_or_ge q 64 with h | h
    · rw [if_neg (show ¬ (64 : Int32) ≤ nI q from fun z => by have := (nI_leI (a := 64) (by omega) (by omega)).mp z; omega), hb, if_pos rfl, nm_eq, nm_eq, nI_1]
      exact ih (q + 1) (by omega) (by omega)
    · rw [if_pos (show (64 : Int32) ≤ nI q from (nI_leI (a := 64) (by omega) (by omega)).mpr h), show q = 64 by omega]
theorem pCnt_0 {cp : Nat → Option Nat} : ∀ q, (∀ j, j < q → cp j = none) → pCnt cp q = 0 := by
  intro q
  induction q with
  | zero => intro _; rfl
  | succ q ih =>
    intro h
    show pCnt cp q + (if (cp q).isSome then 1 else 0) = 0
    rw [ih (fun j hj => h j (by omega)), h q (by omega)]
    rfl
theorem p_count {K : List (Nat × Nat)} {t : TH} {σ : St} (h : Rel K t σ) (x : Int32) : ∃ Y, some Y = L_count K t σ x ∧ Rel Y.1 Y.2.1 Y.2.2 := by
  obtain ⟨n, nc, nw, m, d, cb, cq, cd, wc, wd, wf, wt, h1, h2, h3, h4, h5, h6, h7, h8, h9, h10, h11⟩ := h
  refine ⟨(K, t, s1 σ 0 0 0), ?_, ⟨n, nc, nw, m, d, cb, cq, cd, wc, wd, wf, wt, h1, h2, h3, h4, h5, h6, h7, h8, h9, h10, h11⟩⟩
  unfold L_count C_Run_count M_count
  simp only [nm_eq]
  by_cases c0 : x = 0
  · simp only [c0, bnd_some, bnd2_some, nm_eq, nm2_eq, opt_none, opt_some, i10, i01, eq_self, if_true, if_false]
    rw [if_pos (show tS t 8 3 0 = (s1 σ 0 0 0).1 21 0 from h4.2.1.trans h4.2.2.1.symm)]
  by_cases c1 : x = 1
  · simp only [c1, bnd_some, bnd2_some, nm_eq, nm2_eq, opt_none, opt_some, i10, i01, eq_self, if_true, if_false]
    rw [if_pos (show tS t 6 1 0 = (s1 σ 0 0 0).1 20 0 from h6.2.1.trans h6.2.2.1.symm)]
  by_cases c2 : x = 2
  · simp only [c0, c1, if_false]
    simp only [c2, if_true, bnd_some]
    rcases h4.2.2.2.2 with hb | hb
    · rw [show M_count_L68 100000 (s1 σ 0 0 0) 0 0 2 = some (nI 64, 0) from cnt_loop0 (σ := s1 σ 0 0 0) hb 2 100000 0 (by omega) (by omega), bnd_some, nm2_eq, bnd2_some, if_pos]
      rw [h5.2.2, pCnt_0 64 (h5.1 hb)]
      rfl
    · rw [show M_count_L68 100000 (s1 σ 0 0 0) 0 0 2 = some (nI 64, nI (pCnt (tP t 15 0) 64)) from cnt_loop (σ := s1 σ 0 0 0) h6.1 hb h5 2 100000 0 (by omega) (by omega), bnd_some, nm2_eq, bnd2_some, if_pos h5.2.2]
  by_cases c3 : x = 3
  · simp only [c0, c1, c2, if_false]
    simp only [c3, if_true, bnd_some, bnd2_some]
    rw [if_pos (show tS t 11 8 0 = (s1 σ 0 0 0).1 32 0 from h8.2.1.trans h8.2.2.symm)]
  by_cases c4 : x = 4
  · simp only [c0, c1, c2, c3, if_false]
    simp only [c4, if_true, bnd_some, bnd2_some]
    rw [if_pos (show tS t 2 3 0 = (s1 σ 0 0 0).1 41 0 from h9.1.2.1.trans h9.1.2.2.symm)]
  by_cases c5 : x = 5
  · simp only [c0, c1, c2, c3, c4, if_false]
    simp only [c5, if_true, bnd_some, bnd2_some]
    rw [if_pos (show tS t 2 4 0 = (s1 σ 0 0 0).1 42 0 from h9.2.1.2.1.trans h9.2.1.2.2.symm)]
  by_cases c6 : x = 6
  · simp only [c0, c1, c2, c3, c4, c5, if_false]
    simp only [c6, if_true, bnd_some, bnd2_some]
    rw [if_pos (show tS t 4 5 0 = (s1 σ 0 0 0).1 31 0 from h7.2.2.2.2.2.1)]
  by_cases c7 : x = 7
  · simp only [c0, c1, c2, c3, c4, c5, c6, if_false]
    simp only [c7, if_true, bnd_some, bnd2_some]
    obtain ⟨z, g1, g2, g3, g4⟩ := h2
    rw [if_pos (show tS t 9 1 0 = (s1 σ 0 0 0).1 2 0 from g2.trans g3.symm)]
  · simp only [c0, c1, c2, c3, c4, c5, c6, c7, if_false, bnd_some, bnd2_some, if_true]
