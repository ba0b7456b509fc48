theorem pl_eq {K : List (Nat × Nat)} {t : TH} {σ : St} {m k : Nat} (h : R_one K t σ m k) : C_Person_place K t k = some (σ.1 8 k) := by
  unfold C_Person_place
  rw [chkP_t h.1.1]
  obtain ⟨r, hr, a1, a2, a3⟩ := h.2.2.2.2.1
  rcases a3 with ⟨b1, b2⟩ | ⟨c, hc, b1, b2⟩
  · rw [b1, b2, if_neg (by decide)]
  · rw [b1, b2, a1, if_pos (nI_pos' (show c < 2 ^ 31 by omega)), show (8 : Int32) = nI 8 from rfl, pk_mul, nI_add, Nat.mul_comm]
theorem p_runner {K : List (Nat × Nat)} {t : TH} {σ : St} (h : Rel K t σ) (x y : Int32) : ∃ Y, some Y = L_runner K t σ x y ∧ Rel Y.1 Y.2.1 Y.2.2 := by
  obtain ⟨n, nc, nw, m, d, cb, cq, cd, wc, wd, wf, wt, h1, h2, h3, h4, h5, h6, h7, h8, h9, h10, h11⟩ := h
  unfold L_runner C_Run_runner M_runner M_runner_B1 M_throwsIf M_thrown
  have thr : ∀ (o : Option Int32), o = none → ∃ Y, some Y = (bnd2 (some ((0 : Int32), s1 σ 0 0 1)) (fun b σ1 => bnd (some (σ1.1 0 0)) (fun h => match o with
    | none => if h = 1 then some (K, t, σ1) else none
    | some v => if h = 0 then (if v = b then some (K, t, σ1) else none) else none))) ∧ Rel Y.1 Y.2.1 Y.2.2 := fun o ho => by
    subst ho
    exact ⟨(K, t, s1 σ 0 0 1), rfl, ⟨n, nc, nw, m, d, cb, cq, cd, wc, wd, wf, wt, h1, h2, h3, h4, h5, h6, h7, h8, h9, h10, h11⟩⟩
  have ok : ∀ (v : Int32), ∃ Y, some Y = (bnd2 (some (v, s1 σ 0 0 0)) (fun b σ1 => bnd (some (σ1.1 0 0)) (fun h => match some v with
    | none => if h = 1 then some (K, t, σ1) else none
    | some v => if h = 0 then (if v = b then some (K, t, σ1) else none) else none))) ∧ Rel Y.1 Y.2.1 Y.2.2 := fun v => by
    refine ⟨(K, t, s1 σ 0 0 0), ?_, ⟨n, nc, nw, m, d, cb, cq, cd, wc, wd, wf, wt, h1, h2, h3, h4, h5, h6, h7, h8, h9, h10, h11⟩⟩
    show _ = (if (0 : Int32) = 0 then (if v = v then some (K, t, s1 σ 0 0 0) else none) else none)
    rw [if_pos rfl, if_pos rfl]
  rcases p_at h1 h6 x with ⟨k, hk, rfl, e1, e2, e3⟩ | ⟨e1, e2⟩
  · have hk30 : k < 30 := Nat.lt_of_lt_of_le hk h6.1
    simp only [e1, e2, bnd_some, opt_some, chkP_t e3.1.1, i10, if_false, nm_eq]
    rcases pk_ix y (n := 6) (by omega) with a | a | ⟨j, hj, rfl⟩
    · simp only [a, if_true, bnd_some, i10, if_false, chkZ_1, bnd2_some]
      have n0 : ¬ y = 0 := fun z => by rw [z] at a; exact absurd a (by decide)
      have n1 : ¬ y = 1 := fun z => by rw [z] at a; exact absurd a (by decide)
      have n2 : ¬ y = 2 := fun z => by rw [z] at a; exact absurd a (by decide)
      have n3 : ¬ y = 3 := fun z => by rw [z] at a; exact absurd a (by decide)
      have n4 : ¬ y = 4 := fun z => by rw [z] at a; exact absurd a (by decide)
      have n5 : ¬ y = 5 := fun z => by rw [z] at a; exact absurd a (by decide)
      simp only [n0, n1, n2, n3, n4, n5, if_false, bnd_some]
      exact thr none rfl
    · have n0 : ¬ y = 0 := fun z => by rw [z] at a; exact absurd a (by decide)
      have n1 : ¬ y = 1 := fun z => by rw [z] at a; exact absurd a (by decide)
      have n2 : ¬ y = 2 := fun z => by rw [z] at a; exact absurd a (by decide)
      have n3 : ¬ y = 3 := fun z => by rw [z] at a; exact absurd a (by decide)
      have n4 : ¬ y = 4 := fun z => by rw [z] at a; exact absurd a (by decide)
      have n5 : ¬ y = 5 := fun z => by rw [z] at a; exact absurd a (by decide)
      have a0 : ¬ y < 0 := fun z => absurd (Int32.lt_of_le_of_lt a z) (by decide)
      have a5 : ¬ y ≤ 5 := fun z => absurd (Int32.le_trans a z) (by decide)
      simp only [n0, n1, n2, n3, n4, n5, a0, a5, if_false, bnd_some, i10, chkZ_1, bnd2_some]
      exact thr none rfl
    · have a0 : ¬ nI j < 0 := nI_pos (by omega)
      have a5 : nI j ≤ 5 := (nI_leI (b := 5) (by omega) (by omega)).mpr (by omega)
      simp only [a0, a5, if_false, if_true, bnd_some, chkZ_0, bnd2_some]
      rcases (show j = 0 ∨ j = 1 ∨ j = 2 ∨ j = 3 ∨ j = 4 ∨ j = 5 by omega) with rfl | rfl | rfl | rfl | rfl | rfl
      · rw [if_pos (show nI 0 = 0 from rfl), if_pos (show nI 0 = 0 from rfl), pl_eq e3, chkI_nI hk30 (by omega), nI_nat (by omega)]
        exact ok _
      · rw [if_neg (show ¬ nI 1 = 0 by decide), if_neg (show ¬ nI 1 = 0 by decide), if_pos (show nI 1 = 1 from rfl), if_pos (show nI 1 = 1 from rfl), chkI_nI hk30 (by omega), nI_nat (by omega), e3.2.2.2.2.2.1.1]
        exact ok _
      · rw [if_neg (show ¬ nI 2 = 0 by decide), if_neg (show ¬ nI 2 = 0 by decide), if_neg (show ¬ nI 2 = 1 by decide), if_neg (show ¬ nI 2 = 1 by decide), if_pos (show nI 2 = 2 from rfl), if_pos (show nI 2 = 2 from rfl), chkI_nI hk30 (by omega), nI_nat (by omega), e3.2.2.2.2.2.1.2.2.1]
        exact ok _
      · rw [if_neg (show ¬ nI 3 = 0 by decide), if_neg (show ¬ nI 3 = 0 by decide), if_neg (show ¬ nI 3 = 1 by decide), if_neg (show ¬ nI 3 = 1 by decide), if_neg (show ¬ nI 3 = 2 by decide), if_neg (show ¬ nI 3 = 2 by decide), if_pos (show nI 3 = 3 from rfl), if_pos (show nI 3 = 3 from rfl), chkI_nI hk30 (by omega), nI_nat (by omega), e3.2.2.2.2.2.1.2.2.2.1]
        exact ok _
      · rw [if_neg (show ¬ nI 4 = 0 by decide), if_neg (show ¬ nI 4 = 0 by decide), if_neg (show ¬ nI 4 = 1 by decide), if_neg (show ¬ nI 4 = 1 by decide), if_neg (show ¬ nI 4 = 2 by decide), if_neg (show ¬ nI 4 = 2 by decide), if_neg (show ¬ nI 4 = 3 by decide), if_neg (show ¬ nI 4 = 3 by decide), if_pos (show nI 4 = 4 from rfl), if_pos (show nI 4 = 4 from rfl), ms_eq (σ := s1 σ 0 0 0) hk30, e3.2.2.2.2.2.1.2.2.2.2.1, bc_eq]
        exact ok _
      · rw [if_neg (show ¬ nI 5 = 0 by decide), if_neg (show ¬ nI 5 = 0 by decide), if_neg (show ¬ nI 5 = 1 by decide), if_neg (show ¬ nI 5 = 1 by decide), if_neg (show ¬ nI 5 = 2 by decide), if_neg (show ¬ nI 5 = 2 by decide), if_neg (show ¬ nI 5 = 3 by decide), if_neg (show ¬ nI 5 = 3 by decide), if_neg (show ¬ nI 5 = 4 by decide), if_neg (show ¬ nI 5 = 4 by decide), if_pos (show nI 5 = 5 from rfl), chkI_nI hk30 (by omega), nI_nat (by omega), e3.2.1.1]
        rcases e3.2.1.2 with g | g
        · have g' : (s1 σ 0 0 0).1 19 k = 0 := g
          simp only [g, g', if_true, bnd_some]
          exact ok _
        · have g' : (s1 σ 0 0 0).1 19 k = 1 := g
          simp only [g, g', i10, if_false, bnd_some]
          exact ok _
  · simp only [e1, e2, bnd_some, opt_none, if_true, i10, if_false, nm_eq, chkZ_1, bnd2_some]
    exact thr none rfl
