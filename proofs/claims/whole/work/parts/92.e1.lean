theorem i10 : ((1 : Int32) = 0) = False := eq_false (by decide)
theorem i01 : ((0 : Int32) = 1) = False := eq_false (by decide)
theorem wi_lo {x lo hi : Int32} (h : x < lo) : C_Run_isWithin x lo hi = some 0 := if_pos h
theorem wi_hi {x lo hi : Int32} (h : hi < x) : C_Run_isWithin x lo hi = some 0 := by
  unfold C_Run_isWithin
  rw [if_pos h]
  split <;> rfl
theorem wi_in {x lo hi : Int32} (h1 : ¬ x < lo) (h2 : ¬ hi < x) : C_Run_isWithin x lo hi = some 1 := by
  unfold C_Run_isWithin
  rw [if_neg h1, if_neg h2]
theorem mi_eq {x lo hi : Int32} : M_isIn x lo hi = C_Run_isWithin x lo hi := rfl
theorem nI_in2 {x : Int32} {M : Int32} {N : Nat} (hM : M = nI N) (hN : N < 2 ^ 31) (h1 : ¬ x < 0) (h2 : ¬ M < x) : ∃ j, j ≤ N ∧ x = nI j := by
  obtain ⟨j, hj, rfl⟩ := nI_of h1
  refine ⟨j, ?_, rfl⟩
  rw [hM, nI_ltI hN hj] at h2
  omega
theorem p_fault {K : List (Nat × Nat)} {t : TH} {σ : St} (h : Rel K t σ) : ∃ Y, some Y = L_fault K t σ ∧ Rel Y.1 Y.2.1 Y.2.2 := by
  obtain ⟨n, nc, nw, m, d, cb, cq, cd, wc, wd, wf, wt, h1, h2, h3, h4, h5, h6, h7, h8, h9, h10, h11⟩ := h
  refine ⟨(K, t, s1 σ 0 0 0), ?_, ⟨n, nc, nw, m, d, cb, cq, cd, wc, wd, wf, wt, h1, h2, h3, h4, h5, h6, h7, h8, h9, h10, h11⟩⟩
  unfold L_fault C_Run_fault M_fault
  rw [bnd_some, nm_eq, bnd2_some, if_pos (show tS t 5 2 0 = (s1 σ 0 0 0).1 29 0 from h7.2.2.2.2.2.2)]
theorem p_wait {K : List (Nat × Nat)} {t : TH} {σ : St} (h : Rel K t σ) (x : Int32) : ∃ Y, some Y = L_wait K t σ x ∧ Rel Y.1 Y.2.1 Y.2.2 := by
  obtain ⟨n, nc, nw, m, d, cb, cq, cd, wc, wd, wf, wt, h1, h2, h3, h4, h5, h6, h7, h8, h9, h10, h11⟩ := h
  unfold L_wait C_Run_wait M_wait
  by_cases a : x < 0
  · simp only [wi_lo a, a, bnd_some, bnd2_some, nm_eq, nm2_eq, opt_none, opt_some, i10, i01, eq_self, if_true, if_false]
    exact ⟨(K, t, s1 σ 0 0 0), rfl, ⟨n, nc, nw, m, d, cb, cq, cd, wc, wd, wf, wt, h1, h2, h3, h4, h5, h6, h7, h8, h9, h10, h11⟩⟩
  · by_cases b : 999 < x
    · simp only [wi_hi b, a, b, bnd_some, bnd2_some, nm_eq, nm2_eq, opt_none, opt_some, i10, i01, eq_self, if_true, if_false]
      exact ⟨(K, t, s1 σ 0 0 0), rfl, ⟨n, nc, nw, m, d, cb, cq, cd, wc, wd, wf, wt, h1, h2, h3, h4, h5, h6, h7, h8, h9, h10, h11⟩⟩
    · obtain ⟨j, hj, rfl⟩ := nI_in2 (N := 999) rfl (by omega) a b
      obtain ⟨g1, g2, g3⟩ := h8
      have g3' : (s1 σ 0 0 0).1 32 0 = nI d := g3
      simp only [wi_in a b, a, b, bnd_some, bnd2_some, nm_eq, nm2_eq, opt_none, opt_some, i10, i01, eq_self, if_true, if_false]
      rw [g2, g3', nI_add]
      by_cases c : d + j ≤ 999
      · have c' : nI (d + j) ≤ 999 := (nI_leI (b := 999) (by omega) (by omega)).mpr c
        simp only [c', bnd_some, bnd2_some, nm_eq, nm2_eq, opt_none, opt_some, i10, i01, eq_self, if_true, if_false]
        refine ⟨(K, uS t 11 8 0 (nI (d + j)), s1 (s1 σ 0 0 0) 32 0 (nI (d + j))), rfl, ⟨n, nc, nw, m, d + j, cb, cq, cd, wc, wd, wf, wt, h1, h2, h3, h4, h5, h6, h7, ?_, ?_, h10, h11⟩⟩
        · exact ⟨c, rfl, rfl⟩
        · obtain ⟨q1, q2, q3, q4, q5⟩ := h9
          refine ⟨q1, q2, fun k hk => ?_, q4, q5⟩
          obtain ⟨r1, r2, r3, r4, r5⟩ := q3 k hk
          exact ⟨r1, r2, r3, ⟨Nat.le_trans r4.1 (Nat.le_add_right d j), r4.2⟩, r5⟩
      · have c' : ¬ nI (d + j) ≤ 999 := fun z => c ((nI_leI (b := 999) (by omega) (by omega)).mp z)
        simp only [c', bnd_some, bnd2_some, nm_eq, nm2_eq, opt_none, opt_some, i10, i01, eq_self, if_true, if_false]
        exact ⟨(K, t, s1 σ 0 0 0), rfl, ⟨n, nc, nw, m, d, cb, cq, cd, wc, wd, wf, wt, h1, h2, h3, h4, h5, h6, h7, ⟨g1, g2, g3⟩, h9, h10, h11⟩⟩
theorem p_end {K : List (Nat × Nat)} {t : TH} {σ : St} (h : Rel K t σ) (x : Int32) : ∃ Y, some Y = L_end K t σ x ∧ Rel Y.1 Y.2.1 Y.2.2 := by
  obtain ⟨n, nc, nw, m, d, cb, cq, cd, wc, wd, wf, wt, h1, h2, h3, h4, h5, h6, h7, h8, h9, h10, h11⟩ := h
  unfold L_end C_Run_end M_end
  by_cases a : x < 0
  · simp only [a, bnd_some, bnd2_some, nm_eq, nm2_eq, opt_none, opt_some, i10, i01, eq_self, if_true, if_false]
    exact ⟨(K, t, s1 σ 0 0 0), rfl, ⟨n, nc, nw, m, d, cb, cq, cd, wc, wd, wf, wt, h1, h2, h3, h4, h5, h6, h7, h8, h9, h10, h11⟩⟩
  · obtain ⟨j, hj, rfl⟩ := nI_of a
    obtain ⟨z, g1, g2, g3, g4⟩ := h2
    have g3' : (s1 σ 0 0 0).1 2 0 = nI z := g3
    simp only [a, bnd_some, bnd2_some, nm_eq, nm2_eq, opt_none, opt_some, i10, i01, eq_self, if_true, if_false]
    rw [g2, g3']
    by_cases c : nI j ≤ nI z
    · simp only [c, bnd_some, bnd2_some, nm_eq, nm2_eq, opt_none, opt_some, i10, i01, eq_self, if_true, if_false]
      refine ⟨(K, uS t 9 1 0 (nI j), s1 (s1 σ 0 0 0) 2 0 (nI j)), rfl, ⟨n, nc, nw, m, d, cb, cq, cd, wc, wd, wf, wt, h1, ⟨j, ?_, rfl, rfl, g4⟩, h3, h4, h5, h6, h7, h8, h9, h10, h11⟩⟩
      have := (nI_leI hj (by omega)).mp c
      omega
    · simp only [c, bnd_some, bnd2_some, nm_eq, nm2_eq, opt_none, opt_some, i10, i01, eq_self, if_true, if_false]
      exact ⟨(K, t, s1 σ 0 0 0), rfl, ⟨n, nc, nw, m, d, cb, cq, cd, wc, wd, wf, wt, h1, ⟨z, g1, g2, g3, g4⟩, h3, h4, h5, h6, h7, h8, h9, h10, h11⟩⟩
theorem p_at {K : List (Nat × Nat)} {t : TH} {σ : St} {n m : Nat} (hl : R_len t) (hp : R_ppl K t σ n m) (x : Int32) : (∃ k, k < n ∧ x = nI k ∧ C_People_at K t x = some (some k) ∧ M_isPerson σ x = some 1 ∧ R_one K t σ m k) ∨ (C_People_at K t x = some none ∧ M_isPerson σ x = some 0) := by
  obtain ⟨p1, p2, p3, p4, p5⟩ := hp
  unfold C_People_at M_isPerson
  rw [p2, p3]
  rcases pk_ix x (n := n) (by omega) with h | h | ⟨k, hk, rfl⟩
  · right
    simp only [h, if_true]
    exact ⟨trivial, trivial⟩
  · right
    simp only [h, if_true]
    constructor <;> split <;> rfl
  · left
    refine ⟨k, hk, rfl, ?_, ?_, p4 k hk⟩
    · have e := (p4 k hk).1.2.1
      rw [hl.2.2.2.2.2.2.1]
      simp (disch := omega) only [lit_nI, neg_nN, neg_nI1, nI_nat, chkI_nI, bnd_some, bnd2_some, nm_eq, nm2_eq, opt_none, opt_some, nI_add, pk_mul, nI_ltI, nI_leI, nI_eq, nN_ne, nN_ne', nN_lt, nN_nlt, nN_le, nN_nle, ltT, ltF, leT, leF, eqT, eqF, tS_uS, tS_uL, tS_uP, tL_uS, tL_uP, tP_uS, tP_uL, tN_uS, tN_uL, tN_uP, tL_uL, tP_uP, s1_1, s1_2, s2_1, s2_2, e, if_false]
    · simp (disch := omega) only [lit_nI, neg_nN, neg_nI1, nI_nat, chkI_nI, bnd_some, bnd2_some, nm_eq, nm2_eq, opt_none, opt_some, nI_add, pk_mul, nI_ltI, nI_leI, nI_eq, nN_ne, nN_ne', nN_lt, nN_nlt, nN_le, nN_nle, ltT, ltF, leT, leF, eqT, eqF, tS_uS, tS_uL, tS_uP, tL_uS, tL_uP, tP_uS, tP_uL, tN_uS, tN_uL, tN_uP, tL_uL, tP_uP, s1_1, s1_2, s2_1, s2_2, if_false]
theorem p_drawn {K : List (Nat × Nat)} {t : TH} {σ : St} (h : Rel K t σ) (x : Int32) : ∃ Y, some Y = L_drawn K t σ x ∧ Rel Y.1 Y.2.1 Y.2.2 := by
  obtain ⟨n, nc, nw, m, d, cb, cq, cd, wc, wd, wf, wt, h1, h2, h3, h4, h5, h6, h7, h8, h9, h10, h11⟩ := h
  refine ⟨(K, t, s1 σ 0 0 0), ?_, ⟨n, nc, nw, m, d, cb, cq, cd, wc, wd, wf, wt, h1, h2, h3, h4, h5, h6, h7, h8, h9, h10, h11⟩⟩
  unfold L_drawn C_Run_drawn M_drawn
  have h6' : R_ppl K t (s1 σ 0 0 0) n m := h6
  rcases p_at h1 h6' x with ⟨k, hk, rfl, e1, e2, e3⟩ | ⟨e1, e2⟩
  · have hk30 : k < 30 := Nat.lt_of_lt_of_le hk h6.1
    simp only [e1, e2, bnd_some, bnd2_some, nm_eq, nm2_eq, opt_none, opt_some, i10, i01, eq_self, if_true, if_false, chkP_t e3.1.1]
    rw [chkI_nI hk30 (by omega), nI_nat (by omega), e3.2.2.2.2.2.2.2.1]
    by_cases c : (s1 σ 0 0 0).1 51 0 = 0
    · simp only [c, bnd_some, bnd2_some, nm_eq, nm2_eq, opt_none, opt_some, i10, i01, eq_self, if_true, if_false]
    · simp only [c, bnd_some, bnd2_some, nm_eq, nm2_eq, opt_none, opt_some, i10, i01, eq_self, if_true, if_false]
  · simp only [e1, e2, bnd_some, bnd2_some, nm_eq, nm2_eq, opt_none, opt_some, i10, i01, eq_self, if_true, if_false]
theorem p_bought {K : List (Nat × Nat)} {t : TH} {σ : St} (h : Rel K t σ) (x : Int32) : ∃ Y, some Y = L_bought K t σ x ∧ Rel Y.1 Y.2.1 Y.2.2 := by
  obtain ⟨n, nc, nw, m, d, cb, cq, cd, wc, wd, wf, wt, h1, h2, h3, h4, h5, h6, h7, h8, h9, h10, h11⟩ := h
  refine ⟨(K, t, s1 σ 0 0 0), ?_, ⟨n, nc, nw, m, d, cb, cq, cd, wc, wd, wf, wt, h1, h2, h3, h4, h5, h6, h7, h8, h9, h10, h11⟩⟩
  unfold L_bought C_Run_bought M_bought
  have h6' : R_ppl K t (s1 σ 0 0 0) n m := h6
  rcases p_at h1 h6' x with ⟨k, hk, rfl, e1, e2, e3⟩ | ⟨e1, e2⟩
  · have hk30 : k < 30 := Nat.lt_of_lt_of_le hk h6.1
    simp only [e1, e2, bnd_some, bnd2_some, nm_eq, nm2_eq, opt_none, opt_some, i10, i01, eq_self, if_true, if_false, chkP_t e3.1.1]
    rw [e3.2.2.2.2.2.2.2.2]
    by_cases c : k < 8
    · have c' : ¬ (8 : Int32) ≤ nI k := fun z => by
        have := (nI_leI (a := 8) (by omega) (by omega)).mp z
        omega
      simp only [c, c', bnd_some, bnd2_some, nm_eq, nm2_eq, opt_none, opt_some, i10, i01, eq_self, if_true, if_false]
      rw [chkI_nI c (by omega), nI_nat (by omega)]
      simp only [bnd_some, bnd2_some, nm_eq, nm2_eq, opt_none, opt_some, i10, i01, eq_self, if_true, if_false]
    · have c' : (8 : Int32) ≤ nI k := (nI_leI (a := 8) (by omega) (by omega)).mpr (by omega)
      simp only [c, c', bnd_some, bnd2_some, nm_eq, nm2_eq, opt_none, opt_some, i10, i01, eq_self, if_true, if_false]
  · simp only [e1, e2, bnd_some, bnd2_some, nm_eq, nm2_eq, opt_none, opt_some, i10, i01, eq_self, if_true, if_false]
theorem p_stk {K : List (Nat × Nat)} {t : TH} {σ : St} {n m : Nat} (h1 : R_len t) (h5 : R_stk t σ n) (h6 : R_ppl K t σ n m) {q : Nat} (hq : q < 64) (hb : σ.1 22 0 = 1) : C_Land_stakerOf K t (nI q) = some (σ.1 7 q) := by
  unfold C_Land_stakerOf
  rw [h1.2.2.2.2.2.1]
  simp (disch := omega) only [lit_nI, neg_nN, neg_nI1, nI_nat, chkI_nI, bnd_some, bnd2_some, nm_eq, nm2_eq, opt_none, opt_some, nI_add, pk_mul, nI_ltI, nI_leI, nI_eq, nN_ne, nN_ne', nN_lt, nN_nlt, nN_le, nN_nle, ltT, ltF, leT, leF, eqT, eqF, tS_uS, tS_uL, tS_uP, tL_uS, tL_uP, tP_uS, tP_uL, tN_uS, tN_uL, tN_uP, tL_uL, tP_uP, s1_1, s1_2, s2_1, s2_2, if_false]
  rcases h5.2.1 hb q hq with ⟨g1, g2⟩ | ⟨k, g1, g2, g3⟩
  · rw [g2, g1]; rfl
  · rw [g3, opt_some, chkP_t (h6.2.2.2.1 k g1).1.1, g2, (h6.2.2.2.1 k g1).1.2.2]
theorem p_staked {K : List (Nat × Nat)} {t : TH} {σ : St} (h : Rel K t σ) (x : Int32) : ∃ Y, some Y = L_staked K t σ x ∧ Rel Y.1 Y.2.1 Y.2.2 := by
  obtain ⟨n, nc, nw, m, d, cb, cq, cd, wc, wd, wf, wt, h1, h2, h3, h4, h5, h6, h7, h8, h9, h10, h11⟩ := h
  refine ⟨(K, t, s1 σ 0 0 0), ?_, ⟨n, nc, nw, m, d, cb, cq, cd, wc, wd, wf, wt, h1, h2, h3, h4, h5, h6, h7, h8, h9, h10, h11⟩⟩
  unfold L_staked C_Run_staked M_staked M_isQuarter
  rcases pk_ix x (n := 64) (by omega) with a | a | ⟨q, hq, rfl⟩
  · unfold C_Land_stakerOf
    simp only [a, bnd_some, bnd2_some, nm_eq, nm2_eq, opt_none, opt_some, i10, i01, eq_self, if_true, if_false]
  · have a' : (64 : Int32) ≤ x := a
    unfold C_Land_stakerOf
    rw [h1.2.2.2.2.2.1]
    by_cases b : x < 0
    · simp only [b, bnd_some, bnd2_some, nm_eq, nm2_eq, opt_none, opt_some, i10, i01, eq_self, if_true, if_false]
    · simp only [a, a', b, bnd_some, bnd2_some, nm_eq, nm2_eq, opt_none, opt_some, i10, i01, eq_self, if_true, if_false]
  · have e0 : ¬ nI q < 0 := nI_pos (by omega)
    have e1 : ¬ (64 : Int32) ≤ nI q := fun z => by
      have := (nI_leI (a := 64) (by omega) (by omega)).mp z
      omega
    simp only [e0, e1, bnd_some, bnd2_some, nm_eq, nm2_eq, opt_none, opt_some, i10, i01, eq_self, if_true, if_false]
    simp only [chkI_nI hq (show 64 < 2 ^ 31 by omega), nI_nat (show q < 2 ^ 31 by omega)]
    rcases h4.2.2.2.2 with hb | hb
    · have hb' : (s1 σ 0 0 0).1 22 0 = 0 := hb
      have e2 : C_Land_stakerOf K t (nI q) = some (-1) := by
        unfold C_Land_stakerOf
        rw [h1.2.2.2.2.2.1]
        simp (disch := omega) only [lit_nI, neg_nN, neg_nI1, nI_nat, chkI_nI, bnd_some, bnd2_some, nm_eq, nm2_eq, opt_none, opt_some, nI_add, pk_mul, nI_ltI, nI_leI, nI_eq, nN_ne, nN_ne', nN_lt, nN_nlt, nN_le, nN_nle, ltT, ltF, leT, leF, eqT, eqF, tS_uS, tS_uL, tS_uP, tL_uS, tL_uP, tP_uS, tP_uL, tN_uS, tN_uL, tN_uP, tL_uL, tP_uP, s1_1, s1_2, s2_1, s2_2, if_false, h5.1 hb q hq]
      simp only [e2, hb', bnd_some, bnd2_some, nm_eq, nm2_eq, opt_none, opt_some, i10, i01, eq_self, if_true, if_false]
    · have hb' : ¬ (s1 σ 0 0 0).1 22 0 = 0 := fun z => by
        have z' : σ.1 22 0 = 0 := z
        rw [hb] at z'
        exact absurd z' (by decide)
      rw [p_stk h1 h5 h6 hq hb]
      simp only [hb', bnd_some, bnd2_some, nm_eq, nm2_eq, opt_none, opt_some, i10, i01, eq_self, if_true, if_false]
      rw [if_pos (show σ.1 7 q = (s1 σ 0 0 0).1 7 q from rfl)]
theorem p_land {K : List (Nat × Nat)} {t : TH} {σ : St} (h : Rel K t σ) (x y z : Int32) : ∃ Y, some Y = L_land K t σ x y z ∧ Rel Y.1 Y.2.1 Y.2.2 := by
  obtain ⟨n, nc, nw, m, d, cb, cq, cd, wc, wd, wf, wt, h1, h2, h3, h4, h5, h6, h7, h8, h9, h10, h11⟩ := h
  have hdef : ∃ Y, some Y = some (K, t, s1 σ 0 0 0) ∧ Rel Y.1 Y.2.1 Y.2.2 := ⟨_, rfl, ⟨n, nc, nw, m, d, cb, cq, cd, wc, wd, wf, wt, h1, h2, h3, h4, h5, h6, h7, h8, h9, h10, h11⟩⟩
  unfold L_land C_Run_land M_land C_Run_isQuarter
  have eb : tS t 8 2 0 = (s1 σ 0 0 0).1 22 0 := h4.2.2.2.1
  rw [eb]
  by_cases b : (s1 σ 0 0 0).1 22 0 = 0
  · simp only [b, mi_eq, bnd_some, bnd2_some, nm_eq, nm2_eq, opt_none, opt_some, i10, i01, eq_self, if_true, if_false]
    have eq0 : M_isQuarter x = C_Run_isWithin x 0 63 := by
      unfold M_isQuarter C_Run_isWithin
      by_cases a : x < 0
      · simp only [a, if_true]
      · obtain ⟨j, hj, rfl⟩ := nI_of a
        simp (disch := omega) only [lit_nI, neg_nN, neg_nI1, nI_nat, chkI_nI, bnd_some, bnd2_some, nm_eq, nm2_eq, opt_none, opt_some, nI_add, pk_mul, nI_ltI, nI_leI, nI_eq, nN_ne, nN_ne', nN_lt, nN_nlt, nN_le, nN_nle, ltT, ltF, leT, leF, eqT, eqF, tS_uS, tS_uL, tS_uP, tL_uS, tL_uP, tP_uS, tP_uL, tN_uS, tN_uL, tN_uP, tL_uL, tP_uP, s1_1, s1_2, s2_1, s2_2]
        by_cases c : 64 ≤ j
        · simp only [c, show (63 < j) = True from eq_true (by omega), if_true]
        · simp only [c, show (63 < j) = False from eq_false (by omega), if_false]
    rw [eq0]
    by_cases a1 : x < 0
    · simp only [wi_lo a1, chkZ_0, bnd_some, bnd2_some, nm_eq, nm2_eq, opt_none, opt_some, i10, i01, eq_self, if_true, if_false]; exact hdef
    · by_cases a2 : 63 < x
      · simp only [wi_hi a2, chkZ_0, bnd_some, bnd2_some, nm_eq, nm2_eq, opt_none, opt_some, i10, i01, eq_self, if_true, if_false]; exact hdef
      · simp only [wi_in a1 a2, chkZ_1, bnd_some, bnd2_some, nm_eq, nm2_eq, opt_none, opt_some, i10, i01, eq_self, if_true, if_false]
        by_cases b1 : y < 0
        · simp only [wi_lo b1, bnd_some, bnd2_some, nm_eq, nm2_eq, opt_none, opt_some, i10, i01, eq_self, if_true, if_false]; exact hdef
        · by_cases b2 : 99 < y
          · simp only [wi_hi b2, bnd_some, bnd2_some, nm_eq, nm2_eq, opt_none, opt_some, i10, i01, eq_self, if_true, if_false]; exact hdef
          · simp only [wi_in b1 b2, bnd_some, bnd2_some, nm_eq, nm2_eq, opt_none, opt_some, i10, i01, eq_self, if_true, if_false]
            by_cases c1 : z < 0
            · simp only [wi_lo c1, bnd_some, bnd2_some, nm_eq, nm2_eq, opt_none, opt_some, i10, i01, eq_self, if_true, if_false]; exact hdef
            · by_cases c2 : 3 < z
              · simp only [wi_hi c2, bnd_some, bnd2_some, nm_eq, nm2_eq, opt_none, opt_some, i10, i01, eq_self, if_true, if_false]; exact hdef
              · simp only [wi_in c1 c2, bnd_some, bnd2_some, nm_eq, nm2_eq, opt_none, opt_some, i10, i01, eq_self, if_true, if_false]
                obtain ⟨q, hq, rfl⟩ := nI_in2 (N := 63) rfl (by omega) a1 a2
                obtain ⟨w, hw, rfl⟩ := nI_in2 (N := 99) rfl (by omega) b1 b2
                obtain ⟨r, hr, rfl⟩ := nI_in2 (N := 3) rfl (by omega) c1 c2
                unfold C_Land_shape
                rw [h1.2.1, h1.2.2.1]
                simp (disch := omega) only [chkI_nI, nI_nat, a1, bnd_some, bnd2_some, nm_eq, nm2_eq, opt_none, opt_some, i10, i01, eq_self, if_true, if_false, show (nI 64 ≤ nI q) = False from eq_false (fun z => by have := (nI_leI (by omega) (by omega)).mp z; omega), show tN (uS t 13 1 q (nI w)) 13 2 = 64 from h1.2.2.1]
                refine ⟨_, rfl, ⟨n, nc, nw, m, d, cb, cq, cd, wc, wd, wf, wt, h1, h2, fun j hj => ?_, h4, h5, h6, h7, h8, h9, h10, h11⟩⟩
                obtain ⟨g1, g2⟩ := h3 j hj
                show (∃ w', w' ≤ 99 ∧ tS (uS (uS t 13 1 q (nI w)) 13 2 q (nI r)) 13 1 j = nI w' ∧ (s1 (s1 (s1 σ 0 0 0) 5 q (nI w)) 6 q (nI r)).1 5 j = nI w') ∧ ∃ r', r' ≤ 3 ∧ tS (uS (uS t 13 1 q (nI w)) 13 2 q (nI r)) 13 2 j = nI r' ∧ (s1 (s1 (s1 σ 0 0 0) 5 q (nI w)) 6 q (nI r)).1 6 j = nI r'
                simp only [tS_uS, s1_1]
                by_cases e : j = q
                · subst e
                  exact ⟨⟨w, hw, by simp, by simp⟩, ⟨r, hr, by simp, by simp⟩⟩
                · simpa [e] using ⟨g1, g2⟩
  · simp only [b, bnd_some, bnd2_some, nm_eq, nm2_eq, opt_none, opt_some, i10, i01, eq_self, if_true, if_false]
    exact hdef
