def tkS (σ : St) (z : Nat) : St := s1 (s1 (s1 (s1 σ 0 0 0) 3 0 (nI z)) 2 0 0) 4 0 0
theorem tk_eq {σ : St} {z : Nat} (h : σ.1 2 0 = nI z) : M_taken (s1 σ 0 0 0) = some (tkS σ z) := by
  unfold M_taken tkS
  simp only [nm_eq]
  rw [show (s1 σ 0 0 0).1 2 0 = nI z from h]
theorem tk_F (σ : St) (z : Nat) : Fx [0, 2, 3, 4] σ (tkS σ z) := Fx_s1 (Fx_s1 (Fx_s1 (Fx_s1 (Fx_rf _ _) (by decide) _ _) (by decide) _ _) (by decide) _ _) (by decide) _ _
theorem tk_3 (σ : St) (z : Nat) : (tkS σ z).1 3 0 = nI z := by
  unfold tkS
  simp (disch := decide) only [s1_oth, s1_e, s1_i, x12, x21]
theorem tk_2 (σ : St) (z : Nat) : (tkS σ z).1 2 0 = nI 0 := by
  unfold tkS
  simp (disch := decide) only [s1_oth, s1_e, s1_i, x12, x21]
  rfl
theorem tk_4 (σ : St) (z : Nat) : (tkS σ z).1 4 0 = nI 0 := by
  unfold tkS
  simp (disch := decide) only [s1_oth, s1_e, s1_i, x12, x21]
  rfl
theorem tape_0 {t t' : TH} {σ σ' : St} (h : R_tape t σ) (e1 : tS t' 9 1 0 = 0) (e2 : tS t' 13 0 = tS t 13 0) (e3 : σ'.1 2 0 = nI 0) (e4 : σ'.1 1 = σ.1 1) : R_tape t' σ' := by
  obtain ⟨z, _, _, _, g4⟩ := h
  refine ⟨0, by omega, e1, e3, ?_⟩
  rw [e2, e4]
  exact g4
theorem bid_C {K : List (Nat × Nat)} {t0 : TH} {k z : Nat} (hK : (7, k) ∈ K) (hz : z ≤ 12) (hsz : tS t0 9 1 0 = nI z) (hlen : tN t0 13 0 = 200) (h18 : tN t0 18 k = z) :
    ∀ (f i : Nat) (t : TH), i ≤ z → z < f + i → ET [(18, k)] [] [] t0 t → (∀ j, j < i → tS t 18 k j = tS t0 13 0 j) → ∃ t' x, C_Tape_copyInto_L2 f K t (nI i) k = some (t', x) ∧ ET [(18, k)] [] [] t0 t' ∧ ∀ j, j < z → tS t' 18 k j = tS t0 13 0 j := by
  intro f
  induction f with
  | zero =>
    intro i t _ h
    exact absurd h (by omega)
  | succ f ih =>
    intro i t hi hf hT hj
    unfold C_Tape_copyInto_L2
    rw [chkP_t hK, hT.2.2.2, h18]
    rcases Nat.lt_or_ge i z with w | w
    · have e13 : tS t 13 0 = tS t0 13 0 := hT.1 13 0 (by simp)
      rw [if_neg (nI_ge w (by omega)), C_at (t := t) (z := z) (by omega) (by rw [hT.1 9 1 (by simp)]; exact hsz) (by rw [hT.2.2.2]; exact hlen) w, bnd_some, chkI_nI w (by omega), nm_eq, nm_eq, nI_nat (show i < 2 ^ 31 by omega), nI_1, e13]
      refine ih (i + 1) _ (by omega) (by omega) (ET_uS hT (by simp) _ _) (fun j hj' => ?_)
      by_cases y : j = i
      · rw [y, tS_e]
      · rw [tS_i _ _ _ _ _ y]
        exact hj j (by omega)
    · rw [if_pos (nI_le w (by omega)), show z = i by omega]
      exact ⟨t, _, rfl, hT, hj⟩
theorem bid_M {σ0 : St} {k z : Nat} (hk : k < 30) (hz : z ≤ 12) (h3 : σ0.1 3 0 = nI z) :
    ∀ (f i : Nat) (σ : St), i ≤ z → z < f + i → Fx [61] σ0 σ → (∀ j, j < i → σ.1 61 (12 * k + j) = σ0.1 1 j &&& 255) → (∀ x, ¬ (12 * k ≤ x ∧ x < 12 * k + 12) → σ.1 61 x = σ0.1 61 x) → ∃ σ' x, M_bid_L34 f σ (nI i) (nI k) = some (σ', x) ∧ Fx [61] σ0 σ' ∧ (∀ j, j < z → σ'.1 61 (12 * k + j) = σ0.1 1 j &&& 255) ∧ ∀ x, ¬ (12 * k ≤ x ∧ x < 12 * k + 12) → σ'.1 61 x = σ0.1 61 x := by
  intro f
  induction f with
  | zero =>
    intro i σ _ h
    exact absurd h (by omega)
  | succ f ih =>
    intro i σ hi hf hF hj hx
    unfold M_bid_L34
    rw [hF.1 3 (by decide), h3]
    rcases Nat.lt_or_ge i z with w | w
    · rw [if_neg (nI_ge w (by omega)), chkI_nI (show i < 200 by omega) (by omega), show (12 : Int32) = nI 12 from rfl, pk_mul, nI_add, chkI_nI (show 12 * k + i < 360 by omega) (by omega), nm_eq, nm_eq, nI_nat (show 12 * k + i < 2 ^ 31 by omega), nI_nat (show i < 2 ^ 31 by omega), nI_1, hF.1 1 (by decide)]
      refine ih (i + 1) _ (by omega) (by omega) (Fx_s1 hF (by decide) _ _) (fun j hj' => ?_) (fun x hx' => ?_)
      · by_cases y : j = i
        · rw [y, s1_e]
        · rw [s1_i _ _ _ _ (by omega)]
          exact hj j (by omega)
      · rw [s1_i _ _ _ _ (by omega)]
        exact hx x hx'
    · rw [if_pos (nI_le w (by omega)), show z = i by omega]
      exact ⟨σ, _, rfl, hF, hj, hx⟩
theorem p_bid {K : List (Nat × Nat)} {t : TH} {σ : St} (h : Rel K t σ) (x : Int32) : ∃ Y, some Y = L_bid K t σ x ∧ Rel Y.1 Y.2.1 Y.2.2 := by
  obtain ⟨n, nc, nw, m, d, cb, cq, cd, wc, wd, wf, wt, h1, h2, h3, h4, h5, h6, h7, h8, h9, h10, h11⟩ := h
  obtain ⟨z, z1, z2, z3, z4⟩ := h2
  have h2 : R_tape t σ := ⟨z, z1, z2, z3, z4⟩
  have hF := tk_F σ z
  have hT : ET [(9, 1)] [] [] t (uS t 9 1 0 0) := ET_uS (ET_rf _ _ _ _) (by decide) _ _
  have h6' : R_ppl K t (tkS σ z) n m := c_ppl h6 (ET_rf [] [] [] t) hF (fun _ w => w)
  have hdef : ∃ Y, some Y = some (K, uS t 9 1 0 0, tkS σ z) ∧ Rel Y.1 Y.2.1 Y.2.2 := ⟨_, rfl, n, nc, nw, m, d, cb, cq, cd, wc, wd, wf, wt, c_len h1 hT, tape_0 h2 (tS_e _ _ _ _ _) (hT.1 13 0 (by decide)) (tk_2 σ z) (hF.1 1 (by decide)), c_land h3 hT hF, c_race h4 hT hF, c_stk h5 hT hF, c_ppl h6 hT hF (fun _ w => w), c_rul h7 hT hF, c_day h8 hT hF, c_court h9 hT hF (fun _ w => w), h10, c_P h11 hT⟩
  unfold L_bid C_Run_bid M_bid
  simp only [nm_eq, tk_eq z3, bnd_some]
  rcases p_at h1 h6' x with ⟨k, hk, rfl, e1, e2, e3⟩ | ⟨e1, e2⟩
  · have hk30 : k < 30 := Nat.lt_of_lt_of_le hk h6.1
    obtain ⟨kn, b1, b2, b3, b4, b5, b6⟩ := (h6.2.2.2.1 k hk).2.2.2.2.2.2.1
    have e17 : (tkS σ z).1 17 k = nI kn := by rw [hF.1 17 (by decide)]; exact b4
    rw [e1, e2, bnd_some, opt_some, bnd_some, chkP_t e3.1.1, if_neg (show ¬ (1 : Int32) = 0 by decide), chkI_nI hk30 (by omega), nI_nat (show k < 2 ^ 31 by omega), e17, tk_3, b2, z2]
    by_cases e : kn = z
    · subst e
      rw [if_pos rfl, if_pos rfl, if_neg (show ¬ (1 : Int32) = 0 by decide)]
      obtain ⟨t1, u, eC, T1, v1⟩ := bid_C e3.1.1 b1 z2 h1.1 b3 100000 0 t (by omega) (by omega) (ET_rf _ _ _ _) (fun j hj => absurd hj (by omega))
      obtain ⟨σ1, v, eM, F1, w1, w2⟩ := bid_M (σ0 := tkS σ kn) hk30 b1 (tk_3 σ kn) 100000 0 (tkS σ kn) (by omega) (by omega) (Fx_rf _ _) (fun j hj => absurd hj (by omega)) (fun _ _ => rfl)
      unfold C_Tape_copyInto
      rw [show C_Tape_copyInto_L2 100000 K t 0 k = some (t1, u) from eC, bnd_some, nm2_eq, bnd_some, show M_bid_L34 100000 (tkS σ kn) 0 (nI k) = some (σ1, v) from eM, bnd_some, nm2_eq, bnd2_some, bnd2_some, if_pos rfl]
      have T2 : ET [(9, 1), (18, k)] [] [] t (uS t1 9 1 0 0) := ET_uS (ET_mono T1 (by simp) (by simp) (by simp)) (by simp) _ _
      have F2 : Fx [0, 2, 3, 4, 61] σ σ1 := Fx_tr (Fx_mono hF (by decide)) (Fx_mono F1 (by decide))
      have e61 : ∀ x, ¬ (12 * k ≤ x ∧ x < 12 * k + 12) → σ1.1 61 x = σ.1 61 x := fun x hx => by rw [w2 x hx, hF.1 61 (by decide)]
      have s1' : (tkS σ kn).1 1 = σ.1 1 := hF.1 1 (by decide)
      have nS : ∀ c f, c ≠ 9 → c ≠ 18 → (c, f) ∉ [(9, 1), (18, k)] := fun c f a b w => by
        simp only [List.mem_cons, List.not_mem_nil, or_false, Prod.mk.injEq] at w
        rcases w with w | w
        · exact a w.1
        · exact b w.1
      refine ⟨(K, uS t1 9 1 0 0, σ1), rfl, n, nc, nw, m, d, cb, cq, cd, wc, wd, wf, wt, c_len h1 T2, tape_0 h2 (tS_e _ _ _ _ _) (T2.1 13 0 (nS _ _ (by decide) (by decide))) (by rw [F1.1 2 (by decide)]; exact tk_2 σ kn) (F2.1 1 (by decide)), c_land h3 T2 F2 (nS _ _ (by decide) (by decide)) (nS _ _ (by decide) (by decide)), c_race h4 T2 F2 (nS _ _ (by decide) (by decide)) (nS _ _ (by decide) (by decide)), c_stk h5 T2 F2 (by decide) (nS _ _ (by decide) (by decide)), ?_, c_rul h7 T2 F2 (by simp) (nS _ _ (by decide) (by decide)), c_day h8 T2 F2 (nS _ _ (by decide) (by decide)), c_court h9 T2 F2 (fun _ w => w) (fun c hc => by
        obtain ⟨c, f⟩ := c
        have hc' : c = 2 ∨ c = 1 ∨ c = 10 := by
          simp only [Sc, List.mem_cons, List.not_mem_nil, or_false, Prod.mk.injEq] at hc
          omega
        exact nS c f (by omega) (by omega)), h10, c_P h11 T2⟩
      obtain ⟨p1, p2, p3, p4, p5, p6⟩ := h6
      have q7 : tS (uS t1 9 1 0 0) 7 = tS t 7 := funext (fun f => T2.1 7 f (nS _ _ (by decide) (by decide)))
      have q17 : tS (uS t1 9 1 0 0) 17 = tS t 17 := funext (fun f => T2.1 17 f (nS _ _ (by decide) (by decide)))
      refine ⟨p1, by rw [T2.1 6 1 (nS _ _ (by decide) (by decide))]; exact p2, by rw [F2.1 20 (by decide)]; exact p3, fun k' hk' => ?_, fun k' a b => ?_, by rw [F2.1 51 (by decide)]; exact p6⟩
      · have q := p4 k' hk'
        unfold R_one R_pos R_goal R_known at q ⊢
        rw [T2.2.1 15 1 (by decide), q7, T2.2.2.1 7 12 (by decide), T2.2.2.2, q17, F2.1 8 (by decide), F2.1 9 (by decide), F2.1 10 (by decide), F2.1 11 (by decide), F2.1 12 (by decide), F2.1 13 (by decide), F2.1 14 (by decide), F2.1 15 (by decide), F2.1 16 (by decide), F2.1 17 (by decide), F2.2, F2.1 19 (by decide), F2.1 50 (by decide), F2.1 51 (by decide), F2.1 59 (by decide)]
        obtain ⟨q1, q2, q3, q4, q5, q6, ⟨kn', c1, c2, c3, c4, c5, c6⟩, q8, q9⟩ := q
        refine ⟨q1, q2, q3, q4, q5, q6, ⟨kn', c1, c2, c3, c4, fun i hi => ?_, c6⟩, q8, q9⟩
        by_cases y : k' = k
        · subst y
          have ek : kn' = kn := c2.symm.trans b2
          subst ek
          obtain ⟨q, b, d1, d2, d3, d4, d5, d6⟩ := c5 i hi
          refine ⟨q, (σ.1 1 i).toBitVec.toNat % 256, d1, d2, d3, by omega, ?_, ?_⟩
          · rw [tS_c _ _ _ _ _ (by decide), v1 i hi, (z4 i (by omega)).1]
            exact bt_and _
          · rw [w1 i hi, s1']
            exact bt_and _
        · obtain ⟨q, b, d1, d2, d3, d4, d5, d6⟩ := c5 i hi
          refine ⟨q, b, d1, d2, d3, d4, ?_, ?_⟩
          · rw [T2.1 18 k' (by simp [y])]
            exact d5
          · rw [e61 _ (by omega)]
            exact d6
      · have q := p5 k' a b
        rw [F2.1 59 (by decide), F2.1 51 (by decide), F2.1 50 (by decide), F2.1 13 (by decide)]
        exact ⟨fun i hi => by rw [e61 _ (by omega)]; exact q.1 i hi, q.2⟩
    · rw [if_neg (fun w => e ((nI_eq (by omega) (by omega)).mp w)), if_neg (fun w => e ((nI_eq (by omega) (by omega)).mp w).symm)]
      simp only [i10, if_true, if_false, bnd2_some]
      exact hdef
  · rw [e1, e2, bnd_some, opt_none, bnd_some]
    simp only [if_true, bnd2_some]
    exact hdef
