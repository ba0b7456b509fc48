theorem stk_P {t t' : TH} {σ σ' : St} {n : Nat} (h : R_stk t σ n) (e1 : tP t' 15 0 = tP t 15 0) (e2 : tS t' 3 3 0 = tS t 3 3 0) (e3 : σ'.1 22 0 = σ.1 22 0) (e4 : σ'.1 7 = σ.1 7) : R_stk t' σ' n := by
  unfold R_stk at *
  rw [e1, e2, e3, e4]
  exact h
theorem pl2 {K : List (Nat × Nat)} {t : TH} {σ : St} {k : Nat} (hK : (7, k) ∈ K) (h : R_pos t σ k) : C_Person_place K t k = some (σ.1 8 k) := by
  unfold C_Person_place
  rw [chkP_t hK]
  obtain ⟨r, hr, a1, a2, a3⟩ := h
  rcases a3 with ⟨b1, b2⟩ | ⟨c, hc, b1, b2⟩
  · rw [b1, b2, if_neg (by decide)]
  · rw [b1, b2, a1, if_pos (nI_pos' (show c < 2 ^ 31 by omega)), show (8 : Int32) = nI 8 from rfl, pk_mul, nI_add, Nat.mul_comm]
theorem see_eq {K : List (Nat × Nat)} {t : TH} {k q : Nat} (hK : (7, k) ∈ K) : C_Person_see K t k (nI q) = some (uL t 7 12 k ((tL t 7 12 k) ||| ((1 : Int64) <<< ((nI q).toInt64 &&& 63)))) := by
  unfold C_Person_see
  rw [chkP_t hK, nm_eq]
theorem ch_L {K : List (Nat × Nat)} {n m : Nat} {kn : Nat → Nat} {Q : Nat → Nat → Nat} {k : Nat} (hk : k < n) :
    ∀ (u f f' τ : Nat) (t : TH) (σ : St), RX K t σ n m kn Q → RE t σ k → R_stk t σ n → unC (σ.2 18 k) (Q k) (kn k) < u → τ + u ≤ 13 → u ≤ f → u ≤ f' →
      ∃ t' σ' a b c, C_Race_chooseGoal_L2 f K t (nI τ) k = some (a, t', b) ∧ a ≤ 2 ∧ M_choose_L0 f' σ (nI k) = some (c, σ') ∧ c ≤ 2 ∧ PF k t t' ∧ SM k σ σ' ∧ RD (m + 1) (m + 36) t' σ' k ∧ R_stk t' σ' n := by
  intro u
  induction u with
  | zero =>
    intro f f' τ t σ _ _ _ h
    exact absurd h (by omega)
  | succ u ih =>
    intro f f' τ t σ hX hE hS hu hτ hf hf'
    obtain ⟨f, rfl⟩ : ∃ g, f = g + 1 := ⟨f - 1, by omega⟩
    obtain ⟨f', rfl⟩ : ∃ g, f' = g + 1 := ⟨f' - 1, by omega⟩
    have hn30 := hX.1.1
    have a1 := (hX.1.2.2.2 k hk).1.1
    obtain ⟨r, bb, hr, eC, eM⟩ := bu_eq hX.1 hX.2.1 hX.2.2.1.1 hX.2.2.2.1 hk hE.1 hE.2.2.2.2
    unfold C_Race_chooseGoal_L2 M_choose_L0
    rw [if_neg (show ¬ (12 : Int32) < nI τ from fun z => by have := (nI_ltI (a := 12) (by omega) (by omega)).mp z; omega), chkP_t a1, eC, bnd_some, eM, bnd_some, nm2_eq, chkI_nI (show k < 30 by omega) (by omega), nI_nat (show k < 2 ^ 31 by omega)]
    simp only [nm_eq]
    have P1 : PF k t (uS t 7 8 k r) := PF_uS (PF_rf _ _) (by decide) _
    have S1 : SM k σ (s1 σ 12 k r) := SM_s1 (SM_rf _ _) (by decide) _
    have X1 := RX_P hX P1 S1
    have E1 : RE (uS t 7 8 k r) (s1 σ 12 k r) k := by
      obtain ⟨p1, p2, p3, p4, p5⟩ := hE
      refine ⟨pos_P p1 (by rw [tS_f _ _ _ _ _ (show 6 ≠ 8 by decide)]) (by rw [tS_f _ _ _ _ _ (show 7 ≠ 8 by decide)]) (by rw [s1_oth _ _ _ _ (by decide)]) (by rw [s1_oth _ _ _ _ (by decide)]), ?_, ?_, ?_, ?_⟩
      · rw [tS_f _ _ _ _ _ (show 9 ≠ 8 by decide), s1_oth _ _ _ _ (by decide)]
        exact p2
      · rw [tS_f _ _ _ _ _ (show 10 ≠ 8 by decide), s1_oth _ _ _ _ (by decide)]
        exact p3
      · rw [tS_f _ _ _ _ _ (show 11 ≠ 8 by decide), s1_oth _ _ _ _ (by decide)]
        exact p4
      · rw [xLS, x12]
        exact p5
    have K1 : R_stk (uS t 7 8 k r) (s1 σ 12 k r) n := stk_P hS (by rw [xPS]) (by rw [tS_c _ _ _ _ _ (by decide)]) (by rw [s1_oth _ _ _ _ (by decide)]) (by rw [s1_oth _ _ _ _ (by decide)])
    rcases hr with rfl | ⟨i, i1, rfl, i2⟩
    · rw [if_pos rfl, if_neg (show ¬ (0 : Int32) ≤ -1 by decide)]
      refine ⟨_, _, 0, _, 0, rfl, by omega, rfl, by omega, P1, S1, ⟨E1.1, ?_, E1.2.1, E1.2.2.1, E1.2.2.2.1, E1.2.2.2.2, Or.inl (s1_e _ _ _ _)⟩, K1⟩
      rw [tS_e, s1_e]
    · have q64 := ((hX.1.2.2.2 k hk).2.2 i i1).1
      rw [if_neg (nNb (show Q k i < 2 ^ 31 by omega)), if_pos (nI_pos' (show Q k i < 2 ^ 31 by omega)), pl2 a1 E1.1, bnd_some]
      by_cases c : nI (Q k i) = (s1 σ 12 k (nI (Q k i))).1 8 k
      · rw [if_pos c, if_pos c]
        obtain ⟨s1', s2'⟩ := sk_eq X1 K1 q64
        rw [s1', bnd_some, chkI_nI q64 (by omega), nI_nat (show Q k i < 2 ^ 31 by omega)]
        rcases s2' with ⟨z1, z2⟩ | ⟨j, z1, z2⟩
        · rw [z1, if_pos rfl, if_neg (show ¬ (0 : Int32) ≤ -1 by decide)]
          obtain ⟨t2, σ2, g1, g2, g3, g4, g5, g6⟩ := st_eq X1 hk E1 q64 c.symm K1 z2
          rw [g1, bnd_some, g2, bnd_some, chkI_nI (show k < 30 by omega) (by omega)]
          exact ⟨t2, σ2, 2, _, 2, rfl, by omega, rfl, by omega, PF_tr P1 g3, SM_tr S1 g4, g5, g6⟩
        · rw [z2, if_neg (nNb (show j < 2 ^ 31 by omega)), if_pos (nI_pos' (show j < 2 ^ 31 by omega)), see_eq a1, bnd_some]
          simp only [chkI_nI (show k < 30 by omega) (show 30 < 2 ^ 31 by omega), nI_1]
          have e12 : tL (uS t 7 8 k (nI (Q k i))) 7 12 k = σ.2 18 k := by rw [xLS]; exact hE.2.2.2.2
          have e18 : (s1 σ 12 k (nI (Q k i))).2 18 k = σ.2 18 k := by rw [x12]
          rw [e12, e18]
          have P2 : PF k t (uL (uS t 7 8 k (nI (Q k i))) 7 12 k (σ.2 18 k ||| ((1 : Int64) <<< ((nI (Q k i)).toInt64 &&& 63)))) := PF_uL P1 _
          have S2 : SM k σ (s2 (s1 σ 12 k (nI (Q k i))) 18 k (σ.2 18 k ||| ((1 : Int64) <<< ((nI (Q k i)).toInt64 &&& 63)))) := SM_s2 S1 _
          have lt := (unC_lt (s := σ.2 18 k) (Q := Q k) q64 (kn k)).2 i i1 rfl i2
          obtain ⟨t2, σ2, a, b, c', g1, g2, g3, g4, g5, g6, g7, g8⟩ := ih f f' (τ + 1) _ _ (RX_P hX P2 S2) ⟨pos_P E1.1 (by rw [xSL]) (by rw [xSL]) (by rw [x21]) (by rw [x21]), by rw [xSL, x21]; exact E1.2.1, by rw [xSL, x21]; exact E1.2.2.1, by rw [xSL, x21]; exact E1.2.2.2.1, by rw [tL_e, s2_e]⟩ (stk_P K1 (by rw [xPL]) (by rw [xSL]) (by rw [x21]) (by rw [x21])) (by rw [s2_e]; omega) (by omega) (by omega) (by omega)
          exact ⟨t2, σ2, a, b, c', g1, g2, g3, g4, PF_tr P2 g5, SM_tr S2 g6, g7, g8⟩
      · rw [if_neg c, if_neg c]
        obtain ⟨t2, σ2, g1, g2, g3, g4, g5, g6, g7, g8⟩ := so_eq X1 hk E1 q64 (tS_e _ _ _ _ _) (s1_e _ _ _ _) (fun z => c z.symm)
        rw [g1, bnd_some, g2, bnd_some, chkI_nI (show k < 30 by omega) (by omega)]
        refine ⟨t2, σ2, 1, _, 1, rfl, by omega, rfl, by omega, PF_tr P1 g3, SM_tr S1 g4, g5, stk_P K1 (by rw [g6]) (by rw [g7]) ?_ g8⟩
        rw [g4.1 22 (by decide)]
theorem ch_eq {K : List (Nat × Nat)} {t : TH} {σ : St} {n m : Nat} {kn : Nat → Nat} {Q : Nat → Nat → Nat} {k : Nat} (hX : RX K t σ n m kn Q) (hk : k < n) (hE : RE t σ k) (hS : R_stk t σ n) : ∃ t' σ', C_Race_chooseGoal K t k = some t' ∧ M_choose σ (nI k) = some σ' ∧ PF k t t' ∧ SM k σ σ' ∧ RD (m + 1) (m + 36) t' σ' k ∧ R_stk t' σ' n := by
  have a3 := (hX.1.2.2.2 k hk).2.1.1
  have ul := unC_le (σ.2 18 k) (Q k) (kn k)
  obtain ⟨t', σ', a, b, c, g1, g2, g3, g4, g5, g6, g7, g8⟩ := ch_L hk 13 100000 100000 0 t σ hX hE hS (by omega) (by omega) (by omega) (by omega)
  refine ⟨t', σ', ?_, ?_, g5, g6, g7, g8⟩
  · unfold C_Race_chooseGoal
    rw [show C_Race_chooseGoal_L2 100000 K t 0 k = some (a, t', b) from g1, bnd_some, nm2_eq, nm2_eq]
    rcases (show a = 0 ∨ a = 1 ∨ a = 2 by omega) with rfl | rfl | rfl <;> rfl
  · unfold M_choose
    rw [g3, bnd_some, nm2_eq]
    rcases (show c = 0 ∨ c = 1 ∨ c = 2 by omega) with rfl | rfl | rfl <;> rfl
theorem ar_eq {K : List (Nat × Nat)} {t : TH} {σ : St} {n m lo hi : Nat} {kn : Nat → Nat} {Q : Nat → Nat → Nat} {k : Nat} (hX : RX K t σ n m kn Q) (hk : k < n) (hD : RD lo hi t σ k) (hg0 : σ.1 12 k ≠ -1) (hS : R_stk t σ n) : ∃ t' σ', C_Race_arrive K t k = some t' ∧ M_comes σ (nI k) = some σ' ∧ PF k t t' ∧ SM k σ σ' ∧ RD (m + 1) (m + 36) t' σ' k ∧ R_stk t' σ' n := by
  obtain ⟨d1, d2, d3, d4, d5, d6, d7⟩ := hD
  obtain ⟨g, dd, g1, g2, g3, _⟩ := d7.resolve_left hg0
  have hn30 := hX.1.1
  have a1 := (hX.1.2.2.2 k hk).1.1
  obtain ⟨q, q64, e1, e2⟩ := nx_eq (show k < 30 by omega) a1 d1 g1 (d2.trans g2) g2 g3
  have q8 : nI q / 8 = nI (q / 8) := pk_div (a := q) (d := 8) (by omega) (by omega) (by omega)
  have q9 : nI q - nI q / 8 * 8 = nI (q % 8) := pk_rem (a := q) (d := 8) (by omega) (by omega) (by omega)
  obtain ⟨t1, ht1⟩ : ∃ t1, t1 = uS (uS t 7 6 k (nI (q / 8))) 7 7 k (nI (q % 8)) := ⟨_, rfl⟩
  obtain ⟨σ1, hσ1⟩ : ∃ σ1, σ1 = s1 (s1 σ 8 k (nI q)) 9 k (nI (q / 8)) := ⟨_, rfl⟩
  have em : C_Person_moveTo K t k (nI q) = some t1 := by
    unfold C_Person_moveTo
    rw [chkP_t a1, nm_eq, nm_eq, q9, q8, ht1]
  have P1 : PF k t t1 := by rw [ht1]; exact PF_uS (PF_uS (PF_rf _ _) (by decide) _) (by decide) _
  have S1 : SM k σ σ1 := by rw [hσ1]; exact SM_s1 (SM_s1 (SM_rf _ _) (by decide) _) (by decide) _
  have X1 := RX_P hX P1 S1
  have f6 : tS t1 7 6 k = nI (q / 8) := by rw [ht1, tS_f _ _ _ _ _ (show 6 ≠ 7 by decide), tS_e]
  have f7 : tS t1 7 7 k = nI (q % 8) := by rw [ht1, tS_e]
  have fo : ∀ f, f ≠ 6 → f ≠ 7 → tS t1 7 f k = tS t 7 f k := fun f h1 h2 => by rw [ht1, tS_f _ _ _ _ _ h2, tS_f _ _ _ _ _ h1]
  have fL : tL t1 = tL t := by rw [ht1, xLS, xLS]
  have f8 : σ1.1 8 k = nI q := by rw [hσ1, s1_oth _ _ _ _ (by decide), s1_e]
  have f9 : σ1.1 9 k = nI (q / 8) := by rw [hσ1, s1_e]
  have fs : ∀ x, x ≠ 8 → x ≠ 9 → σ1.1 x = σ.1 x := fun x h1 h2 => by rw [hσ1, s1_oth _ _ _ _ h2, s1_oth _ _ _ _ h1]
  have f2 : σ1.2 = σ.2 := by rw [hσ1, x12, x12]
  have E1 : RE t1 σ1 k := by
    refine ⟨⟨q / 8, by omega, f6, f9, Or.inr ⟨q % 8, by omega, f7, by rw [f8, show 8 * (q / 8) + q % 8 = q by omega]⟩⟩, ?_, ?_, ?_, ?_⟩
    · rw [fo 9 (by decide) (by decide), fs 13 (by decide) (by decide)]
      exact d3
    · rw [fo 10 (by decide) (by decide), fs 14 (by decide) (by decide)]
      exact d4
    · rw [fo 11 (by decide) (by decide), fs 15 (by decide) (by decide)]
      exact d5
    · rw [fL, f2]
      exact d6
  have K1 : R_stk t1 σ1 n := stk_P hS (by rw [ht1, xPS, xPS]) (by rw [ht1, tS_c _ _ _ _ _ (by decide), tS_c _ _ _ _ _ (by decide)]) (by rw [fs 22 (by decide) (by decide)]) (fs 7 (by decide) (by decide))
  obtain ⟨k1, k2⟩ := sk_eq X1 K1 q64
  have eg : tS t1 7 8 k = nI g := by rw [fo 8 (by decide) (by decide)]; exact d2.trans g2
  have eg' : σ1.1 12 k = nI g := by rw [fs 12 (by decide) (by decide)]; exact g2
  unfold C_Race_arrive M_comes
  rw [chkP_t a1, e1, bnd_some, em, bnd_some, k1, bnd_some, e2, bnd_some]
  simp only [chkI_nI (show k < 30 by omega) (show 30 < 2 ^ 31 by omega), nI_nat (show k < 2 ^ 31 by omega), nm_eq, i10, if_true, if_false]
  rw [show (s1 σ 8 k (nI q)).1 8 k = nI q from s1_e _ _ _ _, q8, ← hσ1, f8, eg, eg']
  simp only [chkI_nI q64 (show 64 < 2 ^ 31 by omega), nI_nat (show q < 2 ^ 31 by omega)]
  rcases k2 with ⟨z1, z2⟩ | ⟨j, z1, z2⟩
  · rw [z1, if_pos rfl, if_pos (show (-1 : Int32) < 0 by decide)]
    by_cases c : nI q = nI g
    · rw [if_pos c, if_pos c, if_neg (show ¬ (0 : Int32) ≤ -1 by decide)]
      obtain ⟨t2, σ2, h1, h2, h3, h4, h5, h6⟩ := st_eq X1 hk E1 q64 f8 K1 z2
      rw [h1, bnd_some, h2, bnd_some]
      exact ⟨t2, σ2, rfl, rfl, PF_tr P1 h3, SM_tr S1 h4, h5, h6⟩
    · rw [if_neg c, if_neg c]
      obtain ⟨t2, σ2, h1, h2, h3, h4, h5, h6, h7, h8⟩ := so_eq X1 hk E1 g1 eg eg' (by rw [f8]; exact c)
      rw [h1, bnd_some, h2, bnd_some]
      exact ⟨t2, σ2, rfl, rfl, PF_tr P1 h3, SM_tr S1 h4, h5, stk_P K1 (by rw [h6]) (by rw [h7]) (by rw [h4.1 22 (by decide)]) h8⟩
  · rw [z2, if_neg (nNb (show j < 2 ^ 31 by omega)), if_neg (nI_pos (show j < 2 ^ 31 by omega)), see_eq a1, bnd_some]
    obtain ⟨sv, hsv⟩ : ∃ sv, sv = σ1.2 18 k ||| ((1 : Int64) <<< ((nI q).toInt64 &&& 63)) := ⟨_, rfl⟩
    have e12 : tL t1 7 12 k = σ1.2 18 k := E1.2.2.2.2
    rw [e12, ← hsv]
    have P2 : PF k t (uL t1 7 12 k sv) := PF_uL P1 _
    have S2 : SM k σ (s2 σ1 18 k sv) := SM_s2 S1 _
    have X2 := RX_P hX P2 S2
    have E2 : RE (uL t1 7 12 k sv) (s2 σ1 18 k sv) k := ⟨pos_P E1.1 (by rw [xSL]) (by rw [xSL]) (by rw [x21]) (by rw [x21]), by rw [xSL, x21]; exact E1.2.1, by rw [xSL, x21]; exact E1.2.2.1, by rw [xSL, x21]; exact E1.2.2.2.1, by rw [tL_e, s2_e]⟩
    have K2 : R_stk (uL t1 7 12 k sv) (s2 σ1 18 k sv) n := stk_P K1 (by rw [xPL]) (by rw [xSL]) (by rw [x21]) (by rw [x21])
    rw [xSL, eg, x21, f8, eg', nI_nat (show q < 2 ^ 31 by omega), z2]
    by_cases c : nI q = nI g
    · rw [if_pos c, if_pos c, chkI_nI q64 (by omega), if_pos (nI_pos' (show j < 2 ^ 31 by omega))]
      obtain ⟨t2, σ2, h1, h2, h3, h4, h5, h6⟩ := ch_eq X2 hk E2 K2
      rw [h1, bnd_some, h2, bnd_some]
      exact ⟨t2, σ2, rfl, rfl, PF_tr P2 h3, SM_tr S2 h4, h5, h6⟩
    · rw [if_neg c, if_neg c]
      obtain ⟨t2, σ2, h1, h2, h3, h4, h5, h6, h7, h8⟩ := so_eq X2 hk E2 g1 (by rw [xSL]; exact eg) (by rw [x21]; exact eg') (by rw [x21, f8]; exact c)
      rw [h1, bnd_some, h2, bnd_some]
      exact ⟨t2, σ2, rfl, rfl, PF_tr P2 h3, SM_tr S2 h4, h5, stk_P K2 (by rw [h6]) (by rw [h7]) (by rw [h4.1 22 (by decide)]) h8⟩
