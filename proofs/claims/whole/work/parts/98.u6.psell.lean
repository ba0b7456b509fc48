theorem rel_bids {K : List (Nat × Nat)} {t : TH} {σ : St} {n m : Nat} (h1 : R_len t) (h6 : R_ppl K t σ n m) : ∃ kn Q Bd, CV K t n kn Q Bd ∧ KB σ n kn Q Bd := by
  refine ⟨fun k => tN t 17 k, fun k i => (tS t 17 k i).toNatClampNeg, fun k i => (tS t 18 k i).toNatClampNeg, ⟨h6.1, h6.2.1, h1.2.2.2.2.2.2.1, h1.2.2.2.1, h1.2.2.2.2.1, fun k hk => ?_⟩, fun k hk => ?_⟩
  · obtain ⟨⟨a1, a2, a3⟩, _, _, _, _, _, ⟨kn, b1, b2, b3, b4, b5, b6⟩, _, _⟩ := h6.2.2.2.1 k hk
    simp only [b2]
    refine ⟨⟨a1, a2⟩, b1, ⟨trivial, b3⟩, fun i hi => ?_, fun i j hi hj e => ?_⟩
    · obtain ⟨q, b, c1, c2, c3, c4, c5, c6⟩ := b5 i hi
      rw [c2, c5, nI_nat (show q < 2 ^ 31 by omega), nI_nat (show b < 2 ^ 31 by omega)]
      exact ⟨c1, rfl, c4, rfl⟩
    · obtain ⟨q, b, c1, c2, _⟩ := b5 i hi
      obtain ⟨q', b', c1', c2', _⟩ := b5 j hj
      have e' : (tS t 17 k i).toNatClampNeg = (tS t 17 k j).toNatClampNeg := e
      rw [c2, c2', nI_nat (show q < 2 ^ 31 by omega), nI_nat (show q' < 2 ^ 31 by omega)] at e'
      exact b6 i j hi hj (by rw [c2, c2', e'])
  · obtain ⟨⟨a1, a2, a3⟩, _, _, _, _, _, ⟨kn, b1, b2, b3, b4, b5, b6⟩, _, _⟩ := h6.2.2.2.1 k hk
    simp only [b2]
    refine ⟨b1, b4, fun i hi => ?_, fun i j hi hj e => ?_⟩
    · obtain ⟨q, b, c1, c2, c3, c4, c5, c6⟩ := b5 i hi
      rw [c2, c5, nI_nat (show q < 2 ^ 31 by omega), nI_nat (show b < 2 ^ 31 by omega)]
      exact ⟨c1, c3, c4, c6⟩
    · obtain ⟨q, b, c1, c2, _⟩ := b5 i hi
      obtain ⟨q', b', c1', c2', _⟩ := b5 j hj
      have e' : (tS t 17 k i).toNatClampNeg = (tS t 17 k j).toNatClampNeg := e
      rw [c2, c2', nI_nat (show q < 2 ^ 31 by omega), nI_nat (show q' < 2 ^ 31 by omega)] at e'
      exact b6 i j hi hj (by rw [c2, c2', e'])
theorem sell_M {σ : St} {n : Nat} (hn : n ≤ 30) (h20 : σ.1 20 0 = nI n) {R : Nat} (hRn : R = if 8 < n then 8 else n) : M_sell σ = bnd (M_sell_L26 100000 (s1 σ 0 0 0) 0 (nI R)) (fun q => nm2 q (fun σ37 v38 => bnd2 (M_solve σ37 (nI R)) (fun v40 σ39 => bnd (M_sell_L153 100000 σ39 0 v40 (nI R)) (fun q => nm2 q (fun σ65 v66 => some ((255 * nI R) - v40, σ65)))))) := by
  unfold M_sell
  have e : (s1 σ 0 0 0).1 20 0 = nI n := h20
  rw [nm_eq, e]
  by_cases k : 8 ≤ n
  · rw [if_pos (show (8 : Int32) ≤ nI n from (nI_leI (a := 8) (by omega) (by omega)).mpr k)]
    have : R = 8 := by rw [hRn]; split <;> omega
    rw [this, show (8 : Int32) = nI 8 from rfl]
  · rw [if_neg (show ¬ (8 : Int32) ≤ nI n from fun z => k ((nI_leI (a := 8) (by omega) (by omega)).mp z)), nm_eq]
    have : R = n := by rw [hRn]; split <;> omega
    rw [this]
theorem p_sell {K : List (Nat × Nat)} {t : TH} {σ : St} (h : Rel K t σ) : ∃ Y, some Y = L_sell K t σ ∧ Rel Y.1 Y.2.1 Y.2.2 := by
  obtain ⟨n, nc, nw, m, d, cb, cq, cd, wc, wd, wf, wt, h1, h2, h3, h4, h5, h6, h7, h8, h9, h10, h11⟩ := h
  have hn := h6.1
  obtain ⟨kn, Q, Bd, hC, hK⟩ := rel_bids h1 h6
  obtain ⟨R, hRn⟩ : ∃ R, R = if 8 < n then 8 else n := ⟨_, rfl⟩
  have hR : R ≤ 8 := by rw [hRn]; split <;> omega
  have hRn' : R ≤ n := by rw [hRn]; split <;> omega
  have hRm : ∀ p, p < 8 → (p < n ↔ p < R) := fun p hp => by
    rw [hRn]
    split <;> omega
  have hK' : KB (s1 σ 0 0 0) n kn Q Bd := hK
  obtain ⟨best, σ', C, eM, hF0, b0, b1, g1, g2, iC, cC, mC, lC⟩ := sell_R hK' hR hRn'
  have hB : ∀ r c, r < R → BB kn Q Bd r c < 256 := fun r c hr => BB_lt hC (by omega)
  obtain ⟨pC, vC, pm⟩ := pm_best hR hB b1 iC cC mC lC
  obtain ⟨t', eC, hT, k1, k2⟩ := settle_eq (V := 255 * R - best) hC hR hRn pC vC pm
  have hF : Fx SF σ σ' := Fx_tr (Fx_s1 (Fx_rf _ _) (by decide) _ _) hF0
  have e59 : ∀ k, R ≤ k → σ'.1 59 k = σ.1 59 k := fun k hk => g2 k hk
  refine ⟨(K, t', σ'), ?_, n, nc, nw, m, d, cb, cq, cd, wc, wd, wf, wt, c_len h1 hT, c_tape h2 hT hF, c_land h3 hT hF, c_race h4 hT hF, c_stk h5 hT hF, ?_, c_rul h7 hT hF, c_day h8 hT hF, c_court h9 hT hF (fun _ z => z), h10, c_P h11 hT⟩
  · unfold L_sell
    rw [eC, bnd2_some, sell_M hn h6.2.2.1 hRn, eM, bnd2_some, if_pos rfl]
  · obtain ⟨p1, p2, p3, p4, p5, p6⟩ := h6
    have q17 : tS t' 17 = tS t 17 := funext (fun f => hT.1 17 f (nin (by decide) f))
    have q18 : tS t' 18 = tS t 18 := funext (fun f => hT.1 18 f (nin (by decide) f))
    refine ⟨p1, by rw [hT.1 6 1 (by decide)]; exact p2, by rw [hF.1 20 (by decide)]; exact p3, fun k hk => ?_, fun k a b => ?_, by rw [hF.1 51 (by decide)]; exact p6⟩
    · have q := p4 k hk
      have e14 : tS t' 7 14 k = if k < 8 then σ'.1 59 k else -1 := by
        by_cases y : k < 8
        · have kR := (hRm k y).mp hk
          rw [if_pos y, k1 k y kR, g1 k kR]
        · rw [if_neg y, k2 k (fun z => y z.1)]
          have := q.2.2.2.2.2.2.2.2
          rw [if_neg y] at this
          exact this
      unfold R_one R_pos R_goal R_known at q ⊢
      rw [hT.2.1 15 1 (by decide), hT.2.2.1 7 12 (by decide), hT.2.2.2, q17, q18, hT.1 7 0 (by decide), hT.1 7 1 (by decide), hT.1 7 2 (by decide), hT.1 7 3 (by decide), hT.1 7 6 (by decide), hT.1 7 7 (by decide), hT.1 7 8 (by decide), hT.1 7 9 (by decide), hT.1 7 10 (by decide), hT.1 7 11 (by decide), hT.1 7 13 (by decide), hF.1 8 (by decide), hF.1 9 (by decide), hF.1 10 (by decide), hF.1 11 (by decide), hF.1 12 (by decide), hF.1 13 (by decide), hF.1 14 (by decide), hF.1 15 (by decide), hF.1 16 (by decide), hF.1 17 (by decide), hF.2, hF.1 19 (by decide), hF.1 50 (by decide), hF.1 51 (by decide), hF.1 61 (by decide)]
      exact ⟨q.1, q.2.1, q.2.2.1, q.2.2.2.1, q.2.2.2.2.1, q.2.2.2.2.2.1, q.2.2.2.2.2.2.1, q.2.2.2.2.2.2.2.1, e14⟩
    · have q := p5 k a b
      rw [hF.1 61 (by decide), hF.1 51 (by decide), hF.1 50 (by decide), hF.1 13 (by decide), e59 k (by omega)]
      exact q
