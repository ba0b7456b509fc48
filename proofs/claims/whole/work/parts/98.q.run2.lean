def WR (K : List (Nat × Nat)) (n : Nat) (kn : Nat → Nat) (Q : Nat → Nat → Nat) (t : TH) (σ : St) (m : Nat) : Prop := RX K t σ n m kn Q ∧ (∀ k, k < n → RD (m + 1) (m + 36) t σ k) ∧ R_stk t σ n ∧ σ.1 20 0 = nI n
theorem go_L {K : List (Nat × Nat)} {n : Nat} {kn : Nat → Nat} {Q : Nat → Nat → Nat} {m0 N last : Nat} (hN : N ≤ 1000) (hm0 : m0 ≤ 9999) (hl : last = if 9999 < m0 + N then 9999 else m0 + N) :
    ∀ (δ m i f f' : Nat) (t : TH) (σ : St), last - m ≤ δ → m0 ≤ m → m ≤ last → i ≤ m - m0 → last - m < f → last - m < f' → WR K n kn Q t σ m →
      ∃ t' σ' a b, C_Race_goOn_L15 f K t (nI i) (nI last) (nI N) = some (t', a) ∧ M_run_L75 f' σ (nI (m - m0)) (nI N) = some (σ', b) ∧ GF n t t' ∧ GS n σ σ' ∧ WR K n kn Q t' σ' last := by
  have ll : last ≤ 9999 ∧ last ≤ m0 + N := by
    rw [hl]
    split <;> omega
  have stop : ∀ m, m0 ≤ m → m ≤ last → ¬ m < last → N ≤ m - m0 ∨ 9999 ≤ m := fun m a b c => by
    have : m = last := by omega
    rw [this, hl]
    split <;> omega
  intro δ
  induction δ with
  | zero =>
    intro m i f f' t σ h1 h2 h3 h4 hf hf' hW
    obtain ⟨f, rfl⟩ : ∃ g, f = g + 1 := ⟨f - 1, by omega⟩
    obtain ⟨f', rfl⟩ : ∃ g, f' = g + 1 := ⟨f' - 1, by omega⟩
    have em : m = last := by omega
    have h9 := hW.1.2.2.2.2.1
    refine ⟨t, σ, nI i, nI (m - m0), ?_, ?_, GF_rf _ _, GS_rf _ _, by rw [← em]; exact hW⟩
    · unfold C_Race_goOn_L15
      rw [h9.2.1]
      by_cases q : nI N ≤ nI i
      · rw [if_pos q]
      · rw [if_neg q, if_pos (nI_le (by omega) (by omega))]
    · unfold M_run_L75
      rw [h9.2.2]
      rcases stop m h2 h3 (by omega) with q | q
      · rw [if_pos (nI_le q (by omega))]
      · by_cases q' : nI N ≤ nI (m - m0)
        · rw [if_pos q']
        · rw [if_neg q', if_pos (show (9999 : Int32) ≤ nI m from (nI_leI (a := 9999) (by omega) (by omega)).mpr q)]
  | succ δ ih =>
    intro m i f f' t σ h1 h2 h3 h4 hf hf' hW
    by_cases lt : m < last
    · obtain ⟨hX, hD, hS, h20⟩ := hW
      have hn30 := hX.1.1
      have h9 := hX.2.2.2.2.1
      obtain ⟨f, rfl⟩ : ∃ g, f = g + 1 := ⟨f - 1, by omega⟩
      obtain ⟨a, m', e1, l1, l2, hA⟩ := na_L hX hD (nI last) 100000 0 last (by omega) (by omega) lt ll.1 (fun k hk => absurd hk (by omega))
      have hA' : ∀ k, k < n → σ.1 12 k = -1 ∨ ∃ g d, g < 64 ∧ σ.1 12 k = nI g ∧ σ.1 13 k = nI d ∧ m' ≤ d ∧ d ≤ 20000 := fun k hk => by
        rcases hA k hk with q | ⟨d, q1, q2, q3⟩
        · exact Or.inl q
        · rcases (hD k hk).2.2.2.2.2.2 with q | ⟨g, d', g1, g2, g3, g4, g5, g6⟩
          · exact Or.inl q
          · exact Or.inr ⟨g, d, g1, g2, q1, q2, by omega⟩
      have eN : C_Race_nextArrival K t (nI last) = some (nI m') := by
        unfold C_Race_nextArrival
        rw [show C_Race_nextArrival_L4 100000 K t 0 (nI last) (nI last) = some (a, nI m') from e1, bnd_some, nm2_eq]
      -- the minute's own world
      obtain ⟨t1, ht1⟩ : ∃ t1, t1 = uS t 8 3 0 (nI m') := ⟨_, rfl⟩
      obtain ⟨σ1, hσ1⟩ : ∃ σ1, σ1 = s1 σ 21 0 (nI m') := ⟨_, rfl⟩
      have T1 : ET [(8, 3)] [] [] t t1 := by rw [ht1]; exact ET_uS (ET_rf _ _ _ _) (by decide) _ _
      have F1 : Fx [21] σ σ1 := by rw [hσ1]; exact Fx_s1 (Fx_rf _ _) (by decide) _ _
      have X1 : RX K t1 σ1 n m' kn Q := by
        obtain ⟨x1, x2, x3, x4, x5, x6, x7⟩ := hX
        refine ⟨PV_E x1 T1, MV_E (G := []) x2 (fun x hx => by rcases hx with rfl | rfl <;> exact F1.1 _ (by decide)), by rw [T1.2.2.2]; exact x3, c_land x4 T1 F1, ⟨by omega, by rw [ht1, tS_e], by rw [hσ1, s1_e]⟩, by rw [F1.1 22 (by decide)]; exact x6, fun j hj => by rw [T1.1 7 0 (by decide), T1.1 7 2 (by decide), F1.1 10 (by decide)]; exact x7 j hj⟩
      have K1 : R_stk t1 σ1 n := c_stk hS T1 F1
      have D1 : ∀ k, k < n → RD m' (m' + 36) t1 σ1 k := fun k hk => by
        obtain ⟨d1, d2, d3, d4, d5, d6, d7⟩ := hD k hk
        unfold RD
        rw [T1.1 7 8 (by decide), T1.1 7 9 (by decide), T1.1 7 10 (by decide), T1.1 7 11 (by decide), T1.2.2.1 7 12 (by decide), F1.1 12 (by decide), F1.1 13 (by decide), F1.1 14 (by decide), F1.1 15 (by decide), F1.1 8 (by decide), F1.2]
        refine ⟨pos_P d1 (by rw [T1.1 7 6 (by decide)]) (by rw [T1.1 7 7 (by decide)]) (by rw [F1.1 8 (by decide)]) (by rw [F1.1 9 (by decide)]), d2, d3, d4, d5, d6, ?_⟩
        rcases d7 with q | ⟨g, d, g1, g2, g3, g4, g5, g6⟩
        · exact Or.inl q
        · rcases hA k hk with q | ⟨d', q1, q2, q3⟩
          · rw [g2] at q
            exact absurd q (nNb (by omega))
          · have ed : d = d' := (nI_eq (by omega) (by omega)).mp (g4.symm.trans q1)
            exact Or.inr ⟨g, d, g1, g2, g3, g4, by omega, by omega⟩
      obtain ⟨t2, σ2, b, c, e2, e3, G2, S2, X2, K2, D2⟩ := pr_L (nI i) (nI last) (nI N) (nI (m' - 1 - m0)) (nI N) 100000 0 t1 σ1 (by omega) (by omega) X1 (by rw [F1.1 20 (by decide)]; exact h20) K1 (fun k hk => absurd hk (by omega)) (fun k _ hk => D1 k hk)
      have h20' : σ2.1 20 0 = nI n := by rw [S2.1 20 (by decide), F1.1 20 (by decide)]; exact h20
      obtain ⟨t3, σ3, a3, b3, r1, r2, r3, r4, r5⟩ := ih m' (i + 1) f (f' - (m' - m)) t2 σ2 (by omega) (by omega) l2 (by omega) (by omega) (by omega) ⟨X2, D2, K2, h20'⟩
      refine ⟨t3, σ3, a3, b3, ?_, ?_, GF_tr (GF_tr (by rw [ht1]; exact GF_8 (by decide) _) G2) r3, GS_tr (GS_tr (by rw [hσ1]; exact GS_s1 (GS_rf _ _) (by decide) _ _) S2) r4, r5⟩
      · unfold C_Race_goOn_L15
        rw [h9.2.1, if_neg (nI_ge (show i < N by omega) (by omega)), if_neg (nI_ge lt (by omega)), eN, bnd_some, nm_eq, ← ht1, show C_Race_goOn_L40 100000 K t1 0 (nI i) (nI last) (nI N) = some (t2, b) from e2, bnd_some, nm2_eq, nm_eq, nI_1]
        exact r1
      · have es : σ = s1 σ 21 0 (nI m) := by
          have := s1_id σ 21 0
          rw [h9.2.2] at this
          exact this.symm
        have ef : f' = (f' - (m' - m) + 1) + (m' - 1 - m) := by omega
        rw [ef, es, idle (n := n) (m' := m') hn30 (by omega) hN h20 hA' (m' - 1 - m) (f' - (m' - m) + 1) (by omega) (by omega), show m + (m' - 1 - m) = m' - 1 by omega, show m - m0 + (m' - 1 - m) = m' - 1 - m0 by omega]
        have e1' : M_run_L75 (f' - (m' - m) + 1) (s1 σ 21 0 (nI (m' - 1))) (nI (m' - 1 - m0)) (nI N) = (if nI N ≤ nI (m' - 1 - m0) then some (s1 σ 21 0 (nI (m' - 1)), nI (m' - 1 - m0)) else if 9999 ≤ ((s1 σ 21 0 (nI (m' - 1))).1 21 0) then some (s1 σ 21 0 (nI (m' - 1)), nI (m' - 1 - m0)) else nm (s1 (s1 σ 21 0 (nI (m' - 1))) 21 0 (((s1 σ 21 0 (nI (m' - 1))).1 21 0) + 1)) (fun σ27 => bnd (M_run_L102 100000 σ27 0 (nI (m' - 1 - m0)) (nI N)) (fun q => nm2 q (fun σ28 v29 => nm (nI (m' - 1 - m0) + 1) (fun v30 => M_run_L75 (f' - (m' - m)) σ28 v30 (nI N)))))) := rfl
        rw [e1', if_neg (nI_ge (by omega) (by omega)), s1_e, if_neg (show ¬ (9999 : Int32) ≤ nI (m' - 1) from fun z => by have := (nI_leI (a := 9999) (by omega) (by omega)).mp z; omega), nm_eq, nI_1, s1_two, show m' - 1 + 1 = m' by omega, ← hσ1, show M_run_L102 100000 σ1 0 (nI (m' - 1 - m0)) (nI N) = some (σ2, c) from e3, bnd_some, nm2_eq, nm_eq, nI_1, show m' - 1 - m0 + 1 = m' - m0 by omega]
        exact r2
    · exact ih m i f f' t σ (by omega) h2 h3 h4 (by omega) (by omega) hW
theorem go_eq {K : List (Nat × Nat)} {n : Nat} {kn : Nat → Nat} {Q : Nat → Nat → Nat} {t : TH} {σ : St} {m N : Nat} (hN1 : 1 ≤ N) (hN : N ≤ 1000) (hW : WR K n kn Q t σ m) : ∃ t' σ' b last, C_Race_goOn K t (nI N) = some t' ∧ M_run_L75 100000 σ 0 (nI N) = some (σ', b) ∧ GF n t t' ∧ GS n σ σ' ∧ WR K n kn Q t' σ' last := by
  have h9 := hW.1.2.2.2.2.1
  obtain ⟨last, hl⟩ : ∃ last, last = if 9999 < m + N then 9999 else m + N := ⟨_, rfl⟩
  have ll : m ≤ last ∧ last ≤ 9999 := by
    rw [hl]
    have := h9.1
    split <;> omega
  obtain ⟨t', σ', a, b, e1, e2, g1, g2, g3⟩ := go_L hN h9.1 hl 9999 m 0 100000 100000 t σ (by omega) (Nat.le_refl _) ll.1 (by omega) (by omega) (by omega) hW
  refine ⟨t', σ', b, last, ?_, ?_, g1, g2, g3⟩
  · unfold C_Race_goOn
    have ev : (if (9999 : Int32) < tS t 8 3 0 + nI N then 9999 else tS t 8 3 0 + nI N) = nI last := by
      rw [h9.2.1, nI_add, hl]
      by_cases q : 9999 < m + N
      · rw [if_pos (show (9999 : Int32) < nI (m + N) from (nI_ltI (a := 9999) (by omega) (by have := h9.1; omega)).mpr q), if_pos q]
        rfl
      · rw [if_neg (show ¬ (9999 : Int32) < nI (m + N) from fun z => q ((nI_ltI (a := 9999) (by omega) (by have := h9.1; omega)).mp z)), if_neg q]
    rw [nm_eq, ev, show C_Race_goOn_L15 100000 K t 0 (nI last) (nI N) = some (t', a) from e1, bnd_some, nm2_eq]
  · rw [Nat.sub_self] at e2
    exact e2
theorem r33 {σ0 : St} (x1 : Int32) : ∀ (f q : Nat) (σ : St), q ≤ 64 → 64 < f + q → Fx [7] σ0 σ → (∀ j, j < q → σ.1 7 j = -1) → ∃ σ' a, M_run_L33 f σ (nI q) x1 = some (σ', a) ∧ Fx [7] σ0 σ' ∧ ∀ j, j < 64 → σ'.1 7 j = -1 := by
  intro f
  induction f with
  | zero =>
    intro q σ _ h
    exact absurd h (by omega)
  | succ f ih =>
    intro q σ hq hf hF hj
    unfold M_run_L33
    rcases Nat.lt_or_ge q 64 with w | w
    · rw [if_neg (show ¬ (64 : Int32) ≤ nI q from fun z => by have := (nI_leI (a := 64) (by omega) (by omega)).mp z; omega), chkI_nI w (by omega), nm_eq, nm_eq, nI_nat (show q < 2 ^ 31 by omega), nI_1]
      refine ih (q + 1) _ (by omega) (by omega) (Fx_s1 hF (by decide) _ _) (fun j hj' => ?_)
      by_cases y : j = q
      · rw [y, s1_e]
      · rw [s1_i _ _ _ _ y]
        exact hj j (by omega)
    · have : q = 64 := by omega
      subst this
      rw [if_pos (show (64 : Int32) ≤ nI 64 by decide)]
      exact ⟨σ, _, rfl, hF, hj⟩
theorem run_Rel {K : List (Nat × Nat)} {t t' : TH} {σ σ' : St} {n nc nw m m' d : Nat} {cb cq cd wc wd wf wt : Nat → Nat} {kn : Nat → Nat} {Q : Nat → Nat → Nat} (h1 : R_len t) (h2 : R_tape t σ) (h6 : R_ppl K t σ n m) (h7 : R_rul t σ) (h8 : R_day t σ d) (h9 : R_court K t σ n nc nw d cb cq cd wc wd wf wt) (h10 : R_K K n nc nw) (h11 : R_P t n nc nw) (hT' : GF n t t') (hS' : GS n σ σ') (hW : WR K n kn Q t' σ' m') (eb : tS t' 8 2 0 = 1) : Rel K t' σ' := by
  obtain ⟨X, D, S, h20⟩ := hW
  have hT := hT'.1
  have hS := hS'.1
  obtain ⟨x1, x2, x3, x4, x5, x6, x7⟩ := X
  have q17 : tS t' 17 = tS t 17 := funext (fun f => hT.1 17 f (nin (by decide) f))
  have q18 : tS t' 18 = tS t 18 := funext (fun f => hT.1 18 f (nin (by decide) f))
  have q4 : tS t' 4 = tS t 4 := funext (fun f => hT.1 4 f (nin (by decide) f))
  obtain ⟨p1, p2, p3, p4, p5, p6⟩ := h6
  refine ⟨n, nc, nw, m', d, cb, cq, cd, wc, wd, wf, wt, c_len h1 hT, ?_, x4, ⟨x5.1, x5.2.1, x5.2.2, by rw [eb, x6], Or.inr x6⟩, S, ⟨p1, by rw [hT.1 6 1 (by decide)]; exact p2, h20, fun k hk => ?_, ?_, by rw [hS 51 (by decide)]; exact p6⟩, ?_, ?_, ?_, h10, ?_⟩
  · unfold R_tape at *
    rw [hT.1 9 1 (by decide), hT.1 13 0 (by decide), hS 2 (by decide), hS 1 (by decide)]
    exact h2
  · obtain ⟨d1, d2, d3, d4, d5, d6, d7⟩ := D k hk
    obtain ⟨q1, q2, q3, q4, q5, q6, q7, q8, q9⟩ := p4 k hk
    refine ⟨?_, ?_, ?_, ?_, d1, ⟨d2, d3, d4, d5, d6, ?_⟩, ?_, ?_, ?_⟩
    · rw [hT.2.1 15 1 (by decide), hT.1 7 0 (by decide)]
      exact q1
    · rw [hT.1 7 1 (by decide), hS 19 (by decide)]
      exact q2
    · rw [hT.1 7 2 (by decide), hS 10 (by decide)]
      exact q3
    · rw [hT.1 7 3 (by decide), hS 11 (by decide)]
      exact q4
    · rcases d7 with z | ⟨g, dd, g1, g2, g3, g4, g5, g6⟩
      · exact Or.inl z
      · exact Or.inr ⟨g, dd, g1, g2, g3, g4, by omega, g6⟩
    · unfold R_known at *
      rw [hT.2.2.2, q17, q18, hS 17 (by decide), hS 16 (by decide), hS 61 (by decide)]
      exact q7
    · rw [hT.1 7 13 (by decide), hS 51 (by decide), hS 50 (by decide)]
      exact q8
    · rw [hT.1 7 14 (by decide), hS 59 (by decide)]
      exact q9
  · intro k a b
    obtain ⟨r1, r2, r3, r4⟩ := p5 k a b
    rw [hS 61 (by decide), hS 59 (by decide), hS 51 (by decide), hS 50 (by decide)]
    exact ⟨r1, r2, r3, by rw [hS'.2 k a]; exact r4⟩
  · unfold R_rul at *
    rw [q4, hT.1 5 2 (by decide), hS 23 (by decide), hS 31 (by decide), hS 29 (by decide)]
    exact h7
  · unfold R_day at *
    rw [hT.1 11 8 (by decide), hS 32 (by decide)]
    exact h8
  · obtain ⟨g1, g2, g3, g4, g5⟩ := h9
    refine ⟨by rw [hT.1 2 3 (by decide), hS 41 (by decide)]; exact g1, by rw [hT.1 2 4 (by decide), hS 42 (by decide)]; exact g2, fun k hk => ?_, g4, fun w hw => ?_⟩
    · have q := g3 k hk
      unfold R_claim at q ⊢
      rw [hT.1 1 0 (by decide), hT.1 1 2 (by decide), hT.1 1 3 (by decide), hT.1 1 4 (by decide), hT.1 1 6 (by decide), hT.2.1 16 0 (by decide), hT.2.1 1 1 (by decide), hT.2.1 1 5 (by decide), hS 34 (by decide), hS 35 (by decide), hS 36 (by decide)]
      exact q
    · have q := g5 w hw
      unfold R_wit at q ⊢
      rw [hT.1 10 0 (by decide), hT.1 10 1 (by decide), hT.1 10 2 (by decide), hT.2.1 10 3 (by decide), hS 37 (by decide), hS 38 (by decide), hS 39 (by decide), hS 40 (by decide)]
      exact q
  · obtain ⟨g1, g2, g3, g4, g5⟩ := h11
    refine ⟨fun j x => ?_, fun j e x hx => ?_, fun j e x => ?_, fun j x => ?_, fun j x => ?_⟩
    · rw [hT.2.1 1 1 (by decide)]
      exact g1 j x
    · by_cases y : j = 0
      · rw [y] at hx
        rcases hT'.2 e x hx with z | z
        · exact g2 0 e x z
        · exact z
      · rw [hT.2.1 15 j (by simp [y])] at hx
        exact g2 j e x hx
    · rw [hT.2.1 16 j (nin (by decide) j)]
      exact g3 j e x
    · rw [hT.2.1 1 5 (by decide)]
      exact g4 j x
    · rw [hT.2.1 10 3 (by decide)]
      exact g5 j x
theorem rel_RX {K : List (Nat × Nat)} {t : TH} {σ : St} {n m : Nat} {kn : Nat → Nat} {Q : Nat → Nat → Nat} (h1 : R_len t) (h3 : R_land t σ) (h4 : R_race t σ m) (h6 : R_ppl K t σ n m) (hP : PV K t n kn Q) (hM : MV σ n kn Q) (hb : σ.1 22 0 = 1) : RX K t σ n m kn Q := ⟨hP, hM, ⟨h1.2.1, h1.2.2.1, h1.2.2.2.2.2.1⟩, h3, ⟨h4.1, h4.2.1, h4.2.2.1⟩, hb, fun k hk => ⟨(h6.2.2.2.1 k hk).1.2.2, (h6.2.2.2.1 k hk).2.2.1⟩⟩
theorem rel_RD {K : List (Nat × Nat)} {t : TH} {σ : St} {n m : Nat} (h6 : R_ppl K t σ n m) : ∀ k, k < n → RD (m + 1) (m + 36) t σ k := fun k hk => by
  obtain ⟨q1, q2, q3, q4, q5, q6, q7, q8, q9⟩ := h6.2.2.2.1 k hk
  obtain ⟨g1, g2, g3, g4, g5, g6⟩ := q6
  refine ⟨q5, g1, g2, g3, g4, g5, ?_⟩
  rcases g6 with z | ⟨g, d, z1, z2, z3, z4, z5, z6⟩
  · exact Or.inl z
  · exact Or.inr ⟨g, d, z1, z2, z3, z4, by omega, z6⟩
theorem p_run {K : List (Nat × Nat)} {t : TH} {σ : St} (h : Rel K t σ) (x : Int32) : ∃ Y, some Y = L_run K t σ x ∧ Rel Y.1 Y.2.1 Y.2.2 := by
  obtain ⟨n, nc, nw, m, d, cb, cq, cd, wc, wd, wf, wt, h1, h2, h3, h4, h5, h6, h7, h8, h9, h10, h11⟩ := h
  have hn := h6.1
  have F0 : Fx [0] σ (s1 σ 0 0 0) := Fx_s1 (Fx_rf _ _) (by decide) _ _
  have T0 : ET [] [] [] t t := ET_rf _ _ _ _
  have hdef : ∃ Y, some Y = some (K, t, s1 σ 0 0 0) ∧ Rel Y.1 Y.2.1 Y.2.2 := ⟨_, rfl, ⟨n, nc, nw, m, d, cb, cq, cd, wc, wd, wf, wt, h1, h2, h3, h4, h5, h6, h7, h8, h9, h10, h11⟩⟩
  unfold L_run C_Run_run M_run
  rw [nm_eq]
  rcases wi_or x 1 1000 with ⟨e, a, b⟩ | ⟨e, ab⟩
  · obtain ⟨N, hN⟩ : ∃ N, 1 ≤ N ∧ N ≤ 1000 ∧ x = nI N := by
      obtain ⟨j, hj, rfl⟩ := nI_in2 (x := x) (N := 1000) (M := 1000) rfl (by omega) (fun y => a (Int32.lt_trans y (by decide))) b
      refine ⟨j, ?_, hj, rfl⟩
      rcases Nat.eq_zero_or_pos j with y | y
      · rw [y] at a
        exact absurd (show nI 0 < 1 by decide) a
      · exact y
    obtain ⟨hN1, hN2, rfl⟩ := hN
    rw [e, bnd_some, if_neg (show ¬ (1 : Int32) = 0 by decide), if_neg a, if_pos (show nI N ≤ 1000 from (nI_leI (b := 1000) (by omega) (by omega)).mpr hN2), h4.2.2.2.1, show (s1 σ 0 0 0).1 22 0 = σ.1 22 0 from by rw [s1_oth _ _ _ _ (by decide)]]
    obtain ⟨kn, Q, hP, hM⟩ := rel_PV h1 h6
    rcases h4.2.2.2.2 with hb | hb
    · rw [hb, if_pos rfl, if_pos rfl]
      obtain ⟨σ1, u, e1, F1, k1⟩ := r33 (σ0 := s1 (s1 σ 0 0 0) 22 0 1) (nI N) 100000 0 (s1 (s1 σ 0 0 0) 22 0 1) (by omega) (by omega) (Fx_rf _ _) (fun j hj => absurd hj (by omega))
      have F2 : Fx [0, 7, 22] σ σ1 := Fx_tr (Fx_s1 (Fx_s1 (Fx_rf _ _) (by decide) _ _) (by decide) _ _) (Fx_mono F1 (by decide))
      have T1 : ET [(8, 2)] [] [] t (uS t 8 2 0 1) := ET_uS (ET_rf _ _ _ _) (by decide) _ _
      have e22 : σ1.1 22 0 = 1 := by rw [F1.1 22 (by decide), s1_e]
      have h6' : R_ppl K (uS t 8 2 0 1) σ1 n m := c_ppl h6 T1 F2 (fun _ w => w)
      have h4' : R_race (uS t 8 2 0 1) σ1 m := ⟨h4.1, by rw [T1.1 8 3 (by decide)]; exact h4.2.1, by rw [F2.1 21 (by decide)]; exact h4.2.2.1, by rw [tS_e, e22], Or.inr e22⟩
      have X1 := rel_RX (c_len h1 T1) (c_land h3 T1 F2) h4' h6' (PV_E hP T1) (MV_E (G := []) hM (fun y hy => by rcases hy with rfl | rfl <;> exact F2.1 _ (by decide))) e22
      have S1 : R_stk (uS t 8 2 0 1) σ1 n := by
        refine ⟨fun z => by rw [e22] at z; exact absurd z (by decide), fun _ q hq => Or.inl ⟨k1 q hq, by rw [xPS]; exact h5.1 hb q hq⟩, ?_⟩
        rw [T1.1 3 3 (by decide), xPS]
        exact h5.2.2
      obtain ⟨t2, σ2, a2, b2, e2, e3, G2, S2, X2, K2, D2⟩ := bg_L (nI N) 100000 0 (uS t 8 2 0 1) σ1 (by omega) (by omega) X1 h6'.2.2.1 S1 (fun k hk => absurd hk (by omega)) (fun k _ hk => RD_E (rel_RD h6' k hk))
      obtain ⟨t3, σ3, b3, last, e4, e5, G3, S3, W3⟩ := go_eq hN1 hN2 (⟨X2, D2, K2, by rw [S2.1 20 (by decide)]; exact h6'.2.2.1⟩ : WR K n kn Q t2 σ2 m)
      have eB : C_Race_begin K t = some t2 := by
        unfold C_Race_begin
        rw [nm_eq, show C_Race_begin_L7 100000 K (uS t 8 2 0 1) 0 = some (t2, a2) from e2, bnd_some, nm2_eq]
      rw [eB, bnd_some, e4, bnd_some, nm_eq, show M_run_L33 100000 (s1 (s1 σ 0 0 0) 22 0 1) 0 (nI N) = some (σ1, u) from e1, bnd_some, nm2_eq, show M_run_L54 100000 σ1 0 (nI N) = some (σ2, b2) from e3, bnd_some, nm2_eq, e5, bnd_some, nm2_eq, bnd2_some, bnd2_some, W3.1.2.2.2.2.1.2.1, W3.1.2.2.2.2.1.2.2, if_pos rfl]
      have G := GF_tr G2 G3
      exact ⟨_, rfl, run_Rel (c_len h1 T1) (c_tape h2 T1 F2) h6' (c_rul h7 T1 F2) (c_day h8 T1 F2) (c_court h9 T1 F2 (fun _ w => w)) h10 (c_P h11 T1) G (GS_tr S2 S3) W3 (by rw [G.1.1 8 2 (by decide), tS_e])⟩
    · rw [hb, if_neg (show ¬ (1 : Int32) = 0 by decide), if_neg (show ¬ (1 : Int32) = 0 by decide)]
      have h6' : R_ppl K t (s1 σ 0 0 0) n m := c_ppl h6 T0 F0 (fun _ w => w)
      have X1 := rel_RX h1 (c_land h3 T0 F0) (c_race h4 T0 F0) h6' hP (MV_E (G := []) hM (fun y hy => by rcases hy with rfl | rfl <;> exact F0.1 _ (by decide))) (by rw [F0.1 22 (by decide)]; exact hb)
      obtain ⟨t3, σ3, b3, last, e4, e5, G3, S3, W3⟩ := go_eq hN1 hN2 (⟨X1, rel_RD h6', c_stk h5 T0 F0, h6'.2.2.1⟩ : WR K n kn Q t (s1 σ 0 0 0) m)
      rw [e4, bnd_some, e5, bnd_some, nm2_eq, bnd2_some, bnd2_some, W3.1.2.2.2.2.1.2.1, W3.1.2.2.2.2.1.2.2, if_pos rfl]
      exact ⟨_, rfl, run_Rel h1 (c_tape h2 T0 F0) h6' (c_rul h7 T0 F0) (c_day h8 T0 F0) (c_court h9 T0 F0 (fun _ w => w)) h10 h11 G3 S3 W3 (by rw [G3.1.1 8 2 (by decide), h4.2.2.2.1]; exact hb)⟩
  · rw [e, bnd_some, if_pos rfl]
    by_cases a : x < 1
    · rw [if_pos a, bnd2_some, bnd2_some, if_pos rfl]
      exact hdef
    · rw [if_neg a, if_neg (show ¬ x ≤ 1000 from fun z => ab ⟨a, Int32.not_lt.mpr z⟩), bnd2_some, bnd2_some, if_pos rfl]
      exact hdef
