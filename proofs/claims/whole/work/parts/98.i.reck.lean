def EO (k : Nat) (t0 t : TH) : Prop := ∀ j, j ≠ k → tS t 1 7 j = tS t0 1 7 j ∧ tS t 1 8 j = tS t0 1 8 j ∧ tS t 1 9 j = tS t0 1 9 j
theorem EO_rf (k : Nat) (t : TH) : EO k t t := fun _ _ => ⟨rfl, rfl, rfl⟩
theorem EO_tr {k : Nat} {t t' t'' : TH} (h : EO k t t') (h' : EO k t' t'') : EO k t t'' := fun j hj => ⟨(h' j hj).1.trans (h j hj).1, (h' j hj).2.1.trans (h j hj).2.1, (h' j hj).2.2.trans (h j hj).2.2⟩
theorem EO_uS {k f : Nat} {t0 t : TH} (h : EO k t0 t) (v : Int32) : EO k t0 (uS t 1 f k v) := fun j hj => by
  obtain ⟨a, b, c⟩ := h j hj
  rw [tS_uS, tS_uS, tS_uS, if_neg (fun z => hj z.2.2), if_neg (fun z => hj z.2.2), if_neg (fun z => hj z.2.2)]
  exact ⟨a, b, c⟩
theorem rk_22 {K : List (Nat × Nat)} {t0 : TH} {σ : St} {nc nw : Nat} {wc wd wf wt : Nat → Nat} (h0 : WV K t0 σ nc nw wc wd wf wt) {k : Nat} {T : Int32} (hk : k < nc) :
    ∀ (i f : Nat) (t : TH) (A B : Nat), i ≤ nw → i < f → ET [(1, 7), (1, 8), (1, 9)] [] [] t0 t → EO k t0 t → Sp (fun x => cB (tlW wc wd wf wt k T x) nw) wf (fun j => i ≤ j ∧ j < nw ∧ okW wc wd k T j = true) A B → tS t 1 9 k = nI A → tS t 1 7 k = nI B → tS t 1 8 k = nI 9999 →
      ∃ t' o A' B', C_Claim_reckon_L22 f K t (lastW wc k i) k T = some (t', o) ∧ ET [(1, 7), (1, 8), (1, 9)] [] [] t0 t' ∧ EO k t0 t' ∧ Sp (fun x => cB (tlW wc wd wf wt k T x) nw) wf (fun j => j < nw ∧ okW wc wd k T j = true) A' B' ∧ tS t' 1 9 k = nI A' ∧ tS t' 1 7 k = nI B' ∧ tS t' 1 8 k = nI 9999 := by
  have hnw := h0.1
  intro i
  induction i with
  | zero =>
    intro f t A B _ hf hT hE hS e9 e7 e8
    obtain ⟨f, rfl⟩ : ∃ g, f = g + 1 := ⟨f - 1, by omega⟩
    unfold C_Claim_reckon_L22
    exact ⟨t, none, A, B, rfl, hT, hE, Sp_same hS (fun j => ⟨fun q => ⟨Nat.zero_le _, q⟩, fun q => q.2⟩), e9, e7, e8⟩
  | succ i ih =>
    intro f t A B hi hf hT hE hS e9 e7 e8
    have h : WV K t σ nc nw wc wd wf wt := WV_E h0 hT (Fx_rf [] σ)
    obtain ⟨bA, bB⟩ := Sp_bd hS (fun x => cB_le _ nw) (fun j hj => by
      have := (h0.2.2.2.1 j hj.2.1).2.2.2
      omega)
    have notok : ¬ okW wc wd k T i = true → Sp (fun x => cB (tlW wc wd wf wt k T x) nw) wf (fun j => i ≤ j ∧ j < nw ∧ okW wc wd k T j = true) A B := fun hno => Sp_same hS (fun j => by
      constructor
      · intro q
        refine ⟨?_, q.2⟩
        rcases Nat.lt_or_ge i j with z | z
        · exact z
        · rw [show j = i by omega] at q
          exact absurd q.2.2 hno
      · intro q
        exact ⟨by omega, q.2⟩)
    by_cases c : wc i = k
    · obtain ⟨f, rfl⟩ : ∃ g, f = g + 1 := ⟨f - 1, by omega⟩
      obtain ⟨w1, w2, w3, w4, w5, w6⟩ := h.2.2.2.1 i (by omega)
      rw [show lastW wc k (i + 1) = some i from if_pos c]
      unfold C_Claim_reckon_L22
      rw [opt_some, chkP_t w1, w3.2.1]
      by_cases b : T < nI (wd i)
      · rw [if_pos b, nm_eq, w6, c]
        exact ih f t A B (by omega) (by omega) hT hE (notok (by unfold okW; simp [b])) e9 e7 e8
      · have ok : okW wc wd k T i = true := by unfold okW; simp [b, c]
        have cl := cB_le (tlW wc wd wf wt k T (wf i)) nw
        have c1 : 1 ≤ cB (tlW wc wd wf wt k T (wf i)) nw := cB_pos (i := i) (by unfold tlW; simp [ok]; exact w4.1) nw (by omega)
        have hP : ∀ j, (i ≤ j ∧ j < nw ∧ okW wc wd k T j = true) ↔ (i + 1 ≤ j ∧ j < nw ∧ okW wc wd k T j = true) ∨ j = i := fun j => by
          constructor
          · intro q
            rcases Nat.lt_or_ge i j with z | z
            · exact Or.inl ⟨z, q.2⟩
            · exact Or.inr (by omega)
          · rintro (q | q)
            · exact ⟨by omega, q.2⟩
            · rw [q]
              exact ⟨by omega, by omega, ok⟩
        rw [if_neg b, chkP_t (h.2.2.2.2 k hk).1, w4.2.1, ag_eq h hk (show wf i ≤ 9999 by omega), bnd_some, e9, e7]
        have w41 : ∀ v, tS (uS t 1 9 k v) 10 1 i = nI (wf i) := fun v => by rw [tS_c _ _ _ _ _ (by decide)]; exact w4.2.1
        simp only [nm_eq, xPS, w41, w6, c]
        have new : ∀ (hs : A < cB (tlW wc wd wf wt k T (wf i)) nw ∨ (cB (tlW wc wd wf wt k T (wf i)) nw = A ∧ wf i < B)), ∃ t' o A' B', C_Claim_reckon_L22 f K (uS (uS t 1 9 k (nI (cB (tlW wc wd wf wt k T (wf i)) nw))) 1 7 k (nI (wf i))) (lastW wc k i) k T = some (t', o) ∧ ET [(1, 7), (1, 8), (1, 9)] [] [] t0 t' ∧ EO k t0 t' ∧ Sp (fun x => cB (tlW wc wd wf wt k T x) nw) wf (fun j => j < nw ∧ okW wc wd k T j = true) A' B' ∧ tS t' 1 9 k = nI A' ∧ tS t' 1 7 k = nI B' ∧ tS t' 1 8 k = nI 9999 := fun hs => by
          refine ih f _ (cB (tlW wc wd wf wt k T (wf i)) nw) (wf i) (by omega) (by omega) (ET_uS (ET_uS hT (by decide) _ _) (by decide) _ _) (EO_uS (EO_uS hE _) _) (Sp_new hS hP hs) ?_ ?_ ?_
          · rw [tS_f _ _ _ _ _ (by decide), tS_e]
          · rw [tS_e]
          · rw [tS_f _ _ _ _ _ (by decide), tS_f _ _ _ _ _ (by decide)]
            exact e8
        have old := fun (hs : cB (tlW wc wd wf wt k T (wf i)) nw < A ∨ (cB (tlW wc wd wf wt k T (wf i)) nw = A ∧ B ≤ wf i)) => ih f t A B (by omega) (by omega) hT hE (Sp_skip hS hP hs c1) e9 e7 e8
        by_cases b1 : A < cB (tlW wc wd wf wt k T (wf i)) nw
        · rw [if_pos (nI_lt b1 (by omega))]
          exact new (Or.inl b1)
        · rw [if_neg (nI_nlt (by omega) (by omega))]
          by_cases b2 : cB (tlW wc wd wf wt k T (wf i)) nw = A
          · rw [if_pos (show nI (cB (tlW wc wd wf wt k T (wf i)) nw) = nI A by rw [b2])]
            by_cases b3 : B ≤ wf i
            · rw [if_pos (nI_le b3 (by omega))]
              exact old (Or.inr ⟨b2, b3⟩)
            · rw [if_neg (nI_ge (by omega) (by omega))]
              exact new (Or.inr ⟨b2, by omega⟩)
          · rw [if_neg (fun z => b2 ((nI_eq (by omega) (by omega)).mp z))]
            exact old (Or.inl (by omega))
    · rw [show lastW wc k (i + 1) = lastW wc k i from if_neg c]
      exact ih f t A B (by omega) (by omega) hT hE (notok (by unfold okW; simp [c])) e9 e7 e8
theorem fe_L {K : List (Nat × Nat)} {t0 : TH} {σ : St} {nc nw : Nat} {wc wd wf wt : Nat → Nat} (h0 : WV K t0 σ nc nw wc wd wf wt) {k B : Nat} {T : Int32} (hk : k < nc) (hB : B ≤ 9999) :
    ∀ (i f : Nat) (t : TH) (e : Nat), i ≤ nw → i < f → e ≤ 9999 → ET [(1, 8)] [] [] t0 t → EO k t0 t → tS t 1 7 k = nI B → tS t 1 8 k = nI e →
      ∃ t' o, C_Claim_findEnd_L5 f K t (lastW wc k i) k T = some (t', o) ∧ ET [(1, 8)] [] [] t0 t' ∧ EO k t0 t' ∧ tS t' 1 8 k = nI (if e ≤ mnB (tlW wc wd wf wt k T B) wt i then e else mnB (tlW wc wd wf wt k T B) wt i) := by
  have hnw := h0.1
  intro i
  induction i with
  | zero =>
    intro f t e _ hf he hT hE e7 e8
    obtain ⟨f, rfl⟩ : ∃ g, f = g + 1 := ⟨f - 1, by omega⟩
    unfold C_Claim_findEnd_L5
    exact ⟨t, none, rfl, hT, hE, by rw [show mnB (tlW wc wd wf wt k T B) wt 0 = 9999 from rfl, if_pos he]; exact e8⟩
  | succ i ih =>
    intro f t e hi hf he hT hE e7 e8
    have h : WV K t σ nc nw wc wd wf wt := WV_E h0 hT (Fx_rf [] σ)
    rw [mnB_s]
    by_cases c : wc i = k
    · obtain ⟨f, rfl⟩ : ∃ g, f = g + 1 := ⟨f - 1, by omega⟩
      obtain ⟨w1, w2, w3, w4, w5, w6⟩ := h.2.2.2.1 i (by omega)
      rw [show lastW wc k (i + 1) = some i from if_pos c]
      unfold C_Claim_findEnd_L5
      rw [opt_some, chkP_t (h.2.2.2.2 k hk).1, chkP_t w1, e7, tl_C h hB (by omega) c, bnd_some]
      simp only [nm_eq, xPS, w6, c]
      by_cases b : tlW wc wd wf wt k T B i = true
      · rw [if_pos b, if_neg (show ¬ (1 : Int32) = 0 by decide), w5.2.1, e8]
        have ev : (if nI (wt i) < nI e then nI (wt i) else nI e) = nI (if wt i < e then wt i else e) := by
          by_cases q : wt i < e
          · rw [if_pos (nI_lt q (by omega)), if_pos q]
          · rw [if_neg (nI_nlt (by omega) (by omega)), if_neg q]
        rw [ev]
        obtain ⟨t', o, g1, g2, g3, g4⟩ := ih f (uS t 1 8 k (nI (if wt i < e then wt i else e))) (if wt i < e then wt i else e) (by omega) (by omega) (by split <;> omega) (ET_uS hT (by decide) _ _) (EO_uS hE _) (by rw [tS_f _ _ _ _ _ (by decide)]; exact e7) (tS_e _ _ _ _ _)
        refine ⟨t', o, g1, g2, g3, ?_⟩
        rw [g4]
        refine congrArg nI ?_
        have ml := mnB_le (tlW wc wd wf wt k T B) wt i
        by_cases q : wt i < e
        · rw [if_pos q]
          by_cases q2 : wt i < mnB (tlW wc wd wf wt k T B) wt i
          · rw [if_pos (show tlW wc wd wf wt k T B i = true ∧ wt i < mnB (tlW wc wd wf wt k T B) wt i from ⟨b, q2⟩), if_pos (by omega), if_neg (by omega)]
          · rw [if_neg (show ¬ (tlW wc wd wf wt k T B i = true ∧ wt i < mnB (tlW wc wd wf wt k T B) wt i) from fun z => q2 z.2)]
            split <;> split <;> omega
        · rw [if_neg q]
          by_cases q2 : wt i < mnB (tlW wc wd wf wt k T B) wt i
          · rw [if_pos (show tlW wc wd wf wt k T B i = true ∧ wt i < mnB (tlW wc wd wf wt k T B) wt i from ⟨b, q2⟩), if_pos (by omega), if_pos (by omega)]
          · rw [if_neg (show ¬ (tlW wc wd wf wt k T B i = true ∧ wt i < mnB (tlW wc wd wf wt k T B) wt i) from fun z => q2 z.2)]
      · rw [if_neg b, if_pos rfl, if_neg (show ¬ (tlW wc wd wf wt k T B i = true ∧ wt i < mnB (tlW wc wd wf wt k T B) wt i) from fun z => b z.1)]
        exact ih f t e (by omega) (by omega) he hT hE e7 e8
    · rw [show lastW wc k (i + 1) = lastW wc k i from if_neg c, if_neg (show ¬ (tlW wc wd wf wt k T B i = true ∧ wt i < mnB (tlW wc wd wf wt k T B) wt i) from fun z => by have := z.1; unfold tlW okW at this; simp [c] at this)]
      exact ih f t e (by omega) (by omega) he hT hE e7 e8
theorem reck_eq {K : List (Nat × Nat)} {t : TH} {σ : St} {nc nw : Nat} {wc wd wf wt : Nat → Nat} (h : WV K t σ nc nw wc wd wf wt) {k : Nat} {T : Int32} (hk : k < nc) :
    ∃ t' A B, C_Claim_reckon K t k T = some t' ∧ ET [(1, 7), (1, 8), (1, 9)] [] [] t t' ∧ EO k t t' ∧ Sp (fun x => cB (tlW wc wd wf wt k T x) nw) wf (fun j => j < nw ∧ okW wc wd k T j = true) A B ∧ tS t' 1 9 k = nI A ∧ tS t' 1 7 k = nI B ∧ tS t' 1 8 k = nI (mnB (tlW wc wd wf wt k T B) wt nw) := by
  have hnw := h.1
  have T0 : ET [(1, 7), (1, 8), (1, 9)] [] [] t (uS (uS (uS t 1 7 k 0) 1 8 k 9999) 1 9 k 0) := ET_uS (ET_uS (ET_uS (ET_rf _ _ _ _) (by decide) _ _) (by decide) _ _) (by decide) _ _
  have E0 : EO k t (uS (uS (uS t 1 7 k 0) 1 8 k 9999) 1 9 k 0) := EO_uS (EO_uS (EO_uS (EO_rf _ _) _) _) _
  unfold C_Claim_reckon
  simp only [nm_eq]
  rw [chkP_t (h.2.2.2.2 k hk).1, T0.2.1 1 5 (by decide), (h.2.2.2.2 k hk).2]
  obtain ⟨t1, o, A, B, e1, T1, E1, S1, e9, e7, e8⟩ := rk_22 h (T := T) hk nw 100000 _ 0 0 (Nat.le_refl _) (by omega) T0 E0 (Or.inl ⟨fun ⟨i, hi, hi2, _⟩ => absurd hi2 (by omega), rfl, rfl⟩) (tS_e _ _ _ _ _) (by rw [tS_f _ _ _ _ _ (by decide), tS_f _ _ _ _ _ (by decide), tS_e]; rfl) (by rw [tS_f _ _ _ _ _ (by decide), tS_e]; rfl)
  rw [e1, bnd_some, nm2_eq]
  have h1 : WV K t1 σ nc nw wc wd wf wt := WV_E h T1 (Fx_rf [] σ)
  obtain ⟨bA, bB⟩ := Sp_bd S1 (fun x => cB_le _ nw) (fun j hj => by
    have := (h.2.2.2.1 j hj.1).2.2.2
    omega)
  obtain ⟨t2, o2, e2, T2, E2, e8'⟩ := fe_L h1 (T := T) hk bB nw 100000 t1 9999 (Nat.le_refl _) (by omega) (Nat.le_refl _) (ET_rf _ _ _ _) (EO_rf _ _) e7 e8
  unfold C_Claim_findEnd
  rw [chkP_t (h1.2.2.2.2 k hk).1, nm_eq, (h1.2.2.2.2 k hk).2, e2, bnd_some, nm2_eq, bnd_some]
  refine ⟨t2, A, B, rfl, ET_tr T1 (ET_mono T2 (by decide) (by decide) (by decide)), EO_tr E1 E2, S1, ?_, ?_, ?_⟩
  · rw [T2.1 1 9 (by decide)]
    exact e9
  · rw [T2.1 1 7 (by decide)]
    exact e7
  · rw [e8']
    have := mnB_le (tlW wc wd wf wt k T B) wt nw
    refine congrArg nI ?_
    split <;> omega
