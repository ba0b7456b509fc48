theorem ck0 {β : Type} (k : Option β) : chkI (0 : Int32) 5 k = k := chkI_nI (n := 0) (by omega) (by omega)
theorem ck1 {β : Type} (k : Option β) : chkI (1 : Int32) 5 k = k := chkI_nI (n := 1) (by omega) (by omega)
theorem ck2 {β : Type} (k : Option β) : chkI (2 : Int32) 5 k = k := chkI_nI (n := 2) (by omega) (by omega)
theorem ck3 {β : Type} (k : Option β) : chkI (3 : Int32) 5 k = k := chkI_nI (n := 3) (by omega) (by omega)
theorem ck4 {β : Type} (k : Option β) : chkI (4 : Int32) 5 k = k := chkI_nI (n := 4) (by omega) (by omega)
theorem tn0 : (0 : Int32).toNatClampNeg = 0 := by decide
theorem tn1 : (1 : Int32).toNatClampNeg = 1 := by decide
theorem tn2 : (2 : Int32).toNatClampNeg = 2 := by decide
theorem tn3 : (3 : Int32).toNatClampNeg = 3 := by decide
theorem tn4 : (4 : Int32).toNatClampNeg = 4 := by decide
theorem court_WV {K : List (Nat × Nat)} {t : TH} {σ : St} {n nc nw d : Nat} {cb cq cd wc wd wf wt : Nat → Nat} (h9 : R_court K t σ n nc nw d cb cq cd wc wd wf wt) : WV K t σ nc nw wc wd wf wt := ⟨h9.2.1.1, h9.1.1, h9.2.1.2.2, h9.2.2.2.2, fun k hk => ⟨(h9.2.2.1 k hk).1.1, (h9.2.2.1 k hk).2.2.2.2.2.1⟩⟩
theorem cnt_M {K : List (Nat × Nat)} {t : TH} {σ : St} {n nc nw d : Nat} {cb cq cd wc wd wf wt : Nat → Nat} (h9 : R_court K t σ n nc nw d cb cq cd wc wd wf wt) {c : Nat} (hc : c < nc) (T : Int32) : M_counts σ (nI c) T = some (if T < nI (cd c) then 0 else 1) := by
  have hnc := h9.1.1
  have r := h9.2.2.1 c hc
  unfold M_counts M_isClaim
  rw [if_neg (nI_pos (show c < 2 ^ 31 by omega)), h9.1.2.2, if_neg (nI_ge hc (by omega)), bnd_some, if_neg (show ¬ (1 : Int32) = 0 by decide), chkI_nI (show c < 60 by omega) (by omega), nI_nat (show c < 2 ^ 31 by omega), r.2.2.2.1.2.2]
  split <;> rfl
theorem fs_27 {K : List (Nat × Nat)} {t : TH} {σ : St} {n nc nw d : Nat} {cb cq cd wc wd wf wt : Nat → Nat} (h9 : R_court K t σ n nc nw d cb cq cd wc wd wf wt) (hd : d ≤ 999) {k : Nat} (hk : k < nc) (T : Int32) :
    ∀ (f i v : Nat), i ≤ nc → nc < f + i → (∀ c, c < i → ¬ T < nI (cd c) → cq c = cq k → v ≤ cd c) → (∃ c, c < nc ∧ cq c = cq k ∧ v = cd c) →
      ∃ x v', M_isLawful_L27 f σ (nI i) (nI v) (nI k) T = some (x, nI v') ∧ (∀ c, c < nc → ¬ T < nI (cd c) → cq c = cq k → v' ≤ cd c) ∧ ∃ c, c < nc ∧ cq c = cq k ∧ v' = cd c := by
  have hnc := h9.1.1
  have rk := h9.2.2.1 k hk
  intro f
  induction f with
  | zero =>
    intro i v _ h
    exact absurd h (by omega)
  | succ f ih =>
    intro i v hi hf h1 h2
    unfold M_isLawful_L27
    rw [h9.1.2.2]
    rcases Nat.lt_or_ge i nc with w | w
    · have r := h9.2.2.1 i w
      have vd : v ≤ 999 := by
        obtain ⟨c, c1, c2, c3⟩ := h2
        have := (h9.2.2.1 c c1).2.2.2.1.1
        omega
      rw [if_neg (nI_ge w (by omega)), cnt_M h9 w T, bnd_some]
      simp only [chkI_nI (show i < 60 by omega) (show 60 < 2 ^ 31 by omega), chkI_nI (show k < 60 by omega) (show 60 < 2 ^ 31 by omega), nI_nat (show i < 2 ^ 31 by omega), nI_nat (show k < 2 ^ 31 by omega), nm_eq, nI_1]
      rw [r.2.2.1.2.2, rk.2.2.1.2.2, r.2.2.2.1.2.2]
      by_cases a : T < nI (cd i)
      · rw [if_pos a, if_pos rfl]
        refine ih (i + 1) v (by omega) (by omega) (fun c hc q1 q2 => ?_) h2
        rcases Nat.lt_or_ge c i with y | y
        · exact h1 c y q1 q2
        · rw [show c = i by omega] at q1
          exact absurd a q1
      · rw [if_neg a, if_neg (show ¬ (1 : Int32) = 0 by decide)]
        have b1 := r.2.2.1.1
        have b2 := rk.2.2.1.1
        have b3 := r.2.2.2.1.1
        by_cases b : cq i = cq k
        · rw [if_pos (show nI (cq i) = nI (cq k) by rw [b])]
          by_cases c : v ≤ cd i
          · rw [if_pos (nI_le c (by omega))]
            refine ih (i + 1) v (by omega) (by omega) (fun c' hc q1 q2 => ?_) h2
            rcases Nat.lt_or_ge c' i with y | y
            · exact h1 c' y q1 q2
            · rw [show c' = i by omega]
              exact c
          · rw [if_neg (nI_ge (by omega) (by omega))]
            refine ih (i + 1) (cd i) (by omega) (by omega) (fun c' hc q1 q2 => ?_) ⟨i, w, b, rfl⟩
            rcases Nat.lt_or_ge c' i with y | y
            · have := h1 c' y q1 q2
              omega
            · rw [show c' = i by omega]
              exact Nat.le_refl _
        · rw [if_neg (fun z => b ((nI_eq (by omega) (by omega)).mp z))]
          refine ih (i + 1) v (by omega) (by omega) (fun c' hc q1 q2 => ?_) h2
          rcases Nat.lt_or_ge c' i with y | y
          · exact h1 c' y q1 q2
          · rw [show c' = i by omega] at q2
            exact absurd q2 b
    · rw [if_pos (nI_le w (by omega))]
      exact ⟨_, v, rfl, fun c hc => h1 c (by omega), h2⟩
theorem law_eq {K : List (Nat × Nat)} {t : TH} {σ : St} {n m nc nw d : Nat} {cb cq cd wc wd wf wt : Nat → Nat} (h6 : R_ppl K t σ n m) (h7 : R_rul t σ) (hd : d ≤ 999) (h9 : R_court K t σ n nc nw d cb cq cd wc wd wf wt) {k : Nat} (hk : k < nc) {T : Int32} (hT : ¬ T < nI (cd k)) :
    ∃ t' σ' A B E v, C_Claim_reckon K t k T = some t' ∧ ET [(1, 7), (1, 8), (1, 9)] [] [] t t' ∧ EO k t t' ∧ C_Law_allows K t' k = some v ∧ M_isLawful σ (nI k) T = some (v, σ') ∧ Fx [43, 44, 45] σ σ' ∧ (v = 0 ∨ v = 1) ∧ (A ≤ 200 ∧ B ≤ E ∧ E ≤ 9999) ∧ (tS t' 1 9 k = nI A ∧ σ'.1 45 0 = nI A) ∧ (tS t' 1 7 k = nI B ∧ σ'.1 43 0 = nI B) ∧ tS t' 1 8 k = nI E ∧ σ'.1 44 0 = nI E := by
  have hnc := h9.1.1
  have hn := h6.1
  have hW := court_WV h9
  obtain ⟨t', A, B, eC, hE, hO, hS, c9, c7, c8⟩ := reck_eq hW (T := T) hk
  obtain ⟨σ', A', B', eM, hF, hS', m45, m43, m44⟩ := look_eq hW (T := T) hk
  obtain ⟨rfl, rfl⟩ := Sp_uni hS hS'
  obtain ⟨bA, bB⟩ := Sp_bd hS (fun x => cB_le _ nw) (fun j hj => by
    have := (h9.2.2.2.2 j hj.1).2.2.2
    omega)
  have bE := mnB_le (tlW wc wd wf wt k T B) wt nw
  have bBE : B ≤ mnB (tlW wc wd wf wt k T B) wt nw := mnB_ge bB nw (fun i _ hi => by
    unfold tlW at hi
    simp only [Bool.and_eq_true, decide_eq_true_eq] at hi
    exact hi.2.2)
  have hA200 : A ≤ 200 := by have := h9.2.1.1; omega
  obtain ⟨⟨r1, r2, r3⟩, ⟨r4, r5, r6⟩, ⟨r7, r8, r9⟩, ⟨r10, r11, r12⟩, ⟨fi, f1, f2, f3, f4⟩, r14, r15⟩ := h9.2.2.1 k hk
  obtain ⟨o1, ⟨o2, o2'⟩, o3, ⟨ag, a1, a2, a3⟩, o5⟩ := h6.2.2.2.1 (cb k) r4
  have h9' : R_court K t σ' n nc nw d cb cq cd wc wd wf wt := c_court h9 (ET_rf [] [] [] t) hF (fun _ w => w)
  obtain ⟨x, v', e27, g1, ⟨c, g2, g3, g4⟩⟩ := fs_27 h9' hd hk T 100000 0 (cd k) (by omega) (by omega) (fun c hc => absurd hc (by omega)) ⟨k, hk, rfl, rfl⟩
  have fk : cd fi ≤ cd k := h9.2.2.2.1 fi k f1 hk
  have cnt : ∀ c, c ≤ k → ¬ T < nI (cd c) := fun c hc z => hT (Int32.lt_of_lt_of_le z (nI_le (h9.2.2.2.1 c k hc hk) (by omega)))
  have ev : v' = cd fi := by
    have p1 := g1 fi (by omega) (cnt fi f1) f2
    have p2 : fi ≤ c := by
      rcases Nat.lt_or_ge c fi with y | y
      · exact absurd g3 (f3 c y)
      · exact y
    have p3 := h9.2.2.2.1 fi c p2 g2
    omega
  obtain ⟨⟨la, l1, l2, l3⟩, l4, ⟨lp, l5, l6, l7⟩, ⟨ld, l8, l9, l10⟩, l11⟩ := h7
  refine ⟨t', σ', A, B, _, (if ag < la then 0 else if (σ.1 19 (cb k) = 0 ∨ tS t 4 1 0 = 0) then (if A < lp then 0 else if ld < cd k - cd fi then 0 else 1) else 0), eC, hE, hO, ?_, ?_, hF, ?_, ⟨hA200, bBE, bE⟩, ⟨c9, m45⟩, ⟨c7, m43⟩, c8, m44⟩
  · unfold C_Law_allows
    rw [chkP_t r1, hE.2.1 1 1 (by decide), r5]
    simp only [nm_eq, opt_some, chkP_t o1.1]
    rw [hE.1 7 3 (by decide), hE.1 7 1 (by decide), hE.1 4 0 (by decide), hE.1 4 1 (by decide), hE.1 4 2 (by decide), hE.1 4 3 (by decide), hE.1 1 4 (by decide), a2, l2, o2, c9, l6, l9, f4]
    by_cases q1 : ag < la
    · rw [if_pos q1, if_pos (nI_lt q1 (by omega))]
    · rw [if_neg q1, if_neg (nI_nlt (by omega) (by omega))]
      have rest : (if nI A < nI lp then some (0 : Int32) else if nI ld < nI (cd k - cd fi) then some 0 else some 1) = some (if A < lp then 0 else if ld < cd k - cd fi then 0 else 1) := by
        by_cases q2 : A < lp
        · rw [if_pos q2, if_pos (nI_lt q2 (by omega))]
        · rw [if_neg q2, if_neg (nI_nlt (by omega) (by omega))]
          by_cases q3 : ld < cd k - cd fi
          · rw [if_pos q3, if_pos (nI_lt q3 (by omega))]
          · rw [if_neg q3, if_neg (nI_nlt (by omega) (by omega))]
      by_cases q4 : σ.1 19 (cb k) = 0
      · rw [if_pos q4, if_pos (Or.inl q4)]
        exact rest
      · rw [if_neg q4]
        by_cases q5 : tS t 4 1 0 = 0
        · rw [if_pos q5, if_pos (Or.inr q5)]
          exact rest
        · rw [if_neg q5, if_neg (fun z => z.elim q4 q5)]
  · unfold M_isLawful
    rw [cnt_M h9 hk T, bnd_some, if_neg hT, if_neg (show ¬ (1 : Int32) = 0 by decide), eM, bnd_some]
    simp only [chkI_nI (show k < 60 by omega) (show 60 < 2 ^ 31 by omega), nI_nat (show k < 2 ^ 31 by omega), nm_eq, ck0, ck1, ck2, ck3, tn0, tn1, tn2, tn3]
    rw [hF.1 36 (by decide), hF.1 34 (by decide), hF.1 11 (by decide), hF.1 19 (by decide), hF.1 23 (by decide), r12, show M_isLawful_L27 100000 σ' 0 (nI (cd k)) (nI k) T = some (x, nI v') from e27, bnd_some, nm2_eq, r6]
    simp only [chkI_nI (show cb k < 30 by omega) (show 30 < 2 ^ 31 by omega), nI_nat (show cb k < 2 ^ 31 by omega)]
    rw [a3, l3, l7, l10, m45, ev, pk_sub fk]
    by_cases q1 : ag < la
    · rw [if_pos q1, if_pos (nI_lt q1 (by omega))]
    · rw [if_neg q1, if_neg (nI_nlt (by omega) (by omega))]
      have rest : (if nI A < nI lp then some ((0 : Int32), σ') else if nI ld < nI (cd k - cd fi) then some (0, σ') else some (1, σ')) = some (if A < lp then 0 else if ld < cd k - cd fi then 0 else 1, σ') := by
        by_cases q2 : A < lp
        · rw [if_pos q2, if_pos (nI_lt q2 (by omega))]
        · rw [if_neg q2, if_neg (nI_nlt (by omega) (by omega))]
          by_cases q3 : ld < cd k - cd fi
          · rw [if_pos q3, if_pos (nI_lt q3 (by omega))]
          · rw [if_neg q3, if_neg (nI_nlt (by omega) (by omega))]
      by_cases q4 : σ.1 19 (cb k) = 0
      · rw [if_pos q4, if_pos (Or.inl q4)]
        exact rest
      · rw [if_neg q4]
        rcases l4 with ⟨y1, y2⟩ | ⟨y1, y2⟩
        · rw [y2, if_pos rfl, if_pos (Or.inr y1)]
          exact rest
        · rw [y2, if_neg (show ¬ (0 : Int32) = 1 by decide), if_neg (fun z => z.elim q4 (fun w => by rw [y1] at w; exact absurd w (by decide)))]
  · split
    · exact Or.inl rfl
    · split
      · split
        · exact Or.inl rfl
        · split
          · exact Or.inl rfl
          · exact Or.inr rfl
      · exact Or.inl rfl
theorem p_span {K : List (Nat × Nat)} {t : TH} {σ : St} (h : Rel K t σ) (x T y : Int32) : ∃ Y, some Y = L_span K t σ x T y ∧ Rel Y.1 Y.2.1 Y.2.2 := by
  obtain ⟨n, nc, nw, m, d, cb, cq, cd, wc, wd, wf, wt, h1, h2, h3, h4, h5, h6, h7, h8, h9, h10, h11⟩ := h
  have hF0 : Fx [0] σ (s1 σ 0 0 0) := Fx_s1 (Fx_rf _ _) (by decide) _ _
  have h6' : R_ppl K t (s1 σ 0 0 0) n m := h6
  have h7' : R_rul t (s1 σ 0 0 0) := h7
  have h9' : R_court K t (s1 σ 0 0 0) n nc nw d cb cq cd wc wd wf wt := h9
  have hdef : ∀ (t' : TH) (σ' : St), ET [(1, 7), (1, 8), (1, 9)] [] [] t t' → Fx [43, 44, 45] (s1 σ 0 0 0) σ' → Rel K t' σ' := fun t' σ' hT hF1 => by
    have hF : Fx [0, 43, 44, 45] σ σ' := Fx_tr (Fx_mono hF0 (by decide)) (Fx_mono hF1 (by decide))
    exact ⟨n, nc, nw, m, d, cb, cq, cd, wc, wd, wf, wt, c_len h1 hT, c_tape h2 hT hF, c_land h3 hT hF, c_race h4 hT hF, c_stk h5 hT hF, c_ppl h6 hT hF (fun _ w => w), c_rul h7 hT hF, c_day h8 hT hF, c_court h9 hT hF (fun _ w => w), h10, c_P h11 hT⟩
  unfold L_span C_Run_span M_span
  rw [nm_eq]
  rcases c_at h1 h9' x with ⟨k, hk, rfl, e1, e2⟩ | ⟨e1, e2⟩
  · have hnc := h9.1.1
    have rc := h9.2.2.1 k hk
    rw [e1, bnd_some, opt_some, chkP_t rc.1.1, rc.2.2.2.1.2.1, cnt_M h9' hk T, bnd_some]
    by_cases c : T < nI (cd k)
    · rw [if_neg (Int32.not_le.mpr c), if_pos c, if_pos rfl, bnd2_some, bnd2_some, if_pos rfl]
      exact ⟨_, rfl, hdef _ _ (ET_rf _ _ _ _) (Fx_rf _ _)⟩
    · rw [if_pos (Int32.not_lt.mp c), if_neg c, if_neg (show ¬ (1 : Int32) = 0 by decide)]
      obtain ⟨t', σ', A, B, E, v, eC, hE, hO, eA, eM, hF, hv, hb, ⟨q9, q45⟩, ⟨q7, q43⟩, q8, q44⟩ := law_eq h6' h7' h8.1 h9' hk c
      rw [eC, bnd_some]
      have noth : (¬ y = 0 ∧ ¬ y = 1 ∧ ¬ y = 2 ∧ ¬ y = 3) → (y < 0 ∨ ¬ y ≤ 3) := fun ⟨n0, n1, n2, n3⟩ => by
        by_cases a : y < 0
        · exact Or.inl a
        · right
          intro b
          obtain ⟨j, hj, rfl⟩ := nI_of a
          have := (nI_leI (b := 3) hj (by omega)).mp b
          rcases (show j = 0 ∨ j = 1 ∨ j = 2 ∨ j = 3 by omega) with rfl | rfl | rfl | rfl
          · exact n0 rfl
          · exact n1 rfl
          · exact n2 rfl
          · exact n3 rfl
      by_cases y0 : y = 0
      · subst y0
        rw [if_pos rfl, if_neg (show ¬ (0 : Int32) < 0 by decide), if_pos (show (0 : Int32) ≤ 3 by decide), eM, bnd2_some, bnd2_some, if_pos rfl, bnd2_some, q7, q43, if_pos rfl]
        exact ⟨_, rfl, hdef _ _ hE hF⟩
      by_cases y1 : y = 1
      · subst y1
        rw [if_neg (show ¬ (1 : Int32) = 0 by decide), if_pos rfl, if_neg (show ¬ (1 : Int32) < 0 by decide), if_pos (show (1 : Int32) ≤ 3 by decide), eM, bnd2_some, bnd2_some, if_neg (show ¬ (1 : Int32) = 0 by decide), if_pos rfl, bnd2_some, q8, q44, if_pos rfl]
        exact ⟨_, rfl, hdef _ _ hE hF⟩
      by_cases y2 : y = 2
      · subst y2
        rw [if_neg (show ¬ (2 : Int32) = 0 by decide), if_neg (show ¬ (2 : Int32) = 1 by decide), if_pos rfl, if_neg (show ¬ (2 : Int32) < 0 by decide), if_pos (show (2 : Int32) ≤ 3 by decide), eM, bnd2_some, bnd2_some, if_neg (show ¬ (2 : Int32) = 0 by decide), if_neg (show ¬ (2 : Int32) = 1 by decide), if_pos rfl, bnd2_some, q9, q45, if_pos rfl]
        exact ⟨_, rfl, hdef _ _ hE hF⟩
      by_cases y3 : y = 3
      · subst y3
        rw [if_neg (show ¬ (3 : Int32) = 0 by decide), if_neg (show ¬ (3 : Int32) = 1 by decide), if_neg (show ¬ (3 : Int32) = 2 by decide), if_pos rfl, if_neg (show ¬ (3 : Int32) < 0 by decide), if_pos (show (3 : Int32) ≤ 3 by decide), eM, bnd2_some, if_neg (show ¬ (3 : Int32) = 0 by decide), if_neg (show ¬ (3 : Int32) = 1 by decide), if_neg (show ¬ (3 : Int32) = 2 by decide), eA, bnd_some]
        rcases hv with rfl | rfl
        · rw [if_pos rfl, if_pos rfl, bnd2_some, bnd2_some, if_pos rfl]
          exact ⟨_, rfl, hdef _ _ hE hF⟩
        · rw [if_neg (show ¬ (1 : Int32) = 0 by decide), if_neg (show ¬ (1 : Int32) = 0 by decide), bnd2_some, bnd2_some, if_pos rfl]
          exact ⟨_, rfl, hdef _ _ hE hF⟩
      · rw [if_neg y0, if_neg y1, if_neg y2, if_neg y3, bnd2_some]
        have em : (if y < 0 then some ((-1 : Int32), s1 σ 0 0 0) else if y ≤ 3 then bnd2 (M_isLawful (s1 σ 0 0 0) (nI k) T) (fun v8 σ7 => if y = 0 then some (σ7.1 43 0, σ7) else if y = 1 then some (σ7.1 44 0, σ7) else if y = 2 then some (σ7.1 45 0, σ7) else if v8 = 0 then some (0, σ7) else some (1, σ7)) else some ((-1), s1 σ 0 0 0)) = some (-1, s1 σ 0 0 0) := by
          rcases noth ⟨y0, y1, y2, y3⟩ with a | a
          · rw [if_pos a]
          · by_cases b : y < 0
            · rw [if_pos b]
            · rw [if_neg b, if_neg a]
        rw [em, bnd2_some, if_pos rfl]
        exact ⟨_, rfl, hdef _ _ hE (Fx_rf _ _)⟩
  · have eM : M_counts (s1 σ 0 0 0) x T = some 0 := by
      unfold M_counts
      rw [e2, bnd_some, if_pos rfl]
    rw [e1, bnd_some, opt_none, eM, bnd_some, if_pos rfl, bnd2_some, bnd2_some, if_pos rfl]
    exact ⟨_, rfl, hdef _ _ (ET_rf _ _ _ _) (Fx_rf _ _)⟩
