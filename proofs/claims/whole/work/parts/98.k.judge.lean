/-- the lawful claims that were gathered, as both sides hold them -/
def GV (K : List (Nat × Nat)) (t : TH) (σ : St) (nc r : Nat) (rc b e : Nat → Nat) : Prop := r ≤ 60 ∧ tS t 2 5 0 = nI r ∧ σ.1 49 0 = nI r ∧ (∀ i, i < r → rc i < nc ∧ tP t 16 1 i = some (rc i) ∧ σ.1 46 i = nI (rc i) ∧ (tS t 1 7 (rc i) = nI (b i) ∧ σ.1 47 i = nI (b i)) ∧ (tS t 1 8 (rc i) = nI (e i) ∧ σ.1 48 i = nI (e i)) ∧ b i ≤ e i ∧ e i ≤ 9999) ∧ ∀ i j, i < j → j < r → rc i < rc j
theorem GV_inj {K : List (Nat × Nat)} {t : TH} {σ : St} {nc r : Nat} {rc b e : Nat → Nat} (h : GV K t σ nc r rc b e) {i j : Nat} (hi : i < r) (hj : j < r) (q : rc i = rc j) : i = j := by
  rcases Nat.lt_trichotomy i j with k | k | k
  · have := h.2.2.2.2 i j k hj
    omega
  · exact k
  · have := h.2.2.2.2 j i k hi
    omega
def Eg : List (Nat × Nat) := [(1, 7), (1, 8), (1, 9), (2, 5)]
def Fg : List Nat := [0, 43, 44, 45, 46, 47, 48, 49]
theorem ga_L {K : List (Nat × Nat)} {t0 : TH} {σ0 : St} {n m nc nw d : Nat} {cb cq cd wc wd wf wt : Nat → Nat} (h1 : R_len t0) (h6 : R_ppl K t0 σ0 n m) (h7 : R_rul t0 σ0) (hd : d ≤ 999) (h9 : R_court K t0 σ0 n nc nw d cb cq cd wc wd wf wt) {q : Nat} (hq : q < 64) (T : Int32) :
    ∀ (f k : Nat) (t : TH) (σ : St) (r : Nat) (rc b e : Nat → Nat), k ≤ nc → nc < f + k → ET Eg [(16, 1)] [] t0 t → Fx Fg σ0 σ → (∀ y x, tP t 16 1 y = some x → x < nc) → GV K t σ nc r rc b e → r ≤ k → (∀ i, i < r → rc i < k) →
      ∃ t' σ' x y r' rc' b' e', C_Court_gather_L7 f K t (nI k) (nI q) T = some (t', x) ∧ M_gather_L7 f σ (nI k) (nI q) T = some (σ', y) ∧ ET Eg [(16, 1)] [] t0 t' ∧ Fx Fg σ0 σ' ∧ (∀ y x, tP t' 16 1 y = some x → x < nc) ∧ GV K t' σ' nc r' rc' b' e' := by
  have hnc := h9.1.1
  intro f
  induction f with
  | zero =>
    intro k t σ r rc b e _ h
    exact absurd h (by omega)
  | succ f ih =>
    intro k t σ r rc b e hk hf hT hF hP hG hr hrc
    have h6' : R_ppl K t σ n m := c_ppl h6 hT hF (fun _ w => w)
    have h7' : R_rul t σ := c_rul h7 hT hF
    have h9' : R_court K t σ n nc nw d cb cq cd wc wd wf wt := c_court h9 hT hF (fun _ w => w)
    have h1' : R_len t := c_len h1 hT
    unfold C_Court_gather_L7 M_gather_L7
    rw [h9'.1.2.1, h9'.1.2.2]
    rcases Nat.lt_or_ge k nc with w | w
    · obtain ⟨⟨r1, r2, r3⟩, ⟨r4, r5, r6⟩, ⟨r7, r8, r9⟩, ⟨r10, r11, r12⟩, r13⟩ := h9'.2.2.1 k w
      rw [if_neg (nI_ge w (by omega)), if_neg (nI_ge w (by omega)), c_atN h1' h9' w, bnd_some, opt_some, chkP_t r1, r8, r11, chkI_nI (show k < 60 by omega) (by omega), nI_nat (show k < 2 ^ 31 by omega), r9]
      simp only [nm_eq, nI_1]
      have skip := ih (k + 1) t σ r rc b e (by omega) (by omega) hT hF hP hG (by omega) (fun i hi => by have := hrc i hi; omega)
      by_cases c : cq k = q
      · rw [if_pos (show nI (cq k) = nI q by rw [c]), if_pos (show nI (cq k) = nI q by rw [c])]
        by_cases a : T < nI (cd k)
        · rw [if_pos a]
          have eM : M_isLawful σ (nI k) T = some (0, σ) := by
            unfold M_isLawful
            rw [cnt_M h9' w T, bnd_some, if_pos a, if_pos rfl]
          rw [eM, bnd2_some, if_pos rfl]
          exact skip
        · obtain ⟨t1, σ1, A, B, E, v, eC, T1, O1, eA, eM, F1, hv, hb, ⟨q9, q45⟩, ⟨q7, q43⟩, q8, q44⟩ := law_eq h6' h7' hd h9' w a
          rw [if_neg a, eC, bnd_some, eA, bnd_some, eM, bnd2_some]
          have T01 : ET Eg [(16, 1)] [] t0 t1 := ET_tr hT (ET_mono T1 (by decide) (by decide) (by decide))
          have F01 : Fx Fg σ0 σ1 := Fx_tr hF (Fx_mono F1 (by decide))
          have P1 : ∀ y x, tP t1 16 1 y = some x → x < nc := fun y x => by rw [T1.2.1 16 1 (by decide)]; exact hP y x
          have G1 : GV K t1 σ1 nc r rc b e := by
            obtain ⟨g1, g2, g3, g4, g5⟩ := hG
            refine ⟨g1, by rw [T1.1 2 5 (by decide)]; exact g2, by rw [F1.1 49 (by decide)]; exact g3, fun i hi => ?_, g5⟩
            obtain ⟨o7, o8, _⟩ := O1 (rc i) (by have := hrc i hi; omega)
            rw [T1.2.1 16 1 (by decide), F1.1 46 (by decide), F1.1 47 (by decide), F1.1 48 (by decide), o7, o8]
            exact g4 i hi
          rcases hv with rfl | rfl
          · rw [if_pos rfl, if_pos rfl]
            exact ih (k + 1) t1 σ1 r rc b e (by omega) (by omega) T01 F01 P1 G1 (by omega) (fun i hi => by have := hrc i hi; omega)
          · rw [if_neg (show ¬ (1 : Int32) = 0 by decide), if_neg (show ¬ (1 : Int32) = 0 by decide)]
            have er : tS t1 2 5 0 = nI r := G1.2.1
            have em : σ1.1 49 0 = nI r := G1.2.2.1
            have l16 : tN t1 16 1 = 60 := by rw [T01.2.2.2]; exact h1.2.2.2.2.2.2.2.2
            have eL : C_Court_addLawful K t1 k = some (uS (uP t1 16 1 r (some k)) 2 5 0 (nI (r + 1))) := by
              unfold C_Court_addLawful
              rw [er, if_neg (nI_pos (show r < 2 ^ 31 by omega)), l16, if_neg (nI_ge (show r < 60 by omega) (by omega)), chkP_t r1, chkI_nI (show r < 60 by omega) (by omega), nm_eq, nm_eq, nI_nat (show r < 2 ^ 31 by omega), xSP, er, nI_1]
            rw [eL, bnd_some]
            simp (disch := first | decide | omega) only [s1_oth, em, q43, q44, nI_nat, chkI_nI, nI_1]
            obtain ⟨g1, g2, g3, g4, g5⟩ := G1
            refine ih (k + 1) (uS (uP t1 16 1 r (some k)) 2 5 0 (nI (r + 1))) (s1 (s1 (s1 (s1 σ1 46 r (nI k)) 47 r (nI B)) 48 r (nI E)) 49 0 (nI (r + 1))) (r + 1) (fun i => if i = r then k else rc i) (fun i => if i = r then B else b i) (fun i => if i = r then E else e i) (by omega) (by omega) (ET_uS (ET_uP T01 (by decide) _ _) (by decide) _ _) (Fx_s1 (Fx_s1 (Fx_s1 (Fx_s1 F01 (by decide) _ _) (by decide) _ _) (by decide) _ _) (by decide) _ _) (fun y x hx => ?_) ⟨by omega, tS_e _ _ _ _ _, s1_e _ _ _ _, fun i hi => ?_, fun i j hij hj => ?_⟩ (by omega) (fun i hi => ?_)
            · rw [xPS] at hx
              by_cases y0 : y = r
              · rw [y0, tP_e] at hx
                cases hx
                exact w
              · rw [tP_i _ _ _ _ _ y0] at hx
                exact P1 y x hx
            · rw [xPS, tS_c _ _ _ _ _ (by decide), xSP, s1_oth _ _ _ _ (show 46 ≠ 49 by decide), s1_oth _ _ _ _ (show 46 ≠ 48 by decide), s1_oth _ _ _ _ (show 46 ≠ 47 by decide), s1_oth _ _ _ _ (show 47 ≠ 49 by decide), s1_oth _ _ _ _ (show 47 ≠ 48 by decide), s1_oth _ _ _ _ (show 48 ≠ 49 by decide)]
              by_cases y0 : i = r
              · subst y0
                simp only [if_true]
                rw [tP_e, s1_e, s1_e, s1_e]
                exact ⟨w, rfl, rfl, ⟨q7, rfl⟩, ⟨q8, rfl⟩, hb.2.1, hb.2.2⟩
              · simp only [y0, if_false]
                rw [tP_i _ _ _ _ _ y0, s1_i _ _ _ _ y0, s1_i _ _ _ _ y0, s1_i _ _ _ _ y0, s1_oth _ _ _ _ (show 47 ≠ 46 by decide), s1_oth _ _ _ _ (show 48 ≠ 47 by decide), s1_oth _ _ _ _ (show 48 ≠ 46 by decide)]
                exact g4 i (by omega)
            · by_cases y0 : j = r
              · simp only [y0, if_true, show ¬ i = r by omega, if_false]
                exact hrc i (by omega)
              · simp only [y0, show ¬ i = r by omega, if_false]
                exact g5 i j hij (by omega)
            · by_cases y0 : i = r
              · simp only [y0, if_true]
                omega
              · simp only [y0, if_false]
                have := hrc i (by omega)
                omega
      · rw [if_neg (fun z => c ((nI_eq (by omega) (by omega)).mp z)), if_neg (fun z => c ((nI_eq (by omega) (by omega)).mp z))]
        exact skip
    · rw [if_pos (nI_le w (by omega)), if_pos (nI_le w (by omega))]
      exact ⟨t, σ, _, _, r, rc, b, e, rfl, rfl, hT, hF, hP, hG⟩
theorem la_at {K : List (Nat × Nat)} {t : TH} {σ : St} {nc r : Nat} {rc b e : Nat → Nat} (h : GV K t σ nc r rc b e) (hl : tN t 16 1 = 60) {i : Nat} (hi : i < r) : C_Court_lawfulAt K t (nI i) = some (some (rc i)) := by
  have hr := h.1
  unfold C_Court_lawfulAt
  rw [if_neg (nI_pos (show i < 2 ^ 31 by omega)), h.2.1, if_neg (nI_ge hi (by omega)), hl, if_neg (nI_ge (show i < 60 by omega) (by omega)), chkI_nI (show i < 60 by omega) (by omega), nm_eq, nI_nat (show i < 2 ^ 31 by omega), (h.2.2.2.1 i hi).2.1]
/-- what a claim has, apart from spans -/
def CN (K : List (Nat × Nat)) (t : TH) (nc : Nat) : Prop := nc ≤ 60 ∧ tN t 16 1 = 60 ∧ ∀ c, c < nc → (1, c) ∈ K ∧ tS t 1 0 c = nI c
def Su (r : Nat) (b e : Nat → Nat) (i : Nat) : Prop := ∀ j, j < r → j ≠ i → e i < b j
theorem ah_C {K : List (Nat × Nat)} {t : TH} {σ : St} {nc r : Nat} {rc b e : Nat → Nat} (h : GV K t σ nc r rc b e) (hc : CN K t nc) {i : Nat} (hi : i < r) :
    ∀ (f j : Nat), j ≤ r → r < f + j → ((∀ j', j ≤ j' → j' < r → j' ≠ i → e i < b j') ∧ ∃ x, C_Court_isAheadOfAll_L2 f K t (nI j) (rc i) = some (1, x, 0)) ∨ ((¬ ∀ j', j ≤ j' → j' < r → j' ≠ i → e i < b j') ∧ ∃ x, C_Court_isAheadOfAll_L2 f K t (nI j) (rc i) = some (0, x, 0)) := by
  have hr := h.1
  obtain ⟨i1, i2, i3, i4, i5, i6, i7⟩ := h.2.2.2.1 i hi
  have ci := hc.2.2 (rc i) i1
  have hnc := hc.1
  intro f
  induction f with
  | zero =>
    intro j _ hf
    exact absurd hf (by omega)
  | succ f ih =>
    intro j hj hf
    unfold C_Court_isAheadOfAll_L2
    rw [h.2.1]
    rcases Nat.lt_or_ge j r with w | w
    · obtain ⟨j1, j2, j3, j4, j5, j6, j7⟩ := h.2.2.2.1 j w
      have cj := hc.2.2 (rc j) j1
      rw [if_neg (nI_ge w (by omega)), la_at h hc.2.1 w, bnd_some, opt_some, chkP_t cj.1, chkP_t ci.1, cj.2, ci.2]
      simp only [nm_eq, nI_1]
      have st : ∀ (q : j = i ∨ e i < b j), ((∀ j', j ≤ j' → j' < r → j' ≠ i → e i < b j') ∧ ∃ x, C_Court_isAheadOfAll_L2 f K t (nI (j + 1)) (rc i) = some (1, x, 0)) ∨ ((¬ ∀ j', j ≤ j' → j' < r → j' ≠ i → e i < b j') ∧ ∃ x, C_Court_isAheadOfAll_L2 f K t (nI (j + 1)) (rc i) = some (0, x, 0)) := fun q => by
        rcases ih (j + 1) (by omega) (by omega) with ⟨a1, a2⟩ | ⟨a1, a2⟩
        · refine Or.inl ⟨fun j' p1 p2 p3 => ?_, a2⟩
          rcases Nat.lt_or_ge j j' with y | y
          · exact a1 j' y p2 p3
          · have ej : j' = j := by omega
            rw [ej]
            exact q.resolve_left (fun z => p3 (by omega))
        · exact Or.inr ⟨fun z => a1 (fun j' p1 => z j' (by omega)), a2⟩
      by_cases c : j = i
      · rw [if_pos (show nI (rc j) = nI (rc i) by rw [c])]
        exact st (Or.inl c)
      · rw [if_neg (fun z => c (GV_inj h w hi ((nI_eq (by omega) (by omega)).mp z)))]
        unfold C_Claim_isAheadOf
        rw [chkP_t ci.1, chkP_t cj.1, j4.1, i5.1]
        by_cases a : b j ≤ e i
        · rw [if_pos (nI_le a (by omega)), bnd_some, if_pos rfl]
          refine Or.inr ⟨fun z => ?_, _, rfl⟩
          have := z j (Nat.le_refl _) w c
          omega
        · rw [if_neg (nI_ge (by omega) (by omega)), bnd_some, if_neg (show ¬ (1 : Int32) = 0 by decide)]
          exact st (Or.inr (by omega))
    · rw [if_pos (nI_le w (by omega))]
      exact Or.inl ⟨fun j' p1 p2 => absurd p2 (by omega), _, rfl⟩
theorem ah_M {K : List (Nat × Nat)} {t : TH} {σ : St} {nc r : Nat} {rc b e : Nat → Nat} (h : GV K t σ nc r rc b e) {i : Nat} (hi : i < r) :
    ∀ (f j : Nat), j ≤ r → r < f + j → ((∀ j', j ≤ j' → j' < r → j' ≠ i → e i < b j') ∧ ∃ x, M_sure_L14 f σ (nI j) 1 (nI i) = some (x, 1)) ∨ ((¬ ∀ j', j ≤ j' → j' < r → j' ≠ i → e i < b j') ∧ ∃ x, M_sure_L14 f σ (nI j) 1 (nI i) = some (x, 0)) := by
  have hr := h.1
  obtain ⟨i1, i2, i3, i4, i5, i6, i7⟩ := h.2.2.2.1 i hi
  have zero : ∀ (f j : Nat), j ≤ r → r < f + j → ∃ x, M_sure_L14 f σ (nI j) 0 (nI i) = some (x, 0) := by
    intro f
    induction f with
    | zero =>
      intro j _ hf
      exact absurd hf (by omega)
    | succ f ih =>
      intro j hj hf
      unfold M_sure_L14
      rw [h.2.2.1]
      rcases Nat.lt_or_ge j r with w | w
      · rw [if_neg (nI_ge w (by omega)), if_pos rfl, nm_eq, nI_1]
        exact ih (j + 1) (by omega) (by omega)
      · rw [if_pos (nI_le w (by omega))]
        exact ⟨_, rfl⟩
  intro f
  induction f with
  | zero =>
    intro j _ hf
    exact absurd hf (by omega)
  | succ f ih =>
    intro j hj hf
    unfold M_sure_L14
    rw [h.2.2.1]
    rcases Nat.lt_or_ge j r with w | w
    · obtain ⟨j1, j2, j3, j4, j5, j6, j7⟩ := h.2.2.2.1 j w
      rw [if_neg (nI_ge w (by omega)), if_neg (show ¬ (1 : Int32) = 0 by decide)]
      simp only [nm_eq, nI_1]
      have st : ∀ (q : j = i ∨ e i < b j), ((∀ j', j ≤ j' → j' < r → j' ≠ i → e i < b j') ∧ ∃ x, M_sure_L14 f σ (nI (j + 1)) 1 (nI i) = some (x, 1)) ∨ ((¬ ∀ j', j ≤ j' → j' < r → j' ≠ i → e i < b j') ∧ ∃ x, M_sure_L14 f σ (nI (j + 1)) 1 (nI i) = some (x, 0)) := fun q => by
        rcases ih (j + 1) (by omega) (by omega) with ⟨a1, a2⟩ | ⟨a1, a2⟩
        · refine Or.inl ⟨fun j' p1 p2 p3 => ?_, a2⟩
          rcases Nat.lt_or_ge j j' with y | y
          · exact a1 j' y p2 p3
          · have ej : j' = j := by omega
            rw [ej]
            exact q.resolve_left (fun z => p3 (by omega))
        · exact Or.inr ⟨fun z => a1 (fun j' p1 => z j' (by omega)), a2⟩
      by_cases c : j = i
      · rw [if_pos (show nI j = nI i by rw [c])]
        exact st (Or.inl c)
      · rw [if_neg (fun z => c ((nI_eq (by omega) (by omega)).mp z)), chkI_nI (show i < 60 by omega) (by omega), chkI_nI (show j < 60 by omega) (by omega), nI_nat (show i < 2 ^ 31 by omega), nI_nat (show j < 2 ^ 31 by omega), j4.2, i5.2]
        by_cases a : b j ≤ e i
        · rw [if_pos (nI_le a (by omega))]
          refine Or.inr ⟨fun z => ?_, zero f (j + 1) (by omega) (by omega)⟩
          have := z j (Nat.le_refl _) w c
          omega
        · rw [if_neg (nI_ge (by omega) (by omega))]
          exact st (Or.inr (by omega))
    · rw [if_pos (nI_le w (by omega))]
      exact Or.inl ⟨fun j' p1 p2 => absurd p2 (by omega), _, rfl⟩
def oI (o : Option Nat) : Int32 := match o with
  | none => -1
  | some c => nI c
theorem su_L {K : List (Nat × Nat)} {t : TH} {σ : St} {nc r : Nat} {rc b e : Nat → Nat} (h : GV K t σ nc r rc b e) (hc : CN K t nc) :
    ∀ (f i : Nat), i ≤ r → r < f + i → (∃ x y c, C_Court_winnerBySpans_L2 f K t (nI i) = some (0, x, some c) ∧ M_sure_L2 f σ (nI i) = some (0, y, nI c) ∧ c < nc) ∨ (∃ x y, C_Court_winnerBySpans_L2 f K t (nI i) = some (1, x, none) ∧ M_sure_L2 f σ (nI i) = some (1, y, 0)) := by
  have hr := h.1
  intro f
  induction f with
  | zero =>
    intro i _ hf
    exact absurd hf (by omega)
  | succ f ih =>
    intro i hi hf
    unfold C_Court_winnerBySpans_L2 M_sure_L2
    rw [h.2.1, h.2.2.1]
    rcases Nat.lt_or_ge i r with w | w
    · obtain ⟨i1, i2, i3, i4, i5, i6, i7⟩ := h.2.2.2.1 i w
      rw [if_neg (nI_ge w (by omega)), if_neg (nI_ge w (by omega)), la_at h hc.2.1 w, bnd_some, opt_some]
      unfold C_Court_isAheadOfAll
      rcases ah_C h hc w 100000 0 (by omega) (by omega) with ⟨a1, x, e1⟩ | ⟨a1, x, e1⟩
      · rcases ah_M h w 100000 0 (by omega) (by omega) with ⟨a2, y, e2⟩ | ⟨a2, y, e2⟩
        · rw [show C_Court_isAheadOfAll_L2 100000 K t 0 (rc i) = some (1, x, 0) from e1, bnd_some, show M_sure_L14 100000 σ 0 1 (nI i) = some (y, 1) from e2, bnd_some]
          simp only [nm2_eq, Nat.one_ne_zero, if_false, if_true, bnd_some, i10]
          rw [chkI_nI (show i < 60 by omega) (by omega), nI_nat (show i < 2 ^ 31 by omega), i3]
          exact Or.inl ⟨_, _, rc i, rfl, rfl, i1⟩
        · exact absurd a1 a2
      · rcases ah_M h w 100000 0 (by omega) (by omega) with ⟨a2, y, e2⟩ | ⟨a2, y, e2⟩
        · exact absurd a2 a1
        · rw [show C_Court_isAheadOfAll_L2 100000 K t 0 (rc i) = some (0, x, 0) from e1, bnd_some, show M_sure_L14 100000 σ 0 1 (nI i) = some (y, 0) from e2, bnd_some]
          simp only [nm2_eq, nm_eq, if_true, chkZ_0, bnd_some, nI_1]
          exact ih (i + 1) (by omega) (by omega)
    · rw [if_pos (nI_le w (by omega)), if_pos (nI_le w (by omega))]
      exact Or.inr ⟨_, _, rfl, rfl⟩
theorem su_eq {K : List (Nat × Nat)} {t : TH} {σ : St} {nc r : Nat} {rc b e : Nat → Nat} (h : GV K t σ nc r rc b e) (hc : CN K t nc) : ∃ o, C_Court_winnerBySpans K t = some o ∧ M_sure σ = some (oI o) ∧ ∀ c, o = some c → c < nc := by
  have hr := h.1
  unfold C_Court_winnerBySpans M_sure
  rcases su_L h hc 100000 0 (by omega) (by omega) with ⟨x, y, c, e1, e2, e3⟩ | ⟨x, y, e1, e2⟩
  · rw [show C_Court_winnerBySpans_L2 100000 K t 0 = some (0, x, some c) from e1, bnd_some, show M_sure_L2 100000 σ 0 = some (0, y, nI c) from e2, bnd_some]
    exact ⟨some c, rfl, rfl, fun c' q => by cases q; exact e3⟩
  · rw [show C_Court_winnerBySpans_L2 100000 K t 0 = some (1, x, none) from e1, bnd_some, show M_sure_L2 100000 σ 0 = some (1, y, 0) from e2, bnd_some]
    exact ⟨none, rfl, rfl, fun c' q => by cases q⟩
