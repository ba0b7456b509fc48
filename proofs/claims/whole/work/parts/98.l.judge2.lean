theorem bh_C {K : List (Nat × Nat)} {t : TH} {σ : St} {nc r : Nat} {rc b e : Nat → Nat} (h : GV K t σ nc r rc b e) (hc : CN K t nc) {i : Nat} (hi : i < r) :
    ∀ (f j : Nat), j ≤ r → r < f + j → ((∀ j', j ≤ j' → j' < r → b i ≤ e j') ∧ ∃ x, C_Court_isBehindAny_L2 f K t (nI j) (rc i) = some (1, x, 0)) ∨ ((¬ ∀ j', j ≤ j' → j' < r → b i ≤ e j') ∧ ∃ x, C_Court_isBehindAny_L2 f K t (nI j) (rc i) = some (0, x, 1)) := by
  have hr := h.1
  obtain ⟨i1, i2, i3, i4, i5, i6, i7⟩ := h.2.2.2.1 i hi
  have ci := hc.2.2 (rc i) i1
  have hnc := hc.1
  intro f
  induction f with
  | zero =>
    intro j _ hf
    exact absurd hf (by omega)
  | succ f ih =>
    intro j hj hf
    unfold C_Court_isBehindAny_L2
    rw [h.2.1]
    rcases Nat.lt_or_ge j r with w | w
    · obtain ⟨j1, j2, j3, j4, j5, j6, j7⟩ := h.2.2.2.1 j w
      have cj := hc.2.2 (rc j) j1
      rw [if_neg (nI_ge w (by omega)), la_at h hc.2.1 w, bnd_some, opt_some, chkP_t cj.1, chkP_t ci.1, cj.2, ci.2]
      simp only [nm_eq, nI_1]
      have st : ∀ (q : b i ≤ e j), ((∀ j', j ≤ j' → j' < r → b i ≤ e j') ∧ ∃ x, C_Court_isBehindAny_L2 f K t (nI (j + 1)) (rc i) = some (1, x, 0)) ∨ ((¬ ∀ j', j ≤ j' → j' < r → b i ≤ e j') ∧ ∃ x, C_Court_isBehindAny_L2 f K t (nI (j + 1)) (rc i) = some (0, x, 1)) := fun q => by
        rcases ih (j + 1) (by omega) (by omega) with ⟨a1, a2⟩ | ⟨a1, a2⟩
        · refine Or.inl ⟨fun j' p1 p2 => ?_, a2⟩
          rcases Nat.lt_or_ge j j' with y | y
          · exact a1 j' y p2
          · have ej : j' = j := by omega
            rw [ej]
            exact q
        · exact Or.inr ⟨fun z => a1 (fun j' p1 => z j' (by omega)), a2⟩
      by_cases c : j = i
      · rw [if_pos (show nI (rc j) = nI (rc i) by rw [c])]
        exact st (by rw [c]; exact i6)
      · rw [if_neg (fun z => c (GV_inj h w hi ((nI_eq (by omega) (by omega)).mp z)))]
        unfold C_Claim_isAheadOf
        rw [chkP_t cj.1, chkP_t ci.1, i4.1, j5.1]
        by_cases a : b i ≤ e j
        · rw [if_pos (nI_le a (by omega)), bnd_some, if_pos rfl]
          exact st a
        · rw [if_neg (nI_ge (by omega) (by omega)), bnd_some, if_neg (show ¬ (1 : Int32) = 0 by decide)]
          exact Or.inr ⟨fun z => a (z j (Nat.le_refl _) w), _, rfl⟩
    · rw [if_pos (nI_le w (by omega))]
      exact Or.inl ⟨fun j' p1 p2 => absurd p2 (by omega), _, rfl⟩
theorem bh_M {K : List (Nat × Nat)} {t : TH} {σ : St} {nc r : Nat} {rc b e : Nat → Nat} (h : GV K t σ nc r rc b e) {i : Nat} (hi : i < r) (x3 x1 x2 : Int32) :
    ∀ (f j : Nat), j ≤ r → r < f + j → ((∀ j', j ≤ j' → j' < r → b i ≤ e j') ∧ ∃ x, M_judge_L62 f σ (nI j) 1 (nI i) x3 x1 x2 = some (x, 1)) ∨ ((¬ ∀ j', j ≤ j' → j' < r → b i ≤ e j') ∧ ∃ x, M_judge_L62 f σ (nI j) 1 (nI i) x3 x1 x2 = some (x, 0)) := by
  have hr := h.1
  obtain ⟨i1, i2, i3, i4, i5, i6, i7⟩ := h.2.2.2.1 i hi
  have zero : ∀ (f j : Nat), j ≤ r → r < f + j → ∃ x, M_judge_L62 f σ (nI j) 0 (nI i) x3 x1 x2 = some (x, 0) := by
    intro f
    induction f with
    | zero =>
      intro j _ hf
      exact absurd hf (by omega)
    | succ f ih =>
      intro j hj hf
      unfold M_judge_L62
      rw [h.2.2.1]
      rcases Nat.lt_or_ge j r with w | w
      · unfold M_judge_B71
        rw [if_neg (nI_ge w (by omega)), if_pos rfl, bnd_some, nm_eq, nI_1]
        exact ih (j + 1) (by omega) (by omega)
      · rw [if_pos (nI_le w (by omega))]
        exact ⟨_, rfl⟩
  intro f
  induction f with
  | zero =>
    intro j _ hf
    exact absurd hf (by omega)
  | succ f ih =>
    intro j hj hf
    unfold M_judge_L62
    rw [h.2.2.1]
    rcases Nat.lt_or_ge j r with w | w
    · obtain ⟨j1, j2, j3, j4, j5, j6, j7⟩ := h.2.2.2.1 j w
      unfold M_judge_B71
      rw [if_neg (nI_ge w (by omega)), if_neg (show ¬ (1 : Int32) = 0 by decide), chkI_nI (show i < 60 by omega) (by omega), chkI_nI (show j < 60 by omega) (by omega), nI_nat (show i < 2 ^ 31 by omega), nI_nat (show j < 2 ^ 31 by omega), i4.2, j5.2]
      by_cases a : b i ≤ e j
      · rw [if_neg (nI_nlt a (by omega)), bnd_some, nm_eq, nI_1]
        rcases ih (j + 1) (by omega) (by omega) with ⟨a1, a2⟩ | ⟨a1, a2⟩
        · refine Or.inl ⟨fun j' p1 p2 => ?_, a2⟩
          rcases Nat.lt_or_ge j j' with y | y
          · exact a1 j' y p2
          · have ej : j' = j := by omega
            rw [ej]
            exact a
        · exact Or.inr ⟨fun z => a1 (fun j' p1 => z j' (by omega)), a2⟩
      · rw [if_pos (nI_lt (by omega) (by omega)), bnd_some, nm_eq, nI_1]
        exact Or.inr ⟨fun z => a (z j (Nat.le_refl _) w), zero f (j + 1) (by omega) (by omega)⟩
    · rw [if_pos (nI_le w (by omega))]
      exact Or.inl ⟨fun j' p1 p2 => absurd p2 (by omega), _, rfl⟩
theorem db_L {K : List (Nat × Nat)} {t : TH} {σ : St} {n m nc nw d r : Nat} {cb cq cd wc wd wf wt rc b e : Nat → Nat} (h : GV K t σ nc r rc b e) (hc : CN K t nc) (h6 : R_ppl K t σ n m) (hd : d ≤ 999) (h9 : R_court K t σ n nc nw d cb cq cd wc wd wf wt) {w : Nat} (hw : w < 2) (hw1 : tS t 4 4 0 = nI w) (hw2 : σ.1 23 4 = nI w) (x1 x2 : Int32) :
    ∀ (f i : Nat) (o : Option Nat), i ≤ r → r < f + i → (∀ c, o = some c → c < nc ∧ ∀ j, i ≤ j → j < r → c ≤ rc j) → ∃ x y o', C_Court_winnerByDoubt_L4 f K t (nI i) o = some (x, o') ∧ M_judge_L47 f σ (nI i) (oI o) x1 x2 = some (y, oI o') ∧ ∀ c, o' = some c → c < nc := by
  have hr := h.1
  have hnc := hc.1
  have hn := h6.1
  intro f
  induction f with
  | zero =>
    intro i o _ hf
    exact absurd hf (by omega)
  | succ f ih =>
    intro i o hi hf ho
    unfold C_Court_winnerByDoubt_L4 M_judge_L47
    rw [h.2.1, h.2.2.1]
    rcases Nat.lt_or_ge i r with y | y
    · obtain ⟨i1, i2, i3, i4, i5, i6, i7⟩ := h.2.2.2.1 i y
      have ri := h9.2.2.1 (rc i) i1
      obtain ⟨ra1, ra2, ra3⟩ := ri.2.1
      have oi := h6.2.2.2.1 (cb (rc i)) ra1
      obtain ⟨agi, ai1, ai2, ai3⟩ := oi.2.2.2.1
      rw [if_neg (nI_ge y (by omega)), if_neg (nI_ge y (by omega)), hw1, if_neg (show ¬ nI w = 2 from fun z => by have := (nI_eq (b := 2) (by omega) (by omega)).mp z; omega), la_at h hc.2.1 y, bnd_some, opt_some]
      have keep : ∃ x y o', C_Court_winnerByDoubt_L4 f K t (nI (i + 1)) o = some (x, o') ∧ M_judge_L47 f σ (nI (i + 1)) (oI o) x1 x2 = some (y, oI o') ∧ ∀ c, o' = some c → c < nc := ih (i + 1) o (by omega) (by omega) (fun c hc' => ⟨(ho c hc').1, fun j a => (ho c hc').2 j (by omega)⟩)
      have take : ∃ x y o', C_Court_winnerByDoubt_L4 f K t (nI (i + 1)) (some (rc i)) = some (x, o') ∧ M_judge_L47 f σ (nI (i + 1)) (nI (rc i)) x1 x2 = some (y, oI o') ∧ ∀ c, o' = some c → c < nc := ih (i + 1) (some (rc i)) (by omega) (by omega) (fun c hc' => by
        cases hc'
        exact ⟨i1, fun j a b => Nat.le_of_lt (h.2.2.2.2 i j a b)⟩)
      unfold C_Court_isBehindAny
      rcases bh_C h hc y 100000 0 (by omega) (by omega) with ⟨a1, u, e1⟩ | ⟨a1, u, e1⟩
      · rcases bh_M h y (oI o) x1 x2 100000 0 (by omega) (by omega) with ⟨_, v, e2⟩ | ⟨a2, _⟩
        · rw [show C_Court_isBehindAny_L2 100000 K t 0 (rc i) = some (1, u, 0) from e1, bnd_some, show M_judge_L62 100000 σ 0 1 (nI i) (oI o) x1 x2 = some (v, 1) from e2, bnd_some]
          simp only [nm2_eq, nm_eq, Nat.one_ne_zero, if_false, if_true, bnd_some, i10, nI_1]
          rw [chkI_nI (show i < 60 by omega) (by omega), nI_nat (show i < 2 ^ 31 by omega), i3]
          unfold M_judge_B123
          cases o with
          | none =>
            rw [show oI none = -1 from rfl, if_pos (show (-1 : Int32) < 0 by decide), bnd_some]
            simp only [opt_none]
            rw [show (if nI w = 1 then C_Court_winnerByDoubt_L4 f K t (nI (i + 1)) (some (rc i)) else C_Court_winnerByDoubt_L4 f K t (nI (i + 1)) (some (rc i))) = C_Court_winnerByDoubt_L4 f K t (nI (i + 1)) (some (rc i)) from by split <;> rfl]
            exact take
          | some c =>
            obtain ⟨c1, c2⟩ := ho c rfl
            have cr := h9.2.2.1 c c1
            obtain ⟨rb1, rb2, rb3⟩ := cr.2.1
            have oc := h6.2.2.2.1 (cb c) rb1
            obtain ⟨agc, ac1, ac2, ac3⟩ := oc.2.2.2.1
            have kd := h9.2.2.2.1 c (rc i) (c2 i (Nat.le_refl _) y) i1
            have dl := ri.2.2.2.1.1
            rw [show oI (some c) = nI c from rfl, if_neg (nI_pos (show c < 2 ^ 31 by omega)), ck4, tn4, hw2]
            simp only [opt_some, chkI_nI (show rc i < 60 by omega) (show 60 < 2 ^ 31 by omega), chkI_nI (show c < 60 by omega) (show 60 < 2 ^ 31 by omega), nI_nat (show rc i < 2 ^ 31 by omega), nI_nat (show c < 2 ^ 31 by omega), ri.2.2.2.1.2.2, cr.2.2.2.1.2.2, ra3, rb3, chkI_nI (show cb (rc i) < 30 by omega) (show 30 < 2 ^ 31 by omega), chkI_nI (show cb c < 30 by omega) (show 30 < 2 ^ 31 by omega), nI_nat (show cb (rc i) < 2 ^ 31 by omega), nI_nat (show cb c < 2 ^ 31 by omega), ai3, ac3, chkP_t ri.1.1, chkP_t cr.1.1, ra2, rb2, chkP_t oi.1.1, chkP_t oc.1.1, ai2, ac2]
            rcases (show w = 0 ∨ w = 1 by omega) with rfl | rfl
            · rw [if_neg (show ¬ nI 0 = 1 by decide), if_pos (show nI 0 = 0 from rfl), if_pos (nI_le kd (by omega)), bnd_some]
              exact keep
            · rw [if_pos (show nI 1 = 1 from rfl), if_neg (show ¬ nI 1 = 0 by decide)]
              by_cases q : nI agc ≤ nI agi
              · rw [if_pos q, if_pos q, bnd_some]
                exact keep
              · rw [if_neg q, if_neg q, bnd_some]
                exact take
        · exact absurd a1 a2
      · rcases bh_M h y (oI o) x1 x2 100000 0 (by omega) (by omega) with ⟨a2, _⟩ | ⟨_, v, e2⟩
        · exact absurd a2 a1
        · rw [show C_Court_isBehindAny_L2 100000 K t 0 (rc i) = some (0, u, 1) from e1, bnd_some, show M_judge_L62 100000 σ 0 1 (nI i) (oI o) x1 x2 = some (v, 0) from e2, bnd_some]
          simp only [nm2_eq, nm_eq, if_true, chkZ_1, bnd_some, i10, if_false, nI_1]
          exact keep
    · rw [if_pos (nI_le y (by omega)), if_pos (nI_le y (by omega))]
      exact ⟨_, _, o, rfl, rfl, fun c hc' => (ho c hc').1⟩
theorem oI_neg {o : Option Nat} (h : ∀ c, o = some c → c < 60) : (oI o < 0 ↔ o = none) ∧ (0 ≤ oI o ↔ o ≠ none) := by
  cases o with
  | none => exact ⟨⟨fun _ => rfl, fun _ => by decide⟩, ⟨fun z => absurd z (by decide), fun z => absurd rfl z⟩⟩
  | some c =>
    have := h c rfl
    have e : oI (some c) = nI c := rfl
    rw [e]
    exact ⟨⟨fun z => absurd z (nI_pos (by omega)), fun z => by cases z⟩, ⟨fun _ z => (by cases z), fun _ => nI_pos' (by omega)⟩⟩
theorem ga_none {K : List (Nat × Nat)} {t : TH} {σ : St} {n nc nw d : Nat} {cb cq cd wc wd wf wt : Nat → Nat} (h1 : R_len t) (h9 : R_court K t σ n nc nw d cb cq cd wc wd wf wt) {x : Int32} (hx : ∀ c, c < nc → nI (cq c) ≠ x) (T : Int32) : ∀ f k, k ≤ nc → nc < f + k → ∃ y, C_Court_gather_L7 f K t (nI k) x T = some (t, y) := by
  have hnc := h9.1.1
  intro f
  induction f with
  | zero =>
    intro k _ hf
    exact absurd hf (by omega)
  | succ f ih =>
    intro k hk hf
    unfold C_Court_gather_L7
    rw [h9.1.2.1]
    rcases Nat.lt_or_ge k nc with w | w
    · obtain ⟨⟨r1, r2, r3⟩, ⟨r4, r5, r6⟩, ⟨r7, r8, r9⟩, r10⟩ := h9.2.2.1 k w
      rw [if_neg (nI_ge w (by omega)), c_atN h1 h9 w, bnd_some, opt_some, chkP_t r1, r8, if_neg (hx k w), nm_eq, nI_1]
      exact ih (k + 1) (by omega) (by omega)
    · rw [if_pos (nI_le w (by omega))]
      exact ⟨_, rfl⟩
/-- what is gathered for a quarter, on both sides -/
theorem ga_eq {K : List (Nat × Nat)} {t : TH} {σ : St} {n m nc nw d : Nat} {cb cq cd wc wd wf wt : Nat → Nat} (h1 : R_len t) (h6 : R_ppl K t σ n m) (h7 : R_rul t σ) (hd : d ≤ 999) (h9 : R_court K t σ n nc nw d cb cq cd wc wd wf wt) (hP : ∀ y x, tP t 16 1 y = some x → x < nc) {q : Nat} (hq : q < 64) (T : Int32) :
    ∃ t' σ' r rc b e, C_Court_gather K t (nI q) T = some t' ∧ M_gather σ (nI q) T = some σ' ∧ ET Eg [(16, 1)] [] t t' ∧ Fx Fg σ σ' ∧ (∀ y x, tP t' 16 1 y = some x → x < nc) ∧ GV K t' σ' nc r rc b e := by
  have hnc := h9.1.1
  obtain ⟨t', σ', x, y, r, rc, b, e, eC, eM, hT, hF, hP', hG⟩ := ga_L h1 h6 h7 hd h9 hq T 100000 0 (uS t 2 5 0 0) (s1 σ 49 0 0) 0 (fun _ => 0) (fun _ => 0) (fun _ => 0) (by omega) (by omega) (ET_uS (ET_rf _ _ _ _) (by decide) _ _) (Fx_s1 (Fx_rf _ _) (by decide) _ _) (by rw [xPS]; exact hP) ⟨by omega, tS_e _ _ _ _ _, s1_e _ _ _ _, fun i hi => absurd hi (by omega), fun i j _ hj => absurd hj (by omega)⟩ (by omega) (fun i hi => absurd hi (by omega))
  refine ⟨t', σ', r, rc, b, e, ?_, ?_, hT, hF, hP', hG⟩
  · unfold C_Court_gather
    rw [nm_eq, show C_Court_gather_L7 100000 K (uS t 2 5 0 0) 0 (nI q) T = some (t', x) from eC, bnd_some, nm2_eq]
  · unfold M_gather
    rw [nm_eq, show M_gather_L7 100000 (s1 σ 49 0 0) 0 (nI q) T = some (σ', y) from eM, bnd_some, nm2_eq]
theorem court_CN {K : List (Nat × Nat)} {t : TH} {σ : St} {n nc nw d : Nat} {cb cq cd wc wd wf wt : Nat → Nat} (h1 : R_len t) (h9 : R_court K t σ n nc nw d cb cq cd wc wd wf wt) : CN K t nc := ⟨h9.1.1, h1.2.2.2.2.2.2.2.2, fun c hc => ⟨(h9.2.2.1 c hc).1.1, (h9.2.2.1 c hc).1.2.2⟩⟩
theorem gath_Rel {K : List (Nat × Nat)} {t t' : TH} {σ σ' : St} {n nc nw m d : Nat} {cb cq cd wc wd wf wt : Nat → Nat} (h1 : R_len t) (h2 : R_tape t σ) (h3 : R_land t σ) (h4 : R_race t σ m) (h5 : R_stk t σ n) (h6 : R_ppl K t σ n m) (h7 : R_rul t σ) (h8 : R_day t σ d) (h9 : R_court K t σ n nc nw d cb cq cd wc wd wf wt) (h10 : R_K K n nc nw) (h11 : R_P t n nc nw) (hT : ET Eg [(16, 1)] [] t t') (hF : Fx Fg σ σ') (hP : ∀ y x, tP t' 16 1 y = some x → x < nc) : Rel K t' σ' := by
  refine ⟨n, nc, nw, m, d, cb, cq, cd, wc, wd, wf, wt, c_len h1 hT, c_tape h2 hT hF, c_land h3 hT hF, c_race h4 hT hF, c_stk h5 hT hF, c_ppl h6 hT hF (fun _ w => w), c_rul h7 hT hF, c_day h8 hT hF, c_court h9 hT hF (fun _ w => w), h10, ?_⟩
  obtain ⟨g1, g2, g3, g4, g5⟩ := h11
  refine ⟨fun j x => ?_, fun j e x => ?_, fun j e x => ?_, fun j x => ?_, fun j x => ?_⟩
  · rw [hT.2.1 1 1 (by decide)]
    exact g1 j x
  · rw [hT.2.1 15 j (nin (by decide) j)]
    exact g2 j e x
  · by_cases y : j = 1
    · rw [y]
      exact hP e x
    · rw [hT.2.1 16 j (by simp [y])]
      exact g3 j e x
  · rw [hT.2.1 1 5 (by decide)]
    exact g4 j x
  · rw [hT.2.1 10 3 (by decide)]
    exact g5 j x
theorem noq {K : List (Nat × Nat)} {t : TH} {σ : St} {n nc nw d : Nat} {cb cq cd wc wd wf wt : Nat → Nat} (h9 : R_court K t σ n nc nw d cb cq cd wc wd wf wt) {x : Int32} (hx : M_isQuarter x = some 0) : ∀ c, c < nc → nI (cq c) ≠ x := fun c hc e => by
  have q := (h9.2.2.1 c hc).2.2.1.1
  rw [← e] at hx
  unfold M_isQuarter at hx
  rw [if_neg (nI_pos (show cq c < 2 ^ 31 by omega)), if_neg (show ¬ (64 : Int32) ≤ nI (cq c) from fun z => by have := (nI_leI (a := 64) (by omega) (by omega)).mp z; omega)] at hx
  exact absurd hx (by decide)
theorem p_judge {K : List (Nat × Nat)} {t : TH} {σ : St} (h : Rel K t σ) (x T : Int32) : ∃ Y, some Y = L_judge K t σ x T ∧ Rel Y.1 Y.2.1 Y.2.2 := by
  obtain ⟨n, nc, nw, m, d, cb, cq, cd, wc, wd, wf, wt, h1, h2, h3, h4, h5, h6, h7, h8, h9, h10, h11⟩ := h
  have hnc := h9.1.1
  have hF0 : Fx Fg σ (s1 σ 0 0 0) := Fx_s1 (Fx_rf _ _) (by decide) _ _
  have h6' : R_ppl K t (s1 σ 0 0 0) n m := h6
  have h7' : R_rul t (s1 σ 0 0 0) := h7
  have h9' : R_court K t (s1 σ 0 0 0) n nc nw d cb cq cd wc wd wf wt := h9
  have hP := fun y x => h11.2.2.1 1 y x
  unfold L_judge C_Run_judge M_judge
  rw [nm_eq]
  rcases q_cases x with ⟨q, hq, rfl, f1, f2⟩ | ⟨f1, f2⟩
  · rw [f2, bnd_some, if_neg (show ¬ (1 : Int32) = 0 by decide)]
    obtain ⟨t', σ', r, rc, b, e, eC, eM, hT, hF, hP', hG⟩ := ga_eq h1 h6' h7' h8.1 h9' hP hq T
    have hF' : Fx Fg σ σ' := Fx_tr hF0 hF
    have RR : Rel K t' σ' := gath_Rel h1 h2 h3 h4 h5 h6 h7 h8 h9 h10 h11 hT hF' hP'
    have h9'' : R_court K t' σ' n nc nw d cb cq cd wc wd wf wt := c_court h9 hT hF' (fun _ w => w)
    have h6'' : R_ppl K t' σ' n m := c_ppl h6 hT hF' (fun _ w => w)
    have hC := court_CN (c_len h1 hT) h9''
    obtain ⟨o, eo, em, eb⟩ := su_eq hG hC
    rw [eC, bnd_some, eM, bnd_some, eo, bnd_some, em, bnd_some]
    have on := oI_neg (o := o) (fun c hc => by have := eb c hc; omega)
    obtain ⟨w, w1, w2, w3⟩ := (c_rul h7 hT hF' : R_rul t' σ').2.2.2.2.1
    cases o with
    | some c =>
      rw [opt_some, chkP_t (hC.2.2 c (eb c rfl)).1, if_pos (on.2.mpr (by simp)), bnd_some, bnd2_some, bnd2_some, (hC.2.2 c (eb c rfl)).2, if_pos (show nI c = oI (some c) from rfl)]
      exact ⟨_, rfl, RR⟩
    | none =>
      rw [opt_none, if_neg (fun z => on.2.mp z rfl), ck4, tn4, w3]
      unfold C_Court_winnerByDoubt
      by_cases q2 : w = 2
      · subst q2
        have e4 : C_Court_winnerByDoubt_L4 100000 K t' 0 none = some (0, none) := by
          rw [show (100000 : Nat) = 99999 + 1 from rfl]
          unfold C_Court_winnerByDoubt_L4
          rw [w2]
          by_cases z : tS t' 2 5 0 ≤ 0
          · rw [if_pos z]
          · rw [if_neg z, if_pos (show nI 2 = 2 from rfl)]
        rw [e4, bnd_some, nm2_eq, bnd_some, opt_none, if_pos (show nI 2 = 2 from rfl), bnd_some, bnd2_some, bnd2_some, if_pos (show (-1 : Int32) = oI none from rfl)]
        exact ⟨_, rfl, RR⟩
      · obtain ⟨u, v, o', e1, e2, e3⟩ := db_L hG hC h6'' h8.1 h9'' (show w < 2 by omega) w2 w3 (nI q) T 100000 0 none (by omega) (by have := hG.1; omega) (fun c hc => by cases hc)
        rw [show C_Court_winnerByDoubt_L4 100000 K t' 0 none = some (u, o') from e1, bnd_some, nm2_eq, bnd_some, if_neg (show ¬ nI w = 2 from fun z => q2 ((nI_eq (b := 2) (by omega) (by omega)).mp z)), show M_judge_L47 100000 σ' 0 (-1) (nI q) T = some (v, oI o') from e2, bnd_some, nm2_eq]
        cases o' with
        | none =>
          rw [opt_none, bnd2_some, bnd2_some, if_pos (show (-1 : Int32) = oI none from rfl)]
          exact ⟨_, rfl, RR⟩
        | some c =>
          rw [opt_some, chkP_t (hC.2.2 c (e3 c rfl)).1, bnd2_some, bnd2_some, (hC.2.2 c (e3 c rfl)).2, if_pos (show nI c = oI (some c) from rfl)]
          exact ⟨_, rfl, RR⟩
  · rw [f2, bnd_some, if_pos rfl]
    have T1 : ET Eg [(16, 1)] [] t (uS t 2 5 0 0) := ET_uS (ET_rf _ _ _ _) (by decide) _ _
    have h9'' : R_court K (uS t 2 5 0 0) σ n nc nw d cb cq cd wc wd wf wt := c_court h9 T1 (Fx_rf [] σ) (fun _ w => w)
    obtain ⟨y, eg⟩ := ga_none (c_len h1 T1) h9'' (noq h9 f2) T 100000 0 (by omega) (by omega)
    have e25 : tS (uS t 2 5 0 0) 2 5 0 = nI 0 := tS_e _ _ _ _ _
    have e1 : C_Court_winnerBySpans K (uS t 2 5 0 0) = some none := by
      unfold C_Court_winnerBySpans
      rw [show (100000 : Nat) = 99999 + 1 from rfl]
      unfold C_Court_winnerBySpans_L2
      rw [e25, if_pos (show nI 0 ≤ 0 by decide), bnd_some]
      rfl
    have e2 : C_Court_winnerByDoubt K (uS t 2 5 0 0) = some none := by
      unfold C_Court_winnerByDoubt
      rw [show (100000 : Nat) = 99999 + 1 from rfl]
      unfold C_Court_winnerByDoubt_L4
      rw [e25, if_pos (show nI 0 ≤ 0 by decide), bnd_some]
      rfl
    unfold C_Court_gather
    rw [nm_eq, show C_Court_gather_L7 100000 K (uS t 2 5 0 0) 0 x T = some (uS t 2 5 0 0, y) from eg, bnd_some, nm2_eq, bnd_some, e1, bnd_some, opt_none, e2, bnd_some, opt_none, bnd2_some, bnd2_some, if_pos rfl]
    exact ⟨_, rfl, gath_Rel h1 h2 h3 h4 h5 h6 h7 h8 h9 h10 h11 T1 hF0 (by rw [xPS]; exact hP)⟩
theorem p_doubt {K : List (Nat × Nat)} {t : TH} {σ : St} (h : Rel K t σ) (x T : Int32) : ∃ Y, some Y = L_doubt K t σ x T ∧ Rel Y.1 Y.2.1 Y.2.2 := by
  obtain ⟨n, nc, nw, m, d, cb, cq, cd, wc, wd, wf, wt, h1, h2, h3, h4, h5, h6, h7, h8, h9, h10, h11⟩ := h
  have hnc := h9.1.1
  have hF0 : Fx Fg σ (s1 σ 0 0 0) := Fx_s1 (Fx_rf _ _) (by decide) _ _
  have h6' : R_ppl K t (s1 σ 0 0 0) n m := h6
  have h7' : R_rul t (s1 σ 0 0 0) := h7
  have h9' : R_court K t (s1 σ 0 0 0) n nc nw d cb cq cd wc wd wf wt := h9
  have hP := fun y x => h11.2.2.1 1 y x
  unfold L_doubt C_Run_doubt M_doubt
  rw [nm_eq]
  rcases q_cases x with ⟨q, hq, rfl, f1, f2⟩ | ⟨f1, f2⟩
  · rw [f2, bnd_some, if_neg (show ¬ (1 : Int32) = 0 by decide)]
    obtain ⟨t', σ', r, rc, b, e, eC, eM, hT, hF, hP', hG⟩ := ga_eq h1 h6' h7' h8.1 h9' hP hq T
    have hF' : Fx Fg σ σ' := Fx_tr hF0 hF
    have RR : Rel K t' σ' := gath_Rel h1 h2 h3 h4 h5 h6 h7 h8 h9 h10 h11 hT hF' hP'
    have h9'' : R_court K t' σ' n nc nw d cb cq cd wc wd wf wt := c_court h9 hT hF' (fun _ w => w)
    have hC := court_CN (c_len h1 hT) h9''
    obtain ⟨o, eo, em, eb⟩ := su_eq hG hC
    have on := oI_neg (o := o) (fun c hc => by have := eb c hc; omega)
    rw [eC, bnd_some, eM, bnd_some, hG.2.1, hG.2.2.1]
    by_cases z : nI r = 0
    · rw [if_pos z, if_pos z, bnd2_some, bnd2_some, if_pos rfl]
      exact ⟨_, rfl, RR⟩
    · rw [if_neg z, if_neg z, eo, bnd_some, em, bnd_some]
      cases o with
      | none =>
        rw [opt_none, if_pos (on.1.mpr rfl), bnd2_some, bnd2_some, if_pos rfl]
        exact ⟨_, rfl, RR⟩
      | some c =>
        rw [opt_some, if_neg (fun w => by have := on.1.mp w; cases this), bnd2_some, bnd2_some, if_pos rfl]
        exact ⟨_, rfl, RR⟩
  · rw [f2, bnd_some, if_pos rfl]
    have T1 : ET Eg [(16, 1)] [] t (uS t 2 5 0 0) := ET_uS (ET_rf _ _ _ _) (by decide) _ _
    have h9'' : R_court K (uS t 2 5 0 0) σ n nc nw d cb cq cd wc wd wf wt := c_court h9 T1 (Fx_rf [] σ) (fun _ w => w)
    obtain ⟨y, eg⟩ := ga_none (c_len h1 T1) h9'' (noq h9 f2) T 100000 0 (by omega) (by omega)
    have e25 : tS (uS t 2 5 0 0) 2 5 0 = 0 := tS_e _ _ _ _ _
    unfold C_Court_gather
    rw [nm_eq, show C_Court_gather_L7 100000 K (uS t 2 5 0 0) 0 x T = some (uS t 2 5 0 0, y) from eg, bnd_some, nm2_eq, bnd_some, e25, if_pos rfl, bnd2_some, bnd2_some, if_pos rfl]
    exact ⟨_, rfl, gath_Rel h1 h2 h3 h4 h5 h6 h7 h8 h9 h10 h11 T1 hF0 (by rw [xPS]; exact hP)⟩
