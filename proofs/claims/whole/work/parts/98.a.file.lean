theorem lastW_no {wc : Nat → Nat} {k : Nat} : ∀ w, (∀ j, j < w → wc j ≠ k) → lastW wc k w = none := by
  intro w
  induction w with
  | zero => intro _; rfl
  | succ w ih =>
    intro h
    show (if wc w = k then some w else lastW wc k w) = none
    rw [if_neg (h w (by omega))]
    exact ih (fun j hj => h j (by omega))
theorem cntW_no {wc : Nat → Nat} {k : Nat} : ∀ w, (∀ j, j < w → wc j ≠ k) → cntW wc k w = 0 := by
  intro w
  induction w with
  | zero => intro _; rfl
  | succ w ih =>
    intro h
    show cntW wc k w + (if wc w = k then 1 else 0) = 0
    rw [if_neg (h w (by omega)), ih (fun j hj => h j (by omega))]
theorem q_cases (y : Int32) : (∃ q, q < 64 ∧ y = nI q ∧ C_Run_isQuarter y = some 1 ∧ M_isQuarter y = some 1) ∨ (C_Run_isQuarter y = some 0 ∧ M_isQuarter y = some 0) := by
  unfold C_Run_isQuarter M_isQuarter
  rcases pk_ix y (n := 64) (by omega) with a | a | ⟨q, hq, rfl⟩
  · right
    rw [wi_lo a, if_pos a]
    exact ⟨chkZ_0, rfl⟩
  · right
    have a' : (64 : Int32) ≤ y := a
    have b : (63 : Int32) < y := Int32.lt_of_lt_of_le (by decide) a'
    rw [wi_hi b]
    refine ⟨chkZ_0, ?_⟩
    by_cases c : y < 0
    · rw [if_pos c]
    · rw [if_neg c, if_pos a']
  · left
    refine ⟨q, hq, rfl, ?_, ?_⟩
    · rw [wi_in (nI_pos (show q < 2 ^ 31 by omega)) (show ¬ (63 : Int32) < nI q from fun z => by have := (nI_ltI (a := 63) (by omega) (by omega)).mp z; omega)]
      exact chkZ_1
    · rw [if_neg (nI_pos (show q < 2 ^ 31 by omega)), if_neg (show ¬ (64 : Int32) ≤ nI q from fun z => by have := (nI_leI (a := 64) (by omega) (by omega)).mp z; omega)]
theorem c_atN {K : List (Nat × Nat)} {t : TH} {σ : St} {n nc nw d : Nat} {cb cq cd wc wd wf wt : Nat → Nat} (hl : R_len t) (hc : R_court K t σ n nc nw d cb cq cd wc wd wf wt) {k : Nat} (hk : k < nc) : C_Court_claimAt K t (nI k) = some (some k) := by
  have hn := hc.1.1
  unfold C_Court_claimAt
  rw [hc.1.2.1, hl.2.2.2.2.2.2.2.1, if_neg (nI_pos (by omega)), if_neg (nI_ge hk (by omega)), if_neg (nI_ge (show k < 60 by omega) (by omega)), chkI_nI (show k < 60 by omega) (by omega), nI_nat (by omega), nm_eq, (hc.2.2.1 k hk).1.2.1]
theorem c_at {K : List (Nat × Nat)} {t : TH} {σ : St} {n nc nw d : Nat} {cb cq cd wc wd wf wt : Nat → Nat} (hl : R_len t) (hc : R_court K t σ n nc nw d cb cq cd wc wd wf wt) (x : Int32) : (∃ k, k < nc ∧ x = nI k ∧ C_Court_claimAt K t x = some (some k) ∧ M_isClaim σ x = some 1) ∨ (C_Court_claimAt K t x = some none ∧ M_isClaim σ x = some 0) := by
  have hn := hc.1.1
  rcases pk_ix x (n := nc) (by omega) with h | h | ⟨k, hk, rfl⟩
  · right
    unfold C_Court_claimAt M_isClaim
    rw [if_pos h, if_pos h]
    exact ⟨rfl, rfl⟩
  · right
    unfold C_Court_claimAt M_isClaim
    rw [hc.1.2.1, hc.1.2.2]
    by_cases c : x < 0
    · rw [if_pos c, if_pos c]
      exact ⟨rfl, rfl⟩
    · rw [if_neg c, if_neg c, if_pos h, if_pos h]
      exact ⟨rfl, rfl⟩
  · left
    refine ⟨k, hk, rfl, c_atN hl hc hk, ?_⟩
    unfold M_isClaim
    rw [hc.1.2.2, if_neg (nI_pos (by omega)), if_neg (nI_ge hk (by omega))]
theorem file_C {K : List (Nat × Nat)} {t : TH} {σ : St} {n m nc nw d : Nat} {cb cq cd wc wd wf wt : Nat → Nat} (h1 : R_len t) (h6 : R_ppl K t σ n m) (h9 : R_court K t σ n nc nw d cb cq cd wc wd wf wt) {k q : Nat} (hk : k < n) (hq : q < 64) (x3 : Int32) :
    ∀ (f i fd : Nat), i ≤ nc → i < f →
      ((∃ j, j < i ∧ cq j = q ∧ cb j = k) ∧ ∃ a b, C_Court_enter_L32 f K t (nI i + (-1)) (nI fd) k (nI q) x3 = some (0, a, b, -1)) ∨
      ((∀ j, j < i → cq j = q → cb j ≠ k) ∧ ∃ a fd', C_Court_enter_L32 f K t (nI i + (-1)) (nI fd) k (nI q) x3 = some (1, a, nI fd', 0) ∧ ((fd' = fd ∧ ∀ j, j < i → cq j ≠ q) ∨ ∃ g, g < i ∧ cq g = q ∧ (∀ j, j < g → cq j ≠ q) ∧ fd' = cd g)) := by
  intro f
  induction f with
  | zero =>
    intro i fd _ h
    exact absurd h (by omega)
  | succ f ih =>
    intro i fd hi hf
    have hn := h6.1
    have hnc := h9.1.1
    cases i with
    | zero =>
      right
      refine ⟨fun j hj => absurd hj (Nat.not_lt_zero _), nI 0 + (-1), fd, ?_, Or.inl ⟨rfl, fun j hj => absurd hj (Nat.not_lt_zero _)⟩⟩
      unfold C_Court_enter_L32
      rw [if_pos (show nI 0 + (-1) < 0 by decide)]
    | succ i =>
      have hin : i < nc := hi
      obtain ⟨⟨r1, r2, r3⟩, ⟨r4, r5, r6⟩, ⟨r7, r8, r9⟩, ⟨r10, r11, r12⟩, r13⟩ := h9.2.2.1 i hin
      unfold C_Court_enter_L32
      rw [pk_m1, if_neg (nI_pos (show i < 2 ^ 31 by omega)), c_atN h1 h9 hin, bnd_some, opt_some, chkP_t r1, r8]
      by_cases e : cq i = q
      · have o1 := h6.2.2.2.1 (cb i) r4
        have o2 := h6.2.2.2.1 k hk
        rw [if_pos (show nI (cq i) = nI q by rw [e]), r5, nm_eq, opt_some, chkP_t o1.1.1, chkP_t o2.1.1, o1.1.2.2, o2.1.2.2]
        by_cases e2 : cb i = k
        · left
          rw [if_pos (show nI (cb i) = nI k by rw [e2])]
          exact ⟨⟨i, by omega, e, e2⟩, _, _, rfl⟩
        · rw [if_neg (fun z => e2 ((nI_eq (show cb i < 2 ^ 31 by omega) (show k < 2 ^ 31 by omega)).mp z)), nm_eq, nm_eq, r11]
          rcases ih i (cd i) (by omega) (by omega) with ⟨⟨j, hj, a1, a2⟩, a, b, ee⟩ | ⟨a1, a, fd', ee, a2⟩
          · left
            exact ⟨⟨j, by omega, a1, a2⟩, a, b, ee⟩
          · right
            refine ⟨fun j hj hjq => ?_, a, fd', ee, Or.inr ?_⟩
            · rcases Nat.lt_or_ge j i with g | g
              · exact a1 j g hjq
              · rw [show j = i by omega]
                exact e2
            · rcases a2 with ⟨rfl, a3⟩ | ⟨g, hg, a3, a4, a5⟩
              · exact ⟨i, by omega, e, a3, rfl⟩
              · exact ⟨g, by omega, a3, a4, a5⟩
      · rw [if_neg (fun z => e ((nI_eq (show cq i < 2 ^ 31 by omega) (show q < 2 ^ 31 by omega)).mp z)), nm_eq]
        rcases ih i fd (by omega) (by omega) with ⟨⟨j, hj, a1, a2⟩, a, b, ee⟩ | ⟨a1, a, fd', ee, a2⟩
        · left
          exact ⟨⟨j, by omega, a1, a2⟩, a, b, ee⟩
        · right
          refine ⟨fun j hj hjq => ?_, a, fd', ee, ?_⟩
          · rcases Nat.lt_or_ge j i with g | g
            · exact a1 j g hjq
            · rw [show j = i by omega] at hjq
              exact absurd hjq e
          · rcases a2 with ⟨a2, a3⟩ | ⟨g, hg, a3, a4, a5⟩
            · refine Or.inl ⟨a2, fun j hj => ?_⟩
              rcases Nat.lt_or_ge j i with g | g
              · exact a3 j g
              · rw [show j = i by omega]
                exact e
            · exact Or.inr ⟨g, by omega, a3, a4, a5⟩
theorem file_M {K : List (Nat × Nat)} {t : TH} {σ : St} {n nc nw d : Nat} {cb cq cd wc wd wf wt : Nat → Nat} (hn : n ≤ 30) (h9 : R_court K t σ n nc nw d cb cq cd wc wd wf wt) {k q : Nat} (hk : k < n) (hq : q < 64) :
    ∀ (f i : Nat), i ≤ nc → nc < f + i →
      ((∃ j, i ≤ j ∧ j < nc ∧ cq j = q ∧ cb j = k) ∧ ∃ a, M_file_L33 f σ (nI i) (nI k) (nI q) = some (0, a, -1)) ∨
      ((∀ j, i ≤ j → j < nc → cq j = q → cb j ≠ k) ∧ ∃ a, M_file_L33 f σ (nI i) (nI k) (nI q) = some (1, a, 0)) := by
  intro f
  induction f with
  | zero =>
    intro i _ h
    exact absurd h (by omega)
  | succ f ih =>
    intro i hi hf
    have hnc := h9.1.1
    unfold M_file_L33
    rw [h9.1.2.2]
    rcases Nat.lt_or_ge i nc with hin | hin
    · obtain ⟨⟨r1, r2, r3⟩, ⟨r4, r5, r6⟩, ⟨r7, r8, r9⟩, ⟨r10, r11, r12⟩, r13⟩ := h9.2.2.1 i hin
      rw [if_neg (nI_ge hin (by omega)), chkI_nI (show i < 60 by omega) (by omega), nI_nat (show i < 2 ^ 31 by omega), chkI_nI (show i < 60 by omega) (by omega), r6, r9, nm_eq, nI_1]
      have st : ((∃ j, i + 1 ≤ j ∧ j < nc ∧ cq j = q ∧ cb j = k) ∧ ∃ a, M_file_L33 f σ (nI (i + 1)) (nI k) (nI q) = some (0, a, -1)) ∨ ((∀ j, i + 1 ≤ j → j < nc → cq j = q → cb j ≠ k) ∧ ∃ a, M_file_L33 f σ (nI (i + 1)) (nI k) (nI q) = some (1, a, 0)) := ih (i + 1) (by omega) (by omega)
      have go : ¬ (cq i = q ∧ cb i = k) → ((∃ j, i ≤ j ∧ j < nc ∧ cq j = q ∧ cb j = k) ∧ ∃ a, M_file_L33 f σ (nI (i + 1)) (nI k) (nI q) = some (0, a, -1)) ∨ ((∀ j, i ≤ j → j < nc → cq j = q → cb j ≠ k) ∧ ∃ a, M_file_L33 f σ (nI (i + 1)) (nI k) (nI q) = some (1, a, 0)) := fun hno => by
        rcases st with ⟨⟨j, a1, a2, a3, a4⟩, a5⟩ | ⟨a1, a2⟩
        · exact Or.inl ⟨⟨j, by omega, a2, a3, a4⟩, a5⟩
        · refine Or.inr ⟨fun j hj hj2 hj3 hj4 => ?_, a2⟩
          rcases Nat.lt_or_ge i j with g | g
          · exact a1 j g hj2 hj3 hj4
          · have : j = i := by omega
            subst this
            exact hno ⟨hj3, hj4⟩
      by_cases e : cb i = k
      · rw [if_pos (show nI (cb i) = nI k by rw [e])]
        by_cases e2 : cq i = q
        · rw [if_pos (show nI (cq i) = nI q by rw [e2])]
          exact Or.inl ⟨⟨i, by omega, hin, e2, e⟩, _, rfl⟩
        · rw [if_neg (fun z => e2 ((nI_eq (show cq i < 2 ^ 31 by omega) (show q < 2 ^ 31 by omega)).mp z))]
          exact go (fun z => e2 z.1)
      · rw [if_neg (fun z => e ((nI_eq (show cb i < 2 ^ 31 by omega) (show k < 2 ^ 31 by omega)).mp z))]
        exact go (fun z => e z.2)
    · right
      rw [if_pos (nI_le hin (by omega))]
      exact ⟨fun j a b => absurd b (by omega), _, rfl⟩
theorem i_sub1 (x : Int32) : x - 1 = x + (-1) := Int32.sub_eq_add_neg x 1
def clT (t : TH) (nc : Nat) (v : Int32) (k : Nat) (q d l w : Int32) : TH := uS (uP (mkClaim t nc v k q d l) 16 0 nc (some nc)) 2 3 0 w
theorem clT_n (t : TH) (nc : Nat) (v : Int32) (k : Nat) (q d l w : Int32) : tS (clT t nc v k q d l w) 1 0 nc = v ∧ tS (clT t nc v k q d l w) 1 2 nc = q ∧ tS (clT t nc v k q d l w) 1 3 nc = d ∧ tS (clT t nc v k q d l w) 1 4 nc = l ∧ tS (clT t nc v k q d l w) 1 6 nc = 0 ∧ tP (clT t nc v k q d l w) 1 1 nc = some k ∧ tP (clT t nc v k q d l w) 1 5 nc = none ∧ tP (clT t nc v k q d l w) 16 0 nc = some nc ∧ tS (clT t nc v k q d l w) 2 3 0 = w := by
  unfold clT mkClaim
  simp (disch := decide) only [tS_c, tS_f, tS_e, tS_i, xSP, xSL, tP_c, tP_f, tP_e, tP_i, xPS, xPL, tL_c, tL_f, tL_e, tL_i, xLS, xLP, xNS, xNL, xNP, and_self]
theorem clT_o (t : TH) (nc : Nat) (v : Int32) (k : Nat) (q d l w : Int32) (j : Nat) (h : j ≠ nc) : tS (clT t nc v k q d l w) 1 0 j = tS t 1 0 j ∧ tS (clT t nc v k q d l w) 1 2 j = tS t 1 2 j ∧ tS (clT t nc v k q d l w) 1 3 j = tS t 1 3 j ∧ tS (clT t nc v k q d l w) 1 4 j = tS t 1 4 j ∧ tS (clT t nc v k q d l w) 1 6 j = tS t 1 6 j ∧ tP (clT t nc v k q d l w) 1 1 j = tP t 1 1 j ∧ tP (clT t nc v k q d l w) 1 5 j = tP t 1 5 j ∧ tP (clT t nc v k q d l w) 16 0 j = tP t 16 0 j := by
  unfold clT mkClaim
  simp (disch := first | decide | assumption) only [tS_c, tS_f, tS_e, tS_i, xSP, xSL, tP_c, tP_f, tP_e, tP_i, xPS, xPL, tL_c, tL_f, tL_e, tL_i, xLS, xLP, xNS, xNL, xNP, and_self]
theorem clT_p (t : TH) (nc : Nat) (v : Int32) (k : Nat) (q d l w : Int32) (j : Nat) (h : j ≠ 0) : tP (clT t nc v k q d l w) 16 j = tP t 16 j := by
  unfold clT mkClaim
  simp (disch := first | decide | assumption) only [tS_c, tS_f, tS_e, tS_i, xSP, xSL, tP_c, tP_f, tP_e, tP_i, xPS, xPL, tL_c, tL_f, tL_e, tL_i, xLS, xLP, xNS, xNL, xNP]
theorem clT_E (t : TH) (nc : Nat) (v : Int32) (k : Nat) (q d l w : Int32) : ET [(1, 0), (1, 2), (1, 3), (1, 4), (1, 6), (1, 7), (1, 8), (1, 9), (2, 3)] [(1, 1), (1, 5), (16, 0)] [] t (clT t nc v k q d l w) := by
  unfold clT mkClaim
  exact ET_uS (ET_uP (ET_uS (ET_uS (ET_uS (ET_uS (ET_uP (ET_uS (ET_uS (ET_uS (ET_uP (ET_uS (ET_rf _ _ _ _) (by decide) _ _) (by decide) _ _) (by decide) _ _) (by decide) _ _) (by decide) _ _) (by decide) _ _) (by decide) _ _) (by decide) _ _) (by decide) _ _) (by decide) _ _) (by decide) _ _) (by decide) _ _
theorem file_Rel {K : List (Nat × Nat)} {t t' : TH} {σ σ' : St} {n nc nw m d : Nat} {cb cq cd wc wd wf wt : Nat → Nat} (h1 : R_len t) (h2 : R_tape t σ) (h3 : R_land t σ) (h4 : R_race t σ m) (h5 : R_stk t σ n) (h6 : R_ppl K t σ n m) (h7 : R_rul t σ) (h8 : R_day t σ d) (h9 : R_court K t σ n nc nw d cb cq cd wc wd wf wt) (h10 : R_K K n nc nw) (h11 : R_P t n nc nw) {k q fd : Nat} (hk : k < n) (hq : q < 64) (hnc : nc < 60) (j2 : (fd = d ∧ ∀ j, j < nc → cq j ≠ q) ∨ ∃ g, g < nc ∧ cq g = q ∧ (∀ j, j < g → cq j ≠ q) ∧ fd = cd g)
    (ht' : t' = clT t nc (nI nc) k (nI q) (nI d) (nI d - nI fd) (nI (nc + 1))) (hσ' : σ' = s1 (s1 (s1 (s1 (s1 σ 0 0 0) 34 nc (nI k)) 35 nc (nI q)) 36 nc (nI d)) 41 0 (nI (nc + 1))) : Rel ((1, nc) :: K) t' σ' := by
  have mK : ∀ z, z ∈ K → z ∈ (1, nc) :: K := fun _ h => List.mem_cons_of_mem _ h
  have N := clT_n t nc (nI nc) k (nI q) (nI d) (nI d - nI fd) (nI (nc + 1))
  have O := clT_o t nc (nI nc) k (nI q) (nI d) (nI d - nI fd) (nI (nc + 1))
  have Pj := clT_p t nc (nI nc) k (nI q) (nI d) (nI d - nI fd) (nI (nc + 1))
  have hT := clT_E t nc (nI nc) k (nI q) (nI d) (nI d - nI fd) (nI (nc + 1))
  rw [← ht'] at N O Pj hT
  have hF : Fx [0, 34, 35, 36, 41] σ σ' := by
    rw [hσ']
    exact Fx_s1 (Fx_s1 (Fx_s1 (Fx_s1 (Fx_s1 (Fx_rf _ _) (by decide) _ _) (by decide) _ _) (by decide) _ _) (by decide) _ _) (by decide) _ _
  refine ⟨n, nc + 1, nw, m, d, fun j => if j = nc then k else cb j, fun j => if j = nc then q else cq j, fun j => if j = nc then d else cd j, wc, wd, wf, wt, c_len h1 hT, c_tape h2 hT hF, c_land h3 hT hF, c_race h4 hT hF, c_stk h5 hT hF, c_ppl h6 hT hF mK, c_rul h7 hT hF, c_day h8 hT hF, ⟨⟨by omega, ?_, ?_⟩, ⟨h9.2.1.1, ?_, ?_⟩, fun j hj => ?_, fun i j hi hj => ?_, fun w hw => ?_⟩, ?_, ?_⟩
  · exact N.2.2.2.2.2.2.2.2
  · rw [hσ']
    simp (disch := decide) only [s1_oth, s1_e, s1_i, x12, x21]
  · rw [hT.1 2 4 (by decide)]
    exact h9.2.1.2.1
  · rw [hF.1 42 (by decide)]
    exact h9.2.1.2.2
  · by_cases e : j = nc
    · subst e
      refine ⟨⟨List.mem_cons_self .., N.2.2.2.2.2.2.2.1, N.1⟩, ⟨?_, ?_, ?_⟩, ⟨?_, ?_, ?_⟩, ⟨?_, ?_, ?_⟩, ?_, ?_, ?_⟩
      · simp only [if_true]; exact hk
      · simp only [if_true]; exact N.2.2.2.2.2.1
      · simp only [if_true]; rw [hσ']; simp (disch := decide) only [s1_oth, s1_e, s1_i, x12, x21]
      · simp only [if_true]; exact hq
      · simp only [if_true]; exact N.2.1
      · simp only [if_true]; rw [hσ']; simp (disch := decide) only [s1_oth, s1_e, s1_i, x12, x21]
      · simp only [if_true]; exact Nat.le_refl _
      · simp only [if_true]; exact N.2.2.1
      · simp only [if_true]; rw [hσ']; simp (disch := decide) only [s1_oth, s1_e, s1_i, x12, x21]
      · have e4 : tS t' 1 4 j = nI d - nI fd := N.2.2.2.1
        rw [e4]
        simp only [if_true]
        rcases j2 with ⟨rfl, g0⟩ | ⟨g, g1, g2, g3, rfl⟩
        · refine ⟨j, Nat.le_refl _, if_pos rfl, fun i hi => ?_, ?_⟩
          · rw [if_neg (by omega)]
            exact g0 i hi
          · rw [if_pos rfl, pk_sub (Nat.le_refl _)]
        · have gl : cd g ≤ d := (h9.2.2.1 g g1).2.2.2.1.1
          refine ⟨g, by omega, ?_, fun i hi => ?_, ?_⟩
          · rw [if_neg (by omega)]
            exact g2
          · rw [if_neg (by omega)]
            exact g3 i hi
          · rw [if_neg (by omega), pk_sub gl]
      · have e5 : tP t' 1 5 j = none := N.2.2.2.2.2.2.1
        rw [e5, lastW_no nw (fun w hw => by have := (h9.2.2.2.2 w hw).2.1.1; omega)]
      · have e6 : tS t' 1 6 j = 0 := N.2.2.2.2.1
        rw [e6, cntW_no nw (fun w hw => by have := (h9.2.2.2.2 w hw).2.1.1; omega)]
        rfl
    · have hj' : j < nc := by omega
      obtain ⟨r1, r2, r3, r4, ⟨fi, r5, r6, r7, r8⟩, r9, r10⟩ := h9.2.2.1 j hj'
      obtain ⟨o0, o2, o3, o4, o6, p1, p5, p16⟩ := O j e
      have eM : ∀ k, k = 34 ∨ k = 35 ∨ k = 36 → σ'.1 k j = σ.1 k j := fun k hk => by
        rw [hσ']
        rcases hk with rfl | rfl | rfl
        · rw [s1_oth _ _ _ _ (by decide), s1_oth _ _ _ _ (by decide), s1_oth _ _ _ _ (by decide), s1_i _ _ _ _ e, s1_oth _ _ _ _ (by decide)]
        · rw [s1_oth _ _ _ _ (by decide), s1_oth _ _ _ _ (by decide), s1_i _ _ _ _ e, s1_oth _ _ _ _ (by decide), s1_oth _ _ _ _ (by decide)]
        · rw [s1_oth _ _ _ _ (by decide), s1_i _ _ _ _ e, s1_oth _ _ _ _ (by decide), s1_oth _ _ _ _ (by decide), s1_oth _ _ _ _ (by decide)]
      unfold R_claim
      rw [o0, o2, o3, o4, o6, p1, p5, p16, eM 34 (by simp), eM 35 (by simp), eM 36 (by simp)]
      simp only [e, if_false]
      refine ⟨⟨mK _ r1.1, r1.2⟩, r2, r3, r4, ⟨fi, r5, ?_, fun i hi => ?_, ?_⟩, r9, r10⟩
      · rw [if_neg (by omega)]
        exact r6
      · rw [if_neg (by omega)]
        exact r7 i hi
      · rw [if_neg (by omega)]
        exact r8
  · by_cases e : j = nc
    · simp only [e, if_true]
      by_cases e' : i = nc
      · simp only [e', if_true]
        exact Nat.le_refl _
      · simp only [e', if_false]
        exact (h9.2.2.1 i (by omega)).2.2.2.1.1
    · simp only [e, show ¬ i = nc by omega, if_false]
      exact h9.2.2.2.1 i j hi (by omega)
  · obtain ⟨w1, w2, w3⟩ := h9.2.2.2.2 w hw
    rw [← hF.1 37 (by decide)] at w2
    unfold R_wit
    rw [hT.1 10 0 (by decide), hT.1 10 1 (by decide), hT.1 10 2 (by decide), hT.2.1 10 3 (by decide), hF.1 38 (by decide), hF.1 39 (by decide), hF.1 40 (by decide)]
    exact ⟨mK _ w1, ⟨by have := w2.1; omega, w2.2⟩, w3⟩
  · exact K_cons h10 (by decide) (Nat.le_refl _) (Nat.le_succ _) (Nat.le_refl _) ⟨fun z => absurd z (by decide), fun z => absurd z (by decide), fun _ => Nat.lt_succ_self _, fun z => absurd z (by decide)⟩
  · have e15 : ∀ j, tP t' 15 j = tP t 15 j := fun j => hT.2.1 15 j (by simp)
    have e10 : tP t' 10 3 = tP t 10 3 := hT.2.1 10 3 (by decide)
    refine ⟨fun j x hx => ?_, fun j e x hx => ?_, fun j e x hx => ?_, fun j x hx => ?_, fun j x hx => ?_⟩
    · by_cases e : j = nc
      · have e5 : tP t' 1 1 j = some k := by rw [e]; exact N.2.2.2.2.2.1
        rw [e5] at hx
        cases hx
        exact hk
      · have e5 : tP t' 1 1 j = tP t 1 1 j := (O j e).2.2.2.2.2.1
        rw [e5] at hx
        exact h11.1 j x hx
    · rw [e15] at hx
      exact h11.2.1 j e x hx
    · by_cases e' : j = 0 ∧ e = nc
      · have e5 : tP t' 16 j e = some nc := by rw [e'.1, e'.2]; exact N.2.2.2.2.2.2.2.1
        rw [e5] at hx
        cases hx
        omega
      · have e5 : tP t' 16 j e = tP t 16 j e := by
          by_cases j0 : j = 0
          · rw [j0]
            exact (O e (fun z => e' ⟨j0, z⟩)).2.2.2.2.2.2.2
          · rw [Pj j j0]
        rw [e5] at hx
        have := h11.2.2.1 j e x hx
        omega
    · by_cases e : j = nc
      · have e5 : tP t' 1 5 j = none := by rw [e]; exact N.2.2.2.2.2.2.1
        rw [e5] at hx
        cases hx
      · have e5 : tP t' 1 5 j = tP t 1 5 j := (O j e).2.2.2.2.2.2.1
        rw [e5] at hx
        exact h11.2.2.2.1 j x hx
    · rw [e10] at hx
      exact h11.2.2.2.2 j x hx
theorem p_file {K : List (Nat × Nat)} {t : TH} {σ : St} (h : Rel K t σ) (x y : Int32) : ∃ Y, some Y = L_file K t σ x y ∧ Rel Y.1 Y.2.1 Y.2.2 := by
  obtain ⟨n, nc, nw, m, d, cb, cq, cd, wc, wd, wf, wt, h1, h2, h3, h4, h5, h6, h7, h8, h9, h10, h11⟩ := h
  have hdef : ∃ Y, some Y = some (K, t, s1 σ 0 0 0) ∧ Rel Y.1 Y.2.1 Y.2.2 := ⟨_, rfl, ⟨n, nc, nw, m, d, cb, cq, cd, wc, wd, wf, wt, h1, h2, h3, h4, h5, h6, h7, h8, h9, h10, h11⟩⟩
  have h6' : R_ppl K t (s1 σ 0 0 0) n m := h6
  have h9' : R_court K t (s1 σ 0 0 0) n nc nw d cb cq cd wc wd wf wt := h9
  have hn := h6.1
  have hnc := h9.1.1
  have ec : (s1 σ 0 0 0).1 41 0 = nI nc := h9.1.2.2
  have eC : tS t 2 3 0 = nI nc := h9.1.2.1
  have ed : (s1 σ 0 0 0).1 32 0 = nI d := h8.2.2
  unfold L_file C_Run_file M_file
  simp only [nm_eq]
  rw [ec]
  rcases p_at h1 h6' x with ⟨k, hk, rfl, e1, e2, e3⟩ | ⟨e1, e2⟩
  · rw [e1, e2, bnd_some, opt_some, bnd_some, if_neg (show ¬ (1 : Int32) = 0 by decide)]
    rcases q_cases y with ⟨q, hq, rfl, f1, f2⟩ | ⟨f1, f2⟩
    · rw [f1, f2, bnd_some, bnd_some, if_neg (show ¬ (1 : Int32) = 0 by decide), if_neg (show ¬ (1 : Int32) = 0 by decide)]
      unfold C_Court_enter
      simp only [nm_eq]
      rw [eC, if_neg (nI_pos (show nc < 2 ^ 31 by omega)), h1.2.2.2.2.2.2.2.1]
      by_cases full : nc = 60
      · subst full
        rw [if_neg (show ¬ nI 60 < nI 60 by decide), if_pos (show nI 60 = 60 from rfl)]
        exact hdef
      · rw [if_pos (nI_lt (show nc < 60 by omega) (by omega)), if_neg (show ¬ nI nc = 60 from fun z => full ((nI_eq (b := 60) (by omega) (by omega)).mp z)), h8.2.1, i_sub1]
        rcases file_C h1 h6' h9' hk hq (nI d) 100000 nc d (Nat.le_refl _) (by omega) with ⟨⟨j, j1, j2, j3⟩, a, b, ee⟩ | ⟨j1, a, fd, ee, j2⟩
        · rcases file_M hn h9' hk hq 100000 0 (by omega) (by omega) with ⟨_, b', ee'⟩ | ⟨g1, _⟩
          · rw [ee, show M_file_L33 100000 (s1 σ 0 0 0) 0 (nI k) (nI q) = some (0, b', -1) from ee', bnd_some, bnd_some]
            exact hdef
          · exact absurd j3 (g1 j (by omega) j1 j2)
        · rcases file_M hn h9' hk hq 100000 0 (by omega) (by omega) with ⟨⟨j, g1, g2, g3, g4⟩, _⟩ | ⟨_, b', ee'⟩
          · exact absurd g4 (j1 j g2 g3)
          · rw [ee, show M_file_L33 100000 (s1 σ 0 0 0) 0 (nI k) (nI q) = some (1, b', 0) from ee', bnd_some, bnd_some]
            simp only [nm2_eq, Nat.one_ne_zero, if_false, if_true]
            simp only [nI_nat (show nc < 2 ^ 31 by omega), chkI_nI (show nc < 60 by omega) (show 60 < 2 ^ 31 by omega)]
            have c1 : ∀ (v : Int32) (b : Nat) (u w z : Int32), chkI (nI nc) (tN (mkClaim t nc v b u w z) 16 0) = @chkI (Int32 × List (Nat × Nat) × TH) (nI nc) 60 := fun v b u w z => by rw [show tN (mkClaim t nc v b u w z) 16 0 = 60 from by unfold mkClaim; simp only [xNS, xNP]; exact h1.2.2.2.2.2.2.2.1]
            rw [c1, chkI_nI (show nc < 60 by omega) (by omega)]
            simp (disch := first | decide | omega) only [s1_oth, s1_self, if_true, h9.1.2.2, h8.2.2, nI_nat, chkI_nI, nI_1, nI_pred, bnd2_some]
            have ew : tS (uP (mkClaim t nc (nI nc) k (nI q) (nI d) (nI d - nI fd)) 16 0 nc (some nc)) 2 3 0 + 1 = nI (nc + 1) := by
              rw [show tS (uP (mkClaim t nc (nI nc) k (nI q) (nI d) (nI d - nI fd)) 16 0 nc (some nc)) 2 3 0 = nI nc from by unfold mkClaim; simp (disch := decide) only [tS_c, tS_f, tS_e, tS_i, xSP, xSL, tP_c, tP_f, tP_e, tP_i, xPS, xPL, tL_c, tL_f, tL_e, tL_i, xLS, xLP, xNS, xNL, xNP]; exact eC, nI_1]
            rw [ew]
            exact ⟨_, rfl, file_Rel h1 h2 h3 h4 h5 h6 h7 h8 h9 h10 h11 hk hq (by omega) j2 rfl rfl⟩
    · rw [f1, f2, bnd_some, bnd_some, if_pos rfl, if_pos rfl]
      by_cases full : nI nc = 60
      · rw [if_pos full]
        exact hdef
      · rw [if_neg full]
        exact hdef
  · rw [e1, e2, bnd_some, opt_none, bnd_some, if_pos rfl]
    by_cases full : nI nc = 60
    · rw [if_pos full]
      exact hdef
    · rw [if_neg full]
      exact hdef
