theorem RD_P {lo hi : Nat} {t t' : TH} {σ σ' : St} {k j : Nat} (h : RD lo hi t σ j) (hT : PF k t t') (hS : SM k σ σ') (hj : j ≠ k) : RD lo hi t' σ' j := by
  unfold RD R_pos at *
  rw [(hT.2.1 j hj).1 6, (hT.2.1 j hj).1 7, (hT.2.1 j hj).1 8, (hT.2.1 j hj).1 9, (hT.2.1 j hj).1 10, (hT.2.1 j hj).1 11, (hT.2.1 j hj).2, hS.2.1 8 j (by decide) hj, hS.2.1 9 j (by decide) hj, hS.2.1 12 j (by decide) hj, hS.2.1 13 j (by decide) hj, hS.2.1 14 j (by decide) hj, hS.2.1 15 j (by decide) hj, hS.2.2.1 j hj]
  exact h
theorem RD_E {lo hi : Nat} {t : TH} {σ : St} {k : Nat} (h : RD lo hi t σ k) : RE t σ k := ⟨h.1, h.2.2.1, h.2.2.2.1, h.2.2.2.2.1, h.2.2.2.2.2.1⟩
def Sg : List (Nat × Nat) := [(8, 3), (7, 6), (7, 7), (7, 8), (7, 9), (7, 10), (7, 11), (3, 3)]
def GF (n : Nat) (t t' : TH) : Prop := ET Sg [(15, 0)] [(7, 12)] t t' ∧ ∀ e x, tP t' 15 0 e = some x → tP t 15 0 e = some x ∨ x < n
def GS (n : Nat) (σ σ' : St) : Prop := (∀ x, x ∉ [0, 7, 8, 9, 12, 13, 14, 15, 21, 22] → σ'.1 x = σ.1 x) ∧ ∀ j, n ≤ j → σ'.1 13 j = σ.1 13 j
theorem GF_P {k n : Nat} {t t' : TH} (h : PF k t t') (hk : k < n) : GF n t t' := ⟨ET_mono h.1 (by decide) (by decide) (by decide), fun e x q => by
  rcases h.2.2 e x q with z | z
  · exact Or.inl z
  · exact Or.inr (by omega)⟩
theorem GF_rf (n : Nat) (t : TH) : GF n t t := ⟨ET_rf _ _ _ _, fun _ _ h => Or.inl h⟩
theorem GF_tr {n : Nat} {t t' t'' : TH} (h : GF n t t') (h' : GF n t' t'') : GF n t t'' := ⟨ET_tr h.1 h'.1, fun e x q => by
  rcases h'.2 e x q with z | z
  · exact h.2 e x z
  · exact Or.inr z⟩
theorem GF_8 {n f : Nat} {t : TH} (hf : (8, f) ∈ Sg) (v : Int32) : GF n t (uS t 8 f 0 v) := ⟨ET_uS (ET_rf _ _ _ _) hf _ _, by rw [xPS]; exact fun _ _ h => Or.inl h⟩
theorem GS_S {k n : Nat} {σ σ' : St} (h : SM k σ σ') (hk : k < n) : GS n σ σ' := ⟨fun x hx => h.1 x (fun z => hx ((by decide : ∀ y, y ∈ [7, 8, 9, 12, 13, 14, 15] → y ∈ [0, 7, 8, 9, 12, 13, 14, 15, 21, 22]) x z)), fun j hj => h.2.1 13 j (by decide) (by omega)⟩
theorem GS_tr {n : Nat} {σ σ' σ'' : St} (h : GS n σ σ') (h' : GS n σ' σ'') : GS n σ σ'' := ⟨fun x hx => (h'.1 x hx).trans (h.1 x hx), fun j hj => (h'.2 j hj).trans (h.2 j hj)⟩
theorem GS_rf (n : Nat) (σ : St) : GS n σ σ := ⟨fun _ _ => rfl, fun _ _ => rfl⟩
theorem GS_s1 {n : Nat} {σ σ' : St} (h : GS n σ σ') {k : Nat} (hk : k ∈ [0, 7, 21, 22]) (i : Nat) (v : Int32) : GS n σ (s1 σ' k i v) := by
  have h13 : 13 ≠ k := fun z => by rw [← z] at hk; exact absurd hk (by decide)
  refine ⟨fun x hx => ?_, fun j hj => by rw [s1_oth _ _ _ _ h13]; exact h.2 j hj⟩
  rw [s1_oth _ _ _ _ (fun z => hx (by rw [z]; exact (by decide : ∀ y, y ∈ [0, 7, 21, 22] → y ∈ [0, 7, 8, 9, 12, 13, 14, 15, 21, 22]) k hk))]
  exact h.1 x hx
theorem pr_L {K : List (Nat × Nat)} {n m : Nat} {kn : Nat → Nat} {Q : Nat → Nat → Nat} (x3 x2 x1 y2 y1 : Int32) :
    ∀ (f p : Nat) (t : TH) (σ : St), p ≤ n → n < f + p → RX K t σ n m kn Q → σ.1 20 0 = nI n → R_stk t σ n → (∀ k, k < p → RD (m + 1) (m + 36) t σ k) → (∀ k, p ≤ k → k < n → RD m (m + 36) t σ k) →
      ∃ t' σ' a b, C_Race_goOn_L40 f K t (nI p) x3 x2 x1 = some (t', a) ∧ M_run_L102 f σ (nI p) y2 y1 = some (σ', b) ∧ GF n t t' ∧ GS n σ σ' ∧ RX K t' σ' n m kn Q ∧ R_stk t' σ' n ∧ ∀ k, k < n → RD (m + 1) (m + 36) t' σ' k := by
  intro f
  induction f with
  | zero =>
    intro p t σ _ h
    exact absurd h (by omega)
  | succ f ih =>
    intro p t σ hp hf hX h20 hS hA hB
    have hn30 := hX.1.1
    have h9 := hX.2.2.2.2.1
    unfold C_Race_goOn_L40 M_run_L102
    rw [hX.1.2.1, h20]
    rcases Nat.lt_or_ge p n with w | w
    · have hD := hB p (Nat.le_refl _) w
      obtain ⟨d1, d2, d3, d4, d5, d6, d7⟩ := hD
      have hD := hB p (Nat.le_refl _) w
      have a1 := (hX.1.2.2.2 p w).1.1
      rw [if_neg (nI_ge w (by omega)), if_neg (nI_ge w (by omega)), PV_at hX.1 w, bnd_some, opt_some, chkP_t a1, d2, d3, h9.2.1, h9.2.2]
      simp only [chkI_nI (show p < 30 by omega) (show 30 < 2 ^ 31 by omega), nI_nat (show p < 2 ^ 31 by omega), nm_eq, nI_1]
      have go : RD (m + 1) (m + 36) t σ p → ∃ t' σ' a b, C_Race_goOn_L40 f K t (nI (p + 1)) x3 x2 x1 = some (t', a) ∧ M_run_L102 f σ (nI (p + 1)) y2 y1 = some (σ', b) ∧ GF n t t' ∧ GS n σ σ' ∧ RX K t' σ' n m kn Q ∧ R_stk t' σ' n ∧ ∀ k, k < n → RD (m + 1) (m + 36) t' σ' k := fun hp1 =>
        ih (p + 1) t σ (by omega) (by omega) hX h20 hS (fun k hk => by
          rcases Nat.lt_or_ge k p with y | y
          · exact hA k y
          · rw [show k = p by omega]
            exact hp1) (fun k a b => hB k (by omega) b)
      rcases d7 with g0 | ⟨g, d, g1, g2, g3, g4, g5, g6⟩
      · rw [g0, if_pos rfl, if_pos (show (-1 : Int32) < 0 by decide)]
        exact go ⟨d1, d2, d3, d4, d5, d6, Or.inl g0⟩
      · rw [g2, if_neg (nNb (show g < 2 ^ 31 by omega)), if_neg (nI_pos (show g < 2 ^ 31 by omega)), g4]
        by_cases c : d = m
        · rw [if_pos (show nI d = nI m by rw [c]), if_pos (show nI d = nI m by rw [c])]
          obtain ⟨t1, σ1, e1, e2, P1, S1, D1, K1⟩ := ar_eq hX w hD (by rw [g2]; exact nNb (by omega)) hS
          rw [e1, bnd_some, e2, bnd_some]
          obtain ⟨t2, σ2, a, b, r1, r2, r3, r4, r5, r6, r7⟩ := ih (p + 1) t1 σ1 (by omega) (by omega) (RX_P hX P1 S1) (by rw [S1.1 20 (by decide)]; exact h20) K1 (fun k hk => by
            by_cases y : k = p
            · rw [y]
              exact D1
            · exact RD_P (hA k (by omega)) P1 S1 y) (fun k a b => RD_P (hB k (by omega) b) P1 S1 (by omega))
          exact ⟨t2, σ2, a, b, r1, r2, GF_tr (GF_P P1 w) r3, GS_tr (GS_S S1 w) r4, r5, r6, r7⟩
        · rw [if_neg (fun z => c ((nI_eq (by omega) (by omega)).mp z)), if_neg (fun z => c ((nI_eq (by omega) (by omega)).mp z))]
          exact go ⟨d1, d2, d3, d4, d5, d6, Or.inr ⟨g, d, g1, g2, g3, g4, by omega, g6⟩⟩
    · rw [if_pos (nI_le w (by omega)), if_pos (nI_le w (by omega))]
      exact ⟨t, σ, _, _, rfl, rfl, GF_rf _ _, GS_rf _ _, hX, hS, fun k hk => hA k (by omega)⟩
theorem bg_L {K : List (Nat × Nat)} {n m : Nat} {kn : Nat → Nat} {Q : Nat → Nat → Nat} (y1 : Int32) :
    ∀ (f p : Nat) (t : TH) (σ : St), p ≤ n → n < f + p → RX K t σ n m kn Q → σ.1 20 0 = nI n → R_stk t σ n → (∀ k, k < p → RD (m + 1) (m + 36) t σ k) → (∀ k, p ≤ k → k < n → RE t σ k) →
      ∃ t' σ' a b, C_Race_begin_L7 f K t (nI p) = some (t', a) ∧ M_run_L54 f σ (nI p) y1 = some (σ', b) ∧ GF n t t' ∧ GS n σ σ' ∧ RX K t' σ' n m kn Q ∧ R_stk t' σ' n ∧ ∀ k, k < n → RD (m + 1) (m + 36) t' σ' k := by
  intro f
  induction f with
  | zero =>
    intro p t σ _ h
    exact absurd h (by omega)
  | succ f ih =>
    intro p t σ hp hf hX h20 hS hA hB
    have hn30 := hX.1.1
    unfold C_Race_begin_L7 M_run_L54
    rw [hX.1.2.1, h20]
    rcases Nat.lt_or_ge p n with w | w
    · rw [if_neg (nI_ge w (by omega)), if_neg (nI_ge w (by omega)), PV_at hX.1 w, bnd_some, opt_some]
      obtain ⟨t1, σ1, e1, e2, P1, S1, D1, K1⟩ := ch_eq hX w (hB p (Nat.le_refl _) w) hS
      rw [e1, bnd_some, e2, bnd_some, nm_eq, nm_eq, nI_1]
      obtain ⟨t2, σ2, a, b, r1, r2, r3, r4, r5, r6, r7⟩ := ih (p + 1) t1 σ1 (by omega) (by omega) (RX_P hX P1 S1) (by rw [S1.1 20 (by decide)]; exact h20) K1 (fun k hk => by
        by_cases y : k = p
        · rw [y]
          exact D1
        · exact RD_P (hA k (by omega)) P1 S1 y) (fun k a b => by
        have q := hB k (by omega) b
        have hk : k ≠ p := by omega
        unfold RE R_pos at *
        rw [(P1.2.1 k hk).1 6, (P1.2.1 k hk).1 7, (P1.2.1 k hk).1 9, (P1.2.1 k hk).1 10, (P1.2.1 k hk).1 11, (P1.2.1 k hk).2, S1.2.1 8 k (by decide) hk, S1.2.1 9 k (by decide) hk, S1.2.1 13 k (by decide) hk, S1.2.1 14 k (by decide) hk, S1.2.1 15 k (by decide) hk, S1.2.2.1 k hk]
        exact q)
      exact ⟨t2, σ2, a, b, r1, r2, GF_tr (GF_P P1 w) r3, GS_tr (GS_S S1 w) r4, r5, r6, r7⟩
    · rw [if_pos (nI_le w (by omega)), if_pos (nI_le w (by omega))]
      exact ⟨t, σ, _, _, rfl, rfl, GF_rf _ _, GS_rf _ _, hX, hS, fun k hk => hA k (by omega)⟩
theorem na_L {K : List (Nat × Nat)} {t : TH} {σ : St} {n m : Nat} {kn : Nat → Nat} {Q : Nat → Nat → Nat} (hX : RX K t σ n m kn Q) (hD : ∀ k, k < n → RD (m + 1) (m + 36) t σ k) (x1 : Int32) :
    ∀ (f p x : Nat), p ≤ n → n < f + p → m < x → x ≤ 9999 → (∀ k, k < p → σ.1 12 k = -1 ∨ ∃ d, σ.1 13 k = nI d ∧ x ≤ d ∧ d ≤ m + 36) → ∃ a y, C_Race_nextArrival_L4 f K t (nI p) (nI x) x1 = some (a, nI y) ∧ m < y ∧ y ≤ x ∧ ∀ k, k < n → σ.1 12 k = -1 ∨ ∃ d, σ.1 13 k = nI d ∧ y ≤ d ∧ d ≤ m + 36 := by
  have hn30 := hX.1.1
  have h9 := hX.2.2.2.2.1
  intro f
  induction f with
  | zero =>
    intro p x _ h
    exact absurd h (by omega)
  | succ f ih =>
    intro p x hp hf hx hx9 hA
    unfold C_Race_nextArrival_L4
    rw [hX.1.2.1]
    rcases Nat.lt_or_ge p n with w | w
    · obtain ⟨d1, d2, d3, d4, d5, d6, d7⟩ := hD p w
      rw [if_neg (nI_ge w (by omega)), PV_at hX.1 w, bnd_some, opt_some, chkP_t (hX.1.2.2.2 p w).1.1, d2, d3, h9.2.1]
      simp only [nm_eq, nI_1]
      rcases d7 with g0 | ⟨g, d, g1, g2, g3, g4, g5, g6⟩
      · rw [g0, if_pos rfl]
        refine ih (p + 1) x (by omega) (by omega) hx hx9 (fun k hk => ?_)
        rcases Nat.lt_or_ge k p with y | y
        · exact hA k y
        · rw [show k = p by omega]
          exact Or.inl g0
      · rw [g2, if_neg (nNb (show g < 2 ^ 31 by omega)), g4, if_neg (nI_ge (show m < d by omega) (by omega))]
        have ev : (if nI d < nI x then nI d else nI x) = nI (if d < x then d else x) := by
          by_cases q : d < x
          · rw [if_pos (nI_lt q (by omega)), if_pos q]
          · rw [if_neg (nI_nlt (by omega) (by omega)), if_neg q]
        rw [ev]
        obtain ⟨a, y, r1, r2, r3, r4⟩ := ih (p + 1) (if d < x then d else x) (by omega) (by omega) (by split <;> omega) (by split <;> omega) (fun k hk => by
          rcases Nat.lt_or_ge k p with z | z
          · rcases hA k z with q | ⟨d', q1, q2, q3⟩
            · exact Or.inl q
            · exact Or.inr ⟨d', q1, by split <;> omega, q3⟩
          · rw [show k = p by omega]
            exact Or.inr ⟨d, g4, by split <;> omega, g6⟩)
        exact ⟨a, y, r1, r2, by have : (if d < x then d else x) ≤ x := (by split <;> omega); omega, r4⟩
    · rw [if_pos (nI_le w (by omega))]
      exact ⟨_, x, rfl, hx, Nat.le_refl _, fun k hk => hA k (by omega)⟩
theorem s1_two (σ : St) (k i : Nat) (a b : Int32) : s1 (s1 σ k i a) k i b = s1 σ k i b := by
  refine Prod.ext (funext fun j => funext fun y => ?_) rfl
  by_cases h : j = k ∧ y = i
  · rw [s1_1 (s1 σ k i a) k i b, if_pos h, s1_1 σ k i b, if_pos h]
  · rw [s1_1 (s1 σ k i a) k i b, if_neg h, s1_1 σ k i a, if_neg h, s1_1 σ k i b, if_neg h]
theorem s1_id (σ : St) (k i : Nat) : s1 σ k i (σ.1 k i) = σ := by
  refine Prod.ext (funext fun j => funext fun y => ?_) rfl
  rw [s1_1]
  by_cases h : j = k ∧ y = i
  · rw [if_pos h, h.1, h.2]
  · rw [if_neg h]
theorem id_L {σ : St} {n μ : Nat} (hn : n ≤ 30) (hμ : μ ≤ 9999) (h20 : σ.1 20 0 = nI n) (h : ∀ k, k < n → σ.1 12 k = -1 ∨ ∃ g d, g < 64 ∧ σ.1 12 k = nI g ∧ σ.1 13 k = nI d ∧ μ < d ∧ d ≤ 20000) (y2 y1 : Int32) : ∀ f p, p ≤ n → n < f + p → ∃ a, M_run_L102 f (s1 σ 21 0 (nI μ)) (nI p) y2 y1 = some (s1 σ 21 0 (nI μ), a) := by
  intro f
  induction f with
  | zero =>
    intro p _ hf
    exact absurd hf (by omega)
  | succ f ih =>
    intro p hp hf
    unfold M_run_L102
    rw [s1_oth _ _ _ _ (show 20 ≠ 21 by decide), h20]
    rcases Nat.lt_or_ge p n with w | w
    · rw [if_neg (nI_ge w (by omega)), s1_oth _ _ _ _ (show 12 ≠ 21 by decide), s1_oth _ _ _ _ (show 13 ≠ 21 by decide), s1_e]
      simp only [chkI_nI (show p < 30 by omega) (show 30 < 2 ^ 31 by omega), nI_nat (show p < 2 ^ 31 by omega), nm_eq, nI_1]
      rcases h p w with g0 | ⟨g, d, g1, g2, g3, g4, g5⟩
      · rw [g0, if_pos (show (-1 : Int32) < 0 by decide)]
        exact ih (p + 1) (by omega) (by omega)
      · rw [g2, if_neg (nI_pos (show g < 2 ^ 31 by omega)), g3, if_neg (fun z => by have := (nI_eq (by omega) (by omega)).mp z; omega)]
        exact ih (p + 1) (by omega) (by omega)
    · rw [if_pos (nI_le w (by omega))]
      exact ⟨_, rfl⟩
theorem idle {σ : St} {n m m' a N : Nat} (hn : n ≤ 30) (hm' : m' ≤ 9999) (hN : N ≤ 1000) (h20 : σ.1 20 0 = nI n) (h : ∀ k, k < n → σ.1 12 k = -1 ∨ ∃ g d, g < 64 ∧ σ.1 12 k = nI g ∧ σ.1 13 k = nI d ∧ m' ≤ d ∧ d ≤ 20000) : ∀ e f, m + e < m' → a + e < N → M_run_L75 (f + e) (s1 σ 21 0 (nI m)) (nI a) (nI N) = M_run_L75 f (s1 σ 21 0 (nI (m + e))) (nI (a + e)) (nI N) := by
  intro e
  induction e with
  | zero => intro f _ _; rfl
  | succ e ih =>
    intro f he ha
    rw [show f + (e + 1) = (f + 1) + e by omega, ih (f + 1) (by omega) (by omega)]
    have e1 : M_run_L75 (f + 1) (s1 σ 21 0 (nI (m + e))) (nI (a + e)) (nI N) = (if nI N ≤ nI (a + e) then some (s1 σ 21 0 (nI (m + e)), nI (a + e)) else if 9999 ≤ ((s1 σ 21 0 (nI (m + e))).1 21 0) then some (s1 σ 21 0 (nI (m + e)), nI (a + e)) else nm (s1 (s1 σ 21 0 (nI (m + e))) 21 0 (((s1 σ 21 0 (nI (m + e))).1 21 0) + 1)) (fun σ27 => bnd (M_run_L102 100000 σ27 0 (nI (a + e)) (nI N)) (fun q => nm2 q (fun σ28 v29 => nm (nI (a + e) + 1) (fun v30 => M_run_L75 f σ28 v30 (nI N)))))) := rfl
    obtain ⟨x, ex⟩ := id_L (σ := σ) (n := n) (μ := m + e + 1) hn (by omega) h20 (fun k hk => by
      rcases h k hk with q | ⟨g, d, q1, q2, q3, q4, q5⟩
      · exact Or.inl q
      · exact Or.inr ⟨g, d, q1, q2, q3, by omega, q5⟩) (nI (a + e)) (nI N) 100000 0 (by omega) (by omega)
    rw [e1, if_neg (nI_ge (by omega) (by omega)), s1_e, if_neg (show ¬ (9999 : Int32) ≤ nI (m + e) from fun z => by have := (nI_leI (a := 9999) (by omega) (by omega)).mp z; omega), nm_eq, nI_1, s1_two, show M_run_L102 100000 (s1 σ 21 0 (nI (m + e + 1))) 0 (nI (a + e)) (nI N) = some (s1 σ 21 0 (nI (m + e + 1)), x) from ex, bnd_some, nm2_eq, nm_eq, nI_1]
    rfl
