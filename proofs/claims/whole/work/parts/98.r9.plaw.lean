theorem ppl_2 {K : List (Nat × Nat)} {t : TH} {σ σ' : St} {n m : Nat} (h : R_ppl K t σ n m) (e1 : σ'.1 = σ.1) (e2 : σ'.2 18 = σ.2 18) : R_ppl K t σ' n m := by
  obtain ⟨h1, h2, h3, h4, h5⟩ := h
  refine ⟨h1, h2, by rw [e1]; exact h3, fun k hk => ?_, ?_⟩
  · have q := h4 k hk
    unfold R_one R_pos R_goal R_known at q ⊢
    rw [e1, e2]
    exact q
  · unfold R_rest at *
    rw [e1]
    exact h5
def Slw : List (Nat × Nat) := [(9, 1), (5, 2), (5, 3), (5, 4), (5, 5), (5, 6), (5, 7), (5, 8), (4, 0), (4, 1), (4, 2), (4, 3), (4, 4), (4, 5)]
def Glw : List Nat := [0, 2, 3, 4, 23, 24, 25, 26, 27, 28, 29, 30, 31]
theorem law_Rel {K : List (Nat × Nat)} {t t' : TH} {σ σ' : St} {n nc nw m d : Nat} {cb cq cd wc wd wf wt : Nat → Nat} (h1 : R_len t) (h2 : R_tape t σ) (h3 : R_land t σ) (h4 : R_race t σ m) (h5 : R_stk t σ n) (h6 : R_ppl K t σ n m) (h8 : R_day t σ d) (h9 : R_court K t σ n nc nw d cb cq cd wc wd wf wt) (h10 : R_K K n nc nw) (h11 : R_P t n nc nw) (hT : ET Slw [] [] t t') (hG : ∀ x, x ∉ Glw → σ'.1 x = σ.1 x) (hL : σ'.2 18 = σ.2 18) (e91 : tS t' 9 1 0 = 0) (e2 : σ'.1 2 0 = nI 0) (h7 : R_rul t' σ') : Rel K t' σ' := by
  have hF : Fx Glw σ (σ'.1, σ.2) := ⟨hG, rfl⟩
  have q3 : R_land t' (σ'.1, σ.2) := c_land h3 hT hF
  have q4 : R_race t' (σ'.1, σ.2) m := c_race h4 hT hF
  have q5 : R_stk t' (σ'.1, σ.2) n := c_stk h5 hT hF
  have q6 : R_ppl K t' (σ'.1, σ.2) n m := c_ppl h6 hT hF (fun _ w => w)
  have q8 : R_day t' (σ'.1, σ.2) d := c_day h8 hT hF
  have q9 : R_court K t' (σ'.1, σ.2) n nc nw d cb cq cd wc wd wf wt := c_court h9 hT hF (fun _ w => w)
  exact ⟨n, nc, nw, m, d, cb, cq, cd, wc, wd, wf, wt, c_len h1 hT, tape_0 h2 e91 (hT.1 13 0 (by decide)) e2 (hG 1 (by decide)), q3, q4, q5, ppl_2 q6 rfl hL, h7, q8, q9, h10, c_P h11 hT⟩
