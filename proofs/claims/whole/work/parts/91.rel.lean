def pCnt (cp : Nat → Option Nat) : Nat → Nat
  | 0 => 0
  | q + 1 => pCnt cp q + (if (cp q).isSome then 1 else 0)
def lastW (wc : Nat → Nat) (k : Nat) : Nat → Option Nat
  | 0 => none
  | w + 1 => if wc w = k then some w else lastW wc k w
def cntW (wc : Nat → Nat) (k : Nat) : Nat → Nat
  | 0 => 0
  | w + 1 => cntW wc k w + (if wc w = k then 1 else 0)
def R_len (t : TH) : Prop := tN t 13 0 = 200 ∧ tN t 13 1 = 64 ∧ tN t 13 2 = 64 ∧ tN t 14 0 = 256 ∧ tN t 14 1 = 8 ∧ tN t 15 0 = 64 ∧ tN t 15 1 = 30 ∧ tN t 16 0 = 60 ∧ tN t 16 1 = 60
def R_tape (t : TH) (σ : St) : Prop := ∃ z, z ≤ 200 ∧ tS t 9 1 0 = nI z ∧ σ.1 2 0 = nI z ∧ ∀ j, j < 200 → tS t 13 0 j = σ.1 1 j &&& 255 ∧ -128 ≤ (σ.1 1 j).toInt ∧ (σ.1 1 j).toInt < 128
def R_land (t : TH) (σ : St) : Prop := ∀ q, q < 64 → (∃ w, w ≤ 99 ∧ tS t 13 1 q = nI w ∧ σ.1 5 q = nI w) ∧ ∃ r, r ≤ 3 ∧ tS t 13 2 q = nI r ∧ σ.1 6 q = nI r
def R_race (t : TH) (σ : St) (m : Nat) : Prop := m ≤ 9999 ∧ tS t 8 3 0 = nI m ∧ σ.1 21 0 = nI m ∧ tS t 8 2 0 = σ.1 22 0 ∧ (σ.1 22 0 = 0 ∨ σ.1 22 0 = 1)
def R_stk (t : TH) (σ : St) (n : Nat) : Prop := (σ.1 22 0 = 0 → ∀ q, q < 64 → tP t 15 0 q = none) ∧ (σ.1 22 0 = 1 → ∀ q, q < 64 → (σ.1 7 q = -1 ∧ tP t 15 0 q = none) ∨ ∃ k, k < n ∧ σ.1 7 q = nI k ∧ tP t 15 0 q = some k) ∧ tS t 3 3 0 = nI (pCnt (tP t 15 0) 64)
/-- where one is: a row and a column, or at the line -/
def R_pos (t : TH) (σ : St) (k : Nat) : Prop := ∃ r, r < 8 ∧ tS t 7 6 k = nI r ∧ σ.1 9 k = nI r ∧ ((tS t 7 7 k = -1 ∧ σ.1 8 k = -1) ∨ ∃ c, c < 8 ∧ tS t 7 7 k = nI c ∧ σ.1 8 k = nI (8 * r + c))
def R_goal (t : TH) (σ : St) (m k : Nat) : Prop := tS t 7 8 k = σ.1 12 k ∧ tS t 7 9 k = σ.1 13 k ∧ tS t 7 10 k = σ.1 14 k ∧ tS t 7 11 k = σ.1 15 k ∧ tL t 7 12 k = σ.2 18 k ∧ (σ.1 12 k = -1 ∨ ∃ g d, g < 64 ∧ σ.1 12 k = nI g ∧ σ.1 8 k ≠ nI g ∧ σ.1 13 k = nI d ∧ m < d ∧ d ≤ m + 36)
def R_known (t : TH) (σ : St) (k : Nat) : Prop := ∃ kn, kn ≤ 12 ∧ tN t 17 k = kn ∧ tN t 18 k = kn ∧ σ.1 17 k = nI kn ∧ (∀ i, i < kn → ∃ q b, q < 64 ∧ tS t 17 k i = nI q ∧ σ.1 16 (12 * k + i) = nI q ∧ b < 256 ∧ tS t 18 k i = nI b ∧ σ.1 61 (12 * k + i) = nI b) ∧ ∀ i j, i < kn → j < kn → tS t 17 k i = tS t 17 k j → i = j
def R_one (K : List (Nat × Nat)) (t : TH) (σ : St) (m k : Nat) : Prop := ((7, k) ∈ K ∧ tP t 15 1 k = some k ∧ tS t 7 0 k = nI k) ∧ (tS t 7 1 k = σ.1 19 k ∧ (σ.1 19 k = 0 ∨ σ.1 19 k = 1)) ∧ (∃ p, 1 ≤ p ∧ p ≤ 9 ∧ tS t 7 2 k = nI p ∧ σ.1 10 k = nI p) ∧ (∃ a, a ≤ 120 ∧ tS t 7 3 k = nI a ∧ σ.1 11 k = nI a) ∧ R_pos t σ k ∧ R_goal t σ m k ∧ R_known t σ k ∧ tS t 7 13 k = (if σ.1 51 0 = 0 then -1 else σ.1 50 k) ∧ tS t 7 14 k = (if k < 8 then σ.1 59 k else -1)
def R_rest (σ : St) (n : Nat) : Prop := ∀ k, n ≤ k → k < 30 → (∀ i, i < 12 → σ.1 61 (12 * k + i) = 0) ∧ (k < 8 → σ.1 59 k = -1) ∧ (¬ σ.1 51 0 = 0 → σ.1 50 k = -1) ∧ σ.1 13 k = 0
def R_ppl (K : List (Nat × Nat)) (t : TH) (σ : St) (n m : Nat) : Prop := n ≤ 30 ∧ tS t 6 1 0 = nI n ∧ σ.1 20 0 = nI n ∧ (∀ k, k < n → R_one K t σ m k) ∧ R_rest σ n ∧ (σ.1 51 0 = 0 ∨ σ.1 51 0 = 1)
def R_rul (t : TH) (σ : St) : Prop := (∃ a, a ≤ 120 ∧ tS t 4 0 0 = nI a ∧ σ.1 23 0 = nI a) ∧ ((tS t 4 1 0 = 0 ∧ σ.1 23 1 = 1) ∨ (tS t 4 1 0 = 1 ∧ σ.1 23 1 = 0)) ∧ (∃ p, p ≤ 9 ∧ tS t 4 2 0 = nI p ∧ σ.1 23 2 = nI p) ∧ (∃ d, d ≤ 999 ∧ tS t 4 3 0 = nI d ∧ σ.1 23 3 = nI d) ∧ (∃ w, w ≤ 2 ∧ tS t 4 4 0 = nI w ∧ σ.1 23 4 = nI w) ∧ tS t 4 5 0 = σ.1 31 0 ∧ tS t 5 2 0 = σ.1 29 0
def R_day (t : TH) (σ : St) (d : Nat) : Prop := d ≤ 999 ∧ tS t 11 8 0 = nI d ∧ σ.1 32 0 = nI d
def R_claim (K : List (Nat × Nat)) (t : TH) (σ : St) (n nw d : Nat) (cb cq cd wc : Nat → Nat) (k : Nat) : Prop := ((1, k) ∈ K ∧ tP t 16 0 k = some k ∧ tS t 1 0 k = nI k) ∧ (cb k < n ∧ tP t 1 1 k = some (cb k) ∧ σ.1 34 k = nI (cb k)) ∧ (cq k < 64 ∧ tS t 1 2 k = nI (cq k) ∧ σ.1 35 k = nI (cq k)) ∧ (cd k ≤ d ∧ tS t 1 3 k = nI (cd k) ∧ σ.1 36 k = nI (cd k)) ∧ (∃ f, f ≤ k ∧ cq f = cq k ∧ (∀ j, j < f → cq j ≠ cq k) ∧ tS t 1 4 k = nI (cd k - cd f)) ∧ tP t 1 5 k = lastW wc k nw ∧ tS t 1 6 k = nI (cntW wc k nw)
def R_wit (K : List (Nat × Nat)) (t : TH) (σ : St) (nc : Nat) (wc wd wf wt : Nat → Nat) (w : Nat) : Prop := (10, w) ∈ K ∧ (wc w < nc ∧ σ.1 37 w = nI (wc w)) ∧ (wd w ≤ 999 ∧ tS t 10 0 w = nI (wd w) ∧ σ.1 38 w = nI (wd w)) ∧ (wf w ≤ wt w ∧ tS t 10 1 w = nI (wf w) ∧ σ.1 39 w = nI (wf w)) ∧ (wt w ≤ 9999 ∧ tS t 10 2 w = nI (wt w) ∧ σ.1 40 w = nI (wt w)) ∧ tP t 10 3 w = lastW wc (wc w) w
def R_court (K : List (Nat × Nat)) (t : TH) (σ : St) (n nc nw d : Nat) (cb cq cd wc wd wf wt : Nat → Nat) : Prop := (nc ≤ 60 ∧ tS t 2 3 0 = nI nc ∧ σ.1 41 0 = nI nc) ∧ (nw ≤ 200 ∧ tS t 2 4 0 = nI nw ∧ σ.1 42 0 = nI nw) ∧ (∀ k, k < nc → R_claim K t σ n nw d cb cq cd wc k) ∧ (∀ i j, i ≤ j → j < nc → cd i ≤ cd j) ∧ ∀ w, w < nw → R_wit K t σ nc wc wd wf wt w
def R_K (K : List (Nat × Nat)) (n nc nw : Nat) : Prop := KS K ∧ ∀ x, ((7, x) ∈ K → x < n) ∧ ((17, x) ∈ K → x < n) ∧ ((18, x) ∈ K → x < n) ∧ ((1, x) ∈ K → x < nc) ∧ ((10, x) ∈ K → x < nw)
def R_P (t : TH) (n nc nw : Nat) : Prop := (∀ j x, tP t 1 1 j = some x → x < n) ∧ (∀ j e x, tP t 15 j e = some x → x < n) ∧ (∀ j e x, tP t 16 j e = some x → x < nc) ∧ (∀ j x, tP t 1 5 j = some x → x < nw) ∧ ∀ j x, tP t 10 3 j = some x → x < nw
def Rel (K : List (Nat × Nat)) (t : TH) (σ : St) : Prop := ∃ (n nc nw m d : Nat) (cb cq cd wc wd wf wt : Nat → Nat), R_len t ∧ R_tape t σ ∧ R_land t σ ∧ R_race t σ m ∧ R_stk t σ n ∧ R_ppl K t σ n m ∧ R_rul t σ ∧ R_day t σ d ∧ R_court K t σ n nc nw d cb cq cd wc wd wf wt ∧ R_K K n nc nw ∧ R_P t n nc nw
theorem Rel_KS (K : List (Nat × Nat)) (t : TH) (σ : St) (h : Rel K t σ) : KS K := by
  obtain ⟨n, nc, nw, m, d, cb, cq, cd, wc, wd, wf, wt, h1, h2, h3, h4, h5, h6, h7, h8, h9, h10, h11⟩ := h
  exact h10.1
theorem Rel_Fresh (K : List (Nat × Nat)) (t : TH) (σ : St) (h : Rel K t σ) : Fresh K t := by
  obtain ⟨n, nc, nw, m, d, cb, cq, cd, wc, wd, wf, wt, h1, h2, h3, h4, h5, h6, h7, h8, h9, h10, h11⟩ := h
  refine ⟨fun x hx => ?_, fun x hx => ?_, fun x hx => ?_⟩
  · rw [h6.2.1, nI_nat (by have := h6.1; omega)] at hx
    subst hx
    exact ⟨fun z => absurd ((h10.2 _).1 z) (Nat.lt_irrefl _), fun z => absurd ((h10.2 _).2.1 z) (Nat.lt_irrefl _), fun z => absurd ((h10.2 _).2.2.1 z) (Nat.lt_irrefl _), fun j z => absurd (h11.1 j _ z) (Nat.lt_irrefl _), fun j e z => absurd (h11.2.1 j e _ z) (Nat.lt_irrefl _)⟩
  · rw [h9.1.2.1, nI_nat (by have := h9.1.1; omega)] at hx
    subst hx
    exact ⟨fun z => absurd ((h10.2 _).2.2.2.1 z) (Nat.lt_irrefl _), fun j e z => absurd (h11.2.2.1 j e _ z) (Nat.lt_irrefl _)⟩
  · rw [h9.2.1.2.1, nI_nat (by have := h9.2.1.1; omega)] at hx
    subst hx
    exact ⟨fun z => absurd ((h10.2 _).2.2.2.2 z) (Nat.lt_irrefl _), fun j z => absurd (h11.2.2.2.1 j _ z) (Nat.lt_irrefl _), fun j z => absurd (h11.2.2.2.2 j _ z) (Nat.lt_irrefl _)⟩
