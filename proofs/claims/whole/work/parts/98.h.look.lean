def cB (f : Nat → Bool) : Nat → Nat
  | 0 => 0
  | n + 1 => cB f n + (if f n then 1 else 0)
def mnB (f : Nat → Bool) (g : Nat → Nat) : Nat → Nat
  | 0 => 9999
  | n + 1 => if f n = true ∧ g n < mnB f g n then g n else mnB f g n
theorem cB_s (f : Nat → Bool) (n : Nat) : cB f (n + 1) = cB f n + (if f n then 1 else 0) := rfl
theorem mnB_s (f : Nat → Bool) (g : Nat → Nat) (n : Nat) : mnB f g (n + 1) = if f n = true ∧ g n < mnB f g n then g n else mnB f g n := rfl
theorem cB_le (f : Nat → Bool) : ∀ n, cB f n ≤ n := by
  intro n
  induction n with
  | zero => exact Nat.le_refl 0
  | succ n ih =>
    rw [cB_s]
    split <;> omega
theorem cB_pos {f : Nat → Bool} {i : Nat} (hi : f i = true) : ∀ n, i < n → 1 ≤ cB f n := by
  intro n
  induction n with
  | zero => intro h; exact absurd h (by omega)
  | succ n ih =>
    intro h
    rw [cB_s]
    rcases Nat.lt_or_ge i n with k | k
    · have := ih k
      omega
    · rw [show n = i by omega, hi, if_pos rfl]
      omega
theorem mnB_le (f : Nat → Bool) (g : Nat → Nat) : ∀ n, mnB f g n ≤ 9999 := by
  intro n
  induction n with
  | zero => exact Nat.le_refl _
  | succ n ih =>
    rw [mnB_s]
    by_cases c : f n = true ∧ g n < mnB f g n
    · rw [if_pos c]
      have := c.2
      omega
    · rw [if_neg c]
      exact ih
theorem mnB_ge {f : Nat → Bool} {g : Nat → Nat} {b : Nat} (hb : b ≤ 9999) : ∀ n, (∀ i, i < n → f i = true → b ≤ g i) → b ≤ mnB f g n := by
  intro n
  induction n with
  | zero => intro _; exact hb
  | succ n ih =>
    intro h
    rw [mnB_s]
    by_cases c : f n = true ∧ g n < mnB f g n
    · rw [if_pos c]
      exact h n (by omega) c.1
    · rw [if_neg c]
      exact ih (fun i hi => h i (by omega))
theorem mnB_no {f : Nat → Bool} {g : Nat → Nat} : ∀ n, (∀ i, i < n → f i = false) → mnB f g n = 9999 := by
  intro n
  induction n with
  | zero => intro _; rfl
  | succ n ih =>
    intro h
    rw [mnB_s, if_neg (fun z => by rw [h n (by omega)] at z; exact absurd z.1 (by decide))]
    exact ih (fun i hi => h i (by omega))
/-- who counts for a claim, and who tells a minute -/
def okW (wc wd : Nat → Nat) (k : Nat) (T : Int32) (w : Nat) : Bool := decide (wc w = k) && !decide (T < nI (wd w))
def tlW (wc wd wf wt : Nat → Nat) (k : Nat) (T : Int32) (x w : Nat) : Bool := okW wc wd k T w && (decide (wf w ≤ x) && decide (x ≤ wt w))
def WV (K : List (Nat × Nat)) (t : TH) (σ : St) (nc nw : Nat) (wc wd wf wt : Nat → Nat) : Prop := nw ≤ 200 ∧ nc ≤ 60 ∧ σ.1 42 0 = nI nw ∧ (∀ w, w < nw → R_wit K t σ nc wc wd wf wt w) ∧ ∀ k, k < nc → (1, k) ∈ K ∧ tP t 1 5 k = lastW wc k nw
theorem WV_E {S P L : List (Nat × Nat)} {G : List Nat} {K : List (Nat × Nat)} {t t' : TH} {σ σ' : St} {nc nw : Nat} {wc wd wf wt : Nat → Nat} (h : WV K t σ nc nw wc wd wf wt) (hT : ET S P L t t') (hF : Fx G σ σ') (e1 : (10, 0) ∉ S := by decide) (e2 : (10, 1) ∉ S := by decide) (e3 : (10, 2) ∉ S := by decide) (e4 : (10, 3) ∉ P := by decide) (e5 : (1, 5) ∉ P := by decide) (g : ∀ k, k ∈ [37, 38, 39, 40, 42] → k ∉ G := by decide) : WV K t' σ' nc nw wc wd wf wt := by
  obtain ⟨h1, h0, h2, h3, h4⟩ := h
  refine ⟨h1, h0, by rw [hF.1 42 (g 42 (by decide))]; exact h2, fun w hw => ?_, fun k hk => by rw [hT.2.1 1 5 e5]; exact h4 k hk⟩
  have q := h3 w hw
  unfold R_wit at q ⊢
  rw [hT.1 10 0 e1, hT.1 10 1 e2, hT.1 10 2 e3, hT.2.1 10 3 e4, hF.1 37 (g 37 (by decide)), hF.1 38 (g 38 (by decide)), hF.1 39 (g 39 (by decide)), hF.1 40 (g 40 (by decide))]
  exact q
theorem tl_C {K : List (Nat × Nat)} {t : TH} {σ : St} {nc nw : Nat} {wc wd wf wt : Nat → Nat} (h : WV K t σ nc nw wc wd wf wt) {k x w : Nat} {T : Int32} (hx : x ≤ 9999) (hw : w < nw) (hk : wc w = k) : C_Witness_tells K t w (nI x) T = some (if tlW wc wd wf wt k T x w then 1 else 0) := by
  obtain ⟨w1, w2, w3, w4, w5, w6⟩ := h.2.2.2.1 w hw
  unfold C_Witness_tells tlW okW
  rw [chkP_t w1, w3.2.1, w4.2.1, w5.2.1]
  by_cases a : T < nI (wd w)
  · rw [if_pos a]
    simp [a]
  · rw [if_neg a]
    by_cases b : wf w ≤ x
    · rw [if_neg (nI_nlt b (by omega))]
      by_cases c : x ≤ wt w
      · rw [if_neg (nI_nlt c (by omega))]
        simp [a, b, c, hk]
      · rw [if_pos (nI_lt (by omega) (by omega))]
        simp [c]
    · rw [if_pos (nI_lt (by omega) (by omega))]
      simp [b]
theorem ag_L {K : List (Nat × Nat)} {t : TH} {σ : St} {nc nw : Nat} {wc wd wf wt : Nat → Nat} (h : WV K t σ nc nw wc wd wf wt) {k x : Nat} {T : Int32} (hx : x ≤ 9999) :
    ∀ (i f a : Nat), i ≤ nw → i < f → ∃ o, C_Claim_agreeOn_L8 f K t (lastW wc k i) (nI a) k (nI x) T = some (o, nI (a + cB (tlW wc wd wf wt k T x) i)) := by
  intro i
  induction i with
  | zero =>
    intro f a _ hf
    obtain ⟨f, rfl⟩ : ∃ g, f = g + 1 := ⟨f - 1, by omega⟩
    unfold C_Claim_agreeOn_L8
    exact ⟨none, rfl⟩
  | succ i ih =>
    intro f a hi hf
    rw [cB_s]
    by_cases c : wc i = k
    · obtain ⟨f, rfl⟩ : ∃ g, f = g + 1 := ⟨f - 1, by omega⟩
      obtain ⟨w1, w2, w3, w4, w5, w6⟩ := h.2.2.2.1 i (by omega)
      rw [show lastW wc k (i + 1) = some i from if_pos c]
      unfold C_Claim_agreeOn_L8
      rw [opt_some, chkP_t w1, tl_C h hx (by omega) c, bnd_some, w6, c]
      simp only [nm_eq, nI_1]
      by_cases b : tlW wc wd wf wt k T x i = true
      · rw [if_pos b, if_pos b, if_neg (show ¬ (1 : Int32) = 0 by decide)]
        obtain ⟨o, e⟩ := ih f (a + 1) (by omega) (by omega)
        exact ⟨o, by rw [e, show a + 1 + cB (tlW wc wd wf wt k T x) i = a + (cB (tlW wc wd wf wt k T x) i + 1) by omega]⟩
      · rw [if_neg b, if_neg b, if_pos rfl]
        exact ih f a (by omega) (by omega)
    · rw [show lastW wc k (i + 1) = lastW wc k i from if_neg c, show tlW wc wd wf wt k T x i = false from by unfold tlW okW; simp [c]]
      exact ih f a (by omega) (by omega)
theorem ag_eq {K : List (Nat × Nat)} {t : TH} {σ : St} {nc nw : Nat} {wc wd wf wt : Nat → Nat} (h : WV K t σ nc nw wc wd wf wt) {k x : Nat} {T : Int32} (hk : k < nc) (hx : x ≤ 9999) : C_Claim_agreeOn K t k (nI x) T = some (nI (cB (tlW wc wd wf wt k T x) nw)) := by
  unfold C_Claim_agreeOn
  obtain ⟨k1, k2⟩ := h.2.2.2.2 k hk
  obtain ⟨o, e⟩ := ag_L h (k := k) (T := T) hx nw 100000 0 (Nat.le_refl _) (by have := h.1; omega)
  rw [chkP_t k1, k2, nm_eq, show C_Claim_agreeOn_L8 100000 K t (lastW wc k nw) 0 k (nI x) T = some (o, nI (0 + cB (tlW wc wd wf wt k T x) nw)) from e, bnd_some, nm2_eq, Nat.zero_add]
/-- the span of a claim: how many agree, and from which minute on -/
def Sp (c : Nat → Nat) (wf : Nat → Nat) (P : Nat → Prop) (A B : Nat) : Prop := ((¬ ∃ i, P i) ∧ A = 0 ∧ B = 0) ∨ ∃ i0, P i0 ∧ A = c (wf i0) ∧ B = wf i0 ∧ ∀ i, P i → c (wf i) < A ∨ (c (wf i) = A ∧ B ≤ wf i)
theorem Sp_uni {c wf : Nat → Nat} {P : Nat → Prop} {A B A' B' : Nat} (h : Sp c wf P A B) (h' : Sp c wf P A' B') : A = A' ∧ B = B' := by
  rcases h with ⟨a, b, e⟩ | ⟨i, a, b, e, g⟩ <;> rcases h' with ⟨a', b', e'⟩ | ⟨i', a', b', e', g'⟩
  · omega
  · exact absurd ⟨i', a'⟩ a
  · exact absurd ⟨i, a⟩ a'
  · have q1 := g i' a'
    have q2 := g' i a
    omega
theorem Sp_skip {c wf : Nat → Nat} {P P' : Nat → Prop} {A B w : Nat} (h : Sp c wf P A B) (hP : ∀ i, P' i ↔ P i ∨ i = w) (hs : c (wf w) < A ∨ (c (wf w) = A ∧ B ≤ wf w)) (h0 : 1 ≤ c (wf w)) : Sp c wf P' A B := by
  rcases h with ⟨a, b, e⟩ | ⟨i, a, b, e, g⟩
  · omega
  · refine Or.inr ⟨i, (hP i).mpr (Or.inl a), b, e, fun j hj => ?_⟩
    rcases (hP j).mp hj with q | q
    · exact g j q
    · rw [q]
      exact hs
theorem Sp_new {c wf : Nat → Nat} {P P' : Nat → Prop} {A B w : Nat} (h : Sp c wf P A B) (hP : ∀ i, P' i ↔ P i ∨ i = w) (hs : A < c (wf w) ∨ (c (wf w) = A ∧ wf w < B)) : Sp c wf P' (c (wf w)) (wf w) := by
  refine Or.inr ⟨w, (hP w).mpr (Or.inr rfl), rfl, rfl, fun j hj => ?_⟩
  rcases (hP j).mp hj with q | q
  · rcases h with ⟨a, b, e⟩ | ⟨i, a, b, e, g⟩
    · exact absurd ⟨j, q⟩ a
    · have := g j q
      omega
  · rw [q]
    exact Or.inr ⟨rfl, Nat.le_refl _⟩
theorem Sp_same {c wf : Nat → Nat} {P P' : Nat → Prop} {A B : Nat} (h : Sp c wf P A B) (hP : ∀ i, P' i ↔ P i) : Sp c wf P' A B := by
  rcases h with ⟨a, b, e⟩ | ⟨i, a, b, e, g⟩
  · exact Or.inl ⟨fun ⟨i, q⟩ => a ⟨i, (hP i).mp q⟩, b, e⟩
  · exact Or.inr ⟨i, (hP i).mpr a, b, e, fun j hj => g j ((hP j).mp hj)⟩
theorem Sp_bd {c wf : Nat → Nat} {P : Nat → Prop} {A B nw : Nat} (h : Sp c wf P A B) (hc : ∀ x, c x ≤ nw) (hw : ∀ i, P i → wf i ≤ 9999) : A ≤ nw ∧ B ≤ 9999 := by
  rcases h with ⟨a, b, e⟩ | ⟨i, a, b, e, g⟩
  · omega
  · rw [b, e]
    exact ⟨hc _, hw i a⟩
theorem tell_M {K : List (Nat × Nat)} {t : TH} {σ : St} {nc nw : Nat} {wc wd wf wt : Nat → Nat} (h : WV K t σ nc nw wc wd wf wt) {k w : Nat} {T : Int32} (hk : k < nc) (hw : w < nw) : M_tells σ (nI w) (nI k) T = some (if okW wc wd k T w then 1 else 0) := by
  obtain ⟨w1, w2, w3, w4, w5, w6⟩ := h.2.2.2.1 w hw
  have hnw := h.1
  have hnc := h.2.1
  unfold M_tells okW
  rw [chkI_nI (show w < 200 by omega) (by omega), nI_nat (show w < 2 ^ 31 by omega), w2.2, w3.2.2, chkI_nI (show w < 200 by omega) (by omega)]
  by_cases a : wc w = k
  · rw [if_pos (show nI (wc w) = nI k by rw [a])]
    by_cases b : T < nI (wd w)
    · rw [if_pos b]
      simp [b]
    · rw [if_neg b]
      simp [a, b]
  · rw [if_neg (fun z => a ((nI_eq (show wc w < 2 ^ 31 by omega) (show k < 2 ^ 31 by omega)).mp z))]
    simp [a]
theorem lk_51 {K : List (Nat × Nat)} {t : TH} {σ : St} {nc nw : Nat} {wc wd wf wt : Nat → Nat} (h : WV K t σ nc nw wc wd wf wt) {k w : Nat} {T : Int32} (hk : k < nc) (hw : w < nw) :
    ∀ (f v : Nat), v ≤ nw → nw < f + v → ∃ x, M_look_L51 f σ (nI v) (nI (mnB (tlW wc wd wf wt k T (wf w)) wt v)) (nI (cB (tlW wc wd wf wt k T (wf w)) v)) (nI w) (nI k) T = some (x, nI (mnB (tlW wc wd wf wt k T (wf w)) wt nw), nI (cB (tlW wc wd wf wt k T (wf w)) nw)) := by
  have hnw := h.1
  obtain ⟨u1, u2, u3, u4, u5, u6⟩ := h.2.2.2.1 w hw
  intro f
  induction f with
  | zero =>
    intro v _ hf
    exact absurd hf (by omega)
  | succ f ih =>
    intro v hv hf
    unfold M_look_L51
    rw [h.2.2.1]
    rcases Nat.lt_or_ge v nw with y | y
    · obtain ⟨w1, w2, w3, w4, w5, w6⟩ := h.2.2.2.1 v y
      have hn := ih (v + 1) (by omega) (by omega)
      rw [cB_s, mnB_s] at hn
      rw [if_neg (nI_ge y (by omega)), tell_M h hk y, bnd_some]
      simp only [chkI_nI (show v < 200 by omega) (show 200 < 2 ^ 31 by omega), chkI_nI (show w < 200 by omega) (show 200 < 2 ^ 31 by omega), nI_nat (show v < 2 ^ 31 by omega), nI_nat (show w < 2 ^ 31 by omega), nm_eq, nI_1]
      rw [w4.2.2, w5.2.2, u4.2.2]
      by_cases a : okW wc wd k T v = true
      · rw [if_pos a, if_neg (show ¬ (1 : Int32) = 0 by decide)]
        by_cases b : wf v ≤ wf w
        · rw [if_neg (nI_nlt b (by omega))]
          by_cases c : wf w ≤ wt v
          · have tl : tlW wc wd wf wt k T (wf w) v = true := by unfold tlW; simp [a, b, c]
            have ml := mnB_le (tlW wc wd wf wt k T (wf w)) wt v
            rw [if_pos (nI_le c (by omega))]
            rw [tl, if_pos rfl] at hn
            by_cases e : mnB (tlW wc wd wf wt k T (wf w)) wt v ≤ wt v
            · rw [if_pos (nI_le e (by omega))]
              rw [if_neg (fun z => by have := z.2; omega)] at hn
              exact hn
            · rw [if_neg (nI_ge (by omega) (by omega))]
              rw [if_pos ⟨rfl, by omega⟩] at hn
              exact hn
          · have tl : tlW wc wd wf wt k T (wf w) v = false := by unfold tlW; simp [c]
            rw [if_neg (nI_ge (by omega) (by omega))]
            rw [tl, if_neg (show ¬ (false = true ∧ wt v < mnB (tlW wc wd wf wt k T (wf w)) wt v) from fun z => absurd z.1 (by decide)), if_neg (show ¬ false = true by decide)] at hn
            exact hn
        · have tl : tlW wc wd wf wt k T (wf w) v = false := by unfold tlW; simp [b]
          rw [if_pos (nI_lt (by omega) (by omega))]
          rw [tl, if_neg (show ¬ (false = true ∧ wt v < mnB (tlW wc wd wf wt k T (wf w)) wt v) from fun z => absurd z.1 (by decide)), if_neg (show ¬ false = true by decide)] at hn
          exact hn
      · have tl : tlW wc wd wf wt k T (wf w) v = false := by unfold tlW; simp [a]
        rw [if_neg a, if_pos rfl]
        rw [tl, if_neg (show ¬ (false = true ∧ wt v < mnB (tlW wc wd wf wt k T (wf w)) wt v) from fun z => absurd z.1 (by decide)), if_neg (show ¬ false = true by decide)] at hn
        exact hn
    · rw [if_pos (nI_le y (by omega)), show v = nw by omega]
      exact ⟨_, rfl⟩
theorem lk_19 {K : List (Nat × Nat)} {t : TH} {σ0 : St} {nc nw : Nat} {wc wd wf wt : Nat → Nat} (h0 : WV K t σ0 nc nw wc wd wf wt) {k : Nat} {T : Int32} (hk : k < nc) :
    ∀ (f w : Nat) (σ : St) (A B : Nat), w ≤ nw → nw < f + w → Fx [43, 44, 45] σ0 σ → Sp (fun x => cB (tlW wc wd wf wt k T x) nw) wf (fun i => i < w ∧ okW wc wd k T i = true) A B → σ.1 45 0 = nI A → σ.1 43 0 = nI B → σ.1 44 0 = nI (if A = 0 then 9999 else mnB (tlW wc wd wf wt k T B) wt nw) →
      ∃ σ' x A' B', M_look_L19 f σ (nI w) (nI k) T = some (σ', x) ∧ Fx [43, 44, 45] σ0 σ' ∧ Sp (fun x => cB (tlW wc wd wf wt k T x) nw) wf (fun i => i < nw ∧ okW wc wd k T i = true) A' B' ∧ σ'.1 45 0 = nI A' ∧ σ'.1 43 0 = nI B' ∧ σ'.1 44 0 = nI (if A' = 0 then 9999 else mnB (tlW wc wd wf wt k T B') wt nw) := by
  have hnw := h0.1
  intro f
  induction f with
  | zero =>
    intro w σ A B _ hf
    exact absurd hf (by omega)
  | succ f ih =>
    intro w σ A B hw hf hF hS e45 e43 e44
    have h : WV K t σ nc nw wc wd wf wt := WV_E h0 (ET_rf [] [] [] t) hF
    obtain ⟨bA, bB⟩ := Sp_bd hS (fun x => cB_le _ nw) (fun i hi => by
      have := (h0.2.2.2.1 i (by omega)).2.2.2
      omega)
    unfold M_look_L19
    rw [h.2.2.1]
    rcases Nat.lt_or_ge w nw with y | y
    · obtain ⟨w1, w2, w3, w4, w5, w6⟩ := h.2.2.2.1 w y
      rw [if_neg (nI_ge y (by omega)), tell_M h hk y, bnd_some]
      by_cases a : okW wc wd k T w = true
      · rw [if_pos a, if_neg (show ¬ (1 : Int32) = 0 by decide)]
        obtain ⟨x, e⟩ := lk_51 h (T := T) hk y 100000 0 (by omega) (by omega)
        have cl := cB_le (tlW wc wd wf wt k T (wf w)) nw
        have c1 : 1 ≤ cB (tlW wc wd wf wt k T (wf w)) nw := cB_pos (i := w) (by unfold tlW; simp [a]; exact w4.1) nw y
        have hP : ∀ i, (i < w + 1 ∧ okW wc wd k T i = true) ↔ (i < w ∧ okW wc wd k T i = true) ∨ i = w := fun i => by
          constructor
          · intro q
            rcases Nat.lt_or_ge i w with z | z
            · exact Or.inl ⟨z, q.2⟩
            · exact Or.inr (by omega)
          · rintro (q | q)
            · exact ⟨by omega, q.2⟩
            · rw [q]
              exact ⟨by omega, a⟩
        rw [show M_look_L51 100000 σ 0 9999 0 (nI w) (nI k) T = some (x, nI (mnB (tlW wc wd wf wt k T (wf w)) wt nw), nI (cB (tlW wc wd wf wt k T (wf w)) nw)) from e, bnd_some, nm2_eq, nm2_eq, e45, e43]
        simp only [chkI_nI (show w < 200 by omega) (show 200 < 2 ^ 31 by omega), nI_nat (show w < 2 ^ 31 by omega), nm_eq, nI_1]
        have e39 : σ.1 39 w = nI (wf w) := w4.2.2
        have new : ∀ (hs : A < cB (tlW wc wd wf wt k T (wf w)) nw ∨ (cB (tlW wc wd wf wt k T (wf w)) nw = A ∧ wf w < B)), ∃ σ' x A' B', M_look_L19 f (s1 (s1 (s1 σ 45 0 (nI (cB (tlW wc wd wf wt k T (wf w)) nw))) 43 0 (nI (wf w))) 44 0 (nI (mnB (tlW wc wd wf wt k T (wf w)) wt nw))) (nI (w + 1)) (nI k) T = some (σ', x) ∧ Fx [43, 44, 45] σ0 σ' ∧ Sp (fun x => cB (tlW wc wd wf wt k T x) nw) wf (fun i => i < nw ∧ okW wc wd k T i = true) A' B' ∧ σ'.1 45 0 = nI A' ∧ σ'.1 43 0 = nI B' ∧ σ'.1 44 0 = nI (if A' = 0 then 9999 else mnB (tlW wc wd wf wt k T B') wt nw) := fun hs => by
          refine ih (w + 1) _ (cB (tlW wc wd wf wt k T (wf w)) nw) (wf w) (by omega) (by omega) (Fx_s1 (Fx_s1 (Fx_s1 hF (by decide) _ _) (by decide) _ _) (by decide) _ _) (Sp_new hS hP hs) ?_ ?_ ?_
          · simp (disch := decide) only [s1_oth, s1_e, s1_i, x12, x21]
          · simp (disch := decide) only [s1_oth, s1_e, s1_i, x12, x21]
          · rw [s1_e, if_neg (by omega)]
        have old := fun (hs : cB (tlW wc wd wf wt k T (wf w)) nw < A ∨ (cB (tlW wc wd wf wt k T (wf w)) nw = A ∧ B ≤ wf w)) => ih (w + 1) σ A B (by omega) (by omega) hF (Sp_skip hS hP hs c1) e45 e43 e44
        have e39' : (s1 σ 45 0 (nI (cB (tlW wc wd wf wt k T (wf w)) nw))).1 39 w = nI (wf w) := by rw [s1_oth _ _ _ _ (by decide)]; exact e39
        rw [e39', e39]
        by_cases b1 : cB (tlW wc wd wf wt k T (wf w)) nw < A
        · rw [if_pos (nI_lt b1 (by omega))]
          exact old (Or.inl b1)
        · rw [if_neg (nI_nlt (by omega) (by omega))]
          by_cases b2 : cB (tlW wc wd wf wt k T (wf w)) nw = A
          · rw [if_pos (show nI (cB (tlW wc wd wf wt k T (wf w)) nw) = nI A by rw [b2])]
            by_cases b3 : wf w < B
            · rw [if_pos (nI_lt b3 (by omega))]
              exact new (Or.inr ⟨b2, b3⟩)
            · rw [if_neg (nI_nlt (by omega) (by omega))]
              exact old (Or.inr ⟨b2, by omega⟩)
          · rw [if_neg (fun z => b2 ((nI_eq (by omega) (by omega)).mp z))]
            exact new (Or.inl (by omega))
      · rw [if_neg a, if_pos rfl, nm_eq, nI_1]
        refine ih (w + 1) σ A B (by omega) (by omega) hF (Sp_same hS (fun i => ?_)) e45 e43 e44
        constructor
        · intro q
          refine ⟨?_, q.2⟩
          rcases Nat.lt_or_ge i w with z | z
          · exact z
          · rw [show i = w by omega] at q
            exact absurd q.2 a
        · intro q
          exact ⟨by omega, q.2⟩
    · have : w = nw := by omega
      subst this
      rw [if_pos (nI_le y (by omega))]
      exact ⟨σ, _, A, B, rfl, hF, hS, e45, e43, e44⟩
theorem look_eq {K : List (Nat × Nat)} {t : TH} {σ : St} {nc nw : Nat} {wc wd wf wt : Nat → Nat} (h : WV K t σ nc nw wc wd wf wt) {k : Nat} {T : Int32} (hk : k < nc) :
    ∃ σ' A B, M_look σ (nI k) T = some σ' ∧ Fx [43, 44, 45] σ σ' ∧ Sp (fun x => cB (tlW wc wd wf wt k T x) nw) wf (fun i => i < nw ∧ okW wc wd k T i = true) A B ∧ σ'.1 45 0 = nI A ∧ σ'.1 43 0 = nI B ∧ σ'.1 44 0 = nI (mnB (tlW wc wd wf wt k T B) wt nw) := by
  have hnw := h.1
  unfold M_look
  simp only [nm_eq]
  have F : Fx [43, 44, 45] σ (s1 (s1 (s1 σ 43 0 0) 44 0 9999) 45 0 0) := Fx_s1 (Fx_s1 (Fx_s1 (Fx_rf _ _) (by decide) _ _) (by decide) _ _) (by decide) _ _
  obtain ⟨σ', x, A, B, e, F', S', e45, e43, e44⟩ := lk_19 h (T := T) hk 100000 0 (s1 (s1 (s1 σ 43 0 0) 44 0 9999) 45 0 0) 0 0 (by omega) (by omega) F (Or.inl ⟨fun ⟨i, hi, _⟩ => absurd hi (by omega), rfl, rfl⟩) (by simp (disch := decide) only [s1_oth, s1_e, s1_i, x12, x21]; rfl) (by simp (disch := decide) only [s1_oth, s1_e, s1_i, x12, x21]; rfl) (by simp (disch := decide) only [s1_oth, s1_e, s1_i, x12, x21]; rfl)
  refine ⟨σ', A, B, ?_, F', S', e45, e43, ?_⟩
  · rw [show M_look_L19 100000 (s1 (s1 (s1 σ 43 0 0) 44 0 9999) 45 0 0) 0 (nI k) T = some (σ', x) from e, bnd_some, nm2_eq]
  · rw [e44]
    rcases S' with ⟨a, b, c⟩ | ⟨i, a, b, c, g⟩
    · rw [if_pos b, c, mnB_no nw (fun i hi => by
        have : ¬ okW wc wd k T i = true := fun q => a ⟨i, hi, q⟩
        unfold tlW
        simp [this])]
    · have w4 := (h.2.2.2.1 i a.1).2.2.2.1.1
      have : 1 ≤ cB (tlW wc wd wf wt k T (wf i)) nw := cB_pos (i := i) (by unfold tlW; simp [a.2]; exact w4) nw a.1
      have b' : A = cB (tlW wc wd wf wt k T (wf i)) nw := b
      rw [if_neg (by omega)]
