theorem tS_c (t : TH) (c f i : Nat) (v : Int32) {c' : Nat} (h : c' ≠ c) : tS (uS t c f i v) c' = tS t c' := if_neg h
theorem tS_f (t : TH) (c f i : Nat) (v : Int32) {f' : Nat} (h : f' ≠ f) : tS (uS t c f i v) c f' = tS t c f' := by
  show (if c = c then (fun f' => if f' = f then va_up (tS t c f) i v else tS t c f') else tS t c) f' = tS t c f'
  rw [if_pos rfl]
  exact if_neg h
theorem tP_c (t : TH) (c f i : Nat) (v : Option Nat) {c' : Nat} (h : c' ≠ c) : tP (uP t c f i v) c' = tP t c' := if_neg h
theorem tP_f (t : TH) (c f i : Nat) (v : Option Nat) {f' : Nat} (h : f' ≠ f) : tP (uP t c f i v) c f' = tP t c f' := by
  show (if c = c then (fun f' => if f' = f then va_up (tP t c f) i v else tP t c f') else tP t c) f' = tP t c f'
  rw [if_pos rfl]
  exact if_neg h
theorem tL_c (t : TH) (c f i : Nat) (v : Int64) {c' : Nat} (h : c' ≠ c) : tL (uL t c f i v) c' = tL t c' := if_neg h
theorem tL_f (t : TH) (c f i : Nat) (v : Int64) {f' : Nat} (h : f' ≠ f) : tL (uL t c f i v) c f' = tL t c f' := by
  show (if c = c then (fun f' => if f' = f then va_up (tL t c f) i v else tL t c f') else tL t c) f' = tL t c f'
  rw [if_pos rfl]
  exact if_neg h
theorem xSP (t : TH) (c f i : Nat) (v : Option Nat) : tS (uP t c f i v) = tS t := Eq.trans rfl rfl
theorem xSL (t : TH) (c f i : Nat) (v : Int64) : tS (uL t c f i v) = tS t := Eq.trans rfl rfl
theorem xPS (t : TH) (c f i : Nat) (v : Int32) : tP (uS t c f i v) = tP t := Eq.trans rfl rfl
theorem xPL (t : TH) (c f i : Nat) (v : Int64) : tP (uL t c f i v) = tP t := Eq.trans rfl rfl
theorem xLS (t : TH) (c f i : Nat) (v : Int32) : tL (uS t c f i v) = tL t := Eq.trans rfl rfl
theorem xLP (t : TH) (c f i : Nat) (v : Option Nat) : tL (uP t c f i v) = tL t := Eq.trans rfl rfl
theorem xNS (t : TH) (c f i : Nat) (v : Int32) : tN (uS t c f i v) = tN t := Eq.trans rfl rfl
theorem xNL (t : TH) (c f i : Nat) (v : Int64) : tN (uL t c f i v) = tN t := Eq.trans rfl rfl
theorem xNP (t : TH) (c f i : Nat) (v : Option Nat) : tN (uP t c f i v) = tN t := Eq.trans rfl rfl
theorem x12 (σ : St) (k i : Nat) (v : Int32) : (s1 σ k i v).2 = σ.2 := Eq.trans rfl rfl
theorem x21 (σ : St) (k i : Nat) (v : Int64) : (s2 σ k i v).1 = σ.1 := Eq.trans rfl rfl
theorem tS_e (t : TH) (c f i : Nat) (v : Int32) : tS (uS t c f i v) c f i = v := by
  rw [tS_uS, if_pos ⟨rfl, rfl, rfl⟩]
theorem tS_i (t : TH) (c f i : Nat) (v : Int32) {j : Nat} (h : j ≠ i) : tS (uS t c f i v) c f j = tS t c f j := by
  rw [tS_uS, if_neg (fun z => h z.2.2)]
theorem tP_e (t : TH) (c f i : Nat) (v : Option Nat) : tP (uP t c f i v) c f i = v := by
  rw [tP_uP, if_pos ⟨rfl, rfl, rfl⟩]
theorem tP_i (t : TH) (c f i : Nat) (v : Option Nat) {j : Nat} (h : j ≠ i) : tP (uP t c f i v) c f j = tP t c f j := by
  rw [tP_uP, if_neg (fun z => h z.2.2)]
theorem tL_e (t : TH) (c f i : Nat) (v : Int64) : tL (uL t c f i v) c f i = v := by
  rw [tL_uL, if_pos ⟨rfl, rfl, rfl⟩]
theorem tL_i (t : TH) (c f i : Nat) (v : Int64) {j : Nat} (h : j ≠ i) : tL (uL t c f i v) c f j = tL t c f j := by
  rw [tL_uL, if_neg (fun z => h z.2.2)]
theorem s1_e (σ : St) (k i : Nat) (v : Int32) : (s1 σ k i v).1 k i = v := by
  rw [s1_1, if_pos ⟨rfl, rfl⟩]
theorem s1_i (σ : St) (k i : Nat) (v : Int32) {j : Nat} (h : j ≠ i) : (s1 σ k i v).1 k j = σ.1 k j := by
  rw [s1_1, if_neg (fun z => h z.2)]
/-- the class's state, but for some fields -/
def ET (S P L : List (Nat × Nat)) (t t' : TH) : Prop := (∀ c f, (c, f) ∉ S → tS t' c f = tS t c f) ∧ (∀ c f, (c, f) ∉ P → tP t' c f = tP t c f) ∧ (∀ c f, (c, f) ∉ L → tL t' c f = tL t c f) ∧ tN t' = tN t
theorem ET_rf (S P L : List (Nat × Nat)) (t : TH) : ET S P L t t := ⟨fun _ _ _ => rfl, fun _ _ _ => rfl, fun _ _ _ => rfl, rfl⟩
theorem ET_tr {S P L : List (Nat × Nat)} {t t' t'' : TH} (h : ET S P L t t') (h' : ET S P L t' t'') : ET S P L t t'' := ⟨fun c f z => (h'.1 c f z).trans (h.1 c f z), fun c f z => (h'.2.1 c f z).trans (h.2.1 c f z), fun c f z => (h'.2.2.1 c f z).trans (h.2.2.1 c f z), h'.2.2.2.trans h.2.2.2⟩
theorem ET_mono {S P L S' P' L' : List (Nat × Nat)} {t t' : TH} (h : ET S P L t t') (h1 : ∀ k, k ∈ S → k ∈ S') (h2 : ∀ k, k ∈ P → k ∈ P') (h3 : ∀ k, k ∈ L → k ∈ L') : ET S' P' L' t t' := ⟨fun c f z => h.1 c f (fun w => z (h1 _ w)), fun c f z => h.2.1 c f (fun w => z (h2 _ w)), fun c f z => h.2.2.1 c f (fun w => z (h3 _ w)), h.2.2.2⟩
theorem ET_uS {S P L : List (Nat × Nat)} {t t' : TH} (h : ET S P L t t') {c f : Nat} (hc : (c, f) ∈ S) (i : Nat) (v : Int32) : ET S P L t (uS t' c f i v) := by
  refine ⟨fun c' f' z => ?_, h.2.1, h.2.2.1, h.2.2.2⟩
  rw [← h.1 c' f' z]
  by_cases e : c' = c
  · subst e
    exact tS_f _ _ _ _ _ (fun w => z (by rw [w]; exact hc))
  · rw [tS_c _ _ _ _ _ e]
theorem ET_uP {S P L : List (Nat × Nat)} {t t' : TH} (h : ET S P L t t') {c f : Nat} (hc : (c, f) ∈ P) (i : Nat) (v : Option Nat) : ET S P L t (uP t' c f i v) := by
  refine ⟨h.1, fun c' f' z => ?_, h.2.2.1, h.2.2.2⟩
  rw [← h.2.1 c' f' z]
  by_cases e : c' = c
  · subst e
    exact tP_f _ _ _ _ _ (fun w => z (by rw [w]; exact hc))
  · rw [tP_c _ _ _ _ _ e]
theorem ET_uL {S P L : List (Nat × Nat)} {t t' : TH} (h : ET S P L t t') {c f : Nat} (hc : (c, f) ∈ L) (i : Nat) (v : Int64) : ET S P L t (uL t' c f i v) := by
  refine ⟨h.1, h.2.1, fun c' f' z => ?_, h.2.2.2⟩
  rw [← h.2.2.1 c' f' z]
  by_cases e : c' = c
  · subst e
    exact tL_f _ _ _ _ _ (fun w => z (by rw [w]; exact hc))
  · rw [tL_c _ _ _ _ _ e]
theorem nin {S : List (Nat × Nat)} {c : Nat} (h : c ∉ S.map Prod.fst) (f : Nat) : (c, f) ∉ S := fun z => h (List.mem_map.mpr ⟨(c, f), z, rfl⟩)
theorem c_len {S P L : List (Nat × Nat)} {t t' : TH} (h : R_len t) (hT : ET S P L t t') : R_len t' := by
  unfold R_len at *
  rw [hT.2.2.2]
  exact h
theorem c_tape {S P L : List (Nat × Nat)} {G : List Nat} {t t' : TH} {σ σ' : St} (h : R_tape t σ) (hT : ET S P L t t') (hF : Fx G σ σ') (e1 : (9, 1) ∉ S := by decide) (e2 : (13, 0) ∉ S := by decide) (e3 : 2 ∉ G := by decide) (e4 : 1 ∉ G := by decide) : R_tape t' σ' := by
  unfold R_tape at *
  rw [hT.1 _ _ e1, hT.1 _ _ e2, hF.1 _ e3, hF.1 _ e4]
  exact h
theorem c_land {S P L : List (Nat × Nat)} {G : List Nat} {t t' : TH} {σ σ' : St} (h : R_land t σ) (hT : ET S P L t t') (hF : Fx G σ σ') (e1 : (13, 1) ∉ S := by decide) (e2 : (13, 2) ∉ S := by decide) (e3 : 5 ∉ G := by decide) (e4 : 6 ∉ G := by decide) : R_land t' σ' := by
  unfold R_land at *
  rw [hT.1 _ _ e1, hT.1 _ _ e2, hF.1 _ e3, hF.1 _ e4]
  exact h
theorem c_race {S P L : List (Nat × Nat)} {G : List Nat} {t t' : TH} {σ σ' : St} {m : Nat} (h : R_race t σ m) (hT : ET S P L t t') (hF : Fx G σ σ') (e1 : (8, 2) ∉ S := by decide) (e2 : (8, 3) ∉ S := by decide) (e3 : 21 ∉ G := by decide) (e4 : 22 ∉ G := by decide) : R_race t' σ' m := by
  unfold R_race at *
  rw [hT.1 _ _ e1, hT.1 _ _ e2, hF.1 _ e3, hF.1 _ e4]
  exact h
theorem c_stk {S P L : List (Nat × Nat)} {G : List Nat} {t t' : TH} {σ σ' : St} {n : Nat} (h : R_stk t σ n) (hT : ET S P L t t') (hF : Fx G σ σ') (e1 : (15, 0) ∉ P := by decide) (e2 : (3, 3) ∉ S := by decide) (e3 : 22 ∉ G := by decide) (e4 : 7 ∉ G := by decide) : R_stk t' σ' n := by
  unfold R_stk at *
  rw [hT.2.1 _ _ e1, hT.1 _ _ e2, hF.1 _ e3, hF.1 _ e4]
  exact h
def Gp : List Nat := [8, 9, 10, 11, 12, 13, 14, 15, 16, 17, 19, 20, 50, 51, 59, 61]
theorem c_ppl {S P L : List (Nat × Nat)} {G : List Nat} {K K' : List (Nat × Nat)} {t t' : TH} {σ σ' : St} {n m : Nat} (h : R_ppl K t σ n m) (hT : ET S P L t t') (hF : Fx G σ σ') (hK : ∀ k, k ∈ K → k ∈ K') (e1 : (6, 1) ∉ S := by decide) (e2 : (15, 1) ∉ P := by decide) (e3 : 7 ∉ S.map Prod.fst := by decide) (e4 : (7, 12) ∉ L := by decide) (e5 : 17 ∉ S.map Prod.fst := by decide) (e6 : 18 ∉ S.map Prod.fst := by decide) (hs : ∀ k, k ∈ Gp → k ∉ G := by decide) : R_ppl K' t' σ' n m := by
  obtain ⟨h1, h2, h3, h4, h5⟩ := h
  have q7 : tS t' 7 = tS t 7 := funext (fun f => hT.1 7 f (nin e3 f))
  have q17 : tS t' 17 = tS t 17 := funext (fun f => hT.1 17 f (nin e5 f))
  have q18 : tS t' 18 = tS t 18 := funext (fun f => hT.1 18 f (nin e6 f))
  refine ⟨h1, by rw [hT.1 _ _ e1]; exact h2, by rw [hF.1 20 (hs 20 (by decide))]; exact h3, fun k hk => ?_, ?_⟩
  · have q := h4 k hk
    unfold R_one R_pos R_goal R_known at q ⊢
    rw [hT.2.1 _ _ e2, q7, hT.2.2.1 _ _ e4, hT.2.2.2, q17, q18, hF.1 8 (hs 8 (by decide)), hF.1 9 (hs 9 (by decide)), hF.1 10 (hs 10 (by decide)), hF.1 11 (hs 11 (by decide)), hF.1 12 (hs 12 (by decide)), hF.1 13 (hs 13 (by decide)), hF.1 14 (hs 14 (by decide)), hF.1 15 (hs 15 (by decide)), hF.1 16 (hs 16 (by decide)), hF.1 17 (hs 17 (by decide)), hF.2, hF.1 19 (hs 19 (by decide)), hF.1 50 (hs 50 (by decide)), hF.1 51 (hs 51 (by decide)), hF.1 59 (hs 59 (by decide)), hF.1 61 (hs 61 (by decide))]
    exact ⟨⟨hK _ q.1.1, q.1.2⟩, q.2⟩
  · unfold R_rest at *
    rw [hF.1 61 (hs 61 (by decide)), hF.1 59 (hs 59 (by decide)), hF.1 51 (hs 51 (by decide)), hF.1 50 (hs 50 (by decide)), hF.1 13 (hs 13 (by decide))]
    exact h5
theorem c_rul {S P L : List (Nat × Nat)} {G : List Nat} {t t' : TH} {σ σ' : St} (h : R_rul t σ) (hT : ET S P L t t') (hF : Fx G σ σ') (e1 : 4 ∉ S.map Prod.fst := by decide) (e2 : (5, 2) ∉ S := by decide) (e3 : 23 ∉ G := by decide) (e4 : 31 ∉ G := by decide) (e5 : 29 ∉ G := by decide) : R_rul t' σ' := by
  have q4 : tS t' 4 = tS t 4 := funext (fun f => hT.1 4 f (nin e1 f))
  unfold R_rul at *
  rw [q4, hT.1 _ _ e2, hF.1 _ e3, hF.1 _ e4, hF.1 _ e5]
  exact h
theorem c_day {S P L : List (Nat × Nat)} {G : List Nat} {t t' : TH} {σ σ' : St} {d : Nat} (h : R_day t σ d) (hT : ET S P L t t') (hF : Fx G σ σ') (e1 : (11, 8) ∉ S := by decide) (e3 : 32 ∉ G := by decide) : R_day t' σ' d := by
  unfold R_day at *
  rw [hT.1 _ _ e1, hF.1 _ e3]
  exact h
def Gc : List Nat := [34, 35, 36, 37, 38, 39, 40, 41, 42]
def Sc : List (Nat × Nat) := [(2, 3), (2, 4), (1, 0), (1, 2), (1, 3), (1, 4), (1, 6), (10, 0), (10, 1), (10, 2)]
def Pc : List (Nat × Nat) := [(16, 0), (1, 1), (1, 5), (10, 3)]
theorem c_court {S P L : List (Nat × Nat)} {G : List Nat} {K K' : List (Nat × Nat)} {t t' : TH} {σ σ' : St} {n nc nw d : Nat} {cb cq cd wc wd wf wt : Nat → Nat} (h : R_court K t σ n nc nw d cb cq cd wc wd wf wt) (hT : ET S P L t t') (hF : Fx G σ σ') (hK : ∀ k, k ∈ K → k ∈ K') (h1 : ∀ k, k ∈ Sc → k ∉ S := by decide) (h2 : ∀ k, k ∈ Pc → k ∉ P := by decide) (h3 : ∀ k, k ∈ Gc → k ∉ G := by decide) : R_court K' t' σ' n nc nw d cb cq cd wc wd wf wt := by
  obtain ⟨g1, g2, g3, g4, g5⟩ := h
  refine ⟨by rw [hT.1 2 3 (h1 _ (by decide)), hF.1 41 (h3 _ (by decide))]; exact g1, by rw [hT.1 2 4 (h1 _ (by decide)), hF.1 42 (h3 _ (by decide))]; exact g2, fun k hk => ?_, g4, fun w hw => ?_⟩
  · have q := g3 k hk
    unfold R_claim at q ⊢
    rw [hT.1 1 0 (h1 _ (by decide)), hT.1 1 2 (h1 _ (by decide)), hT.1 1 3 (h1 _ (by decide)), hT.1 1 4 (h1 _ (by decide)), hT.1 1 6 (h1 _ (by decide)), hT.2.1 16 0 (h2 _ (by decide)), hT.2.1 1 1 (h2 _ (by decide)), hT.2.1 1 5 (h2 _ (by decide)), hF.1 34 (h3 _ (by decide)), hF.1 35 (h3 _ (by decide)), hF.1 36 (h3 _ (by decide))]
    exact ⟨⟨hK _ q.1.1, q.1.2⟩, q.2⟩
  · have q := g5 w hw
    unfold R_wit at q ⊢
    rw [hT.1 10 0 (h1 _ (by decide)), hT.1 10 1 (h1 _ (by decide)), hT.1 10 2 (h1 _ (by decide)), hT.2.1 10 3 (h2 _ (by decide)), hF.1 37 (h3 _ (by decide)), hF.1 38 (h3 _ (by decide)), hF.1 39 (h3 _ (by decide)), hF.1 40 (h3 _ (by decide))]
    exact ⟨hK _ q.1, q.2⟩
theorem c_P {S P L : List (Nat × Nat)} {t t' : TH} {n nc nw : Nat} (h : R_P t n nc nw) (hT : ET S P L t t') (e1 : (1, 1) ∉ P := by decide) (e2 : 15 ∉ P.map Prod.fst := by decide) (e3 : 16 ∉ P.map Prod.fst := by decide) (e4 : (1, 5) ∉ P := by decide) (e5 : (10, 3) ∉ P := by decide) : R_P t' n nc nw := by
  obtain ⟨g1, g2, g3, g4, g5⟩ := h
  refine ⟨fun j x => ?_, fun j e x => ?_, fun j e x => ?_, fun j x => ?_, fun j x => ?_⟩
  · rw [hT.2.1 _ _ e1]
    exact g1 j x
  · rw [hT.2.1 _ _ (nin e2 j)]
    exact g2 j e x
  · rw [hT.2.1 _ _ (nin e3 j)]
    exact g3 j e x
  · rw [hT.2.1 _ _ e4]
    exact g4 j x
  · rw [hT.2.1 _ _ e5]
    exact g5 j x
theorem K_cons {K : List (Nat × Nat)} {n nc nw n' nc' nw' : Nat} (h : R_K K n nc nw) {a b : Nat} (ha : a ≠ 7) (h1 : n ≤ n') (h2 : nc ≤ nc') (h3 : nw ≤ nw') (hb : (a = 17 → b < n') ∧ (a = 18 → b < n') ∧ (a = 1 → b < nc') ∧ (a = 10 → b < nw')) : R_K ((a, b) :: K) n' nc' nw' := by
  obtain ⟨⟨k1, k2⟩, k3⟩ := h
  have up : ∀ {c x : Nat}, (c, x) ∈ (a, b) :: K → (c = a ∧ x = b) ∨ (c, x) ∈ K := fun hx => by
    rcases List.mem_cons.mp hx with e | e
    · exact Or.inl ⟨congrArg Prod.fst e, congrArg Prod.snd e⟩
    · exact Or.inr e
  refine ⟨⟨fun k hk => List.mem_cons_of_mem _ (k1 k hk), fun j hj => ?_⟩, fun x => ⟨fun z => ?_, fun z => ?_, fun z => ?_, fun z => ?_, fun z => ?_⟩⟩
  · rcases up hj with e | e
    · exact absurd e.1.symm ha
    · exact ⟨List.mem_cons_of_mem _ (k2 j e).1, List.mem_cons_of_mem _ (k2 j e).2⟩
  · rcases up z with e | e
    · exact absurd e.1.symm ha
    · have := (k3 x).1 e
      omega
  · rcases up z with e | e
    · have := hb.1 e.1.symm
      omega
    · have := (k3 x).2.1 e
      omega
  · rcases up z with e | e
    · have := hb.2.1 e.1.symm
      omega
    · have := (k3 x).2.2.1 e
      omega
  · rcases up z with e | e
    · have := hb.2.2.1 e.1.symm
      omega
    · have := (k3 x).2.2.2.1 e
      omega
  · rcases up z with e | e
    · have := hb.2.2.2 e.1.symm
      omega
    · have := (k3 x).2.2.2.2 e
      omega
