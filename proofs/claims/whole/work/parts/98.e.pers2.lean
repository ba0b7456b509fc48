theorem s2_e (σ : St) (k i : Nat) (v : Int64) : (s2 σ k i v).2 k i = v := by
  rw [s2_2, if_pos ⟨rfl, rfl⟩]
theorem s2_i (σ : St) (k i : Nat) (v : Int64) {j : Nat} (h : j ≠ i) : (s2 σ k i v).2 k j = σ.2 k j := by
  rw [s2_2, if_neg (fun z => h z.2)]
theorem s2_o (σ : St) (k i : Nat) (v : Int64) {k' : Nat} (h : k' ≠ k) : (s2 σ k i v).2 k' = σ.2 k' := if_neg h
def peS (τ : St) (n z : Nat) (a8 a9 x2 x3 x4 : Int32) : St := s1 (s2 (s1 (s1 (s1 (s1 (s1 (s1 (s1 (s1 (s1 τ 17 n (nI z)) 8 n a8) 9 n a9) 19 n x2) 10 n x3) 11 n x4) 12 n (-1)) 14 n (-1)) 15 n (-1)) 18 n 0) 20 0 (nI (n + 1))
theorem peS_n (τ : St) (n z : Nat) (a8 a9 x2 x3 x4 : Int32) : (peS τ n z a8 a9 x2 x3 x4).1 17 n = nI z ∧ (peS τ n z a8 a9 x2 x3 x4).1 8 n = a8 ∧ (peS τ n z a8 a9 x2 x3 x4).1 9 n = a9 ∧ (peS τ n z a8 a9 x2 x3 x4).1 19 n = x2 ∧ (peS τ n z a8 a9 x2 x3 x4).1 10 n = x3 ∧ (peS τ n z a8 a9 x2 x3 x4).1 11 n = x4 ∧ (peS τ n z a8 a9 x2 x3 x4).1 12 n = -1 ∧ (peS τ n z a8 a9 x2 x3 x4).1 14 n = -1 ∧ (peS τ n z a8 a9 x2 x3 x4).1 15 n = -1 ∧ (peS τ n z a8 a9 x2 x3 x4).2 18 n = 0 ∧ (peS τ n z a8 a9 x2 x3 x4).1 20 0 = nI (n + 1) := by
  unfold peS
  simp (disch := decide) only [s1_oth, s1_e, s1_i, x12, x21, s2_e, and_self]
theorem peS_o (τ : St) (n z : Nat) (a8 a9 x2 x3 x4 : Int32) (k : Nat) (h : k ≠ n) : (peS τ n z a8 a9 x2 x3 x4).1 17 k = τ.1 17 k ∧ (peS τ n z a8 a9 x2 x3 x4).1 8 k = τ.1 8 k ∧ (peS τ n z a8 a9 x2 x3 x4).1 9 k = τ.1 9 k ∧ (peS τ n z a8 a9 x2 x3 x4).1 19 k = τ.1 19 k ∧ (peS τ n z a8 a9 x2 x3 x4).1 10 k = τ.1 10 k ∧ (peS τ n z a8 a9 x2 x3 x4).1 11 k = τ.1 11 k ∧ (peS τ n z a8 a9 x2 x3 x4).1 12 k = τ.1 12 k ∧ (peS τ n z a8 a9 x2 x3 x4).1 14 k = τ.1 14 k ∧ (peS τ n z a8 a9 x2 x3 x4).1 15 k = τ.1 15 k ∧ (peS τ n z a8 a9 x2 x3 x4).2 18 k = τ.2 18 k := by
  unfold peS
  simp (disch := first | decide | assumption) only [s1_oth, s1_e, s1_i, x12, x21, s2_i, and_self]
theorem peS_F (τ : St) (n z : Nat) (a8 a9 x2 x3 x4 : Int32) (k : Nat) (h : k ∉ [8, 9, 10, 11, 12, 14, 15, 17, 19, 20]) : (peS τ n z a8 a9 x2 x3 x4).1 k = τ.1 k := by
  simp only [List.mem_cons, List.not_mem_nil, or_false, not_or] at h
  unfold peS
  rw [s1_oth _ _ _ _ h.2.2.2.2.2.2.2.2.2, x21, s1_oth _ _ _ _ h.2.2.2.2.2.2.1, s1_oth _ _ _ _ h.2.2.2.2.2.1, s1_oth _ _ _ _ h.2.2.2.2.1, s1_oth _ _ _ _ h.2.2.2.1, s1_oth _ _ _ _ h.2.2.1, s1_oth _ _ _ _ h.2.2.2.2.2.2.2.2.1, s1_oth _ _ _ _ h.2.1, s1_oth _ _ _ _ h.1, s1_oth _ _ _ _ h.2.2.2.2.2.2.2.1]
theorem pers_Rel {K : List (Nat × Nat)} {t t' : TH} {σ τ σ' : St} {n nc nw m d z : Nat} {cb cq cd wc wd wf wt : Nat → Nat} (h1 : R_len t) (h2 : R_tape t σ) (h3 : R_land t σ) (h4 : R_race t σ m) (h5 : R_stk t σ n) (h6 : R_ppl K t σ n m) (h7 : R_rul t σ) (h8 : R_day t σ d) (h9 : R_court K t σ n nc nw d cb cq cd wc wd wf wt) (h10 : R_K K n nc nw) (h11 : R_P t n nc nw) (hn : n < 30) (hz : z ≤ 12) (hg : gd (tS t 13 0) 64 z)
    (hF : Fx [0, 2, 3, 4, 16] σ τ) (τ2 : τ.1 2 0 = nI 0) (τa : ∀ x, x < 12 * n → τ.1 16 x = σ.1 16 x) (τb : ∀ j, j < z → τ.1 16 (12 * n + j) = tS t 13 0 j) {x2 rw cl a8 a9 : Int32} {p a : Nat} (hp1 : 1 ≤ p) (hp9 : p ≤ 9) (ha : a ≤ 120) (hx2 : x2 = 0 ∨ x2 = 1) (hpos : ∃ r, r < 8 ∧ rw = nI r ∧ a9 = nI r ∧ ((cl = -1 ∧ a8 = -1) ∨ ∃ c, c < 8 ∧ cl = nI c ∧ a8 = nI (8 * r + c)))
    (ht' : t' = peT t n x2 (nI p) (nI a) rw cl z (va_cpy (tS t 13 0) (fun _ => 0) 0 0 z)) (hσ' : σ' = peS τ n z a8 a9 x2 (nI p) (nI a)) : Rel (K3 K n) t' σ' := by
  have N := pe_n t n x2 (nI p) (nI a) rw cl z (va_cpy (tS t 13 0) (fun _ => 0) 0 0 z)
  have O := pe_o t n x2 (nI p) (nI a) rw cl z (va_cpy (tS t 13 0) (fun _ => 0) 0 0 z)
  have Cc := pe_c t n x2 (nI p) (nI a) rw cl z (va_cpy (tS t 13 0) (fun _ => 0) 0 0 z)
  have P15 := pe_15 t n x2 (nI p) (nI a) rw cl z (va_cpy (tS t 13 0) (fun _ => 0) 0 0 z)
  rw [← ht'] at N O Cc P15
  have Sn := peS_n τ n z a8 a9 x2 (nI p) (nI a)
  have So := peS_o τ n z a8 a9 x2 (nI p) (nI a)
  have SF := peS_F τ n z a8 a9 x2 (nI p) (nI a)
  rw [← hσ'] at Sn So SF
  have G : ∀ k, k ∉ [0, 2, 3, 4, 16, 8, 9, 10, 11, 12, 14, 15, 17, 19, 20] → σ'.1 k = σ.1 k := fun k hk => by
    simp only [List.mem_cons, List.not_mem_nil, or_false, not_or] at hk
    rw [SF k (by simp only [List.mem_cons, List.not_mem_nil, or_false, not_or]; omega), hF.1 k (by simp only [List.mem_cons, List.not_mem_nil, or_false, not_or]; omega)]
  have mK : ∀ x, x ∈ K → x ∈ K3 K n := fun x hx => List.mem_cons_of_mem _ (List.mem_cons_of_mem _ (List.mem_cons_of_mem _ hx))
  obtain ⟨p1, p2, p3, p4, p5, p6⟩ := h6
  refine ⟨n + 1, nc, nw, m, d, cb, cq, cd, wc, wd, wf, wt, ?_, ?_, ?_, ?_, ?_, ⟨by omega, N.2.2.2.2.2.2.2.1, Sn.2.2.2.2.2.2.2.2.2.2, fun k hk => ?_, ?_, ?_⟩, ?_, ?_, ?_, ?_, ?_⟩
  · unfold R_len at *
    rw [(Cc 13 (by decide) (by decide) (by decide) (by decide) (by decide) (by decide)).2.2, (Cc 14 (by decide) (by decide) (by decide) (by decide) (by decide) (by decide)).2.2, (P15 0 (by decide)).2, (Cc 16 (by decide) (by decide) (by decide) (by decide) (by decide) (by decide)).2.2]
    exact h1
  · exact tape_0 h2 N.2.2.2.2.2.2.2.2 (by rw [(Cc 13 (by decide) (by decide) (by decide) (by decide) (by decide) (by decide)).1]) (by rw [SF 2 (by decide)]; exact τ2) (G 1 (by decide))
  · unfold R_land at *
    rw [(Cc 13 (by decide) (by decide) (by decide) (by decide) (by decide) (by decide)).1, G 5 (by decide), G 6 (by decide)]
    exact h3
  · unfold R_race at *
    rw [(Cc 8 (by decide) (by decide) (by decide) (by decide) (by decide) (by decide)).1, G 21 (by decide), G 22 (by decide)]
    exact h4
  · unfold R_stk at *
    rw [(P15 0 (by decide)).1, (Cc 3 (by decide) (by decide) (by decide) (by decide) (by decide) (by decide)).1, G 22 (by decide), G 7 (by decide)]
    refine ⟨h5.1, fun hb q hq => ?_, h5.2.2⟩
    rcases h5.2.1 hb q hq with e | ⟨k, k1, k2⟩
    · exact Or.inl e
    · exact Or.inr ⟨k, by omega, k2⟩
  · by_cases e : k = n
    · subst e
      have r := p5 k (Nat.le_refl _) hn
      obtain ⟨⟨n0, n1, n2, n3, n6, n7, n8, n9, n10, n11, n13, n14⟩, nL, nP, n17, n18, nN17, nN18, _, _⟩ := N
      obtain ⟨s17, s8, s9, s19, s10, s11, s12, s14, s15, s18, s20⟩ := Sn
      have s13 : σ'.1 13 k = 0 := by rw [G 13 (by decide)]; exact r.2.2.2
      unfold R_one R_pos R_goal R_known
      rw [n0, n1, n2, n3, n6, n7, n8, n9, n10, n11, n13, n14, nL, nP, n17, n18, nN17, nN18, s17, s8, s9, s19, s10, s11, s12, s14, s15, s18, s13]
      refine ⟨⟨by simp, rfl, rfl⟩, ⟨rfl, hx2⟩, ⟨p, hp1, hp9, rfl, rfl⟩, ⟨a, ha, rfl, rfl⟩, hpos, ⟨rfl, rfl, rfl, rfl, rfl, Or.inl rfl⟩, ⟨z, hz, rfl, rfl, rfl, fun i hi => ?_, fun i j hi hj e => ?_⟩, ?_, ?_⟩
      · obtain ⟨q, q1, q2⟩ := gd_lt hg hi
        refine ⟨q, 0, q1, ?_, ?_, by omega, rfl, ?_⟩
        · rw [pk_cpy_in (Nat.zero_le _) (by omega), show 0 + (i - 0) = i by omega]
          exact q2
        · rw [SF 16 (by decide), τb i hi]
          exact q2
        · rw [G 61 (by decide)]
          exact r.1 i (by omega)
      · rw [pk_cpy_in (Nat.zero_le _) (by omega), pk_cpy_in (Nat.zero_le _) (by omega), show 0 + (i - 0) = i by omega, show 0 + (j - 0) = j by omega] at e
        exact gd_ne hg hi hj e
      · rw [G 51 (by decide), G 50 (by decide)]
        by_cases c : σ.1 51 0 = 0
        · rw [if_pos c]
        · rw [if_neg c, r.2.2.1 c]
      · rw [G 59 (by decide)]
        by_cases c : k < 8
        · rw [if_pos c, r.2.1 c]
        · rw [if_neg c]
    · have q := p4 k (by omega)
      obtain ⟨⟨n0, n1, n2, n3, n6, n7, n8, n9, n10, n11, n13, n14⟩, nL, nP, n17, n18, nN17, nN18⟩ := O k e
      obtain ⟨s17, s8, s9, s19, s10, s11, s12, s14, s15, s18⟩ := So k e
      unfold R_one R_pos R_goal R_known at q ⊢
      rw [n0, n1, n2, n3, n6, n7, n8, n9, n10, n11, n13, n14, nL, nP, n17, n18, nN17, nN18, s17, s8, s9, s19, s10, s11, s12, s14, s15, s18, G 13 (by decide), G 50 (by decide), G 51 (by decide), G 59 (by decide), G 61 (by decide), SF 16 (by decide), hF.1 17 (by decide), hF.1 8 (by decide), hF.1 9 (by decide), hF.1 19 (by decide), hF.1 10 (by decide), hF.1 11 (by decide), hF.1 12 (by decide), hF.1 14 (by decide), hF.1 15 (by decide), hF.2]
      obtain ⟨q1, q2, q3, q4, q5, q6, ⟨kn, c1, c2, c3, c4, c5, c6⟩, q8, q9⟩ := q
      refine ⟨⟨mK _ q1.1, q1.2⟩, q2, q3, q4, q5, q6, ⟨kn, c1, c2, c3, c4, fun i hi => ?_, c6⟩, q8, q9⟩
      rw [τa _ (by omega)]
      exact c5 i hi
  · intro k a b
    rw [G 61 (by decide), G 59 (by decide), G 51 (by decide), G 50 (by decide), G 13 (by decide)]
    exact p5 k (by omega) b
  · rw [G 51 (by decide)]
    exact p6
  · unfold R_rul at *
    rw [(Cc 4 (by decide) (by decide) (by decide) (by decide) (by decide) (by decide)).1, (Cc 5 (by decide) (by decide) (by decide) (by decide) (by decide) (by decide)).1, G 23 (by decide), G 31 (by decide), G 29 (by decide)]
    exact h7
  · unfold R_day at *
    rw [(Cc 11 (by decide) (by decide) (by decide) (by decide) (by decide) (by decide)).1, G 32 (by decide)]
    exact h8
  · have c1 := Cc 1 (by decide) (by decide) (by decide) (by decide) (by decide) (by decide)
    have c2 := Cc 2 (by decide) (by decide) (by decide) (by decide) (by decide) (by decide)
    have c10 := Cc 10 (by decide) (by decide) (by decide) (by decide) (by decide) (by decide)
    have c16 := Cc 16 (by decide) (by decide) (by decide) (by decide) (by decide) (by decide)
    obtain ⟨g1, g2, g3, g4, g5⟩ := h9
    refine ⟨by rw [c2.1, G 41 (by decide)]; exact g1, by rw [c2.1, G 42 (by decide)]; exact g2, fun k hk => ?_, g4, fun w hw => ?_⟩
    · have q := g3 k hk
      unfold R_claim at q ⊢
      rw [c1.1, c1.2.1, c16.2.1, G 34 (by decide), G 35 (by decide), G 36 (by decide)]
      exact ⟨⟨mK _ q.1.1, q.1.2⟩, ⟨by have := q.2.1.1; omega, q.2.1.2⟩, q.2.2⟩
    · have q := g5 w hw
      unfold R_wit at q ⊢
      rw [c10.1, c10.2.1, G 37 (by decide), G 38 (by decide), G 39 (by decide), G 40 (by decide)]
      exact ⟨mK _ q.1, q.2⟩
  · obtain ⟨⟨k1, k2⟩, k3⟩ := h10
    have up : ∀ {c x : Nat}, (c, x) ∈ K3 K n → ((c = 18 ∨ c = 17 ∨ c = 7) ∧ x = n) ∨ (c, x) ∈ K := fun hx => by
      simp only [K3, List.mem_cons, Prod.mk.injEq] at hx
      rcases hx with e | e | e | e
      · exact Or.inl ⟨Or.inl e.1, e.2⟩
      · exact Or.inl ⟨Or.inr (Or.inl e.1), e.2⟩
      · exact Or.inl ⟨Or.inr (Or.inr e.1), e.2⟩
      · exact Or.inr e
    refine ⟨⟨fun x hx => mK x (k1 x hx), fun j hj => ?_⟩, fun x => ⟨fun y => ?_, fun y => ?_, fun y => ?_, fun y => ?_, fun y => ?_⟩⟩
    · rcases up hj with e | e
      · rw [e.2]
        exact ⟨by simp [K3], by simp [K3]⟩
      · exact ⟨mK _ (k2 j e).1, mK _ (k2 j e).2⟩
    · rcases up y with e | e
      · omega
      · have := (k3 x).1 e
        omega
    · rcases up y with e | e
      · omega
      · have := (k3 x).2.1 e
        omega
    · rcases up y with e | e
      · omega
      · have := (k3 x).2.2.1 e
        omega
    · rcases up y with e | e
      · omega
      · exact (k3 x).2.2.2.1 e
    · rcases up y with e | e
      · omega
      · exact (k3 x).2.2.2.2 e
  · obtain ⟨g1, g2, g3, g4, g5⟩ := h11
    have c1 := Cc 1 (by decide) (by decide) (by decide) (by decide) (by decide) (by decide)
    have c10 := Cc 10 (by decide) (by decide) (by decide) (by decide) (by decide) (by decide)
    have c16 := Cc 16 (by decide) (by decide) (by decide) (by decide) (by decide) (by decide)
    refine ⟨fun j x hx => ?_, fun j e x hx => ?_, fun j e x hx => ?_, fun j x hx => ?_, fun j x hx => ?_⟩
    · rw [c1.2.1] at hx
      have := g1 j x hx
      omega
    · by_cases y : j = 1
      · subst y
        by_cases y' : e = n
        · rw [y', N.2.2.1] at hx
          cases hx
          omega
        · rw [(O e y').2.2.1] at hx
          have := g2 1 e x hx
          omega
      · rw [(P15 j y).1] at hx
        have := g2 j e x hx
        omega
    · rw [c16.2.1] at hx
      exact g3 j e x hx
    · rw [c1.2.1] at hx
      exact g4 j x hx
    · rw [c10.2.1] at hx
      exact g5 j x hx
