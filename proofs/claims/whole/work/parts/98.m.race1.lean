theorem nNb {b : Nat} (h : b < 2 ^ 31) : ¬ nI b = (-1 : Int32) := fun z => by
  have := congrArg Int32.toInt z
  rw [nI_toInt h] at this
  exact absurd this (by show ¬ (b : Int) = -1; omega)
theorem ng0 (a : Int32) : 0 - a = -a := Int32.zero_sub a
theorem col_eq {t : TH} {σ : St} {k : Nat} (hk : k < 30) (hp : R_pos t σ k) : M_columnOf σ (nI k) = some (tS t 7 7 k) := by
  obtain ⟨r, r1, r2, r3, r4⟩ := hp
  unfold M_columnOf
  rw [chkI_nI hk (by omega), nI_nat (show k < 2 ^ 31 by omega), chkI_nI hk (by omega)]
  rcases r4 with ⟨c1, c2⟩ | ⟨c, c0, c1, c2⟩
  · rw [c1, c2, if_neg (show ¬ (0 : Int32) ≤ -1 by decide)]
  · rw [c1, c2, if_pos (nI_pos' (show 8 * r + c < 2 ^ 31 by omega)), show (8 : Int32) = nI 8 from rfl, pk_rem (by omega) (by omega) (by omega), show (8 * r + c) % 8 = c by omega]
theorem far_eq {K : List (Nat × Nat)} {t : TH} {σ : St} {k : Nat} (hk : k < 30) (hK : (7, k) ∈ K) (hp : R_pos t σ k) (x : Int32) : ∃ v, C_Person_distanceTo K t k x = some v ∧ M_far σ (nI k) x = some v := by
  have e9 : σ.1 9 k = tS t 7 6 k := by
    obtain ⟨r, r1, r2, r3, r4⟩ := hp
    rw [r2, r3]
  unfold C_Person_distanceTo M_far
  rw [chkP_t hK, chkI_nI hk (by omega), nI_nat (show k < 2 ^ 31 by omega), e9]
  simp only [nm_eq, col_eq hk hp, bnd_some, ng0]
  by_cases a : 0 ≤ x / 8 - tS t 7 6 k
  · rw [if_pos a, if_pos a]
    by_cases b : 0 ≤ x - x / 8 * 8 - tS t 7 7 k
    · rw [if_pos b, if_pos b]
      exact ⟨_, rfl, rfl⟩
    · rw [if_neg b, if_neg b]
      exact ⟨_, rfl, rfl⟩
  · rw [if_neg a, if_neg a]
    by_cases b : 0 ≤ x - x / 8 * 8 - tS t 7 7 k
    · rw [if_pos b, if_pos b]
      exact ⟨_, rfl, rfl⟩
    · rw [if_neg b, if_neg b]
      exact ⟨_, rfl, rfl⟩
theorem pref_eq {K : List (Nat × Nat)} {t : TH} {σ : St} {k q b : Nat} (hk : k < 30) (hK : (7, k) ∈ K) (hp : R_pos t σ k) (h1 : tN t 13 1 = 64) (h3 : R_land t σ) (hq : q < 64) (hb : b < 64) : ∃ v, C_Person_prefers K t k (nI q) (nI b) = some v ∧ M_isBetter σ (nI k) (nI q) (nI b) = some v := by
  obtain ⟨d1, e1, e2⟩ := far_eq hk hK hp (nI q)
  obtain ⟨d2, e3, e4⟩ := far_eq hk hK hp (nI b)
  unfold C_Person_prefers M_isBetter
  rw [if_pos (nI_pos' (show b < 2 ^ 31 by omega)), wo_eq h1 h3 hq, wo_eq h1 h3 hb]
  simp only [bnd_some, chkI_nI hq (show 64 < 2 ^ 31 by omega), chkI_nI hb (show 64 < 2 ^ 31 by omega), nI_nat (show q < 2 ^ 31 by omega), nI_nat (show b < 2 ^ 31 by omega), chkP_t hK, e1, e2, e3, e4]
  by_cases c : σ.1 5 q = σ.1 5 b
  · rw [if_pos c]
    by_cases c' : d1 = d2
    · rw [if_pos c']
      by_cases c'' : nI b ≤ nI q
      · rw [if_pos c'']
        exact ⟨_, rfl, rfl⟩
      · rw [if_neg c'']
        exact ⟨_, rfl, rfl⟩
    · rw [if_neg c']
      by_cases c'' : d2 ≤ d1
      · rw [if_pos c'']
        exact ⟨_, rfl, rfl⟩
      · rw [if_neg c'']
        exact ⟨_, rfl, rfl⟩
  · rw [if_neg c]
    by_cases c'' : σ.1 5 q ≤ σ.1 5 b
    · rw [if_pos c'']
      exact ⟨_, rfl, rfl⟩
    · rw [if_neg c'']
      exact ⟨_, rfl, rfl⟩
/-- one that is known and not seen, or none -/
def isU (kn : Nat → Nat) (Q : Nat → Nat → Nat) (k : Nat) (s : Int64) (r : Int32) : Prop := r = -1 ∨ ∃ i, i < kn k ∧ r = nI (Q k i) ∧ s.toBitVec.getLsbD (Q k i) = false
theorem bu_L {K : List (Nat × Nat)} {t : TH} {σ : St} {n : Nat} {kn : Nat → Nat} {Q : Nat → Nat → Nat} (hP : PV K t n kn Q) (hM : MV σ n kn Q) (h1 : tN t 13 1 = 64) (h3 : R_land t σ) {k : Nat} (hk : k < n) (hp : R_pos t σ k) (hs : tL t 7 12 k = σ.2 18 k) :
    ∀ (f i : Nat) (best : Int32), i ≤ kn k → kn k < f + i → isU kn Q k (σ.2 18 k) best → ∃ r a b, isU kn Q k (σ.2 18 k) r ∧ C_Person_bestUnseen_L4 f K t (nI i) best k = some (a, r) ∧ M_choose_L4 f σ (nI i) best (nI k) = some (b, r) ∧ (r = -1 → best = -1 ∧ ∀ j, i ≤ j → j < kn k → (σ.2 18 k).toBitVec.getLsbD (Q k j) = true) := by
  obtain ⟨⟨a1, a2⟩, ⟨a3, a4⟩, a5⟩ := hP.2.2.2 k hk
  obtain ⟨m1, m2⟩ := hM k hk
  have hn := hP.1
  intro f
  induction f with
  | zero =>
    intro i best _ h
    exact absurd h (by omega)
  | succ f ih =>
    intro i best hi hf hq
    unfold C_Person_bestUnseen_L4 M_choose_L4
    rw [chkP_t a1, a4, chkI_nI (show k < 30 by omega) (by omega), nI_nat (show k < 2 ^ 31 by omega), m1]
    rcases Nat.lt_or_ge i (kn k) with w | w
    · obtain ⟨q1, q2⟩ := a5 i w
      rw [if_neg (nI_ge w (by omega)), if_neg (nI_ge w (by omega)), chkI_nI w (by omega), nI_nat (show i < 2 ^ 31 by omega), show (12 : Int32) = nI 12 from rfl, pk_mul, nI_add, chkI_nI (show 12 * k + i < 360 by omega) (by omega), nI_nat (show 12 * k + i < 2 ^ 31 by omega), m2 i w, q2]
      unfold C_Person_hasSeen
      simp only [nm_eq, nI_1, chkP_t a1, chkI_nI (show k < 30 by omega) (show 30 < 2 ^ 31 by omega), hs, cmpC0 (σ.2 18 k) q1, cmpM0 (σ.2 18 k) q1]
      by_cases b0 : (σ.2 18 k).toBitVec.getLsbD (Q k i) = false
      · rw [if_pos b0, if_pos b0, bnd_some, if_pos rfl]
        have hin : isU kn Q k (σ.2 18 k) (nI (Q k i)) := Or.inr ⟨i, w, rfl, b0⟩
        have nw : ∃ r a b, isU kn Q k (σ.2 18 k) r ∧ C_Person_bestUnseen_L4 f K t (nI (i + 1)) (nI (Q k i)) k = some (a, r) ∧ M_choose_L4 f σ (nI (i + 1)) (nI (Q k i)) (nI k) = some (b, r) ∧ (r = -1 → best = -1 ∧ ∀ j, i ≤ j → j < kn k → (σ.2 18 k).toBitVec.getLsbD (Q k j) = true) := by
          obtain ⟨r, a, b, g1, g2, g3, g4⟩ := ih (i + 1) (nI (Q k i)) (by omega) (by omega) hin
          exact ⟨r, a, b, g1, g2, g3, fun z => absurd (g4 z).1 (nNb (by omega))⟩
        rcases hq with rfl | ⟨i', i1, rfl, i2⟩
        · rw [if_pos rfl]
          have : M_isBetter σ (nI k) (nI (Q k i)) (-1) = some 1 := if_neg (by decide)
          rw [this, bnd_some, if_neg (show ¬ (1 : Int32) = 0 by decide)]
          exact nw
        · have q1' := (a5 i' i1).1
          rw [if_neg (nNb (show Q k i' < 2 ^ 31 by omega))]
          obtain ⟨v, e1, e2⟩ := pref_eq (show k < 30 by omega) a1 hp h1 h3 q1 q1'
          rw [e1, bnd_some, e2, bnd_some]
          by_cases v0 : v = 0
          · rw [if_pos v0, if_pos v0]
            obtain ⟨r, a, b, g1, g2, g3, g4⟩ := ih (i + 1) (nI (Q k i')) (by omega) (by omega) (Or.inr ⟨i', i1, rfl, i2⟩)
            exact ⟨r, a, b, g1, g2, g3, fun z => absurd (g4 z).1 (nNb (by omega))⟩
          · rw [if_neg v0, if_neg v0]
            exact nw
      · rw [if_neg b0, if_neg b0, bnd_some, if_neg (show ¬ (1 : Int32) = 0 by decide)]
        obtain ⟨r, a, b, g1, g2, g3, g4⟩ := ih (i + 1) best (by omega) (by omega) hq
        refine ⟨r, a, b, g1, g2, g3, fun z => ⟨(g4 z).1, fun j j1 j2 => ?_⟩⟩
        rcases Nat.lt_or_ge i j with y | y
        · exact (g4 z).2 j y j2
        · rw [show j = i by omega]
          simpa using b0
    · rw [if_pos (nI_le w (by omega)), if_pos (nI_le w (by omega))]
      exact ⟨best, _, _, hq, rfl, rfl, fun z => ⟨z, fun j a b => absurd b (by omega)⟩⟩
theorem bu_eq {K : List (Nat × Nat)} {t : TH} {σ : St} {n : Nat} {kn : Nat → Nat} {Q : Nat → Nat → Nat} (hP : PV K t n kn Q) (hM : MV σ n kn Q) (h1 : tN t 13 1 = 64) (h3 : R_land t σ) {k : Nat} (hk : k < n) (hp : R_pos t σ k) (hs : tL t 7 12 k = σ.2 18 k) : ∃ r b, isU kn Q k (σ.2 18 k) r ∧ C_Person_bestUnseen K t k = some r ∧ M_choose_L4 100000 σ 0 (-1) (nI k) = some (b, r) := by
  have a3 := (hP.2.2.2 k hk).2.1.1
  obtain ⟨r, a, b, g1, g2, g3, _⟩ := bu_L hP hM h1 h3 hk hp hs 100000 0 (-1) (by omega) (by omega) (Or.inl rfl)
  refine ⟨r, b, g1, ?_, g3⟩
  unfold C_Person_bestUnseen
  rw [show C_Person_bestUnseen_L4 100000 K t 0 (-1) k = some (a, r) from g2, bnd_some, nm2_eq]
/-- the quarter next on the way -/
def nxt (r c g : Nat) : Nat := if g % 8 = c then (if r < g / 8 then 8 * r + c + 8 else 8 * r + c - 8) else if c < g % 8 then 8 * r + c + 1 else 8 * r + c - 1
theorem nxt_lt {r c g : Nat} (hr : r < 8) (hc : c < 8) (hg : g < 64) (hn : 8 * r + c ≠ g) : nxt r c g < 64 := by
  unfold nxt
  by_cases a : g % 8 = c
  · rw [if_pos a]
    by_cases b : r < g / 8
    · rw [if_pos b]
      omega
    · rw [if_neg b]
      omega
  · rw [if_neg a]
    by_cases b : c < g % 8
    · rw [if_pos b]
      omega
    · rw [if_neg b]
      omega
theorem cmp_n {a b : Nat} (ha : a < 2 ^ 31) (hb : b < 2 ^ 31) : C_J6_compare (nI a) (nI b) = some (if a = b then 0 else if a < b then -1 else 1) := by
  unfold C_J6_compare
  rcases Nat.lt_trichotomy a b with k | k | k
  · rw [if_neg (nI_ge k hb), if_neg (by omega), if_pos k]
  · rw [if_pos (nI_le (by omega) (by omega)), if_pos (show nI a = nI b by rw [k]), if_pos k]
  · rw [if_pos (nI_le (by omega) (by omega)), if_neg (fun z => by have := (nI_eq ha hb).mp z; omega), if_neg (by omega), if_neg (by omega)]
theorem m8 (n : Nat) : nI (n + 8) + (-8) = nI n := by
  have e : nI (n + 8) - nI 8 = nI n := pk_sub (a := n + 8) (b := 8) (by omega)
  rw [← e]
  exact (Int32.sub_eq_add_neg _ _).symm
theorem nx_eq {K : List (Nat × Nat)} {t : TH} {σ : St} {k g : Nat} (hk : k < 30) (hK : (7, k) ∈ K) (hp : R_pos t σ k) (hg : g < 64) (e8 : tS t 7 8 k = nI g) (e12 : σ.1 12 k = nI g) (hn : σ.1 8 k ≠ nI g) : ∃ q, q < 64 ∧ C_Person_nextOnWay K t k = some (nI q) ∧ M_nextOf σ (nI k) = some (nI q) := by
  obtain ⟨r, r1, r2, r3, r4⟩ := hp
  have hp : R_pos t σ k := ⟨r, r1, r2, r3, r4⟩
  unfold C_Person_nextOnWay M_nextOf
  rw [chkP_t hK, e8, col_eq hk hp, bnd_some]
  simp only [nm_eq, chkI_nI hk (show 30 < 2 ^ 31 by omega), nI_nat (show k < 2 ^ 31 by omega), e12, r2, r3]
  rw [show (8 : Int32) = nI 8 from rfl, pk_rem (by omega) (by omega) (by omega), pk_div (by omega) (by omega) (by omega), pk_mul, pk_mul]
  rcases r4 with ⟨c1, c2⟩ | ⟨c, c0, c1, c2⟩
  · refine ⟨8 * r, by omega, ?_, ?_⟩
    · have : C_J6_compare (nI (g % 8)) (-1) = some 1 := by
        unfold C_J6_compare
        rw [if_pos (show (-1 : Int32) ≤ nI (g % 8) from by have := nN_le (n := g % 8) (by omega); exact of_eq_true this), if_neg (nNb (by omega))]
      rw [c1, this, bnd_some, if_neg (show ¬ (1 : Int32) = 0 by decide), Nat.mul_comm r 8]
      refine congrArg some ?_
      rw [Int32.add_assoc, show (-1 : Int32) + 1 = 0 by decide, Int32.add_zero]
    · rw [c1, if_neg (fun z => nNb (show g % 8 < 2 ^ 31 by omega) z.symm), if_neg (show ¬ nI (g % 8) ≤ -1 from fun z => by have := nN_nle (n := g % 8) (by omega); exact of_eq_false this z)]
      refine congrArg some ?_
      rw [Int32.add_assoc, show (-1 : Int32) + 1 = 0 by decide, Int32.add_zero]
  · have hne : 8 * r + c ≠ g := fun z => hn (by rw [c2, z])
    refine ⟨nxt r c g, nxt_lt r1 c0 hg hne, ?_, ?_⟩
    · rw [c1, cmp_n (by omega) (by omega), bnd_some]
      unfold nxt
      by_cases a : g % 8 = c
      · rw [if_pos a, if_pos a, if_pos rfl, cmp_n (by omega) (by omega), bnd_some, if_neg (show ¬ g / 8 = r by omega)]
        by_cases b : r < g / 8
        · rw [if_pos b, if_neg (by omega), nI_1, pk_mul, nI_add, show (r + 1) * 8 + c = 8 * r + c + 8 by omega]
        · rw [if_neg b, if_pos (by omega)]
          obtain ⟨r', rfl⟩ : ∃ r', r = r' + 1 := ⟨r - 1, by omega⟩
          rw [pk_m1, pk_mul, nI_add, show r' * 8 + c = 8 * (r' + 1) + c - 8 by omega]
      · rw [if_neg a, if_neg a, nI_add]
        by_cases b : c < g % 8
        · rw [if_pos b, if_neg (show ¬ g % 8 < c by omega), if_neg (show ¬ (1 : Int32) = 0 by decide), nI_1, show r * 8 + c + 1 = 8 * r + c + 1 by omega]
        · rw [if_neg b, if_pos (show g % 8 < c by omega), if_neg (show ¬ (-1 : Int32) = 0 by decide)]
          obtain ⟨c', rfl⟩ : ∃ c', c = c' + 1 := ⟨c - 1, by omega⟩
          rw [show r * 8 + (c' + 1) = r * 8 + c' + 1 by omega, pk_m1, show r * 8 + c' = 8 * r + (c' + 1) - 1 by omega]
    · rw [c1]
      unfold nxt
      by_cases a : g % 8 = c
      · rw [if_pos a, if_pos (show nI c = nI (g % 8) by rw [a]), c2]
        by_cases b : r < g / 8
        · rw [if_pos b, if_neg (nI_ge b (by omega)), nI_add]
        · rw [if_neg b, if_pos (nI_le (by omega) (by omega))]
          obtain ⟨r', rfl⟩ : ∃ r', r = r' + 1 := ⟨r - 1, by omega⟩
          rw [show 8 * (r' + 1) + c = 8 * r' + c + 8 by omega, show -nI 8 = (-8 : Int32) from rfl, m8, show 8 * r' + c + 8 - 8 = 8 * r' + c by omega]
      · rw [if_neg a, if_neg (fun z => a ((nI_eq (by omega) (by omega)).mp z).symm), nI_add]
        by_cases b : c < g % 8
        · rw [if_pos b, if_neg (nI_ge b (by omega)), nI_1]
        · rw [if_neg b, if_pos (nI_le (by omega) (by omega))]
          obtain ⟨c', rfl⟩ : ∃ c', c = c' + 1 := ⟨c - 1, by omega⟩
          rw [show 8 * r + (c' + 1) = 8 * r + c' + 1 by omega, pk_m1, show 8 * r + c' + 1 - 1 = 8 * r + c' by omega]
