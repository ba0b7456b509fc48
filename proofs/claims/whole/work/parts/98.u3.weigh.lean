def rkN (Q : Nat → Nat) (q : Nat) : Nat → Nat
  | 0 => 0
  | i + 1 => rkN Q q i + (if Q i < q then 1 else 0)
theorem rkN_s (Q : Nat → Nat) (q i : Nat) : rkN Q q (i + 1) = rkN Q q i + (if Q i < q then 1 else 0) := rfl
theorem rkN_le (Q : Nat → Nat) (q : Nat) : ∀ n, rkN Q q n ≤ n := by
  intro n
  induction n with
  | zero => exact Nat.le_refl 0
  | succ n ih =>
    rw [rkN_s]
    split <;> omega
theorem rkN_mono {Q : Nat → Nat} {q q' : Nat} (h : q ≤ q') : ∀ n, rkN Q q n ≤ rkN Q q' n := by
  intro n
  induction n with
  | zero => exact Nat.le_refl 0
  | succ n ih =>
    rw [rkN_s, rkN_s]
    by_cases a : Q n < q
    · rw [if_pos a, if_pos (show Q n < q' by omega)]
      omega
    · rw [if_neg a]
      omega
theorem rkN_lt {Q : Nat → Nat} {q q' i : Nat} (h : q < q') (e : Q i = q) : ∀ n, i < n → rkN Q q n < rkN Q q' n := by
  intro n
  induction n with
  | zero => intro hi; exact absurd hi (by omega)
  | succ n ih =>
    intro hi
    rw [rkN_s, rkN_s]
    rcases Nat.lt_or_ge i n with k | k
    · have a := ih k
      by_cases b : Q n < q
      · rw [if_pos b, if_pos (show Q n < q' by omega)]
        omega
      · rw [if_neg b]
        omega
    · have : i = n := by omega
      subst this
      have a := rkN_mono (Q := Q) (Nat.le_of_lt h) i
      rw [if_neg (show ¬ Q i < q by omega), if_pos (show Q i < q' by omega)]
      omega
theorem rkN_kn {Q : Nat → Nat} {q i : Nat} (e : Q i = q) : ∀ n, i < n → rkN Q q n < n := by
  intro n
  induction n with
  | zero => intro hi; exact absurd hi (by omega)
  | succ n ih =>
    intro hi
    rw [rkN_s]
    rcases Nat.lt_or_ge i n with k | k
    · have a := ih k
      split <;> omega
    · have : i = n := by omega
      subst this
      have a := rkN_le Q q i
      rw [if_neg (show ¬ Q i < q by omega)]
      omega
theorem rkN_inj {Q : Nat → Nat} {i j n : Nat} (hi : i < n) (hj : j < n) (e : rkN Q (Q i) n = rkN Q (Q j) n) : Q i = Q j := by
  rcases Nat.lt_trichotomy (Q i) (Q j) with k | k | k
  · have := rkN_lt k rfl n hi
    omega
  · exact k
  · have := rkN_lt k rfl n hj
    omega
/-- what the class's state tells of the people, for bids -/
def CV (K : List (Nat × Nat)) (t : TH) (n : Nat) (kn : Nat → Nat) (Q Bd : Nat → Nat → Nat) : Prop := n ≤ 30 ∧ tS t 6 1 0 = nI n ∧ tN t 15 1 = 30 ∧ tN t 14 0 = 256 ∧ tN t 14 1 = 8 ∧ ∀ k, k < n → ((7, k) ∈ K ∧ tP t 15 1 k = some k) ∧ kn k ≤ 12 ∧ (tN t 17 k = kn k ∧ tN t 18 k = kn k) ∧ (∀ i, i < kn k → Q k i < 64 ∧ tS t 17 k i = nI (Q k i) ∧ Bd k i < 256 ∧ tS t 18 k i = nI (Bd k i)) ∧ ∀ i j, i < kn k → j < kn k → Q k i = Q k j → i = j
theorem CV_E {K : List (Nat × Nat)} {t t' : TH} {n : Nat} {kn : Nat → Nat} {Q Bd : Nat → Nat → Nat} (h : CV K t n kn Q Bd) (hT : ET [(7, 14)] [] [(14, 0), (14, 1)] t t') : CV K t' n kn Q Bd := by
  unfold CV at *
  have q17 : tS t' 17 = tS t 17 := funext (fun f => hT.1 17 f (nin (by decide) f))
  have q18 : tS t' 18 = tS t 18 := funext (fun f => hT.1 18 f (nin (by decide) f))
  rw [hT.1 6 1 (by decide), hT.2.2.2, hT.2.1 15 1 (by decide), q17, q18]
  exact h
theorem CV_at {K : List (Nat × Nat)} {t : TH} {n : Nat} {kn : Nat → Nat} {Q Bd : Nat → Nat → Nat} (h : CV K t n kn Q Bd) {p : Nat} (hp : p < 30) : C_People_at K t (nI p) = some (if p < n then some p else none) := by
  obtain ⟨h1, h2, h3, h4, h5, h6⟩ := h
  unfold C_People_at
  rw [if_neg (nI_pos (show p < 2 ^ 31 by omega)), h2]
  by_cases k : p < n
  · rw [if_neg (nI_ge k (by omega)), h3, if_neg (nI_ge hp (by omega)), chkI_nI hp (by omega), nI_nat (by omega), nm_eq, (h6 p k).1.2, if_pos k]
  · rw [if_pos (nI_le (show n ≤ p by omega) (by omega)), if_neg k]
theorem pc_L {K : List (Nat × Nat)} {t : TH} {n : Nat} {kn : Nat → Nat} {Q Bd : Nat → Nat → Nat} (h : CV K t n kn Q Bd) {k q : Nat} (hk : k < n) (hq : q < 64) :
    ∀ f i, i ≤ kn k → kn k < f + i → (∀ j, j < i → Q k j ≠ q) → (∃ x, C_Person_penceFor_L2 f K t (nI i) k (nI q) = some (0, x, nI (BB kn Q Bd k q))) ∨ (BB kn Q Bd k q = 0 ∧ ∃ x, C_Person_penceFor_L2 f K t (nI i) k (nI q) = some (1, x, 0)) := by
  obtain ⟨⟨a1, a2⟩, a3, ⟨a4, a5⟩, a6, a7⟩ := h.2.2.2.2.2 k hk
  intro f
  induction f with
  | zero =>
    intro i _ h
    exact absurd h (by omega)
  | succ f ih =>
    intro i hi hf hj
    unfold C_Person_penceFor_L2
    rw [chkP_t a1, a4, a5]
    rcases Nat.lt_or_ge i (kn k) with w | w
    · obtain ⟨b1, b2, b3, b4⟩ := a6 i w
      rw [if_neg (nI_ge w (by omega)), if_neg (nI_ge w (by omega)), chkI_nI w (by omega), nI_nat (show i < 2 ^ 31 by omega), b2]
      by_cases e : Q k i = q
      · rw [if_pos (show nI (Q k i) = nI q by rw [e]), chkI_nI w (by omega), b4]
        left
        refine ⟨nI i, ?_⟩
        rw [show BB kn Q Bd k q = Bd k i from by rw [← e]; exact bidN_at _ w a7]
      · rw [if_neg (fun z => e ((nI_eq (show Q k i < 2 ^ 31 by omega) (show q < 2 ^ 31 by omega)).mp z)), nm_eq, nI_1]
        refine ih (i + 1) (by omega) (by omega) (fun j hj' => ?_)
        rcases Nat.lt_or_ge j i with y | y
        · exact hj j y
        · rw [show j = i by omega]
          exact e
    · rw [if_pos (nI_le w (by omega))]
      right
      exact ⟨bidN_no _ (fun j hj' => hj j (by omega)), _, rfl⟩
theorem pc_eq {K : List (Nat × Nat)} {t : TH} {n : Nat} {kn : Nat → Nat} {Q Bd : Nat → Nat → Nat} (h : CV K t n kn Q Bd) {k q : Nat} (hk : k < n) (hq : q < 64) : C_Person_penceFor K t k (nI q) = some (nI (BB kn Q Bd k q)) := by
  unfold C_Person_penceFor
  have a3 := (h.2.2.2.2.2 k hk).2.1
  rcases pc_L h hk hq 100000 0 (by omega) (by omega) (fun j hj => absurd hj (by omega)) with ⟨x, e⟩ | ⟨e0, x, e⟩
  · rw [show C_Person_penceFor_L2 100000 K t 0 k (nI q) = some (0, x, nI (BB kn Q Bd k q)) from e, bnd_some]
    rfl
  · rw [show C_Person_penceFor_L2 100000 K t 0 k (nI q) = some (1, x, 0) from e, bnd_some, e0]
    rfl
theorem rk_L {K : List (Nat × Nat)} {t : TH} {n : Nat} {kn : Nat → Nat} {Q Bd : Nat → Nat → Nat} (h : CV K t n kn Q Bd) {k q : Nat} (hk : k < n) (hq : q < 64) :
    ∀ f i, i ≤ kn k → kn k < f + i → ∃ x, C_Person_rankOf_L4 f K t (nI i) (nI (rkN (Q k) q i)) k (nI q) = some (x, nI (rkN (Q k) q (kn k))) := by
  obtain ⟨⟨a1, a2⟩, a3, ⟨a4, a5⟩, a6, a7⟩ := h.2.2.2.2.2 k hk
  intro f
  induction f with
  | zero =>
    intro i _ h
    exact absurd h (by omega)
  | succ f ih =>
    intro i hi hf
    unfold C_Person_rankOf_L4
    rw [chkP_t a1, a4]
    rcases Nat.lt_or_ge i (kn k) with w | w
    · obtain ⟨b1, b2, b3, b4⟩ := a6 i w
      have st := rkN_s (Q k) q i
      have hn := ih (i + 1) (by omega) (by omega)
      rw [if_neg (nI_ge w (by omega)), chkI_nI w (by omega), nI_nat (show i < 2 ^ 31 by omega), b2]
      simp only [nm_eq, nI_1]
      by_cases e : Q k i < q
      · rw [if_neg (nI_ge e (by omega))]
        rw [if_pos e] at st
        rw [st] at hn
        exact hn
      · rw [if_pos (nI_le (show q ≤ Q k i by omega) (by omega))]
        rw [if_neg e] at st
        rw [st] at hn
        exact hn
    · rw [if_pos (nI_le w (by omega)), show i = kn k by omega]
      exact ⟨_, rfl⟩
theorem rk_eq {K : List (Nat × Nat)} {t : TH} {n : Nat} {kn : Nat → Nat} {Q Bd : Nat → Nat → Nat} (h : CV K t n kn Q Bd) {k q : Nat} (hk : k < n) (hq : q < 64) : C_Person_rankOf K t k (nI q) = some (nI (rkN (Q k) q (kn k))) := by
  unfold C_Person_rankOf
  have a3 := (h.2.2.2.2.2 k hk).2.1
  obtain ⟨x, e⟩ := rk_L h hk hq 100000 0 (by omega) (by omega)
  rw [show C_Person_rankOf_L4 100000 K t 0 0 k (nI q) = some (x, nI (rkN (Q k) q (kn k))) from e, bnd_some]
  rfl
theorem kr_L {K : List (Nat × Nat)} {t : TH} {n : Nat} {kn : Nat → Nat} {Q Bd : Nat → Nat → Nat} (h : CV K t n kn Q Bd) {k i0 : Nat} (hk : k < n) (hi0 : i0 < kn k) :
    ∀ f i, i ≤ i0 → kn k < f + i → ∃ x, C_Person_knownOfRank_L2 f K t (nI i) k (nI (rkN (Q k) (Q k i0) (kn k))) = some (0, x, nI (Q k i0)) := by
  obtain ⟨⟨a1, a2⟩, a3, ⟨a4, a5⟩, a6, a7⟩ := h.2.2.2.2.2 k hk
  intro f
  induction f with
  | zero =>
    intro i _ h
    exact absurd h (by omega)
  | succ f ih =>
    intro i hi hf
    unfold C_Person_knownOfRank_L2
    obtain ⟨b1, b2, b3, b4⟩ := a6 i (by omega)
    have r1 := rkN_le (Q k) (Q k i) (kn k)
    have r2 := rkN_le (Q k) (Q k i0) (kn k)
    rw [chkP_t a1, a4, if_neg (nI_ge (show i < kn k by omega) (by omega)), chkI_nI (show i < kn k by omega) (by omega), nI_nat (show i < 2 ^ 31 by omega), b2, rk_eq h hk b1, bnd_some]
    by_cases e : rkN (Q k) (Q k i) (kn k) = rkN (Q k) (Q k i0) (kn k)
    · rw [if_pos (show nI (rkN (Q k) (Q k i) (kn k)) = nI (rkN (Q k) (Q k i0) (kn k)) by rw [e]), chkI_nI (show i < kn k by omega) (by omega), rkN_inj (show i < kn k by omega) hi0 e]
      exact ⟨_, rfl⟩
    · rw [if_neg (fun z => e ((nI_eq (by omega) (by omega)).mp z)), nm_eq, nI_1]
      have : i ≠ i0 := fun z => e (by rw [z])
      exact ih (i + 1) (by omega) (by omega)
theorem kr_eq {K : List (Nat × Nat)} {t : TH} {n : Nat} {kn : Nat → Nat} {Q Bd : Nat → Nat → Nat} (h : CV K t n kn Q Bd) {k i0 : Nat} (hk : k < n) (hi0 : i0 < kn k) : C_Person_knownOfRank K t k (nI (rkN (Q k) (Q k i0) (kn k))) = some (nI (Q k i0)) := by
  unfold C_Person_knownOfRank
  have a3 := (h.2.2.2.2.2 k hk).2.1
  obtain ⟨x, e⟩ := kr_L h hk hi0 100000 0 (by omega) (by omega)
  rw [show C_Person_knownOfRank_L2 100000 K t 0 k (nI (rkN (Q k) (Q k i0) (kn k))) = some (0, x, nI (Q k i0)) from e, bnd_some]
  rfl
/-- the weight of a bid -/
def wgt (n : Nat) (kn : Nat → Nat) (Q Bd : Nat → Nat → Nat) (p q : Nat) : Nat := if p < n ∧ 0 < BB kn Q Bd p q then BB kn Q Bd p q * 815730721 + (12 - rkN (Q p) q (kn p)) * 13 ^ (7 - p) else 0
theorem pw_eq {p : Nat} (hp : p < 8) : pw p = lN (13 ^ (7 - p)) := (by decide +kernel : ∀ p : Fin 8, pw p.val = lN (13 ^ (7 - p.val))) ⟨p, hp⟩
theorem pow13 {p : Nat} : 13 ^ (7 - p) ≤ 62748517 := by
  have : 13 ^ (7 - p) ≤ 13 ^ 7 := Nat.pow_le_pow_right (by omega) (by omega)
  have e : (13 : Nat) ^ 7 = 62748517 := rfl
  omega
theorem BB_lt {K : List (Nat × Nat)} {t : TH} {n : Nat} {kn : Nat → Nat} {Q Bd : Nat → Nat → Nat} (h : CV K t n kn Q Bd) {k q : Nat} (hk : k < n) : BB kn Q Bd k q < 256 := bidN_lt _ (fun i hi => ((h.2.2.2.2.2 k hk).2.2.2.1 i hi).2.2.1)
theorem wgt_le {K : List (Nat × Nat)} {t : TH} {n : Nat} {kn : Nat → Nat} {Q Bd : Nat → Nat → Nat} (h : CV K t n kn Q Bd) (p q : Nat) : wgt n kn Q Bd p q ≤ 300000000000 := by
  unfold wgt
  by_cases k : p < n ∧ 0 < BB kn Q Bd p q
  · rw [if_pos k]
    have a := BB_lt (q := q) h k.1
    have b : (12 - rkN (Q p) q (kn p)) * 13 ^ (7 - p) ≤ 12 * 62748517 := Nat.mul_le_mul (by omega) pow13
    omega
  · rw [if_neg k]
    omega
theorem we_L {K : List (Nat × Nat)} {t0 : TH} {n : Nat} {kn : Nat → Nat} {Q Bd : Nat → Nat → Nat} (h0 : CV K t0 n kn Q Bd) {q : Nat} (hq : q < 64) :
    ∀ (f p : Nat) (t : TH) (a : Int32), p ≤ 8 → 8 < f + p → ET [] [] [(14, 1)] t0 t → (a = 0 ∨ a = 1) → (a = 0 → ∀ j, j < p → wgt n kn Q Bd j q = 0) → (∀ j, j < p → tL t 14 1 j = lN (wgt n kn Q Bd j q)) →
      ∃ t' x a', C_Auction_weigh_L4 f K t (nI p) a (nI q) = some (t', x, a') ∧ ET [] [] [(14, 1)] t0 t' ∧ (a' = 0 ∨ a' = 1) ∧ (a' = 0 → ∀ j, j < 8 → wgt n kn Q Bd j q = 0) ∧ ∀ j, j < 8 → tL t' 14 1 j = lN (wgt n kn Q Bd j q) := by
  intro f
  induction f with
  | zero =>
    intro p t a _ h
    exact absurd h (by omega)
  | succ f ih =>
    intro p t a hp hf hT ha h1 h2
    have h := CV_E h0 (ET_mono hT (by decide) (by decide) (by decide))
    unfold C_Auction_weigh_L4
    rw [h.2.2.2.2.1]
    rcases Nat.lt_or_ge p 8 with w | w
    · have hT1 : ET [] [] [(14, 1)] t0 (uL t 14 1 p 0) := ET_uL hT (by decide) _ _
      have hC1 := CV_E h0 (ET_mono hT1 (by decide) (by decide) (by decide))
      rw [if_neg (nI_ge w (by omega)), if_neg (show ¬ (8 : Int32) ≤ nI p from fun z => by have := (nI_leI (a := 8) (by omega) (by omega)).mp z; omega), chkI_nI w (by omega), nm_eq, nI_nat (show p < 2 ^ 31 by omega), CV_at hC1 (by omega), bnd_some]
      simp only [nm_eq, nI_1]
      have z0 : ∀ j, j < p + 1 → wgt n kn Q Bd p q = 0 → tL (uL t 14 1 p 0) 14 1 j = lN (wgt n kn Q Bd j q) := fun j hj e => by
        by_cases y : j = p
        · rw [y, tL_e, e]
          rfl
        · rw [tL_i _ _ _ _ _ y]
          exact h2 j (by omega)
      have zz : wgt n kn Q Bd p q = 0 → ∃ t' x a', C_Auction_weigh_L4 f K (uL t 14 1 p 0) (nI (p + 1)) a (nI q) = some (t', x, a') ∧ ET [] [] [(14, 1)] t0 t' ∧ (a' = 0 ∨ a' = 1) ∧ (a' = 0 → ∀ j, j < 8 → wgt n kn Q Bd j q = 0) ∧ ∀ j, j < 8 → tL t' 14 1 j = lN (wgt n kn Q Bd j q) := fun e =>
        ih (p + 1) _ a (by omega) (by omega) hT1 ha (fun a0 j hj => by
          by_cases y : j = p
          · rw [y]
            exact e
          · exact h1 a0 j (by omega)) (fun j hj => z0 j hj e)
      by_cases k : p < n
      · rw [if_pos k, opt_some, chkP_t (h.2.2.2.2.2 p k).1.1, pc_eq hC1 k hq, bnd_some]
        have bl := BB_lt (q := q) h k
        by_cases b0 : BB kn Q Bd p q = 0
        · rw [if_pos (show nI (BB kn Q Bd p q) ≤ 0 by rw [b0]; decide)]
          exact zz (by unfold wgt; rw [if_neg (fun z => by have := z.2; omega)])
        · have rl := rkN_le (Q p) q (kn p)
          have kl := (h.2.2.2.2.2 p k).2.1
          have ew : (nI (BB kn Q Bd p q)).toInt64 * 815730721 + (12 - nI (rkN (Q p) q (kn p))).toInt64 * pw p = lN (wgt n kn Q Bd p q) := by
            rw [show (12 : Int32) = nI 12 from rfl, pk_sub (show rkN (Q p) q (kn p) ≤ 12 by omega), nI_l (show BB kn Q Bd p q < 2 ^ 31 by omega), nI_l (show 12 - rkN (Q p) q (kn p) < 2 ^ 31 by omega), pw_eq w, show (815730721 : Int64) = lN 815730721 from rfl, lN_mul, lN_mul, lN_add]
            unfold wgt
            rw [if_pos ⟨k, by omega⟩]
          rw [if_neg (nI_nle (show 0 < BB kn Q Bd p q by omega) (by omega)), bnd_some, rk_eq hC1 k hq, bnd_some, chkI_nI w (by omega), hC1.2.2.2.2.1, chkI_nI w (by omega), ew]
          refine ih (p + 1) _ 1 (by omega) (by omega) (ET_uL hT1 (by decide) _ _) (Or.inr rfl) (fun z => absurd z (by decide)) (fun j hj => ?_)
          by_cases y : j = p
          · rw [y, tL_e]
          · rw [tL_i _ _ _ _ _ y, tL_i _ _ _ _ _ y]
            exact h2 j (by omega)
      · rw [if_neg k, opt_none]
        exact zz (by unfold wgt; rw [if_neg (fun z => k z.1)])
    · have : p = 8 := by omega
      subst this
      rw [if_pos (show nI 8 ≤ nI 8 by decide)]
      exact ⟨t, _, a, rfl, hT, ha, h1, h2⟩
theorem we_eq {K : List (Nat × Nat)} {t : TH} {n : Nat} {kn : Nat → Nat} {Q Bd : Nat → Nat → Nat} (h0 : CV K t n kn Q Bd) {q : Nat} (hq : q < 64) : ∃ t' a, C_Auction_weigh K t (nI q) = some (a, t') ∧ ET [] [] [(14, 1)] t t' ∧ (a = 0 → ∀ j, j < 8 → wgt n kn Q Bd j q = 0) ∧ ∀ j, j < 8 → tL t' 14 1 j = lN (wgt n kn Q Bd j q) := by
  obtain ⟨t', x, a, e, e1, e2, e3, e4⟩ := we_L h0 hq 100000 0 t 0 (by omega) (by omega) (ET_rf _ _ _ _) (Or.inl rfl) (fun _ j hj => absurd hj (by omega)) (fun j hj => absurd hj (by omega))
  refine ⟨t', a, ?_, e1, e3, e4⟩
  unfold C_Auction_weigh
  rw [show C_Auction_weigh_L4 100000 K t 0 0 (nI q) = some (t', x, a) from e, bnd_some, nm2_eq, nm2_eq]
  exact chkZ_t e2
