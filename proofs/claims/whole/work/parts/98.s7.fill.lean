def bidN (Q Bd : Nat → Nat) (q : Nat) : Nat → Nat
  | 0 => 0
  | i + 1 => if Q i = q then Bd i else bidN Q Bd q i
def cst (B : Nat → Nat → Nat) (k c : Nat) : Int := if c < 64 then (if 0 < B k c then 255 - (B k c : Int) else 1000000) else 255
/-- what one knows of, and bids, as a state tells it -/
def KB (σ : St) (n : Nat) (kn : Nat → Nat) (Q Bd : Nat → Nat → Nat) : Prop := ∀ k, k < n → kn k ≤ 12 ∧ σ.1 17 k = nI (kn k) ∧ (∀ i, i < kn k → Q k i < 64 ∧ σ.1 16 (12 * k + i) = nI (Q k i) ∧ Bd k i < 256 ∧ σ.1 61 (12 * k + i) = nI (Bd k i)) ∧ ∀ i j, i < kn k → j < kn k → Q k i = Q k j → i = j
def BB (kn : Nat → Nat) (Q Bd : Nat → Nat → Nat) (k q : Nat) : Nat := bidN (Q k) (Bd k) q (kn k)
theorem bidN_lt {Q Bd : Nat → Nat} {q : Nat} : ∀ n, (∀ i, i < n → Bd i < 256) → bidN Q Bd q n < 256 := by
  intro n
  induction n with
  | zero => intro _; show 0 < 256; omega
  | succ n ih =>
    intro h
    show (if Q n = q then Bd n else bidN Q Bd q n) < 256
    split
    · exact h n (by omega)
    · exact ih (fun i hi => h i (by omega))
theorem bidN_no {Q Bd : Nat → Nat} {q : Nat} : ∀ n, (∀ i, i < n → Q i ≠ q) → bidN Q Bd q n = 0 := by
  intro n
  induction n with
  | zero => intro _; rfl
  | succ n ih =>
    intro h
    show (if Q n = q then Bd n else bidN Q Bd q n) = 0
    rw [if_neg (h n (by omega))]
    exact ih (fun i hi => h i (by omega))
theorem bidN_at {Q Bd : Nat → Nat} {i : Nat} : ∀ n, i < n → (∀ a b, a < n → b < n → Q a = Q b → a = b) → bidN Q Bd (Q i) n = Bd i := by
  intro n
  induction n with
  | zero => intro h; exact absurd h (by omega)
  | succ n ih =>
    intro h hi
    show (if Q n = Q i then Bd n else bidN Q Bd (Q i) n) = Bd i
    by_cases k : Q n = Q i
    · rw [if_pos k, hi n i (by omega) h k]
    · rw [if_neg k]
      have : i ≠ n := fun z => k (by rw [z])
      exact ih (by omega) (fun a b ha hb => hi a b (by omega) (by omega))
theorem bidN_ex {Q Bd : Nat → Nat} {q : Nat} : ∀ n, 0 < bidN Q Bd q n → ∃ i, i < n ∧ Q i = q := by
  intro n
  induction n with
  | zero => intro h; exact absurd h (Nat.lt_irrefl 0)
  | succ n ih =>
    intro h
    by_cases k : Q n = q
    · exact ⟨n, by omega, k⟩
    · have h' : 0 < (if Q n = q then Bd n else bidN Q Bd q n) := h
      rw [if_neg k] at h'
      obtain ⟨i, a, b⟩ := ih h'
      exact ⟨i, by omega, b⟩
theorem fill_33 {σ : St} {k : Nat} (hk : k < 8) (x1 : Int32) : ∀ (f c : Nat) (τ : St), c ≤ 72 → 72 < f + c → Fx [52] σ τ → (∀ j, j < c → τ.1 52 (72 * k + j) = if j < 64 then 1000000 else 255) → (∀ x, x < 72 * k → τ.1 52 x = σ.1 52 x) →
    ∃ σ' x, M_sell_L33 f τ (nI c) (nI k) x1 = some (σ', x) ∧ Fx [52] σ σ' ∧ (∀ j, j < 72 → σ'.1 52 (72 * k + j) = if j < 64 then 1000000 else 255) ∧ ∀ x, x < 72 * k → σ'.1 52 x = σ.1 52 x := by
  intro f
  induction f with
  | zero =>
    intro c τ _ h
    exact absurd h (by omega)
  | succ f ih =>
    intro c τ hc hf hF hj hx
    unfold M_sell_L33
    rcases Nat.lt_or_ge c 72 with q | q
    · rw [if_neg (show ¬ (72 : Int32) ≤ nI c from fun z => by have := (nI_leI (a := 72) (by omega) (by omega)).mp z; omega), show (72 : Int32) = nI 72 from rfl, pk_mul, nI_add]
      simp only [chkI_nI (show 72 * k + c < 576 by omega) (show 576 < 2 ^ 31 by omega), nI_nat (show 72 * k + c < 2 ^ 31 by omega), nm_eq, nI_1]
      have go : ∀ v : Int32, v = (if c < 64 then 1000000 else 255) → ∃ σ' x, M_sell_L33 f (s1 τ 52 (72 * k + c) v) (nI (c + 1)) (nI k) x1 = some (σ', x) ∧ Fx [52] σ σ' ∧ (∀ j, j < 72 → σ'.1 52 (72 * k + j) = if j < 64 then 1000000 else 255) ∧ ∀ x, x < 72 * k → σ'.1 52 x = σ.1 52 x := fun v hv => by
        refine ih (c + 1) _ (by omega) (by omega) (Fx_s1 hF (by decide) _ _) (fun j hj' => ?_) (fun x hx' => ?_)
        · rw [s1_self]
          by_cases w : j = c
          · subst w
            rw [if_pos rfl, hv]
          · rw [if_neg (by omega)]
            exact hj j (by omega)
        · rw [s1_self, if_neg (by omega)]
          exact hx x hx'
      rcases Nat.lt_or_ge c 64 with w | w
      · rw [if_neg (show ¬ (64 : Int32) ≤ nI c from fun z => by have := (nI_leI (a := 64) (by omega) (by omega)).mp z; omega)]
        exact go _ (by rw [if_pos w])
      · rw [if_pos (show (64 : Int32) ≤ nI c from (nI_leI (a := 64) (by omega) (by omega)).mpr w)]
        exact go _ (by rw [if_neg (by omega)])
    · have : c = 72 := by omega
      subst this
      rw [if_pos (show (72 : Int32) ≤ nI 72 by decide)]
      exact ⟨τ, _, rfl, hF, hj, hx⟩
def rowL (Q Bd : Nat → Nat) (i c : Nat) : Int := if c < 64 then (if 0 < bidN Q Bd c i then 255 - (bidN Q Bd c i : Int) else 1000000) else 255
theorem fill_73 {σ : St} {n k : Nat} {kn : Nat → Nat} {Q Bd : Nat → Nat → Nat} (hK : KB σ n kn Q Bd) (hkn : k < n) (hk : k < 8) (x1 : Int32) : ∀ (f i : Nat) (τ : St), i ≤ kn k → kn k < f + i → Fx [52] σ τ → (∀ j, j < 72 → τ.1 52 (72 * k + j) = iI (rowL (Q k) (Bd k) i j)) → (∀ x, x < 72 * k → τ.1 52 x = σ.1 52 x) →
    ∃ σ' x, M_sell_L73 f τ (nI i) (nI k) x1 = some (σ', x) ∧ Fx [52] σ σ' ∧ (∀ j, j < 72 → σ'.1 52 (72 * k + j) = iI (rowL (Q k) (Bd k) (kn k) j)) ∧ ∀ x, x < 72 * k → σ'.1 52 x = σ.1 52 x := by
  obtain ⟨k1, k2, k3, k4⟩ := hK k hkn
  intro f
  induction f with
  | zero =>
    intro c τ _ h
    exact absurd h (by omega)
  | succ f ih =>
    intro i τ hi hf hF hj hx
    unfold M_sell_L73
    rw [chkI_nI (show k < 30 by omega) (by omega), nI_nat (show k < 2 ^ 31 by omega), hF.1 17 (by decide), k2]
    rcases Nat.lt_or_ge i (kn k) with q | q
    · obtain ⟨q1, q2, q3, q4⟩ := k3 i q
      rw [if_neg (nI_ge q (by omega)), show (12 : Int32) = nI 12 from rfl, show (72 : Int32) = nI 72 from rfl, pk_mul, pk_mul, nI_add]
      simp only [chkI_nI (show 12 * k + i < 360 by omega) (show 360 < 2 ^ 31 by omega), nI_nat (show 12 * k + i < 2 ^ 31 by omega), nm_eq, nI_1]
      rw [hF.1 61 (by decide), hF.1 16 (by decide), q4, q2, nI_add]
      have no : bidN (Q k) (Bd k) (Q k i) i = 0 := bidN_no i (fun j hj e => by
        have := k4 j i (by omega) q e
        omega)
      have e0 : ∀ c, c ≠ Q k i → rowL (Q k) (Bd k) (i + 1) c = rowL (Q k) (Bd k) i c := fun c hc => by
        unfold rowL
        rw [show bidN (Q k) (Bd k) c (i + 1) = bidN (Q k) (Bd k) c i from if_neg (fun z => hc z.symm)]
      by_cases b0 : Bd k i = 0
      · rw [if_pos (show nI (Bd k i) ≤ 0 by rw [b0]; decide)]
        refine ih (i + 1) τ (by omega) (by omega) hF (fun j hj' => ?_) hx
        rw [hj j hj']
        by_cases c : j = Q k i
        · refine congrArg iI ?_
          unfold rowL
          rw [c, no, show bidN (Q k) (Bd k) (Q k i) (i + 1) = Bd k i from if_pos rfl, b0]
        · rw [e0 j c]
      · rw [if_neg (nI_nle (show 0 < Bd k i by omega) (by omega)), chkI_nI (show 72 * k + Q k i < 576 by omega) (by omega), nI_nat (show 72 * k + Q k i < 2 ^ 31 by omega), show (255 : Int32) = nI 255 from rfl, pk_sub (show Bd k i ≤ 255 by omega)]
        refine ih (i + 1) _ (by omega) (by omega) (Fx_s1 hF (by decide) _ _) (fun j hj' => ?_) (fun x hx' => ?_)
        · rw [s1_self]
          by_cases c : j = Q k i
          · rw [if_pos (by omega), ← iI_n]
            refine congrArg iI ?_
            unfold rowL
            rw [c, show bidN (Q k) (Bd k) (Q k i) (i + 1) = Bd k i from if_pos rfl, if_pos q1, if_pos (by omega)]
            omega
          · rw [if_neg (by omega), hj j hj', e0 j c]
        · rw [s1_self, if_neg (by omega)]
          exact hx x hx'
    · have : i = kn k := by omega
      subst this
      rw [if_pos (nI_le q (by omega))]
      exact ⟨τ, _, rfl, hF, hj, hx⟩
theorem fill_26 {σ : St} {n R : Nat} {kn : Nat → Nat} {Q Bd : Nat → Nat → Nat} (hK : KB σ n kn Q Bd) (hR : R ≤ 8) (hRn : R ≤ n) : ∀ (f k : Nat) (τ : St), k ≤ R → R < f + k → Fx [52] σ τ → (∀ r c, r < k → c < 72 → τ.1 52 (72 * r + c) = iI (cst (BB kn Q Bd) r c)) →
    ∃ σ' x, M_sell_L26 f τ (nI k) (nI R) = some (σ', x) ∧ Fx [52] σ σ' ∧ ∀ r c, r < R → c < 72 → σ'.1 52 (72 * r + c) = iI (cst (BB kn Q Bd) r c) := by
  intro f
  induction f with
  | zero =>
    intro k τ _ h
    exact absurd h (by omega)
  | succ f ih =>
    intro k τ hk hf hF hj
    unfold M_sell_L26
    rcases Nat.lt_or_ge k R with q | q
    · rw [if_neg (nI_ge q (by omega))]
      obtain ⟨σ1, x, e1, F1, i1, j1⟩ := fill_33 (σ := τ) (show k < 8 by omega) (nI R) 100000 0 τ (by omega) (by omega) (Fx_rf _ _) (fun j hj => absurd hj (by omega)) (fun _ _ => rfl)
      have hK1 : KB σ1 n kn Q Bd := fun k hk => by
        have F := Fx_tr hF F1
        rw [F.1 17 (by decide), F.1 16 (by decide), F.1 61 (by decide)]
        exact hK k hk
      obtain ⟨σ2, y, e2, F2, i2, j2⟩ := fill_73 (σ := σ1) hK1 (show k < n by omega) (show k < 8 by omega) (nI R) 100000 0 σ1 (by omega) (by have := (hK k (by omega)).1; omega) (Fx_rf _ _) (fun j hj => by
        rw [i1 j hj]
        unfold rowL
        rw [show bidN (Q k) (Bd k) j 0 = 0 from rfl, if_neg (Nat.lt_irrefl 0)]
        split <;> rfl) (fun _ _ => rfl)
      rw [show M_sell_L33 100000 τ 0 (nI k) (nI R) = some (σ1, x) from e1, bnd_some, nm2_eq, show M_sell_L73 100000 σ1 0 (nI k) (nI R) = some (σ2, y) from e2, bnd_some, nm2_eq, nm_eq, nI_1]
      refine ih (k + 1) σ2 (by omega) (by omega) (Fx_tr hF (Fx_tr F1 F2)) (fun r c hr hc => ?_)
      by_cases w : r = k
      · subst w
        rw [i2 c hc]
        rfl
      · rw [j2 _ (by omega), j1 _ (by omega)]
        exact hj r c (by omega) hc
    · have : k = R := by omega
      subst this
      rw [if_pos (nI_le q (by omega))]
      exact ⟨τ, _, rfl, hF, hj⟩
