def dfl (k : Nat) : Int32 := if k = 1 then 1 else if k = 3 then 999 else if k = 4 then 2 else 0
theorem lw_16 {σ0 : St} : ∀ (f k : Nat) (σ : St), k ≤ 5 → 5 < f + k → Fx [24, 25] σ0 σ → (∀ j, j < k → σ.1 25 j = 0 ∧ σ.1 24 j = dfl j) → ∃ σ' x, M_law_L16 f σ (nI k) = some (σ', x) ∧ Fx [24, 25] σ0 σ' ∧ ∀ j, j < 5 → σ'.1 25 j = 0 ∧ σ'.1 24 j = dfl j := by
  intro f
  induction f with
  | zero =>
    intro k σ _ h
    exact absurd h (by omega)
  | succ f ih =>
    intro k σ hk hf hF hj
    unfold M_law_L16
    rcases Nat.lt_or_ge k 5 with w | w
    · have e33 : ∀ ρ, M_law_B33 ρ (nI k) (nI k) = some (dfl k) := fun ρ => by
        unfold M_law_B33 dfl
        rcases (show k = 0 ∨ k = 1 ∨ k = 2 ∨ k = 3 ∨ k = 4 by omega) with rfl | rfl | rfl | rfl | rfl <;> decide
      rw [if_neg (show ¬ (5 : Int32) ≤ nI k from fun z => by have := (nI_leI (a := 5) (by omega) (by omega)).mp z; omega), chkI_nI w (by omega), nm_eq, e33, bnd_some, chkI_nI w (by omega), nm_eq, nm_eq, nI_nat (show k < 2 ^ 31 by omega), show vp_nar .boolean 0 = 0 from rfl, nI_1]
      refine ih (k + 1) _ (by omega) (by omega) (Fx_s1 (Fx_s1 hF (by decide) _ _) (by decide) _ _) (fun j hj' => ?_)
      rw [s1_oth _ _ _ _ (show 25 ≠ 24 by decide)]
      by_cases y : j = k
      · rw [y, s1_e, s1_e]
        exact ⟨rfl, rfl⟩
      · rw [s1_i _ _ _ _ y, s1_i _ _ _ _ y, s1_oth _ _ _ _ (show 24 ≠ 25 by decide)]
        exact hj j (by omega)
    · have : k = 5 := by omega
      subst this
      rw [if_pos (show (5 : Int32) ≤ nI 5 by decide)]
      exact ⟨σ, _, rfl, hF, hj⟩
theorem lw_105 {σ0 : St} (x1 : Int32) : ∀ (f k : Nat) (σ : St), k ≤ 5 → 5 < f + k → Fx [23] σ0 σ → (∀ j, j < k → σ.1 23 j = σ0.1 24 j) → ∃ σ' x, M_law_L105 f σ (nI k) x1 = some (σ', x) ∧ Fx [23] σ0 σ' ∧ ∀ j, j < 5 → σ'.1 23 j = σ0.1 24 j := by
  intro f
  induction f with
  | zero =>
    intro k σ _ h
    exact absurd h (by omega)
  | succ f ih =>
    intro k σ hk hf hF hj
    unfold M_law_L105
    rcases Nat.lt_or_ge k 5 with w | w
    · rw [if_neg (show ¬ (5 : Int32) ≤ nI k from fun z => by have := (nI_leI (a := 5) (by omega) (by omega)).mp z; omega), chkI_nI w (by omega), chkI_nI w (by omega), nm_eq, nm_eq, nI_nat (show k < 2 ^ 31 by omega), nI_1, hF.1 24 (by decide)]
      refine ih (k + 1) _ (by omega) (by omega) (Fx_s1 hF (by decide) _ _) (fun j hj' => ?_)
      by_cases y : j = k
      · rw [y, s1_e]
      · rw [s1_i _ _ _ _ y]
        exact hj j (by omega)
    · have : k = 5 := by omega
      subst this
      rw [if_pos (show (5 : Int32) ≤ nI 5 by decide)]
      exact ⟨σ, _, rfl, hF, hj⟩
