/-- the reference's count of bits -/
theorem ms_loop {σ : St} {k : Nat} (hk : k < 30) : ∀ f q, q ≤ 64 → 64 < f + q → M_manySeen_L4 f σ (nI q) (nI (bitsN (σ.2 18 k).toBitVec.toNat q)) (nI k) = some (nI 64, nI (bitsN (σ.2 18 k).toBitVec.toNat 64)) := by
  intro f
  induction f with
  | zero =>
    intro q h1 h2
    exact absurd h2 (by omega)
  | succ f ih =>
    intro q hq hf
    unfold M_manySeen_L4
    rcases Nat.lt_or_ge q 64 with h | h
    · rw [if_neg (show ¬ (64 : Int32) ≤ nI q from fun z => by have := (nI_leI (a := 64) (by omega) (by omega)).mp z; omega), chkI_nI hk (by omega), nI_nat (by omega), nm_eq, nm_eq, nm_eq, nm_eq]
      have st : bitsN (σ.2 18 k).toBitVec.toNat (q + 1) = bitsN (σ.2 18 k).toBitVec.toNat q + (if (σ.2 18 k).toBitVec.getLsbD q then 1 else 0) := rfl
      by_cases hb : (σ.2 18 k).toBitVec.getLsbD q = true
      · rw [if_pos (by rw [cmpM1 _ h]; exact hb), nI_1, nI_1]
        rw [if_pos hb] at st
        rw [← st]
        exact ih (q + 1) (by omega) (by omega)
      · rw [if_neg (by rw [cmpM1 _ h]; exact hb), nI_1, show (0 : Int32) = nI 0 from rfl, nI_add]
        rw [if_neg hb] at st
        rw [← st]
        exact ih (q + 1) (by omega) (by omega)
    · rw [if_pos (show (64 : Int32) ≤ nI q from (nI_leI (a := 64) (by omega) (by omega)).mpr h), show q = 64 by omega]
theorem ms_eq {σ : St} {k : Nat} (hk : k < 30) : M_manySeen σ (nI k) = some (nI (bitsN (σ.2 18 k).toBitVec.toNat 64)) := by
  unfold M_manySeen
  rw [show (0 : Int32) = nI (bitsN (σ.2 18 k).toBitVec.toNat 0) from rfl]
  rw [show M_manySeen_L4 100000 σ (nI (bitsN (σ.2 18 k).toBitVec.toNat 0)) (nI (bitsN (σ.2 18 k).toBitVec.toNat 0)) (nI k) = some (nI 64, nI (bitsN (σ.2 18 k).toBitVec.toNat 64)) from ms_loop hk 100000 0 (by omega) (by omega)]
  rfl
