def TB (t : TH) (σ : St) (z : Nat) (B : Nat → Nat) : Prop := z ≤ 200 ∧ tS t 9 1 0 = nI z ∧ σ.1 3 0 = nI z ∧ tN t 13 0 = 200 ∧ ∀ j, j < 200 → tS t 13 0 j = nI (B j) ∧ σ.1 1 j &&& 255 = nI (B j) ∧ B j < 256
def pkv (z : Nat) (B : Nat → Nat) (P : Nat) : Int32 := if P < z then nI (B P) else -1
theorem TB_E {S P L : List (Nat × Nat)} {t t' : TH} {σ σ' : St} {z : Nat} {B : Nat → Nat} (h : TB t σ z B) (hT : ET S P L t t') (s3 : σ'.1 3 = σ.1 3) (s1' : σ'.1 1 = σ.1 1) (e1 : (9, 1) ∉ S := by decide) (e2 : (13, 0) ∉ S := by decide) : TB t' σ' z B := by
  unfold TB at *
  rw [hT.1 9 1 e1, hT.1 13 0 e2, hT.2.2.2, s3, s1']
  exact h
theorem at_C {K : List (Nat × Nat)} {t : TH} {σ : St} {z : Nat} {B : Nat → Nat} (h : TB t σ z B) {P : Nat} (hP : P ≤ 200) : C_Tape_at K t (nI P) = some (pkv z B P) := by
  unfold pkv
  by_cases k : P < z
  · rw [C_at h.1 h.2.1 h.2.2.2.1 k, if_pos k, (h.2.2.2.2 P (by have := h.1; omega)).1]
  · unfold C_Tape_at
    rw [if_neg (nI_pos (show P < 2 ^ 31 by omega)), h.2.1, if_pos (nI_le (by omega) (by omega)), if_neg k]
theorem at_M {t : TH} {σ : St} {z : Nat} {B : Nat → Nat} (h : TB t σ z B) {P : Nat} (hP : P ≤ 200) (e4 : σ.1 4 0 = nI P) : M_peek σ = some (pkv z B P) := by
  unfold M_peek pkv
  rw [h.2.2.1, e4]
  by_cases k : P < z
  · have := h.1
    rw [if_neg (nI_ge k (by omega)), chkI_nI (show P < 200 by omega) (by omega), nI_nat (show P < 2 ^ 31 by omega), (h.2.2.2.2 P (by omega)).2.1, if_pos k]
  · rw [if_pos (nI_le (by omega) (by omega)), if_neg k]
theorem pkv_32 {z : Nat} {B : Nat → Nat} {P : Nat} {c : Nat} (hc : c < 256) (hB : ∀ j, j < z → B j < 256) : (pkv z B P = nI c) ↔ (P < z ∧ B P = c) := by
  unfold pkv
  by_cases k : P < z
  · rw [if_pos k]
    have := hB P k
    exact ⟨fun e => ⟨k, (nI_eq (by omega) (by omega)).mp e⟩, fun e => by rw [e.2]⟩
  · rw [if_neg k]
    exact ⟨fun e => absurd e.symm (nNb (by omega)), fun e => absurd e.1 k⟩
def blk (b : Nat) : Prop := b = 32 ∨ b = 10
theorem sb_M {t : TH} {σ0 : St} {z : Nat} {B : Nat → Nat} (h0 : TB t σ0 z B) : ∀ (f P : Nat) (σ : St), P ≤ z → z < f + P → Fx [4] σ0 σ → σ.1 4 0 = nI P → ∃ σ' P1, M_next_L0 f σ = some σ' ∧ Fx [4] σ0 σ' ∧ σ'.1 4 0 = nI P1 ∧ P ≤ P1 ∧ P1 ≤ z ∧ (∀ j, P ≤ j → j < P1 → blk (B j)) ∧ (P1 < z → ¬ blk (B P1)) := by
  have hz := h0.1
  have hB : ∀ j, j < z → B j < 256 := fun j hj => (h0.2.2.2.2 j (by omega)).2.2
  intro f
  induction f with
  | zero =>
    intro P σ _ hf
    exact absurd hf (by omega)
  | succ f ih =>
    intro P σ hP hf hF e4
    have h : TB t σ z B := TB_E h0 (ET_rf [] [] [] t) (hF.1 3 (by decide)) (hF.1 1 (by decide))
    unfold M_next_L0
    rw [at_M h (by omega) e4, bnd_some, bnd_some, e4]
    simp only [nm_eq, nI_1]
    have go : P < z → blk (B P) → ∃ σ' P1, M_next_L0 f (s1 σ 4 0 (nI (P + 1))) = some σ' ∧ Fx [4] σ0 σ' ∧ σ'.1 4 0 = nI P1 ∧ P ≤ P1 ∧ P1 ≤ z ∧ (∀ j, P ≤ j → j < P1 → blk (B j)) ∧ (P1 < z → ¬ blk (B P1)) := fun hlt hb => by
      obtain ⟨σ', P1, g1, g2, g3, g4, g5, g6, g7⟩ := ih (P + 1) (s1 σ 4 0 (nI (P + 1))) (by omega) (by omega) (Fx_s1 hF (by decide) _ _) (s1_e _ _ _ _)
      refine ⟨σ', P1, g1, g2, g3, by omega, g5, fun j a b => ?_, g7⟩
      rcases Nat.lt_or_ge P j with y | y
      · exact g6 j y b
      · rw [show j = P by omega]
        exact hb
    by_cases a : pkv z B P = 32
    · rw [if_pos a]
      have := (pkv_32 (c := 32) (by omega) hB).mp a
      exact go this.1 (Or.inl this.2)
    · rw [if_neg a]
      by_cases b : pkv z B P = 10
      · rw [if_pos b]
        have := (pkv_32 (c := 10) (by omega) hB).mp b
        exact go this.1 (Or.inr this.2)
      · rw [if_neg b]
        refine ⟨σ, P, rfl, hF, e4, Nat.le_refl _, hP, fun j x y => absurd y (by omega), fun hlt hb => ?_⟩
        rcases hb with q | q
        · exact a ((pkv_32 (c := 32) (by omega) hB).mpr ⟨hlt, q⟩)
        · exact b ((pkv_32 (c := 10) (by omega) hB).mpr ⟨hlt, q⟩)
theorem sb_C {K : List (Nat × Nat)} {t0 : TH} {σ : St} {z : Nat} {B : Nat → Nat} (h0 : TB t0 σ z B) : ∀ (f P : Nat) (t : TH), P ≤ z → z < f + P → ET [(5, 3)] [] [] t0 t → tS t 5 3 0 = nI P → ∃ t' P1, C_Reader_skipBlanks_L0 f K t = some t' ∧ ET [(5, 3)] [] [] t0 t' ∧ tS t' 5 3 0 = nI P1 ∧ P ≤ P1 ∧ P1 ≤ z ∧ (∀ j, P ≤ j → j < P1 → blk (B j)) ∧ (P1 < z → ¬ blk (B P1)) := by
  have hz := h0.1
  have hB : ∀ j, j < z → B j < 256 := fun j hj => (h0.2.2.2.2 j (by omega)).2.2
  intro f
  induction f with
  | zero =>
    intro P t _ hf
    exact absurd hf (by omega)
  | succ f ih =>
    intro P t hP hf hT e3
    have h : TB t σ z B := TB_E h0 hT rfl rfl
    unfold C_Reader_skipBlanks_L0
    rw [h.2.1, e3]
    by_cases lt : P < z
    · rw [if_neg (nI_ge lt (by omega)), at_C h (by omega), bnd_some, bnd_some]
      simp only [nm_eq, nI_1]
      have go : blk (B P) → ∃ t' P1, C_Reader_skipBlanks_L0 f K (uS t 5 3 0 (nI (P + 1))) = some t' ∧ ET [(5, 3)] [] [] t0 t' ∧ tS t' 5 3 0 = nI P1 ∧ P ≤ P1 ∧ P1 ≤ z ∧ (∀ j, P ≤ j → j < P1 → blk (B j)) ∧ (P1 < z → ¬ blk (B P1)) := fun hb => by
        obtain ⟨t', P1, g1, g2, g3, g4, g5, g6, g7⟩ := ih (P + 1) (uS t 5 3 0 (nI (P + 1))) (by omega) (by omega) (ET_uS hT (by decide) _ _) (tS_e _ _ _ _ _)
        refine ⟨t', P1, g1, g2, g3, by omega, g5, fun j a b => ?_, g7⟩
        rcases Nat.lt_or_ge P j with y | y
        · exact g6 j y b
        · rw [show j = P by omega]
          exact hb
      by_cases a : pkv z B P = 32
      · rw [if_pos a]
        exact go (Or.inl ((pkv_32 (c := 32) (by omega) hB).mp a).2)
      · rw [if_neg a]
        by_cases b : pkv z B P = 10
        · rw [if_pos b]
          exact go (Or.inr ((pkv_32 (c := 10) (by omega) hB).mp b).2)
        · rw [if_neg b]
          refine ⟨t, P, rfl, hT, e3, Nat.le_refl _, hP, fun j x y => absurd y (by omega), fun hlt hb => ?_⟩
          rcases hb with q | q
          · exact a ((pkv_32 (c := 32) (by omega) hB).mpr ⟨hlt, q⟩)
          · exact b ((pkv_32 (c := 10) (by omega) hB).mpr ⟨hlt, q⟩)
    · rw [if_pos (nI_le (by omega) (by omega))]
      exact ⟨t, P, rfl, hT, e3, Nat.le_refl _, hP, fun j x y => absurd y (by omega), fun q => absurd q lt⟩
theorem sb_uni {z P P1 P2 : Nat} {B : Nat → Nat} (a1 : P ≤ P1) (a2 : P1 ≤ z) (a3 : ∀ j, P ≤ j → j < P1 → blk (B j)) (a4 : P1 < z → ¬ blk (B P1)) (b1 : P ≤ P2) (b2 : P2 ≤ z) (b3 : ∀ j, P ≤ j → j < P2 → blk (B j)) (b4 : P2 < z → ¬ blk (B P2)) : P1 = P2 := by
  rcases Nat.lt_trichotomy P1 P2 with k | k | k
  · exact absurd (b3 P1 a1 k) (a4 (by omega))
  · exact k
  · exact absurd (a3 P2 b1 k) (b4 (by omega))
def isL (b : Nat) : Prop := 97 ≤ b ∧ b ≤ 122
def isD (b : Nat) : Prop := 48 ≤ b ∧ b ≤ 57
theorem let_n {b : Nat} (hb : b < 256) : (M_isSmall (nI b) = some 1 ∧ isL b) ∨ (M_isSmall (nI b) = some 0 ∧ ¬ isL b) := by
  unfold M_isSmall isL
  by_cases a : b < 97
  · rw [if_pos (show nI b < 97 from (nI_ltI (b := 97) (by omega) (by omega)).mpr a)]
    exact Or.inr ⟨rfl, by omega⟩
  · rw [if_neg (show ¬ nI b < 97 from fun z => a ((nI_ltI (b := 97) (by omega) (by omega)).mp z))]
    by_cases c : 122 < b
    · rw [if_pos (show (122 : Int32) < nI b from (nI_ltI (a := 122) (by omega) (by omega)).mpr c)]
      exact Or.inr ⟨rfl, by omega⟩
    · rw [if_neg (show ¬ (122 : Int32) < nI b from fun z => c ((nI_ltI (a := 122) (by omega) (by omega)).mp z))]
      exact Or.inl ⟨rfl, by omega⟩
theorem dig_n {b : Nat} (hb : b < 256) : (M_isDigit (nI b) = some 1 ∧ isD b) ∨ (M_isDigit (nI b) = some 0 ∧ ¬ isD b) := by
  unfold M_isDigit isD
  by_cases a : b < 48
  · rw [if_pos (show nI b < 48 from (nI_ltI (b := 48) (by omega) (by omega)).mpr a)]
    exact Or.inr ⟨rfl, by omega⟩
  · rw [if_neg (show ¬ nI b < 48 from fun z => a ((nI_ltI (b := 48) (by omega) (by omega)).mp z))]
    by_cases c : 57 < b
    · rw [if_pos (show (57 : Int32) < nI b from (nI_ltI (a := 57) (by omega) (by omega)).mpr c)]
      exact Or.inr ⟨rfl, by omega⟩
    · rw [if_neg (show ¬ (57 : Int32) < nI b from fun z => c ((nI_ltI (a := 57) (by omega) (by omega)).mp z))]
      exact Or.inl ⟨rfl, by omega⟩
theorem C_let : C_Reader_isLetter = M_isSmall := rfl
theorem C_dig : C_Reader_isDigit = M_isDigit := rfl
/-- bytes as one number, as the reference packs a word -/
def pk8 (B : Nat → Nat) (P0 : Nat) : Nat → Nat
  | 0 => 0
  | n + 1 => 256 * pk8 B P0 n + B (P0 + n)
theorem pk8_s (B : Nat → Nat) (P0 n : Nat) : pk8 B P0 (n + 1) = 256 * pk8 B P0 n + B (P0 + n) := rfl
theorem pk8_lt {B : Nat → Nat} {P0 : Nat} : ∀ n, (∀ i, i < n → B (P0 + i) < 256) → pk8 B P0 n < 256 ^ n := by
  intro n
  induction n with
  | zero => intro _; show 0 < 1; omega
  | succ n ih =>
    intro h
    have a := ih (fun i hi => h i (by omega))
    have b := h n (by omega)
    rw [pk8_s, Nat.pow_succ]
    omega
def nuI (B : Nat → Nat) (P0 : Nat) : Nat → Int32
  | 0 => 0
  | n + 1 => ((10 * nuI B P0 n) + nI (B (P0 + n))) - 48
theorem nuI_s (B : Nat → Nat) (P0 n : Nat) : nuI B P0 (n + 1) = ((10 * nuI B P0 n) + nI (B (P0 + n))) - 48 := rfl
def cnL (B : Nat → Nat) (P0 : Nat) : Nat → Nat
  | 0 => 0
  | n + 1 => cnL B P0 n + (if 97 ≤ B (P0 + n) ∧ B (P0 + n) ≤ 122 then 1 else 0)
theorem cnL_s (B : Nat → Nat) (P0 n : Nat) : cnL B P0 (n + 1) = cnL B P0 n + (if 97 ≤ B (P0 + n) ∧ B (P0 + n) ≤ 122 then 1 else 0) := rfl
theorem cnL_le (B : Nat → Nat) (P0 : Nat) : ∀ n, cnL B P0 n ≤ n := by
  intro n
  induction n with
  | zero => exact Nat.le_refl 0
  | succ n ih =>
    rw [cnL_s]
    split <;> omega
theorem shl8 {a b : Nat} (ha : a < 256 ^ 6) (hb : b < 256) : (lN a <<< ((8 : Int32).toInt64 &&& 63)) ||| (nI b).toInt64 = lN (256 * a + b) := by
  rw [nI_l (by omega)]
  apply Int64.toBitVec_inj.mp
  rw [Int64.toBitVec_or, Int64.toBitVec_shiftLeft, lN_b, lN_b, lN_b, show (((8 : Int32).toInt64 &&& 63).toBitVec.smod 64) = 8#64 from by decide]
  apply BitVec.eq_of_toNat_eq
  have e6 : (256 : Nat) ^ 6 = 281474976710656 := rfl
  rw [BitVec.toNat_or, show BitVec.ofNat 64 a <<< 8#64 = BitVec.ofNat 64 a <<< 8 from rfl, BitVec.toNat_shiftLeft, BitVec.toNat_ofNat, BitVec.toNat_ofNat, BitVec.toNat_ofNat, Nat.mod_eq_of_lt (show a < 2 ^ 64 by omega), Nat.mod_eq_of_lt (show b < 2 ^ 64 by omega), Nat.shiftLeft_eq, Nat.mod_eq_of_lt (show a * 2 ^ 8 < 2 ^ 64 by omega), Nat.mod_eq_of_lt (show 256 * a + b < 2 ^ 64 by omega), show a * 2 ^ 8 = 2 ^ 8 * a by omega, ← Nat.two_pow_add_eq_or_of_lt (i := 8) (by omega)]
