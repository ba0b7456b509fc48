theorem uR_S (t : TH) (c j : Nat) (f : Nat → Int32) (n : Nat) {c' : Nat} (h : c' ≠ c) : tS (uRow t c j f n) c' = tS t c' := if_neg h
theorem uR_Sj (t : TH) (c j : Nat) (f : Nat → Int32) (n : Nat) {j' : Nat} (h : j' ≠ j) : tS (uRow t c j f n) c j' = tS t c j' := by
  show (if c = c then va_up (tS t c) j f else tS t c) j' = tS t c j'
  rw [if_pos rfl]
  exact va_up_ne _ _ h
theorem uR_Se (t : TH) (c j : Nat) (f : Nat → Int32) (n : Nat) : tS (uRow t c j f n) c j = f := by
  show (if c = c then va_up (tS t c) j f else tS t c) j = f
  rw [if_pos rfl]
  exact va_up_self _ _ _
theorem uR_N (t : TH) (c j : Nat) (f : Nat → Int32) (n : Nat) {c' : Nat} (h : c' ≠ c) : tN (uRow t c j f n) c' = tN t c' := if_neg h
theorem uR_Nj (t : TH) (c j : Nat) (f : Nat → Int32) (n : Nat) {j' : Nat} (h : j' ≠ j) : tN (uRow t c j f n) c j' = tN t c j' := by
  show (if c = c then va_up (tN t c) j n else tN t c) j' = tN t c j'
  rw [if_pos rfl]
  exact va_up_ne _ _ h
theorem uR_Ne (t : TH) (c j : Nat) (f : Nat → Int32) (n : Nat) : tN (uRow t c j f n) c j = n := by
  show (if c = c then va_up (tN t c) j n else tN t c) j = n
  rw [if_pos rfl]
  exact va_up_self _ _ _
theorem uR_P (t : TH) (c j : Nat) (f : Nat → Int32) (n : Nat) : tP (uRow t c j f n) = tP t := Eq.trans rfl rfl
theorem uR_L (t : TH) (c j : Nat) (f : Nat → Int32) (n : Nat) : tL (uRow t c j f n) = tL t := Eq.trans rfl rfl
def peT (t : TH) (n : Nat) (x2 x3 x4 rw cl : Int32) (z : Nat) (kf : Nat → Int32) : TH := uS (uS (uP (uS (mkPers t n x2 x3 x4 rw cl z kf) 7 0 n (nI n)) 15 1 n (some n)) 6 1 0 (nI (n + 1))) 9 1 0 0
theorem pe_n (t : TH) (n : Nat) (x2 x3 x4 rw cl : Int32) (z : Nat) (kf : Nat → Int32) : (tS (peT t n x2 x3 x4 rw cl z kf) 7 0 n = nI n ∧ tS (peT t n x2 x3 x4 rw cl z kf) 7 1 n = x2 ∧ tS (peT t n x2 x3 x4 rw cl z kf) 7 2 n = x3 ∧ tS (peT t n x2 x3 x4 rw cl z kf) 7 3 n = x4 ∧ tS (peT t n x2 x3 x4 rw cl z kf) 7 6 n = rw ∧ tS (peT t n x2 x3 x4 rw cl z kf) 7 7 n = cl ∧ tS (peT t n x2 x3 x4 rw cl z kf) 7 8 n = -1 ∧ tS (peT t n x2 x3 x4 rw cl z kf) 7 9 n = 0 ∧ tS (peT t n x2 x3 x4 rw cl z kf) 7 10 n = -1 ∧ tS (peT t n x2 x3 x4 rw cl z kf) 7 11 n = -1 ∧ tS (peT t n x2 x3 x4 rw cl z kf) 7 13 n = -1 ∧ tS (peT t n x2 x3 x4 rw cl z kf) 7 14 n = -1) ∧ (tL (peT t n x2 x3 x4 rw cl z kf) 7 12 n = 0 ∧ tP (peT t n x2 x3 x4 rw cl z kf) 15 1 n = some n ∧ tS (peT t n x2 x3 x4 rw cl z kf) 17 n = kf ∧ tS (peT t n x2 x3 x4 rw cl z kf) 18 n = (fun _ => 0) ∧ tN (peT t n x2 x3 x4 rw cl z kf) 17 n = z ∧ tN (peT t n x2 x3 x4 rw cl z kf) 18 n = z ∧ tS (peT t n x2 x3 x4 rw cl z kf) 6 1 0 = nI (n + 1) ∧ tS (peT t n x2 x3 x4 rw cl z kf) 9 1 0 = 0) := by
  unfold peT mkPers mkPers0
  simp (disch := decide) only [tS_c, tS_f, tS_e, tS_i, xSP, xSL, tP_c, tP_f, tP_e, tP_i, xPS, xPL, tL_c, tL_f, tL_e, tL_i, xLS, xLP, xNS, xNL, xNP, uR_S, uR_Se, uR_N, uR_Ne, uR_P, uR_L, and_self]
theorem pe_o (t : TH) (n : Nat) (x2 x3 x4 rw cl : Int32) (z : Nat) (kf : Nat → Int32) (k : Nat) (h : k ≠ n) : (tS (peT t n x2 x3 x4 rw cl z kf) 7 0 k = tS t 7 0 k ∧ tS (peT t n x2 x3 x4 rw cl z kf) 7 1 k = tS t 7 1 k ∧ tS (peT t n x2 x3 x4 rw cl z kf) 7 2 k = tS t 7 2 k ∧ tS (peT t n x2 x3 x4 rw cl z kf) 7 3 k = tS t 7 3 k ∧ tS (peT t n x2 x3 x4 rw cl z kf) 7 6 k = tS t 7 6 k ∧ tS (peT t n x2 x3 x4 rw cl z kf) 7 7 k = tS t 7 7 k ∧ tS (peT t n x2 x3 x4 rw cl z kf) 7 8 k = tS t 7 8 k ∧ tS (peT t n x2 x3 x4 rw cl z kf) 7 9 k = tS t 7 9 k ∧ tS (peT t n x2 x3 x4 rw cl z kf) 7 10 k = tS t 7 10 k ∧ tS (peT t n x2 x3 x4 rw cl z kf) 7 11 k = tS t 7 11 k ∧ tS (peT t n x2 x3 x4 rw cl z kf) 7 13 k = tS t 7 13 k ∧ tS (peT t n x2 x3 x4 rw cl z kf) 7 14 k = tS t 7 14 k) ∧ (tL (peT t n x2 x3 x4 rw cl z kf) 7 12 k = tL t 7 12 k ∧ tP (peT t n x2 x3 x4 rw cl z kf) 15 1 k = tP t 15 1 k ∧ tS (peT t n x2 x3 x4 rw cl z kf) 17 k = tS t 17 k ∧ tS (peT t n x2 x3 x4 rw cl z kf) 18 k = tS t 18 k ∧ tN (peT t n x2 x3 x4 rw cl z kf) 17 k = tN t 17 k ∧ tN (peT t n x2 x3 x4 rw cl z kf) 18 k = tN t 18 k) := by
  unfold peT mkPers mkPers0
  simp (disch := first | decide | assumption) only [tS_c, tS_f, tS_e, tS_i, xSP, xSL, tP_c, tP_f, tP_e, tP_i, xPS, xPL, tL_c, tL_f, tL_e, tL_i, xLS, xLP, xNS, xNL, xNP, uR_S, uR_Sj, uR_N, uR_Nj, uR_P, uR_L, and_self]
theorem pe_c (t : TH) (n : Nat) (x2 x3 x4 rw cl : Int32) (z : Nat) (kf : Nat → Int32) (c : Nat) (h6 : c ≠ 6) (h7 : c ≠ 7) (h9 : c ≠ 9) (h15 : c ≠ 15) (h17 : c ≠ 17) (h18 : c ≠ 18) : tS (peT t n x2 x3 x4 rw cl z kf) c = tS t c ∧ tP (peT t n x2 x3 x4 rw cl z kf) c = tP t c ∧ tN (peT t n x2 x3 x4 rw cl z kf) c = tN t c := by
  unfold peT mkPers mkPers0
  simp (disch := first | decide | assumption) only [tS_c, tS_f, tS_e, tS_i, xSP, xSL, tP_c, tP_f, tP_e, tP_i, xPS, xPL, tL_c, tL_f, tL_e, tL_i, xLS, xLP, xNS, xNL, xNP, uR_S, uR_N, uR_P, uR_L, and_self]
theorem pe_15 (t : TH) (n : Nat) (x2 x3 x4 rw cl : Int32) (z : Nat) (kf : Nat → Int32) (j : Nat) (h : j ≠ 1) : tP (peT t n x2 x3 x4 rw cl z kf) 15 j = tP t 15 j ∧ tN (peT t n x2 x3 x4 rw cl z kf) 15 = tN t 15 := by
  unfold peT mkPers mkPers0
  simp (disch := first | decide | assumption) only [tS_c, tS_f, tS_e, tS_i, xSP, xSL, tP_c, tP_f, tP_e, tP_i, xPS, xPL, tL_c, tL_f, tL_e, tL_i, xLS, xLP, xNS, xNL, xNP, uR_S, uR_N, uR_P, uR_L, and_self]
theorem pers_M {t : TH} {σ0 : St} {n z : Nat} (hn : n < 30) (hz : z ≤ 12) (h3 : σ0.1 3 0 = nI z) (h20 : σ0.1 20 0 = nI n) (hu : ∀ j, j < 200 → tS t 13 0 j = σ0.1 1 j &&& 255 ∧ -128 ≤ (σ0.1 1 j).toInt ∧ (σ0.1 1 j).toInt < 128) (x1 x2 x3 x4 : Int32) :
    ∀ (f i : Nat) (σ : St) (mask : Int64), i ≤ z → z < f + i → Fx [16] σ0 σ → (∀ x, x < 12 * n → σ.1 16 x = σ0.1 16 x) → (∀ j, j < i → σ.1 16 (12 * n + j) = tS t 13 0 j) → gd (tS t 13 0) 64 i → (∀ q, q < 64 → (mask.toBitVec.getLsbD q = true ↔ ∃ j, j < i ∧ tS t 13 0 j = nI q)) →
      (gd (tS t 13 0) 64 z ∧ ∃ σ' a b, M_person_L82 f σ (nI i) mask x1 x2 x3 x4 = some (1, σ', a, b, 0) ∧ Fx [16] σ0 σ' ∧ (∀ x, x < 12 * n → σ'.1 16 x = σ0.1 16 x) ∧ ∀ j, j < z → σ'.1 16 (12 * n + j) = tS t 13 0 j) ∨
      (¬ gd (tS t 13 0) 64 z ∧ ∃ σ' a b, M_person_L82 f σ (nI i) mask x1 x2 x3 x4 = some (0, σ', a, b, -1) ∧ Fx [16] σ0 σ' ∧ ∀ x, x < 12 * n → σ'.1 16 x = σ0.1 16 x) := by
  intro f
  induction f with
  | zero =>
    intro i σ mask _ h
    exact absurd h (by omega)
  | succ f ih =>
    intro i σ mask hi hf hF h16 h16' hg hm
    unfold M_person_L82
    rw [hF.1 3 (by decide), h3]
    rcases Nat.lt_or_ge i z with k | k
    · rw [if_neg (nI_ge k (by omega)), nI_nat (show i < 2 ^ 31 by omega), hF.1 1 (by decide), hF.1 20 (by decide), h20]
      simp only [chkI_nI (show i < 200 by omega) (show 200 < 2 ^ 31 by omega)]
      obtain ⟨u1, u2, u3⟩ := hu i (by omega)
      have nog : (∀ q, q < 64 → tS t 13 0 i ≠ nI q) → ¬ gd (tS t 13 0) 64 z := fun hq g => by
        obtain ⟨q, q1, q2⟩ := gd_lt g k
        exact hq q q1 q2
      rcases tb_cases u1 u2 u3 with ⟨w, w1, w2, w3⟩ | ⟨w0, w, w1, w2, w3⟩
      · rw [w2]
        rcases Nat.lt_or_ge w 64 with y | y
        · have eq : M_isQuarter (nI w) = some 1 := by
            unfold M_isQuarter
            rw [if_neg (nI_pos (show w < 2 ^ 31 by omega)), if_neg (show ¬ (64 : Int32) ≤ nI w from fun z => by have := (nI_leI (a := 64) (by omega) (by omega)).mp z; omega)]
          rw [eq, bnd_some, if_neg (show ¬ (1 : Int32) = 0 by decide)]
          by_cases hb : mask.toBitVec.getLsbD w = true
          · right
            rw [if_pos (by rw [cmpM1 mask y]; exact hb)]
            refine ⟨fun g => ?_, σ, _, _, rfl, hF, h16⟩
            obtain ⟨j, hj, ej⟩ := (hm w y).mp hb
            have := gd_ne g (show j < z by omega) k (ej.trans w3.symm)
            omega
          · rw [if_neg (by rw [cmpM1 mask y]; exact hb), nm_eq, show (12 : Int32) = nI 12 from rfl, pk_mul, nI_add, chkI_nI (show 12 * n + i < 360 by omega) (by omega), nm_eq, nm_eq, nI_nat (show 12 * n + i < 2 ^ 31 by omega), nI_1]
            refine ih (i + 1) _ _ (by omega) (by omega) (Fx_s1 hF (by decide) _ _) (fun x hx => ?_) (fun j hj => ?_) ⟨hg, ⟨w, y, w3⟩, fun j hj e => hb ((hm w y).mpr ⟨j, hj, e.trans w3⟩)⟩ (fun q hq => ?_)
            · rw [s1_i _ _ _ _ (by omega)]
              exact h16 x hx
            · by_cases e : j = i
              · rw [e, s1_e, w3]
              · rw [s1_i _ _ _ _ (by omega)]
                exact h16' j (by omega)
            · rw [show (1 : Int64) <<< ((nI w).toInt64 &&& 63) = (1 : Int64) <<< ((nI w).toInt64 &&& 63) from rfl, bSet mask y, Bool.or_eq_true, decide_eq_true_eq, hm q hq]
              constructor
              · rintro (⟨j, hj, ej⟩ | rfl)
                · exact ⟨j, by omega, ej⟩
                · exact ⟨i, by omega, w3⟩
              · rintro ⟨j, hj, ej⟩
                rcases Nat.lt_or_ge j i with g | g
                · exact Or.inl ⟨j, g, ej⟩
                · right
                  have : j = i := by omega
                  subst this
                  exact (nI_eq (by omega) (by omega)).mp (ej.symm.trans w3)
        · right
          have eq : M_isQuarter (nI w) = some 0 := by
            unfold M_isQuarter
            rw [if_neg (nI_pos (show w < 2 ^ 31 by omega)), if_pos (show (64 : Int32) ≤ nI w from (nI_leI (a := 64) (by omega) (by omega)).mpr y)]
          rw [eq, bnd_some, if_pos rfl]
          refine ⟨nog (fun q hq e => ?_), σ, _, _, rfl, hF, h16⟩
          have := (nI_eq (by omega) (by omega)).mp (w3.symm.trans e)
          omega
      · right
        have eq : M_isQuarter (σ0.1 1 i) = some 0 := by
          unfold M_isQuarter
          rw [if_pos w0]
        rw [eq, bnd_some, if_pos rfl]
        refine ⟨nog (fun q hq e => ?_), σ, _, _, rfl, hF, h16⟩
        have := (nI_eq (by omega) (by omega)).mp (w3.symm.trans e)
        omega
    · left
      rw [if_pos (nI_le k (by omega))]
      have : i = z := by omega
      subst this
      exact ⟨hg, σ, _, _, rfl, hF, h16, h16'⟩
