theorem bnd_some {α β : Type} (q : α) (k : α → Option β) : bnd (some q) k = k q := rfl
theorem bnd2_some {α β γ : Type} (a : α) (b : β) (k : α → β → Option γ) : bnd2 (some (a, b)) k = k a b := rfl
theorem nm_eq {α β : Type} (a : α) (k : α → β) : nm a k = k a := rfl
theorem nm2_eq {α β γ : Type} (a : α) (b : β) (k : α → β → γ) : nm2 (a, b) k = k a b := rfl
theorem opt_none {β : Type} (a : β) (b : Nat → β) : opt none a b = a := rfl
theorem opt_some {β : Type} (n : Nat) (a : β) (b : Nat → β) : opt (some n) a b = b n := rfl
theorem nI_nat {n : Nat} (h : n < 2 ^ 31) : (nI n).toNatClampNeg = n := pk_cl n rfl h
theorem chkI_nI {β : Type} {n N : Nat} {k : Option β} (h : n < N) (hN : N < 2 ^ 31) : chkI (nI n) N k = k := by
  unfold chkI
  rw [nI_nat (Nat.lt_trans h hN), if_pos ⟨nI_pos (Nat.lt_trans h hN), h⟩]
theorem chkP_t {β : Type} {c : Prop} {dc : Decidable c} {k : Option β} (h : c) : @chkP β c dc k = k := if_pos h
theorem chkZ_0 {β : Type} {k : Option β} : chkZ 0 k = k := if_pos (Or.inl rfl)
theorem chkZ_1 {β : Type} {k : Option β} : chkZ 1 k = k := if_pos (Or.inr rfl)
theorem chkZ_t {β : Type} {v : Int32} {k : Option β} (h : v = 0 ∨ v = 1) : chkZ v k = k := if_pos h
theorem lit_nI (n : Nat) : (OfNat.ofNat n : Int32) = nI (OfNat.ofNat n : Nat) := rfl
def nN : Int32 := -1
theorem neg_nN : (-1 : Int32) = nN := rfl
theorem neg_nI1 : -(nI 1) = nN := rfl
theorem nN_ne {n : Nat} (h : n < 2 ^ 31) : (nI n = nN) = False := eq_false (fun e => absurd (congrArg Int32.toInt e) (by rw [nI_toInt h]; show ¬ (n : Int) = -1; omega))
theorem nN_ne' {n : Nat} (h : n < 2 ^ 31) : (nN = nI n) = False := eq_false (fun e => absurd (congrArg Int32.toInt e) (by rw [nI_toInt h]; show ¬ -1 = (n : Int); omega))
theorem nN_lt {n : Nat} (h : n < 2 ^ 31) : (nN < nI n) = True := eq_true (Int32.lt_iff_toInt_lt.mpr (by rw [nI_toInt h]; show -1 < (n : Int); omega))
theorem nN_nlt {n : Nat} (h : n < 2 ^ 31) : (nI n < nN) = False := eq_false (fun e => absurd (Int32.lt_iff_toInt_lt.mp e) (by rw [nI_toInt h]; show ¬ (n : Int) < -1; omega))
theorem nN_le {n : Nat} (h : n < 2 ^ 31) : (nN ≤ nI n) = True := eq_true (Int32.le_iff_toInt_le.mpr (by rw [nI_toInt h]; show -1 ≤ (n : Int); omega))
theorem nN_nle {n : Nat} (h : n < 2 ^ 31) : (nI n ≤ nN) = False := eq_false (fun e => absurd (Int32.le_iff_toInt_le.mp e) (by rw [nI_toInt h]; show ¬ (n : Int) ≤ -1; omega))
theorem ltT {a b : Nat} (h : a < b) : (a < b) = True := eq_true h
theorem ltF {a b : Nat} (h : b ≤ a) : (a < b) = False := eq_false (Nat.not_lt.mpr h)
theorem leT {a b : Nat} (h : a ≤ b) : (a ≤ b) = True := eq_true h
theorem leF {a b : Nat} (h : b < a) : (a ≤ b) = False := eq_false (Nat.not_le.mpr h)
theorem eqT {a b : Nat} (h : a = b) : (a = b) = True := eq_true h
theorem eqF {a b : Nat} (h : a ≠ b) : (a = b) = False := eq_false h
theorem tS_uS (t : TH) (c f i : Nat) (v : Int32) (c' f' i' : Nat) : tS (uS t c f i v) c' f' i' = if c' = c ∧ f' = f ∧ i' = i then v else tS t c' f' i' := by
  unfold tS uS up3 va_up
  by_cases h1 : c' = c <;> by_cases h2 : f' = f <;> by_cases h3 : i' = i <;> simp [h1, h2, h3, tS]
theorem tS_uL (t : TH) (c f i : Nat) (v : Int64) : tS (uL t c f i v) = tS t := rfl
theorem tS_uP (t : TH) (c f i : Nat) (v : Option Nat) : tS (uP t c f i v) = tS t := rfl
theorem tL_uS (t : TH) (c f i : Nat) (v : Int32) : tL (uS t c f i v) = tL t := rfl
theorem tL_uP (t : TH) (c f i : Nat) (v : Option Nat) : tL (uP t c f i v) = tL t := rfl
theorem tP_uS (t : TH) (c f i : Nat) (v : Int32) : tP (uS t c f i v) = tP t := rfl
theorem tP_uL (t : TH) (c f i : Nat) (v : Int64) : tP (uL t c f i v) = tP t := rfl
theorem tN_uS (t : TH) (c f i : Nat) (v : Int32) : tN (uS t c f i v) = tN t := rfl
theorem tN_uL (t : TH) (c f i : Nat) (v : Int64) : tN (uL t c f i v) = tN t := rfl
theorem tN_uP (t : TH) (c f i : Nat) (v : Option Nat) : tN (uP t c f i v) = tN t := rfl
theorem tL_uL (t : TH) (c f i : Nat) (v : Int64) (c' f' i' : Nat) : tL (uL t c f i v) c' f' i' = if c' = c ∧ f' = f ∧ i' = i then v else tL t c' f' i' := by
  unfold tL uL up3 va_up
  by_cases h1 : c' = c <;> by_cases h2 : f' = f <;> by_cases h3 : i' = i <;> simp [h1, h2, h3, tL]
theorem tP_uP (t : TH) (c f i : Nat) (v : Option Nat) (c' f' i' : Nat) : tP (uP t c f i v) c' f' i' = if c' = c ∧ f' = f ∧ i' = i then v else tP t c' f' i' := by
  unfold tP uP up3 va_up
  by_cases h1 : c' = c <;> by_cases h2 : f' = f <;> by_cases h3 : i' = i <;> simp [h1, h2, h3, tP]
theorem s1_1 (σ : St) (k i : Nat) (v : Int32) (k' i' : Nat) : (s1 σ k i v).1 k' i' = if k' = k ∧ i' = i then v else σ.1 k' i' := by
  unfold s1 upd
  by_cases h1 : k' = k <;> by_cases h2 : i' = i <;> simp [h1, h2]
theorem s1_2 (σ : St) (k i : Nat) (v : Int32) : (s1 σ k i v).2 = σ.2 := rfl
theorem s2_1 (σ : St) (k i : Nat) (v : Int64) : (s2 σ k i v).1 = σ.1 := rfl
theorem s2_2 (σ : St) (k i : Nat) (v : Int64) (k' i' : Nat) : (s2 σ k i v).2 k' i' = if k' = k ∧ i' = i then v else σ.2 k' i' := by
  unfold s2 vp_updL
  by_cases h1 : k' = k <;> by_cases h2 : i' = i <;> simp [h1, h2]
def UG : Prop := True
theorem tst1 (k : Nat) (h : k < 30) (σ : St) (v : Int32) : chkI (nI k) 30 (nm (s1 σ 5 (nI k).toNatClampNeg v) (fun z => if (64 : Int32) ≤ nI k then none else if nI k = -1 then none else some (z.1 5 k))) = some v := by
  simp (disch := omega) only [lit_nI, neg_nN, neg_nI1, nI_nat, chkI_nI, bnd_some, bnd2_some, nm_eq, nm2_eq, opt_none, opt_some, nI_add, pk_mul, nI_ltI, nI_leI, nI_eq, nN_ne, nN_ne', nN_lt, nN_nlt, nN_le, nN_nle, ltT, ltF, leT, leF, eqT, eqF, tS_uS, tS_uL, tS_uP, tL_uS, tL_uP, tP_uS, tP_uL, tN_uS, tN_uL, tN_uP, tL_uL, tP_uP, s1_1, s1_2, s2_1, s2_2, and_self, if_true, if_false]
