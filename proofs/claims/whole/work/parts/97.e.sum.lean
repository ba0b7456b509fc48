def iI (z : Int) : Int32 := Int32.ofInt z
theorem iI_n (n : Nat) : iI (n : Int) = nI n := Int32.ofInt_eq_ofNat
theorem iI_add (a b : Int) : iI a + iI b = iI (a + b) := (Int32.ofInt_add a b).symm
theorem iI_sub (a b : Int) : iI a - iI b = iI (a - b) := (Int32.ofInt_sub a b).symm
theorem iI_toInt {z : Int} (h1 : -1000000000 ≤ z) (h2 : z ≤ 1000000000) : (iI z).toInt = z := Int32.toInt_ofInt_of_le (by omega) (by omega)
theorem iI_le {a b : Int} (a1 : -1000000000 ≤ a) (a2 : a ≤ 1000000000) (b1 : -1000000000 ≤ b) (b2 : b ≤ 1000000000) : iI a ≤ iI b ↔ a ≤ b := by
  rw [Int32.le_iff_toInt_le, iI_toInt a1 a2, iI_toInt b1 b2]
theorem iI_eq {a b : Int} (a1 : -1000000000 ≤ a) (a2 : a ≤ 1000000000) (b1 : -1000000000 ≤ b) (b2 : b ≤ 1000000000) : iI a = iI b ↔ a = b := by
  constructor
  · intro h
    have := congrArg Int32.toInt h
    rw [iI_toInt a1 a2, iI_toInt b1 b2] at this
    exact this
  · intro h
    rw [h]
def smI (f : Nat → Int) : Nat → Int
  | 0 => 0
  | n + 1 => smI f n + f n
theorem smI_s (f : Nat → Int) (n : Nat) : smI f (n + 1) = smI f n + f n := rfl
theorem smI_congr {f g : Nat → Int} : ∀ n, (∀ i, i < n → f i = g i) → smI f n = smI g n := by
  intro n
  induction n with
  | zero => intro _; rfl
  | succ n ih =>
    intro h
    rw [smI_s, smI_s, ih (fun i hi => h i (by omega)), h n (by omega)]
theorem smI_le {f g : Nat → Int} : ∀ n, (∀ i, i < n → f i ≤ g i) → smI f n ≤ smI g n := by
  intro n
  induction n with
  | zero => intro _; exact Int.le_refl 0
  | succ n ih =>
    intro h
    rw [smI_s, smI_s]
    have := ih (fun i hi => h i (by omega))
    have := h n (by omega)
    omega
theorem smI_add (f g : Nat → Int) : ∀ n, smI (fun i => f i + g i) n = smI f n + smI g n := by
  intro n
  induction n with
  | zero => rfl
  | succ n ih =>
    rw [smI_s, smI_s, smI_s, ih]
    omega
theorem smI_0 : ∀ n, smI (fun _ => 0) n = 0 := by
  intro n
  induction n with
  | zero => rfl
  | succ n ih => rw [smI_s, ih]; rfl
theorem smI_comm (f : Nat → Nat → Int) (m : Nat) : ∀ n, smI (fun i => smI (fun j => f i j) m) n = smI (fun j => smI (fun i => f i j) n) m := by
  intro n
  induction n with
  | zero =>
    show 0 = smI (fun j => 0) m
    rw [smI_0]
  | succ n ih =>
    rw [smI_s, ih]
    show _ = smI (fun j => smI (fun i => f i j) n + f n j) m
    rw [smI_add]
/-- a sum in which one place alone counts -/
theorem smI_one {f : Nat → Int} {k : Nat} : ∀ n, k < n → (∀ i, i < n → i ≠ k → f i = 0) → smI f n = f k := by
  intro n
  induction n with
  | zero => intro h; exact absurd h (by omega)
  | succ n ih =>
    intro hk h
    rw [smI_s]
    rcases Nat.lt_or_ge k n with g | g
    · rw [ih g (fun i hi => h i (by omega)), h n (by omega) (by omega)]
      omega
    · have : k = n := by omega
      subst this
      rw [smI_congr k (g := fun _ => 0) (fun i hi => h i (by omega) (by omega)), smI_0]
      omega
theorem smI_none {f : Nat → Int} (n : Nat) (h : ∀ i, i < n → f i = 0) : smI f n = 0 := by
  rw [smI_congr n (g := fun _ => 0) h, smI_0]
theorem smI_nonneg {f : Nat → Int} (n : Nat) (h : ∀ i, i < n → 0 ≤ f i) : 0 ≤ smI f n := by
  have := smI_le (f := fun _ => 0) (g := f) n h
  rw [smI_0] at this
  exact this
theorem smI_up {f : Nat → Int} {B : Int} : ∀ n : Nat, (∀ i, i < n → f i ≤ B) → smI f n ≤ n * B := by
  intro n
  induction n with
  | zero => intro _; show (0 : Int) ≤ ((0 : Nat) : Int) * B; simp
  | succ n ih =>
    intro h
    have a := ih (fun i hi => h i (by omega))
    have b := h n (by omega)
    rw [smI_s]
    have e : ((n + 1 : Nat) : Int) * B = n * B + B := by
      rw [Int.natCast_succ, Int.add_mul, Int.one_mul]
    rw [e]
    omega
/-- rows that have each one column: a sum over rows is the sum over columns -/
theorem smI_bijA {R C : Nat} {g : Nat → Nat} {v : Nat → Int} (hg : ∀ r, r < R → g r < C) (hi : ∀ r s, r < R → s < R → g r = g s → r = s) : ∃ w : Nat → Int, smI (fun r => v (g r)) R = smI w C ∧ (∀ c, c < C → (∃ r, r < R ∧ g r = c) → w c = v c) ∧ ∀ c, c < C → (¬ ∃ r, r < R ∧ g r = c) → w c = 0 := by
  have e1 : smI (fun r => v (g r)) R = smI (fun r => smI (fun c => if g r = c then v c else 0) C) R := smI_congr R (fun r hr => by
    rw [smI_one (f := fun c => if g r = c then v c else 0) C (hg r hr) (fun c _ hc => if_neg (fun z => hc z.symm))]
    rw [if_pos rfl])
  refine ⟨fun c => smI (fun r => if g r = c then v c else 0) R, ?_, fun c _ ⟨r, hr, e⟩ => ?_, fun c _ hn => smI_none R (fun r hr => if_neg (fun z => hn ⟨r, hr, z⟩))⟩
  · rw [e1, smI_comm (fun r c => if g r = c then v c else 0) C R]
  · show smI (fun r => if g r = c then v c else 0) R = v c
    rw [smI_one (f := fun r => if g r = c then v c else 0) R hr (fun s hs hne => if_neg (fun z => hne (hi s r hs hr (z.trans e.symm))))]
    rw [if_pos e]
theorem smI_bijL {R C : Nat} {g : Nat → Nat} {v : Nat → Int} (hg : ∀ r, r < R → g r < C) (hi : ∀ r s, r < R → s < R → g r = g s → r = s) (hv : ∀ c, c < C → v c ≤ 0) : smI v C ≤ smI (fun r => v (g r)) R := by
  obtain ⟨w, e, w1, w2⟩ := smI_bijA (v := v) hg hi
  rw [e]
  refine smI_le C (fun c hc => ?_)
  rcases Classical.em (∃ r, r < R ∧ g r = c) with h | h
  · rw [w1 c hc h]
    exact Int.le_refl _
  · rw [w2 c hc h]
    exact hv c hc
theorem smI_bijE {R C : Nat} {g : Nat → Nat} {v : Nat → Int} (hg : ∀ r, r < R → g r < C) (hi : ∀ r s, r < R → s < R → g r = g s → r = s) (hall : ∀ c, c < C → (∃ r, r < R ∧ g r = c) ∨ v c = 0) : smI v C = smI (fun r => v (g r)) R := by
  obtain ⟨w, e, w1, w2⟩ := smI_bijA (v := v) hg hi
  rw [e]
  refine smI_congr C (fun c hc => ?_)
  rcases Classical.em (∃ r, r < R ∧ g r = c) with h | h
  · rw [w1 c hc h]
  · rw [w2 c hc h]
    exact (hall c hc).resolve_left h
theorem php : ∀ (n : Nat) (f : Nat → Nat), (∀ i, i ≤ n → f i < n) → (∀ i j, i ≤ n → j ≤ n → f i = f j → i = j) → False := by
  intro n
  induction n with
  | zero =>
    intro f h _
    exact absurd (h 0 (by omega)) (by omega)
  | succ n ih =>
    intro f h hi
    refine ih (fun i => if f i = n then f (n + 1) else f i) (fun i hin => ?_) (fun i j hin hjn => ?_)
    · show (if f i = n then f (n + 1) else f i) < n
      have a := h i (by omega)
      have b := h (n + 1) (by omega)
      by_cases c : f i = n
      · rw [if_pos c]
        rcases Nat.lt_or_ge (f (n + 1)) n with g | g
        · exact g
        · have := hi i (n + 1) (by omega) (by omega) (by omega)
          omega
      · rw [if_neg c]
        omega
    · show (if f i = n then f (n + 1) else f i) = (if f j = n then f (n + 1) else f j) → i = j
      by_cases c : f i = n <;> by_cases c' : f j = n
      · intro _
        exact hi i j (by omega) (by omega) (by omega)
      · rw [if_pos c, if_neg c']
        intro e
        have := hi (n + 1) j (by omega) (by omega) e
        omega
      · rw [if_neg c, if_pos c']
        intro e
        have := hi i (n + 1) (by omega) (by omega) e
        omega
      · rw [if_neg c, if_neg c']
        exact hi i j (by omega) (by omega)
/-- a state that is another one but for some rows -/
def Fx (S : List Nat) (σ τ : St) : Prop := (∀ k, k ∉ S → τ.1 k = σ.1 k) ∧ τ.2 = σ.2
theorem Fx_rf (S : List Nat) (σ : St) : Fx S σ σ := ⟨fun _ _ => rfl, rfl⟩
theorem Fx_tr {S : List Nat} {σ τ υ : St} (h : Fx S σ τ) (h' : Fx S τ υ) : Fx S σ υ := ⟨fun k hk => (h'.1 k hk).trans (h.1 k hk), h'.2.trans h.2⟩
theorem Fx_mono {S S' : List Nat} {σ τ : St} (h : Fx S σ τ) (hs : ∀ k, k ∈ S → k ∈ S') : Fx S' σ τ := ⟨fun k hk => h.1 k (fun z => hk (hs k z)), h.2⟩
theorem Fx_s1 {S : List Nat} {σ τ : St} (h : Fx S σ τ) {k : Nat} (hk : k ∈ S) (i : Nat) (v : Int32) : Fx S σ (s1 τ k i v) := ⟨fun j hj => by
  have : j ≠ k := fun z => hj (z ▸ hk)
  show (if j = k then upd (τ.1 k) i v else τ.1 j) = σ.1 j
  rw [if_neg this]
  exact h.1 j hj, h.2⟩
theorem s1_self (σ : St) (k i : Nat) (v : Int32) (j : Nat) : (s1 σ k i v).1 k j = if j = i then v else σ.1 k j := by
  show (if k = k then upd (σ.1 k) i v else σ.1 k) j = _
  rw [if_pos rfl]
  rfl
theorem s1_oth (σ : St) (k i : Nat) (v : Int32) {k' : Nat} (h : k' ≠ k) : (s1 σ k i v).1 k' = σ.1 k' := if_neg h
