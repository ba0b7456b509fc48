/-- some of the people have each a quarter (64 and more: none) -/
def PM (B : Nat → Nat → Nat) (R : Nat) (m : Nat → Nat) : Prop := (∀ k, k < R → m k < 64 → 0 < B k (m k)) ∧ ∀ i j, i < R → j < R → m i = m j → m i < 64 → i = j
def val (B : Nat → Nat → Nat) (R : Nat) (m : Nat → Nat) : Int := smI (fun k => if m k < 64 then (B k (m k) : Int) else 0) R
theorem pm_free {g : Nat → Nat} {j : Nat} (hj : j ≤ 7) : ∃ c, 64 ≤ c ∧ c < 72 ∧ ∀ i, i < j → g i ≠ c := by
  refine Classical.byContradiction (fun hn => ?_)
  have ex : ∀ i, ∃ r, i ≤ 7 → (r < j ∧ g r = 64 + i) := fun i => by
    rcases Nat.lt_or_ge 7 i with k | k
    · exact ⟨0, fun z => absurd z (by omega)⟩
    · refine Classical.byContradiction (fun hr => hn ⟨64 + i, by omega, by omega, fun r hrj e => hr ⟨r, fun _ => ⟨hrj, e⟩⟩⟩)
  obtain ⟨f, hf⟩ := Classical.axiomOfChoice ex
  refine php 7 f (fun i hi => ?_) (fun i k hi hk e => ?_)
  · have := (hf i hi).1
    omega
  · have a := (hf i hi).2
    have b := (hf k hk).2
    rw [e] at a
    omega
theorem pm_fill {B : Nat → Nat → Nat} {R k : Nat} {m C : Nat → Nat} (hR : R ≤ 8) (hk : k ≤ R) (hm : PM B R m) (hC : ij R C) (hp : ∀ j, j < k → (m j < 64 → C j = m j) ∧ (64 ≤ m j → 64 ≤ C j)) :
    ∀ i j, j = k + i → j ≤ R → ∃ g : Nat → Nat, (∀ r, r < j → g r < 72) ∧ (∀ r s, r < j → s < j → g r = g s → r = s) ∧ (∀ r, r < k → g r = C r) ∧ ∀ r, r < j → (m r < 64 → g r = m r) ∧ (64 ≤ m r → 64 ≤ g r) := by
  intro i
  induction i with
  | zero =>
    intro j hj hjR
    have : j = k := hj
    subst this
    exact ⟨C, fun r hr => hC.1 r (by omega), fun r s hr hs => hC.2 r s (by omega) (by omega), fun _ _ => rfl, hp⟩
  | succ i ih =>
    intro j hj hjR
    obtain ⟨g, g1, g2, g3, g4⟩ := ih (k + i) rfl (by omega)
    obtain ⟨a, ha⟩ : ∃ a, a = k + i := ⟨_, rfl⟩
    rw [← ha] at g1 g2 g4
    have eja : j = a + 1 := by omega
    subst eja
    have key : ∃ c, c < 72 ∧ (∀ r, r < a → g r ≠ c) ∧ (m a < 64 → c = m a) ∧ (64 ≤ m a → 64 ≤ c) := by
      rcases Nat.lt_or_ge (m a) 64 with q | q
      · refine ⟨m a, by omega, fun r hr e => ?_, fun _ => rfl, fun z => absurd z (by omega)⟩
        rcases Nat.lt_or_ge (m r) 64 with w | w
        · rw [(g4 r hr).1 w] at e
          have := hm.2 r a (by omega) (by omega) e w
          omega
        · have := (g4 r hr).2 w
          omega
      · obtain ⟨c, c1, c2, c3⟩ := pm_free (g := g) (j := a) (by omega)
        exact ⟨c, c2, c3, fun z => absurd z (by omega), fun _ => c1⟩
    obtain ⟨c, c1, c2, c3, c4⟩ := key
    refine ⟨fun r => if r = a then c else g r, fun r hr => ?_, fun r s hr hs => ?_, fun r hr => ?_, fun r hr => ?_⟩
    · show (if r = a then c else g r) < 72
      by_cases w : r = a
      · rw [if_pos w]
        exact c1
      · rw [if_neg w]
        exact g1 r (by omega)
    · show (if r = a then c else g r) = (if s = a then c else g s) → r = s
      by_cases w : r = a <;> by_cases w' : s = a
      · intro _
        omega
      · rw [if_pos w, if_neg w']
        intro e
        exact absurd e.symm (c2 s (by omega))
      · rw [if_neg w, if_pos w']
        intro e
        exact absurd e (c2 r (by omega))
      · rw [if_neg w, if_neg w']
        exact g2 r s (by omega) (by omega)
    · show (if r = a then c else g r) = C r
      rw [if_neg (by omega)]
      exact g3 r hr
    · show (m r < 64 → (if r = a then c else g r) = m r) ∧ (64 ≤ m r → 64 ≤ (if r = a then c else g r))
      by_cases w : r = a
      · rw [if_pos w, w]
        exact ⟨c3, c4⟩
      · rw [if_neg w]
        exact g4 r (by omega)
theorem smI_k (f : Nat → Int) (K : Int) : ∀ n : Nat, smI (fun i => K - f i) n = n * K - smI f n := by
  intro n
  induction n with
  | zero => show (0 : Int) = ((0 : Nat) : Int) * K - 0; simp
  | succ n ih =>
    rw [smI_s, smI_s, ih, Int.natCast_succ, Int.add_mul, Int.one_mul]
    omega
theorem pm_cost {B : Nat → Nat → Nat} {R : Nat} {m g : Nat → Nat} (hm : PM B R m) (hg : ∀ r, r < R → (m r < 64 → g r = m r) ∧ (64 ≤ m r → 64 ≤ g r)) : cost B R g = R * 255 - val B R m := by
  unfold cost val
  rw [← smI_k]
  refine smI_congr R (fun r hr => ?_)
  show cst B r (g r) = 255 - (if m r < 64 then (B r (m r) : Int) else 0)
  unfold cst
  rcases Nat.lt_or_ge (m r) 64 with w | w
  · rw [(hg r hr).1 w, if_pos w, if_pos w, if_pos (hm.1 r hr w)]
  · have := (hg r hr).2 w
    rw [if_neg (by omega), if_neg (by omega)]
    omega
theorem pm_best {B : Nat → Nat → Nat} {R : Nat} {best : Int} {C : Nat → Nat} (hR : R ≤ 8) (hB : ∀ r c, r < R → B r c < 256) (b1 : best ≤ 255 * R) (hC : ij R C) (hCb : cost B R C = best) (hb : ∀ g, ij R g → best ≤ cost B R g) (hl : ∀ g, ij R g → cost B R g = best → ∀ k, k < R → (∀ j, j < k → g j = C j) → C k ≤ g k) :
    PM B R C ∧ val B R C = 255 * R - best ∧ ∀ m, PM B R m → val B R m ≤ 255 * R - best ∧ (val B R m = 255 * R - best → ∀ k, k < R → (∀ j, j < k → (m j < 64 → C j = m j) ∧ (64 ≤ m j → 64 ≤ C j)) → m k < 64 → C k ≤ m k) := by
  have pc : PM B R C := by
    refine ⟨fun k hk h64 => ?_, fun i j hi hj e _ => hC.2 i j hi hj e⟩
    rcases Nat.eq_zero_or_pos (B k (C k)) with z | z
    · have q : cst B k (C k) ≤ cost B R C := smI_term R (fun i hi => (cst_bd (hB i (C i) hi)).1) k hk
      have : cst B k (C k) = 1000000 := by
        unfold cst
        rw [if_pos h64, if_neg (by omega)]
      omega
    · exact z
  refine ⟨pc, ?_, fun m hm => ?_⟩
  · have := pm_cost pc (g := C) (fun r _ => ⟨fun _ => rfl, fun z => z⟩)
    omega
  · constructor
    · obtain ⟨g, g1, g2, g3, g4⟩ := pm_fill hR (Nat.zero_le R) hm hC (fun j hj => absurd hj (by omega)) R R (by omega) (Nat.le_refl _)
      have a := hb g ⟨g1, g2⟩
      have b := pm_cost hm g4
      omega
    · intro hv k hk hp h64
      obtain ⟨g, g1, g2, g3, g4⟩ := pm_fill hR (Nat.le_of_lt hk) hm hC hp (R - k) R (by omega) (Nat.le_refl _)
      have b := pm_cost hm g4
      have := hl g ⟨g1, g2⟩ (by omega) k hk g3
      rw [(g4 k hk).1 h64] at this
      exact this
def smN (f : Nat → Nat) : Nat → Nat
  | 0 => 0
  | n + 1 => smN f n + f n
theorem smN_s (f : Nat → Nat) (n : Nat) : smN f (n + 1) = smN f n + f n := rfl
theorem smN_congr {f g : Nat → Nat} : ∀ n, (∀ i, i < n → f i = g i) → smN f n = smN g n := by
  intro n
  induction n with
  | zero => intro _; rfl
  | succ n ih =>
    intro h
    rw [smN_s, smN_s, ih (fun i hi => h i (by omega)), h n (by omega)]
theorem smN_I {f : Nat → Nat} : ∀ n, (smN f n : Int) = smI (fun i => (f i : Int)) n := by
  intro n
  induction n with
  | zero => rfl
  | succ n ih =>
    rw [smN_s, smI_s, ← ih]
    exact Int.natCast_add _ _
theorem smN_up {f g : Nat → Nat} {p : Nat} : ∀ n, p < n → (∀ i, i < n → i ≠ p → f i = g i) → smN f n + g p = smN g n + f p := by
  intro n
  induction n with
  | zero => intro h; exact absurd h (by omega)
  | succ n ih =>
    intro h hi
    rw [smN_s, smN_s]
    rcases Nat.lt_or_ge p n with k | k
    · have a := ih k (fun i hi' => hi i (by omega))
      have b := hi n (by omega) (by omega)
      omega
    · have : p = n := by omega
      subst this
      have := smN_congr p (fun i hi' => hi i (by omega) (by omega))
      omega
theorem smN_le {f : Nat → Nat} {B : Nat} : ∀ n, (∀ i, i < n → f i ≤ B) → smN f n ≤ n * B := by
  intro n
  induction n with
  | zero => intro _; show 0 ≤ 0 * B; omega
  | succ n ih =>
    intro h
    have a := ih (fun i hi => h i (by omega))
    have b := h n (by omega)
    rw [smN_s, Nat.succ_mul]
    omega
/-- a number of digits to the base 13 -/
def nmb (d : Nat → Nat) : Nat → Nat
  | 0 => 0
  | k + 1 => 13 * nmb d k + d k
theorem nmb_lt {d : Nat → Nat} : ∀ n, (∀ i, i < n → d i < 13) → nmb d n < 13 ^ n := by
  intro n
  induction n with
  | zero => intro _; show 0 < 1; omega
  | succ n ih =>
    intro h
    have a := ih (fun i hi => h i (by omega))
    have b := h n (by omega)
    show 13 * nmb d n + d n < 13 ^ (n + 1)
    rw [Nat.pow_succ]
    omega
theorem nmb_lex {a b : Nat → Nat} : ∀ n, (∀ i, i < n → a i < 13 ∧ b i < 13) → (∀ k, k < n → (∀ j, j < k → a j = b j) → a k ≤ b k) → nmb a n < nmb b n ∨ (nmb a n = nmb b n ∧ ∀ j, j < n → a j = b j) := by
  intro n
  induction n with
  | zero => intro _ _; exact Or.inr ⟨rfl, fun j hj => absurd hj (by omega)⟩
  | succ n ih =>
    intro h hl
    have hn := h n (by omega)
    show 13 * nmb a n + a n < 13 * nmb b n + b n ∨ _
    rcases ih (fun i hi => h i (by omega)) (fun k hk => hl k (by omega)) with q | ⟨q1, q2⟩
    · left
      omega
    · have := hl n (by omega) q2
      rcases Nat.lt_or_ge (a n) (b n) with w | w
      · left
        omega
      · right
        refine ⟨?_, fun j hj => ?_⟩
        · show 13 * nmb a n + a n = 13 * nmb b n + b n
          omega
        · rcases Nat.lt_or_ge j n with y | y
          · exact q2 j y
          · rw [show j = n by omega]
            omega
theorem nmb_8 (d : Nat → Nat) : smN (fun p => d p * 13 ^ (7 - p)) 8 = nmb d 8 := by
  simp only [smN, nmb]
  omega
