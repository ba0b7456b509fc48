/-- the step: what is done so far gains and loses -/
def UpS (σ0 σ : St) (D : List Nat) (p : Nat → Nat) (u u' v ls : Nat → Int) (δ : Int) (c : Nat) : Prop := Fx [54, 55, 58] σ0 σ ∧ (∀ r, r ≤ 8 → σ.1 54 r = iI (u' r)) ∧ (∀ r, (∃ j, j < c ∧ j ∈ D ∧ p j = r) → u' r = u r + δ) ∧ (∀ r, (¬ ∃ j, j < c ∧ j ∈ D ∧ p j = r) → u' r = u r) ∧ (∀ j, 1 ≤ j → j ≤ 72 → σ.1 55 j = iI (if j < c ∧ j ∈ D then v j - δ else v j)) ∧ ∀ j, 1 ≤ j → j ≤ 72 → σ.1 58 j = iI (if j < c ∧ j ∉ D then ls j - δ else ls j)
theorem ifc {P Q : Prop} {dP : Decidable P} {dQ : Decidable Q} {α : Type} {a b : α} (h : P ↔ Q) : (if P then a else b) = (if Q then a else b) := by
  by_cases q : P
  · rw [if_pos q, if_pos (h.mp q)]
  · rw [if_neg q, if_neg (fun z => q (h.mpr z))]
theorem upd_L {σ0 : St} {D : List Nat} {p : Nat → Nat} {u v ls : Nat → Int} {δ : Int} (hp : ∀ c, c ≤ 72 → σ0.1 56 c = nI (p c)) (hp8 : ∀ c, c ≤ 72 → p c ≤ 8) (hd : ∀ c, c ≤ 72 → σ0.1 60 c = if c ∈ D then 1 else 0) (hi : ∀ i j, i ∈ D → j ∈ D → p i = p j → i = j) (x1 x2 x3 x4 : Int32) :
    ∀ (f c : Nat) (σ : St) (u' : Nat → Int), c ≤ 73 → 73 < f + c → UpS σ0 σ D p u u' v ls δ c →
      ∃ σ' u'' x, M_enter_L194 f σ (nI c) (iI δ) x4 x3 x2 x1 = some (σ', x) ∧ UpS σ0 σ' D p u u'' v ls δ 73 := by
  intro f
  induction f with
  | zero =>
    intro c σ u' h1 h2
    exact absurd h2 (by omega)
  | succ f ih =>
    intro c σ u' hc2 hf hS
    unfold M_enter_L194
    rcases Nat.lt_or_ge 72 c with hc | hc
    · have : c = 73 := by omega
      subst this
      rw [if_pos (show (72 : Int32) < nI 73 by decide)]
      exact ⟨σ, u', _, rfl, hS⟩
    · obtain ⟨s1', s2', s3', s4', s5', s6'⟩ := hS
      rw [if_neg (show ¬ (72 : Int32) < nI c from fun z => by have := (nI_ltI (a := 72) (by omega) (by omega)).mp z; omega), chkI_nI (show c < 73 by omega) (by omega), nI_nat (show c < 2 ^ 31 by omega), s1'.1 60 (by decide), hd c hc]
      simp only [nm_eq, nI_1, chkI_nI (show c < 73 by omega) (show 73 < 2 ^ 31 by omega)]
      by_cases cD : c ∈ D
      · rw [if_pos cD, if_neg (show ¬ (1 : Int32) = 0 by decide), s1'.1 56 (by decide), hp c hc]
        have h8 := hp8 c hc
        simp only [chkI_nI (show p c < 9 by omega) (show 9 < 2 ^ 31 by omega), nI_nat (show p c < 2 ^ 31 by omega)]
        have eu : u' (p c) = u (p c) := s4' (p c) (fun ⟨j, j1, j2, j3⟩ => by
          have := hi j c j2 cD j3
          omega)
        rw [s2' (p c) h8, eu, iI_add]
        refine ih (c + 1) _ (fun r => if r = p c then u (p c) + δ else u' r) (by omega) (by omega) ⟨Fx_s1 (Fx_s1 s1' (by decide) _ _) (by decide) _ _, fun r hr => ?_, fun r hr => ?_, fun r hr => ?_, fun j h1 h2 => ?_, fun j h1 h2 => ?_⟩
        · rw [s1_oth _ _ _ _ (show 54 ≠ 55 by decide), s1_self]
          by_cases k : r = p c
          · simp only [k, if_true]
          · simp only [k, if_false]
            exact s2' r hr
        · by_cases k : r = p c
          · simp only [k, if_true]
          · simp only [k, if_false]
            obtain ⟨j, j1, j2, j3⟩ := hr
            refine s3' r ⟨j, ?_, j2, j3⟩
            rcases Nat.lt_or_ge j c with g | g
            · exact g
            · exact absurd (show r = p c by rw [← j3, show j = c by omega]) k
        · by_cases k : r = p c
          · exact absurd ⟨c, by omega, cD, k.symm⟩ hr
          · simp only [k, if_false]
            exact s4' r (fun ⟨j, j1, j2, j3⟩ => hr ⟨j, by omega, j2, j3⟩)
        · rw [s1_self, s1_oth _ _ _ _ (show 55 ≠ 54 by decide)]
          by_cases k : j = c
          · subst k
            rw [if_pos rfl, s5' j h1 h2, if_neg (fun z => absurd z.1 (Nat.lt_irrefl _)), iI_sub, if_pos ⟨by omega, cD⟩]
          · rw [if_neg k, s5' j h1 h2]
            exact congrArg iI (ifc ⟨fun z => ⟨by have := z.1; omega, z.2⟩, fun z => ⟨by have := z.1; omega, z.2⟩⟩)
        · rw [s1_oth _ _ _ _ (show 58 ≠ 55 by decide), s1_oth _ _ _ _ (show 58 ≠ 54 by decide), s6' j h1 h2]
          refine congrArg iI (ifc ⟨fun z => ⟨by have := z.1; omega, z.2⟩, fun z => ⟨?_, z.2⟩⟩)
          rcases Nat.lt_or_ge j c with g | g
          · exact g
          · have e : j = c := by have := z.1; omega
            rw [e] at z
            exact absurd cD z.2
      · rw [if_neg cD, if_pos rfl]
        refine ih (c + 1) _ u' (by omega) (by omega) ⟨Fx_s1 s1' (by decide) _ _, fun r hr => ?_, fun r hr => ?_, fun r hr => ?_, fun j h1 h2 => ?_, fun j h1 h2 => ?_⟩
        · rw [s1_oth _ _ _ _ (show 54 ≠ 58 by decide)]
          exact s2' r hr
        · obtain ⟨j, j1, j2, j3⟩ := hr
          refine s3' r ⟨j, ?_, j2, j3⟩
          rcases Nat.lt_or_ge j c with g | g
          · exact g
          · rw [show j = c by omega] at j2
            exact absurd j2 cD
        · exact s4' r (fun ⟨j, j1, j2, j3⟩ => hr ⟨j, by omega, j2, j3⟩)
        · rw [s1_oth _ _ _ _ (show 55 ≠ 58 by decide), s5' j h1 h2]
          refine congrArg iI (ifc ⟨fun z => ⟨by have := z.1; omega, z.2⟩, fun z => ⟨?_, z.2⟩⟩)
          rcases Nat.lt_or_ge j c with g | g
          · exact g
          · have e : j = c := by have := z.1; omega
            rw [e] at z
            exact absurd z.2 cD
        · rw [s1_self]
          by_cases k : j = c
          · subst k
            rw [if_pos rfl, s6' j h1 h2, if_neg (fun z => absurd z.1 (Nat.lt_irrefl _)), iI_sub, if_pos ⟨by omega, cD⟩]
          · rw [if_neg k, s6' j h1 h2]
            exact congrArg iI (ifc ⟨fun z => ⟨by have := z.1; omega, z.2⟩, fun z => ⟨by have := z.1; omega, z.2⟩⟩)
def HI (L : Nat → Nat → Int) (R r0 : Nat) (u v : Nat → Int) (p : Nat → Nat) : Prop :=
  (∀ c, 1 ≤ c → c ≤ 72 → p c < r0) ∧ (∀ c c', 1 ≤ c → c ≤ 72 → 1 ≤ c' → c' ≤ 72 → p c = p c' → p c ≠ 0 → c = c') ∧ (∀ r, 1 ≤ r → r < r0 → ∃ c, 1 ≤ c ∧ c ≤ 72 ∧ p c = r) ∧ (∀ r c, 1 ≤ r → r ≤ R → 1 ≤ c → c ≤ 72 → u r + v c ≤ L r c) ∧ (∀ c, 1 ≤ c → c ≤ 72 → p c ≠ 0 → u (p c) + v c = L (p c) c) ∧ (∀ c, 1 ≤ c → c ≤ 72 → v c ≤ 0 ∧ (p c = 0 → v c = 0)) ∧ ∀ r, 0 ≤ u r
theorem HI_free {L : Nat → Nat → Int} {R r0 : Nat} {u v : Nat → Int} {p : Nat → Nat} (h : HI L R r0 u v p) (h1 : 1 ≤ r0) (h9 : r0 ≤ 9) : ∃ c, 1 ≤ c ∧ c ≤ 72 ∧ p c = 0 := by
  refine Classical.byContradiction (fun hn => ?_)
  have nz : ∀ c, 1 ≤ c → c ≤ 72 → p c ≠ 0 := fun c a b e => hn ⟨c, a, b, e⟩
  refine php (r0 - 1) (fun i => p (i + 1) - 1) (fun i hi => ?_) (fun i j hi hj e => ?_)
  · have a := h.1 (i + 1) (by omega) (by omega)
    have b := nz (i + 1) (by omega) (by omega)
    show p (i + 1) - 1 < r0 - 1
    omega
  · have e' : p (i + 1) - 1 = p (j + 1) - 1 := e
    have b := nz (i + 1) (by omega) (by omega)
    have b' := nz (j + 1) (by omega) (by omega)
    have := h.2.1 (i + 1) (j + 1) (by omega) (by omega) (by omega) (by omega) (by omega) b
    omega
theorem HI_bd {L : Nat → Nat → Int} {R r0 : Nat} {u v : Nat → Int} {p : Nat → Nat} (h : HI L R r0 u v p) (h1 : 1 ≤ r0) (h9 : r0 ≤ R + 1) (hR : R ≤ 8) (hL : ∀ r c, 1 ≤ r → r ≤ R → 1 ≤ c → c ≤ 72 → 0 ≤ L r c ∧ L r c ≤ 1000000) : (∀ r, 1 ≤ r → r ≤ R → u r ≤ 1000000) ∧ ∀ c, 1 ≤ c → c ≤ 72 → -1000000 ≤ v c := by
  obtain ⟨c, c1, c2, c3⟩ := HI_free h h1 (by omega)
  have hu : ∀ r, 1 ≤ r → r ≤ R → u r ≤ 1000000 := fun r a b => by
    have q1 := h.2.2.2.1 r c a b c1 c2
    have q2 := (h.2.2.2.2.2.1 c c1 c2).2 c3
    have q3 := (hL r c a b c1 c2).2
    omega
  refine ⟨hu, fun x a b => ?_⟩
  rcases Nat.eq_zero_or_pos (p x) with e | e
  · rw [(h.2.2.2.2.2.1 x a b).2 e]
    omega
  · have q0 := h.1 x a b
    have q1 := h.2.2.2.2.1 x a b (by omega)
    have q2 := hu (p x) e (by omega)
    have q3 := (hL (p x) x e (by omega) a b).1
    omega
def Tr (W : Nat → Int32) (tg : Nat → Nat → Prop) : List Nat → Prop
  | [] => True
  | c :: D => ((c = 0 ∧ D = []) ∨ (c ≠ 0 ∧ ∃ d, d ∈ D ∧ W c = nI d ∧ tg d c)) ∧ Tr W tg D
theorem Tr_mono {W W' : Nat → Int32} {tg tg' : Nat → Nat → Prop} : ∀ D : List Nat, (∀ c, c ∈ D → c ≠ 0 → W' c = W c) → (∀ c d, c ∈ D → c ≠ 0 → d ∈ D → tg d c → tg' d c) → Tr W tg D → Tr W' tg' D := by
  intro D
  induction D with
  | nil => intro _ _ _; exact trivial
  | cons c D ih =>
    intro h1 h2 h
    refine ⟨?_, ih (fun x hx => h1 x (List.mem_cons_of_mem _ hx)) (fun x y hx h0 hy => h2 x y (List.mem_cons_of_mem _ hx) h0 (List.mem_cons_of_mem _ hy)) h.2⟩
    rcases h.1 with a | ⟨a, d, b, e, g⟩
    · exact Or.inl a
    · exact Or.inr ⟨a, d, b, (h1 c (List.mem_cons_self ..) a).trans e, h2 c d (List.mem_cons_self ..) a (List.mem_cons_of_mem _ b) g⟩
def und (D : List Nat) : Nat → Nat
  | 0 => 0
  | n + 1 => und D n + (if n ∈ D then 0 else 1)
theorem und_le (D : List Nat) : ∀ n, und D n ≤ n := by
  intro n
  induction n with
  | zero => exact Nat.le_refl 0
  | succ n ih =>
    show und D n + (if n ∈ D then 0 else 1) ≤ n + 1
    split <;> omega
theorem und_c {D : List Nat} {c : Nat} (hc : c ∉ D) : ∀ n, und (c :: D) n + (if c < n then 1 else 0) = und D n := by
  intro n
  induction n with
  | zero => rfl
  | succ n ih =>
    show und (c :: D) n + (if n ∈ c :: D then 0 else 1) + (if c < n + 1 then 1 else 0) = und D n + (if n ∈ D then 0 else 1)
    rw [← ih]
    rcases Nat.lt_trichotomy c n with k | k | k
    · have e : (n ∈ c :: D) ↔ n ∈ D := by
        rw [List.mem_cons]
        exact ⟨fun z => z.resolve_left (by omega), Or.inr⟩
      rw [if_pos k, if_pos (show c < n + 1 by omega), ifc e]
      omega
    · subst k
      rw [if_neg (Nat.lt_irrefl c), if_pos (show c < c + 1 by omega), if_pos (List.mem_cons_self ..), if_neg hc]
    · have e : (n ∈ c :: D) ↔ n ∈ D := by
        rw [List.mem_cons]
        exact ⟨fun z => z.resolve_left (by omega), Or.inr⟩
      rw [if_neg (show ¬ c < n by omega), if_neg (show ¬ c < n + 1 by omega), ifc e]
      omega
