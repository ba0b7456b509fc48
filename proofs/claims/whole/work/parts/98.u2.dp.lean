def PQ (w : Nat → Nat → Nat) (q s : Nat) (m : Nat → Nat) : Prop := (∀ p, p < 8 → m p < 64 → m p < q ∧ s.testBit p = true ∧ 0 < w p (m p)) ∧ ∀ i j, i < 8 → j < 8 → m i = m j → m i < 64 → i = j
def WW (w : Nat → Nat → Nat) (m : Nat → Nat) : Nat := smN (fun p => if m p < 64 then w p (m p) else 0) 8
def ofr (H w : Nat → Nat) (s : Nat) : Nat → Nat
  | 0 => H s
  | p + 1 => if s.testBit p = true ∧ 0 < w p then (if H (s - 2 ^ p) + w p < ofr H w s p then ofr H w s p else H (s - 2 ^ p) + w p) else ofr H w s p
theorem ofr_s (H w : Nat → Nat) (s p : Nat) : ofr H w s (p + 1) = if s.testBit p = true ∧ 0 < w p then (if H (s - 2 ^ p) + w p < ofr H w s p then ofr H w s p else H (s - 2 ^ p) + w p) else ofr H w s p := rfl
theorem ofr_ge (H w : Nat → Nat) (s : Nat) : ∀ n, H s ≤ ofr H w s n := by
  intro n
  induction n with
  | zero => exact Nat.le_refl _
  | succ n ih =>
    rw [ofr_s]
    by_cases a : s.testBit n = true ∧ 0 < w n
    · rw [if_pos a]
      by_cases b : H (s - 2 ^ n) + w n < ofr H w s n
      · rw [if_pos b]
        exact ih
      · rw [if_neg b]
        omega
    · rw [if_neg a]
      exact ih
theorem ofr_in (H w : Nat → Nat) (s : Nat) {p : Nat} (hp : s.testBit p = true) (hw : 0 < w p) : ∀ n, p < n → H (s - 2 ^ p) + w p ≤ ofr H w s n := by
  intro n
  induction n with
  | zero => intro h; exact absurd h (by omega)
  | succ n ih =>
    intro h
    rw [ofr_s]
    rcases Nat.lt_or_ge p n with k | k
    · have := ih k
      by_cases a : s.testBit n = true ∧ 0 < w n
      · rw [if_pos a]
        by_cases b : H (s - 2 ^ n) + w n < ofr H w s n
        · rw [if_pos b]
          exact this
        · rw [if_neg b]
          omega
      · rw [if_neg a]
        exact this
    · have : p = n := by omega
      subst this
      rw [if_pos ⟨hp, hw⟩]
      by_cases b : H (s - 2 ^ p) + w p < ofr H w s p
      · rw [if_pos b]
        omega
      · rw [if_neg b]
        exact Nat.le_refl _
theorem ofr_or (H w : Nat → Nat) (s : Nat) : ∀ n, ofr H w s n = H s ∨ ∃ p, p < n ∧ s.testBit p = true ∧ 0 < w p ∧ ofr H w s n = H (s - 2 ^ p) + w p := by
  intro n
  induction n with
  | zero => exact Or.inl rfl
  | succ n ih =>
    have ih' : ofr H w s n = H s ∨ ∃ p, p < n + 1 ∧ s.testBit p = true ∧ 0 < w p ∧ ofr H w s n = H (s - 2 ^ p) + w p := by
      rcases ih with h | ⟨p, h1, h2⟩
      · exact Or.inl h
      · exact Or.inr ⟨p, by omega, h2⟩
    rw [ofr_s]
    by_cases a : s.testBit n = true ∧ 0 < w n
    · rw [if_pos a]
      by_cases b : H (s - 2 ^ n) + w n < ofr H w s n
      · rw [if_pos b]
        exact ih'
      · rw [if_neg b]
        exact Or.inr ⟨n, by omega, a.1, a.2, rfl⟩
    · rw [if_neg a]
      exact ih'
theorem bit_rm' : ∀ s : Fin 256, ∀ p j : Fin 8, s.val.testBit p.val = true → (s.val - 2 ^ p.val).testBit j.val = (s.val.testBit j.val && decide (j.val ≠ p.val)) := by decide +kernel
theorem bit_rm {s p j : Nat} (hs : s < 256) (hp : p < 8) (hj : j < 8) (h : s.testBit p = true) : (s - 2 ^ p).testBit j = (s.testBit j && decide (j ≠ p)) := bit_rm' ⟨s, hs⟩ ⟨p, hp⟩ ⟨j, hj⟩ h
def DPI (w : Nat → Nat → Nat) (q : Nat) (H : Nat → Nat) (all : Nat) : Prop := ∀ s, s ≤ all → (∃ m, PQ w q s m ∧ WW w m = H s) ∧ ∀ m, PQ w q s m → WW w m ≤ H s
theorem WW_set {w : Nat → Nat → Nat} {m m' : Nat → Nat} {p : Nat} (hp : p < 8) (h : ∀ i, i < 8 → i ≠ p → m' i = m i) (h1 : 64 ≤ m p) (h2 : m' p < 64) : WW w m' = WW w m + w p (m' p) := by
  have := smN_up (f := fun p => if m' p < 64 then w p (m' p) else 0) (g := fun p => if m p < 64 then w p (m p) else 0) (p := p) 8 hp (fun i hi hn => by rw [h i hi hn])
  simp only [show ¬ m p < 64 by omega, h2, if_false, if_true] at this
  unfold WW
  omega
theorem dp_0 {w : Nat → Nat → Nat} {all : Nat} : DPI w 0 (fun _ => 0) all := fun s _ => by
  have e0 : ∀ m, PQ w 0 s m → WW w m = 0 := fun m hm => by
    unfold WW
    rw [smN_congr 8 (g := fun _ => 0) (fun p hp => by
      by_cases k : m p < 64
      · exact absurd (hm.1 p hp k).1 (by omega)
      · rw [if_neg k])]
    rfl
  have p0 : PQ w 0 s (fun _ => 64) := ⟨fun p _ h => absurd h (by show ¬ 64 < 64; omega), fun i j _ _ _ h => absurd h (by show ¬ 64 < 64; omega)⟩
  exact ⟨⟨fun _ => 64, p0, e0 _ p0⟩, fun m hm => by rw [e0 m hm]; exact Nat.le_refl _⟩
theorem dp_step {w : Nat → Nat → Nat} {q all : Nat} {H : Nat → Nat} (hq : q < 64) (hall : all < 256) (h : DPI w q H all) : DPI w (q + 1) (fun s => ofr H (fun p => w p q) s 8) all := fun s hs => by
  constructor
  · show ∃ m, PQ w (q + 1) s m ∧ WW w m = ofr H (fun p => w p q) s 8
    rcases ofr_or H (fun p => w p q) s 8 with e | ⟨p, p1, p2, p3, e⟩
    · obtain ⟨m, m1, m2⟩ := (h s hs).1
      refine ⟨m, ⟨fun i hi hm => ?_, m1.2⟩, by rw [e, m2]⟩
      have := m1.1 i hi hm
      exact ⟨by omega, this.2⟩
    · obtain ⟨m, m1, m2⟩ := (h (s - 2 ^ p) (Nat.le_trans (Nat.sub_le _ _) hs)).1
      have mp : 64 ≤ m p := by
        rcases Nat.lt_or_ge (m p) 64 with k | k
        · have := (m1.1 p p1 k).2.1
          rw [bit_rm (by omega) p1 p1 p2] at this
          simp at this
        · exact k
      have ei : ∀ i, i ≠ p → (fun i => if i = p then q else m i) i = m i := fun i hi => if_neg hi
      have ep : (fun i => if i = p then q else m i) p = q := if_pos rfl
      refine ⟨fun i => if i = p then q else m i, ⟨fun i hi hm => ?_, fun i j hi hj => ?_⟩, ?_⟩
      · by_cases k : i = p
        · subst k
          simp only [if_true]
          exact ⟨by omega, p2, p3⟩
        · simp only [k, if_false] at hm ⊢
          have := m1.1 i hi hm
          rw [bit_rm (by omega) p1 hi p2] at this
          simp only [Bool.and_eq_true] at this
          exact ⟨by omega, this.2.1.1, this.2.2⟩
      · by_cases k : i = p <;> by_cases k' : j = p
        · intro _ _
          omega
        · simp only [k, k', if_true, if_false]
          intro e1 e2
          have := (m1.1 j hj (by omega)).1
          omega
        · simp only [k, k', if_true, if_false]
          intro e1 e2
          have := (m1.1 i hi (by omega)).1
          omega
        · simp only [k, k', if_false]
          exact m1.2 i j hi hj
      · rw [WW_set (m := m) p1 (fun i _ hi => ei i hi) mp (by rw [if_pos rfl]; exact hq), if_pos rfl, m2, e]
  · intro m hm
    show WW w m ≤ ofr H (fun p => w p q) s 8
    rcases Classical.em (∃ p, p < 8 ∧ m p = q) with ⟨p, p1, p2⟩ | hn
    · have mp := hm.1 p p1 (by omega)
      have ei : ∀ i, i ≠ p → (fun i => if i = p then 64 else m i) i = m i := fun i hi => if_neg hi
      have ep : (fun i => if i = p then 64 else m i) p = 64 := if_pos rfl
      have hm' : PQ w q (s - 2 ^ p) (fun i => if i = p then 64 else m i) := by
        refine ⟨fun i hi hlt => ?_, fun i j hi hj => ?_⟩
        · by_cases k : i = p
          · simp only [k, if_true] at hlt
            omega
          · simp only [k, if_false] at hlt ⊢
            have a := hm.1 i hi hlt
            refine ⟨?_, ?_, a.2.2⟩
            · rcases Nat.lt_or_ge (m i) q with y | y
              · exact y
              · exact absurd (hm.2 i p hi p1 (by omega) hlt) k
            · rw [bit_rm (by omega) p1 hi mp.2.1, a.2.1]
              simp [k]
        · by_cases k : i = p <;> by_cases k' : j = p
          · intro _ _
            omega
          · simp only [k, if_true]
            intro _ z
            omega
          · simp only [k, k', if_true, if_false]
            intro e1 e2
            omega
          · simp only [k, k', if_false]
            exact hm.2 i j hi hj
      have a := (h (s - 2 ^ p) (Nat.le_trans (Nat.sub_le _ _) hs)).2 _ hm'
      have b := WW_set (w := w) (m := fun i => if i = p then 64 else m i) (m' := m) p1 (fun i _ hi => (ei i hi).symm) (by show 64 ≤ (if p = p then 64 else m p); rw [if_pos rfl]; exact Nat.le_refl _) (by omega)
      rw [p2] at b mp
      have c := ofr_in H (fun p => w p q) s mp.2.1 mp.2.2 8 p1
      have c' : H (s - 2 ^ p) + w p q ≤ ofr H (fun p => w p q) s 8 := c
      omega
    · have a := (h s hs).2 m ⟨fun i hi hlt => by
        have := hm.1 i hi hlt
        refine ⟨?_, this.2⟩
        rcases Nat.lt_or_ge (m i) q with y | y
        · exact y
        · exact absurd ⟨i, hi, by omega⟩ hn, hm.2⟩
      have := ofr_ge H (fun p => w p q) s 8
      omega
