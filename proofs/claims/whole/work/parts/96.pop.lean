theorem and256 {a b c d : Nat} (hb : b < 256) (hd : d < 256) : (256 * a + b) &&& (256 * c + d) = 256 * (a &&& c) + (b &&& d) := by
  apply Nat.eq_of_testBit_eq
  intro i
  have hbd : b &&& d < 256 := Nat.lt_of_le_of_lt Nat.and_le_left hb
  rw [Nat.testBit_and, show (256 : Nat) = 2 ^ 8 from rfl, Nat.testBit_two_pow_mul_add a (i := 8) hb, Nat.testBit_two_pow_mul_add c (i := 8) hd, Nat.testBit_two_pow_mul_add (a &&& c) (i := 8) hbd]
  by_cases h : i < 8
  · simp only [h, if_true, Nat.testBit_and]
  · simp only [h, if_false, Nat.testBit_and]
def mk8 (d : Nat) : Nat → Nat
  | 0 => 0
  | k + 1 => 256 * mk8 d k + d
def w1 (k X : Nat) : Nat := X - (X / 2 &&& mk8 85 k)
def w2 (k V : Nat) : Nat := (V &&& mk8 51 k) + (V / 4 &&& mk8 51 k)
def w3 (k V : Nat) : Nat := (V + V / 16) &&& mk8 15 k
def g1 (b : Nat) : Nat := b - (b / 2 &&& 85)
def g2 (b : Nat) : Nat := (b &&& 51) + (b / 4 &&& 51)
def g3 (b : Nat) : Nat := (b + b / 16) &&& 15
theorem w1_s (k Y B : Nat) (hB : B < 256) : w1 (k + 1) (256 * Y + B) = 256 * w1 k Y + g1 B := by
  unfold w1 g1
  have e : (256 * Y + B) / 2 = 256 * (Y / 2) + (128 * (Y % 2) + B / 2) := by omega
  have q : ∀ e : Fin 2, ∀ b : Fin 256, (128 * e.val + b.val / 2) &&& 85 = b.val / 2 &&& 85 := by decide +kernel
  have q' := q ⟨Y % 2, by omega⟩ ⟨B, hB⟩
  dsimp only at q'
  show 256 * Y + B - ((256 * Y + B) / 2 &&& (256 * mk8 85 k + 85)) = _
  rw [e, and256 (by omega) (by omega), q']
  have l1 : Y / 2 &&& mk8 85 k ≤ Y / 2 := Nat.and_le_left
  have l2 : B / 2 &&& 85 ≤ B / 2 := Nat.and_le_left
  omega
theorem w2_s (k V b : Nat) (hb : b < 256) : w2 (k + 1) (256 * V + b) = 256 * w2 k V + g2 b := by
  unfold w2 g2
  have e : (256 * V + b) / 4 = 256 * (V / 4) + (64 * (V % 4) + b / 4) := by omega
  have q : ∀ e : Fin 4, ∀ b : Fin 256, (64 * e.val + b.val / 4) &&& 51 = b.val / 4 &&& 51 := by decide +kernel
  have q' := q ⟨V % 4, by omega⟩ ⟨b, hb⟩
  dsimp only at q'
  show ((256 * V + b) &&& (256 * mk8 51 k + 51)) + ((256 * V + b) / 4 &&& (256 * mk8 51 k + 51)) = _
  rw [e, and256 hb (by omega), and256 (by omega) (by omega), q']
  omega
theorem w3_s (k V b : Nat) (hb : b < 256) (h1 : b % 16 ≤ 4) (h2 : b / 16 ≤ 4) (hV : V % 16 ≤ 4) : w3 (k + 1) (256 * V + b) = 256 * w3 k V + g3 b := by
  unfold w3 g3
  have e : 256 * V + b + (256 * V + b) / 16 = 256 * (V + V / 16) + (b + 16 * (V % 16) + b / 16) := by omega
  have q : ∀ e : Fin 5, ∀ b : Fin 256, b.val % 16 ≤ 4 → b.val / 16 ≤ 4 → (b.val + 16 * e.val + b.val / 16) &&& 15 = (b.val + b.val / 16) &&& 15 := by decide +kernel
  have q' := q ⟨V % 16, by omega⟩ ⟨b, hb⟩ h1 h2
  dsimp only at q'
  show (256 * V + b + (256 * V + b) / 16) &&& (256 * mk8 15 k + 15) = _
  rw [e, and256 (by omega) (by omega), q']
def ww (k X : Nat) : Nat := w3 k (w2 k (w1 k X))
theorem g12 : ∀ b : Fin 256, g1 b.val < 256 ∧ g2 (g1 b.val) < 256 ∧ g2 (g1 b.val) % 16 ≤ 4 ∧ g2 (g1 b.val) / 16 ≤ 4 := by decide +kernel
theorem w12_m (k X : Nat) (hX : X < 256 ^ k) : w2 k (w1 k X) % 16 ≤ 4 := by
  cases k with
  | zero =>
    have : X = 0 := by simp at hX; exact hX
    subst this
    decide
  | succ k =>
    obtain ⟨Y, B, hB, rfl⟩ : ∃ Y B, B < 256 ∧ X = 256 * Y + B := ⟨X / 256, X % 256, by omega, by omega⟩
    have g := g12 ⟨B, hB⟩
    dsimp only at g
    rw [w1_s k Y B hB, w2_s k _ _ g.1]
    have := g.2.2.1
    omega
def p8 (b : Nat) : Nat := g3 (g2 (g1 b))
theorem ww_s (k Y B : Nat) (hB : B < 256) (hY : Y < 256 ^ k) : ww (k + 1) (256 * Y + B) = 256 * ww k Y + p8 B := by
  unfold ww p8
  have g := g12 ⟨B, hB⟩
  dsimp only at g
  rw [w1_s k Y B hB, w2_s k _ _ g.1, w3_s k _ _ g.2.1 g.2.2.1 g.2.2.2 (w12_m k Y hY)]
/-- how many of the first n bits are set -/
def bitsN (X : Nat) : Nat → Nat
  | 0 => 0
  | q + 1 => bitsN X q + (if X.testBit q then 1 else 0)
theorem bits_s (Y B : Nat) (hB : B < 256) : ∀ n, bitsN (256 * Y + B) (8 + n) = bitsN B 8 + bitsN Y n := by
  intro n
  induction n with
  | zero =>
    have t : ∀ q, q < 8 → (256 * Y + B).testBit q = B.testBit q := fun q hq => by
      rw [show (256 : Nat) = 2 ^ 8 from rfl, Nat.testBit_two_pow_mul_add Y (i := 8) hB, if_pos hq]
    show bitsN (256 * Y + B) 8 = bitsN B 8
    simp only [bitsN, t 0 (by omega), t 1 (by omega), t 2 (by omega), t 3 (by omega), t 4 (by omega), t 5 (by omega), t 6 (by omega), t 7 (by omega)]
  | succ n ih =>
    show bitsN (256 * Y + B) (8 + n) + (if (256 * Y + B).testBit (8 + n) then 1 else 0) = bitsN B 8 + (bitsN Y n + (if Y.testBit n then 1 else 0))
    rw [ih, show (256 : Nat) = 2 ^ 8 from rfl, Nat.testBit_two_pow_mul_add Y (i := 8) hB, if_neg (show ¬ 8 + n < 8 by omega), show 8 + n - 8 = n by omega]
    omega
theorem p8_bits : ∀ b : Fin 256, p8 b.val = bitsN b.val 8 ∧ p8 b.val ≤ 8 := by decide +kernel
theorem bits_by (X : Nat) : X = 256 * (X / 256) + X % 256 := by omega
theorem pop_sum (X : Nat) (hX : X < 2 ^ 64) : ∃ p0 p1 p2 p3 p4 p5 p6 p7, p0 ≤ 8 ∧ p1 ≤ 8 ∧ p2 ≤ 8 ∧ p3 ≤ 8 ∧ p4 ≤ 8 ∧ p5 ≤ 8 ∧ p6 ≤ 8 ∧ p7 ≤ 8 ∧ ww 8 X = 256 * (256 * (256 * (256 * (256 * (256 * (256 * p7 + p6) + p5) + p4) + p3) + p2) + p1) + p0 ∧ bitsN X 64 = p0 + p1 + p2 + p3 + p4 + p5 + p6 + p7 := by
  have st : ∀ k Z, Z < 256 ^ (k + 1) → ∃ p, p ≤ 8 ∧ ww (k + 1) Z = 256 * ww k (Z / 256) + p ∧ bitsN Z (8 + 8 * k) = p + bitsN (Z / 256) (8 * k) ∧ Z / 256 < 256 ^ k := by
    intro k Z hZ
    have hd : Z / 256 < 256 ^ k := by
      rw [Nat.pow_succ] at hZ
      exact Nat.div_lt_of_lt_mul (by rw [Nat.mul_comm]; exact hZ)
    have g := p8_bits ⟨Z % 256, by omega⟩
    dsimp only at g
    refine ⟨p8 (Z % 256), g.2, ?_, ?_, hd⟩
    · have := ww_s k (Z / 256) (Z % 256) (by omega) hd
      rw [← bits_by] at this
      exact this
    · have := bits_s (Z / 256) (Z % 256) (by omega) (8 * k)
      rw [← bits_by] at this
      rw [this, g.1]
  obtain ⟨p0, a0, b0, c0, d0⟩ := st 7 X (by exact hX)
  obtain ⟨p1, a1, b1, c1, d1⟩ := st 6 _ d0
  obtain ⟨p2, a2, b2, c2, d2⟩ := st 5 _ d1
  obtain ⟨p3, a3, b3, c3, d3⟩ := st 4 _ d2
  obtain ⟨p4, a4, b4, c4, d4⟩ := st 3 _ d3
  obtain ⟨p5, a5, b5, c5, d5⟩ := st 2 _ d4
  obtain ⟨p6, a6, b6, c6, d6⟩ := st 1 _ d5
  obtain ⟨p7, a7, b7, c7, d7⟩ := st 0 _ d6
  refine ⟨p0, p1, p2, p3, p4, p5, p6, p7, a0, a1, a2, a3, a4, a5, a6, a7, ?_, ?_⟩
  · rw [show (8 : Nat) = 7 + 1 from rfl, b0, b1, b2, b3, b4, b5, b6, b7]
    have : ww 0 (X / 256 / 256 / 256 / 256 / 256 / 256 / 256 / 256) = 0 := by
      show (_ &&& mk8 15 0) = 0
      exact Nat.and_zero _
    rw [this]
    omega
  · rw [show (64 : Nat) = 8 + 8 * 7 from rfl, c0, show 8 * 7 = 8 + 8 * 6 from rfl, c1, show 8 * 6 = 8 + 8 * 5 from rfl, c2, show 8 * 5 = 8 + 8 * 4 from rfl, c3, show 8 * 4 = 8 + 8 * 3 from rfl, c4, show 8 * 3 = 8 + 8 * 2 from rfl, c5, show 8 * 2 = 8 + 8 * 1 from rfl, c6, show 8 * 1 = 8 + 8 * 0 from rfl, c7]
    show p0 + (p1 + (p2 + (p3 + (p4 + (p5 + (p6 + (p7 + 0))))))) = _
    omega
