def cct : List (List Nat) := [[97, 103, 101], [104, 105, 100, 100, 101, 110], [112, 114, 111, 111, 102], [100, 97, 121, 115], [100, 111, 117, 98, 116], [98, 97, 114, 114, 101, 100], [104, 101, 97, 114, 100], [102, 105, 108, 101, 100], [121, 111, 117, 110, 103], [110, 111, 98, 111, 100, 121]]
def cc (i j : Nat) : Nat := (cct.getD i []).getD j 0
def sl (i : Nat) : Nat := slen.getD i 0
theorem ch_at' : ∀ i : Fin 10, ∀ j : Fin 6, j.val < sl i.val → S_charAt i.val (nI j.val) = some (nI (cc i.val j.val)) ∧ 1 ≤ cc i.val j.val ∧ cc i.val j.val < 256 := by decide +kernel
theorem sl_le : ∀ i : Fin 10, 1 ≤ sl i.val ∧ sl i.val ≤ 6 := by decide +kernel
theorem ch_at {i j : Nat} (hi : i < 10) (hj : j < sl i) : S_charAt i (nI j) = some (nI (cc i j)) ∧ 1 ≤ cc i j ∧ cc i j < 256 := ch_at' ⟨i, hi⟩ ⟨j, by have := (sl_le ⟨i, hi⟩).2; have h : sl i ≤ 6 := this; omega⟩ hj
theorem len_at {i : Nat} (hi : i < 10) : S_length i = some (nI (sl i)) := by
  unfold S_length sl
  rw [chkP_t hi]
theorem iw_L {K : List (Nat × Nat)} {t : TH} {σ : St} {z : Nat} {B : Nat → Nat} (h : TB t σ z B) {P0 i : Nat} (hi : i < 10) (hP : P0 + sl i ≤ z) (e54 : tS t 5 4 0 = nI P0) :
    ∀ (f j : Nat), j ≤ sl i → sl i < f + j → ((∀ j', j ≤ j' → j' < sl i → B (P0 + j') = cc i j') ∧ ∃ x, C_Reader_isWord_L28 f K t (nI j) i = some (1, x, 0)) ∨ ((¬ ∀ j', j ≤ j' → j' < sl i → B (P0 + j') = cc i j') ∧ ∃ x, C_Reader_isWord_L28 f K t (nI j) i = some (0, x, 0)) := by
  have hz := h.1
  have hB : ∀ j, j < z → B j < 256 := fun j hj => (h.2.2.2.2 j (by omega)).2.2
  intro f
  induction f with
  | zero =>
    intro j _ hf
    exact absurd hf (by omega)
  | succ f ih =>
    intro j hj hf
    unfold C_Reader_isWord_L28
    rw [chkP_t hi, len_at hi, bnd_some]
    rcases Nat.lt_or_ge j (sl i) with w | w
    · obtain ⟨c1, c2, c3⟩ := ch_at hi w
      rw [if_neg (nI_ge w (by omega)), e54, nI_add, at_C h (by omega), bnd_some, chkP_t hi, c1, bnd_some, show pkv z B (P0 + j) = nI (B (P0 + j)) from if_pos (by omega)]
      have b256 := hB (P0 + j) (by omega)
      by_cases c : B (P0 + j) = cc i j
      · rw [if_pos (show nI (B (P0 + j)) = nI (cc i j) by rw [c]), nm_eq, nI_1]
        rcases ih (j + 1) (by omega) (by omega) with ⟨a1, a2⟩ | ⟨a1, a2⟩
        · refine Or.inl ⟨fun j' p1 p2 => ?_, a2⟩
          rcases Nat.lt_or_ge j j' with y | y
          · exact a1 j' y p2
          · rw [show j' = j by omega]
            exact c
        · exact Or.inr ⟨fun q => a1 (fun j' p1 => q j' (by omega)), a2⟩
      · rw [if_neg (fun q => c ((nI_eq (by omega) (by omega)).mp q))]
        exact Or.inr ⟨fun q => c (q j (Nat.le_refl _) w), _, rfl⟩
    · rw [if_pos (nI_le w (by omega))]
      exact Or.inl ⟨fun j' p1 p2 => absurd p2 (by omega), _, rfl⟩
theorem pk8_inj {B C : Nat → Nat} {P Q : Nat} : ∀ n m, (∀ j, j < n → 1 ≤ B (P + j) ∧ B (P + j) < 256) → (∀ j, j < m → 1 ≤ C (Q + j) ∧ C (Q + j) < 256) → pk8 B P n = pk8 C Q m → n = m ∧ ∀ j, j < n → B (P + j) = C (Q + j) := by
  intro n
  induction n with
  | zero =>
    intro m _ h2 e
    cases m with
    | zero => exact ⟨rfl, fun j hj => absurd hj (by omega)⟩
    | succ m =>
      have := h2 m (by omega)
      rw [pk8_s] at e
      have e' : 0 = 256 * pk8 C Q m + C (Q + m) := e
      omega
  | succ n ih =>
    intro m h1 h2 e
    have a := h1 n (by omega)
    cases m with
    | zero =>
      rw [pk8_s] at e
      have e' : 256 * pk8 B P n + B (P + n) = 0 := e
      omega
    | succ m =>
      have b := h2 m (by omega)
      rw [pk8_s, pk8_s] at e
      obtain ⟨r1, r2⟩ := ih m (fun j hj => h1 j (by omega)) (fun j hj => h2 j (by omega)) (by omega)
      refine ⟨by omega, fun j hj => ?_⟩
      rcases Nat.lt_or_ge j n with y | y
      · exact r2 j y
      · have : j = n := by omega
        subst this
        rw [r1]
        have r1' := r1
        subst r1'
        omega
def cw (i : Nat) : Int64 := lN (pk8 (cc i) 0 (sl i))
theorem pk8_ext {B C : Nat → Nat} {P Q : Nat} : ∀ n, (∀ j, j < n → B (P + j) = C (Q + j)) → pk8 B P n = pk8 C Q n := by
  intro n
  induction n with
  | zero => intro _; rfl
  | succ n ih =>
    intro h
    rw [pk8_s, pk8_s, ih (fun j hj => h j (by omega)), h n (by omega)]
theorem isw_eq {K : List (Nat × Nat)} {t : TH} {σ : St} {z : Nat} {B : Nat → Nat} (h : TB t σ z B) {P0 P1 tk i : Nat} (hT : TK t σ z B P0 P1 tk) (hi : i < 10) : ∃ v : Int32, (v = 0 ∨ v = 1) ∧ C_Reader_isWord K t i = some v ∧ M_isWord σ (cw i) = some v ∧ (tk ≠ 1 → v = 0) := by
  have hz := h.1
  obtain ⟨⟨a1, a2⟩, ⟨b1, b2⟩, ⟨c1, c2⟩, d, e, g⟩ := hT
  have tk4 : tk ≤ 4 := by omega
  have s6 := sl_le ⟨i, hi⟩
  have s6 : 1 ≤ sl i ∧ sl i ≤ 6 := s6
  unfold C_Reader_isWord M_isWord
  rw [c1, c2]
  by_cases k : tk = 1
  · subst k
    obtain ⟨e1, e2⟩ := e rfl
    have dd : P0 < P1 ∧ P1 ≤ z := by omega
    rw [if_pos (show nI 1 = 1 from rfl), if_pos (show nI (mt 1) = 1 from rfl), chkP_t hi, len_at hi, bnd_some, b1, a1, pk_sub (show P0 ≤ P1 by omega), e2]
    have up : lg_cmp (lN (if P1 - P0 ≤ 7 then pk8 B P0 (P1 - P0) else 0)) (cw i) = 0 ↔ (P1 - P0 = sl i ∧ ∀ j, j < sl i → B (P0 + j) = cc i j) := by
      rw [L_cmp]
      unfold cw
      have lc : pk8 (cc i) 0 (sl i) < 256 ^ 6 := Nat.lt_of_lt_of_le (pk8_lt (sl i) (fun j hj => by rw [Nat.zero_add]; exact (ch_at hi hj).2.2)) (Nat.pow_le_pow_right (by omega) s6.2)
      have e6 : (256 : Nat) ^ 6 = 281474976710656 := rfl
      have e7 : (256 : Nat) ^ 7 = 72057594037927936 := rfl
      have hC : ∀ j, j < sl i → 1 ≤ cc i (0 + j) ∧ cc i (0 + j) < 256 := fun j hj => by rw [Nat.zero_add]; exact (ch_at hi hj).2
      have hBB : ∀ j, j < P1 - P0 → 1 ≤ B (P0 + j) ∧ B (P0 + j) < 256 := fun j hj => by
        have := e1 j hj
        unfold isL at this
        omega
      by_cases q : P1 - P0 ≤ 7
      · rw [if_pos q]
        have lb : pk8 B P0 (P1 - P0) < 256 ^ 7 := Nat.lt_of_lt_of_le (pk8_lt (P1 - P0) (fun j hj => (hBB j hj).2)) (Nat.pow_le_pow_right (by omega) q)
        rw [pk_lEQ (by omega) (by omega)]
        constructor
        · intro r
          obtain ⟨r1, r2⟩ := pk8_inj _ _ hBB hC r
          refine ⟨r1, fun j hj => ?_⟩
          have := r2 j (by omega)
          rw [Nat.zero_add] at this
          exact this
        · rintro ⟨r1, r2⟩
          rw [r1]
          exact pk8_ext _ (fun j hj => by rw [Nat.zero_add]; exact r2 j hj)
      · rw [if_neg q, pk_lEQ (by omega) (by omega)]
        constructor
        · intro r
          obtain ⟨r1, _⟩ := pk8_inj (B := B) (P := P0) 0 (sl i) (fun j hj => absurd hj (by omega)) hC r
          omega
        · rintro ⟨r1, _⟩
          omega
    by_cases q : P1 - P0 = sl i
    · rw [if_pos (show nI (P1 - P0) = nI (sl i) by rw [q])]
      rcases iw_L (K := K) h hi (by omega) a1 100000 0 (by omega) (by omega) with ⟨r1, x, r2⟩ | ⟨r1, x, r2⟩
      · rw [show C_Reader_isWord_L28 100000 K t 0 i = some (1, x, 0) from r2, bnd_some, if_pos (up.mpr ⟨q, fun j hj => r1 j (by omega) hj⟩)]
        exact ⟨1, Or.inr rfl, rfl, rfl, fun y => absurd rfl y⟩
      · rw [show C_Reader_isWord_L28 100000 K t 0 i = some (0, x, 0) from r2, bnd_some, if_neg (fun y => r1 (fun j _ hj => (up.mp y).2 j hj))]
        exact ⟨0, Or.inl rfl, rfl, rfl, fun _ => rfl⟩
    · rw [if_neg (fun y => q ((nI_eq (by omega) (by omega)).mp y)), if_neg (fun y => q (up.mp y).1)]
      exact ⟨0, Or.inl rfl, rfl, rfl, fun _ => rfl⟩
  · have m4 : mt tk ≤ 4 := by unfold mt; split <;> (try split) <;> omega
    have m1 : mt tk ≠ 1 := by unfold mt; split <;> (try split) <;> omega
    rw [if_neg (show ¬ nI tk = 1 from fun y => k ((nI_eq (b := 1) (by omega) (by omega)).mp y)), if_neg (show ¬ nI (mt tk) = 1 from fun y => m1 ((nI_eq (b := 1) (by omega) (by omega)).mp y))]
    exact ⟨0, Or.inl rfl, rfl, rfl, fun _ => rfl⟩
theorem cw_v : cw 0 = 6383461 ∧ cw 1 = 114801865155950 ∧ cw 2 = 482956242790 ∧ cw 3 = 1684109683 ∧ cw 4 = 431366693492 ∧ cw 5 = 108170671449444 ∧ cw 6 = 448377483876 ∧ cw 7 = 439855375716 ∧ cw 8 = 521561009767 ∧ cw 9 = 121424671892601 := by decide +kernel
/-- which rule a word tells -/
theorem rule_eq {K : List (Nat × Nat)} {t : TH} {σ : St} {z : Nat} {B : Nat → Nat} (h : TB t σ z B) {P0 P1 tk : Nat} (hT : TK t σ z B P0 P1 tk) : ∃ r : Int32, C_Reader_ruleTold K t = some r ∧ M_rule_B0 σ = some r ∧ (r = -1 ∨ (tk = 1 ∧ ∃ k, k < 5 ∧ r = nI k)) := by
  obtain ⟨w0, w1, w2, w3, w4, _⟩ := cw_v
  obtain ⟨v0, a0, b0, c0, d0⟩ := isw_eq (K := K) h hT (show 0 < 10 by omega)
  obtain ⟨v1, a1, b1, c1, d1⟩ := isw_eq (K := K) h hT (show 1 < 10 by omega)
  obtain ⟨v2, a2, b2, c2, d2⟩ := isw_eq (K := K) h hT (show 2 < 10 by omega)
  obtain ⟨v3, a3, b3, c3, d3⟩ := isw_eq (K := K) h hT (show 3 < 10 by omega)
  obtain ⟨v4, a4, b4, c4, d4⟩ := isw_eq (K := K) h hT (show 4 < 10 by omega)
  rw [w0] at c0
  rw [w1] at c1
  rw [w2] at c2
  rw [w3] at c3
  rw [w4] at c4
  unfold C_Reader_ruleTold M_rule_B0
  rw [b0, c0, bnd_some, bnd_some]
  have nz : ∀ {v : Int32}, (tk ≠ 1 → v = 0) → v ≠ 0 → tk = 1 := fun d nv => Classical.byContradiction (fun q => nv (d q))
  by_cases q0 : v0 = 0
  · rw [if_pos q0, if_pos q0, b1, c1, bnd_some, bnd_some]
    by_cases q1 : v1 = 0
    · rw [if_pos q1, if_pos q1, b2, c2, bnd_some, bnd_some]
      by_cases q2 : v2 = 0
      · rw [if_pos q2, if_pos q2, b3, c3, bnd_some, bnd_some]
        by_cases q3 : v3 = 0
        · rw [if_pos q3, if_pos q3, b4, c4, bnd_some]
          by_cases q4 : v4 = 0
          · rw [if_pos q4]
            exact ⟨-1, rfl, rfl, Or.inl rfl⟩
          · rw [if_neg q4]
            exact ⟨4, rfl, rfl, Or.inr ⟨nz d4 q4, 4, by omega, rfl⟩⟩
        · rw [if_neg q3, if_neg q3]
          exact ⟨3, rfl, rfl, Or.inr ⟨nz d3 q3, 3, by omega, rfl⟩⟩
      · rw [if_neg q2, if_neg q2]
        exact ⟨2, rfl, rfl, Or.inr ⟨nz d2 q2, 2, by omega, rfl⟩⟩
    · rw [if_neg q1, if_neg q1]
      exact ⟨1, rfl, rfl, Or.inr ⟨nz d1 q1, 1, by omega, rfl⟩⟩
  · rw [if_neg q0, if_neg q0]
    exact ⟨0, rfl, rfl, Or.inr ⟨nz d0 q0, 0, by omega, rfl⟩⟩
