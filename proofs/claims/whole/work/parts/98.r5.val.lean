def dvN (B : Nat → Nat) (P0 : Nat) : Nat → Nat
  | 0 => 0
  | n + 1 => 10 * dvN B P0 n + (B (P0 + n) - 48)
theorem nuI_d {B : Nat → Nat} {P0 : Nat} : ∀ n, (∀ j, j < n → isD (B (P0 + j))) → nuI B P0 n = nI (dvN B P0 n) := by
  intro n
  induction n with
  | zero => intro _; rfl
  | succ n ih =>
    intro h
    have d := h n (by omega)
    unfold isD at d
    rw [nuI_s, ih (fun j hj => h j (by omega)), show (10 : Int32) = nI 10 from rfl, show (48 : Int32) = nI 48 from rfl, pk_mul, nI_add, pk_sub (by omega)]
    show nI (10 * dvN B P0 n + B (P0 + n) - 48) = nI (10 * dvN B P0 n + (B (P0 + n) - 48))
    rw [Nat.add_sub_assoc d.1]
theorem dvN_lt {B : Nat → Nat} {P0 : Nat} : ∀ n, (∀ j, j < n → isD (B (P0 + j))) → dvN B P0 n < 10 ^ n := by
  intro n
  induction n with
  | zero => intro _; show 0 < 1; omega
  | succ n ih =>
    intro h
    have d := h n (by omega)
    have a := ih (fun j hj => h j (by omega))
    unfold isD at d
    show 10 * dvN B P0 n + (B (P0 + n) - 48) < 10 ^ (n + 1)
    rw [Nat.pow_succ]
    omega
theorem tn_L {K : List (Nat × Nat)} {t : TH} {σ : St} {z : Nat} {B : Nat → Nat} (h : TB t σ z B) {P0 len : Nat} (hP : P0 + len ≤ z) (e53 : tS t 5 3 0 = nI (P0 + len)) (hd : ∀ j, j < len → isD (B (P0 + j))) :
    ∀ (f n : Nat), n ≤ len → len < f + n → ∃ x, C_Reader_takeNumber_L17 f K t (nI (P0 + n)) (nI (dvN B P0 n)) = some (x, nI (dvN B P0 len)) := by
  have hz := h.1
  intro f
  induction f with
  | zero =>
    intro n _ hf
    exact absurd hf (by omega)
  | succ f ih =>
    intro n hn hf
    unfold C_Reader_takeNumber_L17
    rw [e53]
    rcases Nat.lt_or_ge n len with w | w
    · have d := hd n w
      unfold isD at d
      rw [if_neg (nI_ge (show P0 + n < P0 + len by omega) (by omega)), at_C h (by omega), bnd_some, nm_eq, nm_eq, show pkv z B (P0 + n) = nI (B (P0 + n)) from if_pos (by omega), show (10 : Int32) = nI 10 from rfl, show (48 : Int32) = nI 48 from rfl, pk_mul, pk_sub d.1, nI_add, nI_1, show dvN B P0 n * 10 + (B (P0 + n) - 48) = dvN B P0 (n + 1) from by show _ = 10 * dvN B P0 n + (B (P0 + n) - 48); omega]
      exact ih (n + 1) (by omega) (by omega)
    · rw [if_pos (nI_le (by omega) (by omega)), show n = len by omega]
      exact ⟨_, rfl⟩
/-- what a text has told so far -/
def DR (t : TH) (σ : St) (n W : Nat) : Prop := (∃ a, a ≤ 120 ∧ tS t 4 0 1 = nI a ∧ σ.1 24 0 = nI a) ∧ ((tS t 4 1 1 = 0 ∧ σ.1 24 1 = 1) ∨ (tS t 4 1 1 = 1 ∧ σ.1 24 1 = 0)) ∧ (∃ p, p ≤ 9 ∧ tS t 4 2 1 = nI p ∧ σ.1 24 2 = nI p) ∧ (∃ d, d ≤ 999 ∧ tS t 4 3 1 = nI d ∧ σ.1 24 3 = nI d) ∧ (∃ w, w ≤ 2 ∧ tS t 4 4 1 = nI w ∧ σ.1 24 4 = nI w) ∧ tS t 4 5 1 = nI n ∧ W < 32 ∧ tS t 5 8 0 = nI W ∧ ∀ r, r < 5 → σ.1 25 r = if W.testBit r then 1 else 0
theorem cant_eq {σ : St} {P0 tk : Nat} (h4 : tk ≤ 4) (e26 : σ.1 26 0 = nI (mt tk)) (e27 : σ.1 27 0 = nI P0) : M_cant σ = some (0, s1 (s1 σ 29 0 (if tk = 0 then 1 else 2)) 30 0 (nI P0)) := by
  unfold M_cant M_wrong
  rw [e26]
  have m4 : mt tk ≤ 4 := by unfold mt; split <;> (try split) <;> omega
  by_cases k : tk = 0
  · subst k
    rw [if_pos (show nI (mt 0) = 4 from rfl), if_pos rfl]
    simp only [nm_eq, bnd2_some, e27]
    exact chkZ_0
  · have : mt tk ≠ 4 := by unfold mt; split <;> (try split) <;> omega
    rw [if_neg (show ¬ nI (mt tk) = 4 from fun y => this ((nI_eq (b := 4) (by omega) (by omega)).mp y)), if_neg k]
    simp only [nm_eq, bnd2_some, e27]
    exact chkZ_0
def FT (σ σ' : St) : Prop := (∀ x, x ∉ [29, 30] → σ'.1 x = σ.1 x) ∧ σ'.2 = σ.2
theorem FT_w (σ : St) (a b : Int32) : FT σ (s1 (s1 σ 29 0 a) 30 0 b) := ⟨fun x hx => by
  simp only [List.mem_cons, List.not_mem_nil, or_false, not_or] at hx
  rw [s1_oth _ _ _ _ hx.2, s1_oth _ _ _ _ hx.1], by rw [x12, x12]⟩
/-- the value of a rule: the class takes it as the reference does, or both find the same fault -/
theorem val_eq {K : List (Nat × Nat)} {t : TH} {σ : St} {z : Nat} {B : Nat → Nat} (h : TB t σ z B) {P0 P1 tk k n W : Nat} (hT : TK t σ z B P0 P1 tk) (hk : k < 5) (e57 : tS t 5 7 0 = nI k) (e56 : tS t 5 6 0 = 1) (hD : DR t σ n W) :
    (∃ fk j v t' σ', C_Reader_takeToken K t = some (fk, t') ∧ fk ≠ 0 ∧ t' = t ∧ j < 4 ∧ M_rule_B113 σ (-1) (nI k) = some (j, σ', v, 0) ∧ FT σ σ' ∧ σ'.1 29 0 = fk ∧ σ'.1 30 0 = nI P0) ∨
    (∃ v t', C_Reader_takeToken K t = some (0, t') ∧ M_rule_B113 σ (-1) (nI k) = some (4, σ, v, 0) ∧ tk ≤ 3 ∧ ET [(4, 0), (4, 1), (4, 2), (4, 3), (4, 4), (5, 6)] [] [] t t' ∧ tS t' 5 6 0 = nI 2 ∧ (∀ f, tS t' 4 f 0 = tS t 4 f 0) ∧ DR t' (s1 σ 24 k v) n W) := by
  obtain ⟨⟨a1, a2⟩, ⟨b1, b2⟩, ⟨c1, c2⟩, d, e, g⟩ := hT
  have hT : TK t σ z B P0 P1 tk := ⟨⟨a1, a2⟩, ⟨b1, b2⟩, ⟨c1, c2⟩, d, e, g⟩
  have tk4 : tk ≤ 4 := by omega
  have hz := h.1
  have hc := cant_eq tk4 c2 a2
  obtain ⟨_, _, _, _, _, w5, w6, w7, w8, w9⟩ := cw_v
  obtain ⟨v5, i5, j5, k5, l5⟩ := isw_eq (K := K) h hT (show 5 < 10 by omega)
  obtain ⟨v6, i6, j6, k6, l6⟩ := isw_eq (K := K) h hT (show 6 < 10 by omega)
  obtain ⟨v7, i7, j7, k7, l7⟩ := isw_eq (K := K) h hT (show 7 < 10 by omega)
  obtain ⟨v8, i8, j8, k8, l8⟩ := isw_eq (K := K) h hT (show 8 < 10 by omega)
  obtain ⟨v9, i9, j9, k9, l9⟩ := isw_eq (K := K) h hT (show 9 < 10 by omega)
  rw [w5] at k5
  rw [w6] at k6
  rw [w7] at k7
  rw [w8] at k8
  rw [w9] at k9
  obtain ⟨σc, hσc⟩ : ∃ σc, σc = s1 (s1 σ 29 0 (if tk = 0 then 1 else 2)) 30 0 (nI P0) := ⟨_, rfl⟩
  rw [← hσc] at hc
  have c29 : σc.1 29 0 = if tk = 0 then 1 else 2 := by rw [hσc, s1_oth _ _ _ _ (by decide), s1_e]
  have c30 : σc.1 30 0 = nI P0 := by rw [hσc, s1_e]
  have cF : FT σ σc := by rw [hσc]; exact FT_w _ _ _
  unfold C_Reader_takeToken
  rw [c1, e56, e57]
  by_cases t0 : tk = 0
  · -- no token: the fault is the first kind
    left
    rw [if_pos (show nI tk = 0 by rw [t0]; rfl)]
    rw [if_pos t0] at c29
    have z5 := l5 (by omega)
    have z6 := l6 (by omega)
    have z7 := l7 (by omega)
    have z8 := l8 (by omega)
    have z9 := l9 (by omega)
    have key : ∃ j v, j < 4 ∧ M_rule_B113 σ (-1) (nI k) = some (j, σc, v, 0) := by
      unfold M_rule_B113 M_rule_B118 M_rule_B162
      rw [k5, k6, k7, k8, k9, z5, z6, z7, z8, z9, c2]
      simp only [bnd_some, hc, bnd2_some, if_true]
      rcases (show k = 0 ∨ k = 1 ∨ k = 2 ∨ k = 3 ∨ k = 4 by omega) with rfl | rfl | rfl | rfl | rfl
      · refine ⟨2, -1, by omega, ?_⟩
        rw [if_neg (show ¬ nI 0 = 1 by decide), if_neg (show ¬ nI 0 = 4 by decide), t0, if_neg (show ¬ nI (mt 0) = 2 by decide)]
      · refine ⟨0, -1, by omega, ?_⟩
        rw [if_pos (show nI 1 = 1 from rfl), if_neg (show ¬ (0 : Int32) ≤ -1 by decide)]
      · refine ⟨2, -1, by omega, ?_⟩
        rw [if_neg (show ¬ nI 2 = 1 by decide), if_neg (show ¬ nI 2 = 4 by decide), t0, if_neg (show ¬ nI (mt 0) = 2 by decide)]
      · refine ⟨2, -1, by omega, ?_⟩
        rw [if_neg (show ¬ nI 3 = 1 by decide), if_neg (show ¬ nI 3 = 4 by decide), t0, if_neg (show ¬ nI (mt 0) = 2 by decide)]
      · refine ⟨1, -1, by omega, ?_⟩
        rw [if_neg (show ¬ nI 4 = 1 by decide), if_pos (show nI 4 = 4 from rfl), if_neg (show ¬ (0 : Int32) ≤ -1 by decide)]
    obtain ⟨j, v, q1, q2⟩ := key
    exact ⟨1, j, v, t, σc, rfl, by decide, rfl, q1, q2, cF, c29, c30⟩
  · rw [if_neg (nI_ne0 (by omega) (by omega)), nm_eq, if_neg (show ¬ (1 : Int32) = 0 by decide), if_pos rfl]
    rw [if_neg t0] at c29
    have f0 : ∀ (f : Nat) (a b : Int32) (g : Nat), tS (uS (uS t 4 g 1 a) 5 6 0 b) 4 f 0 = tS t 4 f 0 := fun f a b g => by
      rw [tS_c _ _ _ _ _ (by decide), tS_uS, if_neg (fun z => absurd z.2.2 (by decide))]
    have nz : ∀ {v : Int32}, (tk ≠ 1 → v = 0) → v ≠ 0 → tk ≤ 3 := fun dd nv => by
      have : tk = 1 := Classical.byContradiction (fun q => nv (dd q))
      omega
    obtain ⟨D0, D1, D2, D3, D4, D5, D6, D7, D8⟩ := hD
    rcases (show k = 1 ∨ k = 4 ∨ (k = 0 ∨ k = 2 ∨ k = 3) by omega) with rfl | rfl | hk3
    · have eT : C_Reader_takeChoice K t = (if v5 = 0 then (if v6 = 0 then some (2, t) else some (0, uS (uS t 4 1 1 0) 5 6 0 2)) else some (0, uS (uS t 4 1 1 1) 5 6 0 2)) := by
        unfold C_Reader_takeChoice
        simp only [e57, show (nI 1 = 1) = True from eq_true rfl, show (nI 1 = 4) = False from eq_false (by decide), j5, j6, bnd_some, if_true, if_false, nm_eq]
      have eM : M_rule_B113 σ (-1) (nI 1) = (if v5 = 0 then (if v6 = 0 then some (0, σc, -1, 0) else some (4, σ, 1, 0)) else some (4, σ, 0, 0)) := by
        unfold M_rule_B113 M_rule_B118
        rw [if_pos (show nI 1 = 1 from rfl), k5, bnd_some]
        by_cases q5 : v5 = 0
        · rw [if_pos q5, if_pos q5, k6, bnd_some]
          by_cases q6 : v6 = 0
          · rw [if_pos q6, if_pos q6, bnd_some, if_neg (show ¬ (0 : Int32) ≤ -1 by decide), hc, bnd2_some]
          · rw [if_neg q6, if_neg q6, bnd_some, if_pos (show (0 : Int32) ≤ 1 by decide)]
        · rw [if_neg q5, if_neg q5, bnd_some, if_pos (show (0 : Int32) ≤ 0 by decide)]
      rw [if_pos (show nI 1 = 1 from rfl), eT, eM]
      by_cases q5 : v5 = 0
      · rw [if_pos q5, if_pos q5]
        by_cases q6 : v6 = 0
        · rw [if_pos q6, if_pos q6, bnd2_some]
          exact Or.inl ⟨2, 0, -1, t, σc, rfl, by decide, rfl, by omega, rfl, cF, c29, c30⟩
        · rw [if_neg q6, if_neg q6, bnd2_some]
          refine Or.inr ⟨1, _, rfl, rfl, nz l6 q6, ET_uS (ET_uS (ET_rf _ _ _ _) (by decide) _ _) (by decide) _ _, tS_e _ _ _ _ _, fun f => f0 f _ _ _, ?_⟩
          unfold DR
          simp (disch := decide) only [tS_c, tS_f, tS_e, tS_i, xSP, xSL, tP_c, tP_f, tP_e, tP_i, xPS, xPL, tL_c, tL_f, tL_e, tL_i, xLS, xLP, xNS, xNL, xNP, s1_oth, s1_e, s1_i, x12, x21]
          exact ⟨D0, Or.inl ⟨trivial, trivial⟩, D2, D3, D4, D5, D6, D7, D8⟩
      · rw [if_neg q5, if_neg q5, bnd2_some]
        refine Or.inr ⟨0, _, rfl, rfl, nz l5 q5, ET_uS (ET_uS (ET_rf _ _ _ _) (by decide) _ _) (by decide) _ _, tS_e _ _ _ _ _, fun f => f0 f _ _ _, ?_⟩
        unfold DR
        simp (disch := decide) only [tS_c, tS_f, tS_e, tS_i, xSP, xSL, tP_c, tP_f, tP_e, tP_i, xPS, xPL, tL_c, tL_f, tL_e, tL_i, xLS, xLP, xNS, xNL, xNP, s1_oth, s1_e, s1_i, x12, x21]
        exact ⟨D0, Or.inr ⟨trivial, trivial⟩, D2, D3, D4, D5, D6, D7, D8⟩
    · have eT : C_Reader_takeChoice K t = (if v7 = 0 then (if v8 = 0 then (if v9 = 0 then some (2, t) else some (0, uS (uS t 4 4 1 2) 5 6 0 2)) else some (0, uS (uS t 4 4 1 1) 5 6 0 2)) else some (0, uS (uS t 4 4 1 0) 5 6 0 2)) := by
        unfold C_Reader_takeChoice
        simp only [e57, show (nI 4 = 1) = False from eq_false (by decide), show (nI 4 = 4) = True from eq_true rfl, j7, j8, j9, bnd_some, if_true, if_false, nm_eq]
      have eM : M_rule_B113 σ (-1) (nI 4) = (if v7 = 0 then (if v8 = 0 then (if v9 = 0 then some (1, σc, -1, 0) else some (4, σ, 2, 0)) else some (4, σ, 1, 0)) else some (4, σ, 0, 0)) := by
        unfold M_rule_B113 M_rule_B162
        rw [if_neg (show ¬ nI 4 = 1 by decide), if_pos (show nI 4 = 4 from rfl), k7, bnd_some]
        by_cases q7 : v7 = 0
        · rw [if_pos q7, if_pos q7, k8, bnd_some]
          by_cases q8 : v8 = 0
          · rw [if_pos q8, if_pos q8, k9, bnd_some]
            by_cases q9 : v9 = 0
            · rw [if_pos q9, if_pos q9, bnd_some, if_neg (show ¬ (0 : Int32) ≤ -1 by decide), hc, bnd2_some]
            · rw [if_neg q9, if_neg q9, bnd_some, if_pos (show (0 : Int32) ≤ 2 by decide)]
          · rw [if_neg q8, if_neg q8, bnd_some, if_pos (show (0 : Int32) ≤ 1 by decide)]
        · rw [if_neg q7, if_neg q7, bnd_some, if_pos (show (0 : Int32) ≤ 0 by decide)]
      have ok : ∀ w : Nat, w ≤ 2 → DR (uS (uS t 4 4 1 (nI w)) 5 6 0 2) (s1 σ 24 4 (nI w)) n W := fun w hw => by
        unfold DR
        simp (disch := decide) only [tS_c, tS_f, tS_e, tS_i, xSP, xSL, tP_c, tP_f, tP_e, tP_i, xPS, xPL, tL_c, tL_f, tL_e, tL_i, xLS, xLP, xNS, xNL, xNP, s1_oth, s1_e, s1_i, x12, x21]
        exact ⟨D0, D1, D2, D3, ⟨w, hw, rfl, rfl⟩, D5, D6, D7, D8⟩
      rw [if_neg (show ¬ nI 4 = 1 by decide), if_pos (show nI 4 = 4 from rfl), eT, eM]
      by_cases q7 : v7 = 0
      · rw [if_pos q7, if_pos q7]
        by_cases q8 : v8 = 0
        · rw [if_pos q8, if_pos q8]
          by_cases q9 : v9 = 0
          · rw [if_pos q9, if_pos q9, bnd2_some]
            exact Or.inl ⟨2, 1, -1, t, σc, rfl, by decide, rfl, by omega, rfl, cF, c29, c30⟩
          · rw [if_neg q9, if_neg q9, bnd2_some]
            exact Or.inr ⟨2, _, rfl, rfl, nz l9 q9, ET_uS (ET_uS (ET_rf _ _ _ _) (by decide) _ _) (by decide) _ _, tS_e _ _ _ _ _, fun f => f0 f _ _ _, ok 2 (by omega)⟩
        · rw [if_neg q8, if_neg q8, bnd2_some]
          exact Or.inr ⟨1, _, rfl, rfl, nz l8 q8, ET_uS (ET_uS (ET_rf _ _ _ _) (by decide) _ _) (by decide) _ _, tS_e _ _ _ _ _, fun f => f0 f _ _ _, ok 1 (by omega)⟩
      · rw [if_neg q7, if_neg q7, bnd2_some]
        exact Or.inr ⟨0, _, rfl, rfl, nz l7 q7, ET_uS (ET_uS (ET_rf _ _ _ _) (by decide) _ _) (by decide) _ _, tS_e _ _ _ _ _, fun f => f0 f _ _ _, ok 0 (by omega)⟩
    · have n1 : ¬ nI k = 1 := fun y => by have := (nI_eq (b := 1) (by omega) (by omega)).mp y; omega
      have n4 : ¬ nI k = 4 := fun y => by have := (nI_eq (b := 4) (by omega) (by omega)).mp y; omega
      have m4 : mt tk ≤ 4 := by unfold mt; split <;> (try split) <;> omega
      unfold M_rule_B113 C_Reader_takeNumber
      rw [if_neg n1, if_neg n4, if_neg n1, if_neg n4, c1, c2]
      by_cases k2 : tk = 2
      · subst k2
        obtain ⟨g1, g2, g3⟩ := g rfl
        have dd : P0 < P1 ∧ P1 ≤ z := by omega
        have eP : P0 + (P1 - P0) = P1 := by omega
        obtain ⟨x, ex⟩ := tn_L (K := K) h (P0 := P0) (len := P1 - P0) (by omega) (by rw [eP]; exact b1) g2 100000 0 (by omega) (by omega)
        have dl : dvN B P0 (P1 - P0) < 1000 := Nat.lt_of_lt_of_le (dvN_lt _ g2) (by
          have : (10 : Nat) ^ (P1 - P0) ≤ 10 ^ 3 := Nat.pow_le_pow_right (by omega) g1
          have e3 : (10 : Nat) ^ 3 = 1000 := rfl
          omega)
        rw [nuI_d _ g2] at g3
        obtain ⟨mx, hmx⟩ : ∃ mx : Nat, mx = if k = 0 then 120 else if k = 2 then 9 else 999 := ⟨_, rfl⟩
        have mxl : mx ≤ 999 := by rw [hmx]; split <;> (try split) <;> omega
        have e232 : ∀ a b, M_rule_B232 σ a (nI k) b = some (nI mx) := fun a b => by
          unfold M_rule_B232
          rcases hk3 with rfl | rfl | rfl
          · rw [if_pos (show nI 0 = 0 from rfl), hmx]; rfl
          · rw [if_neg (show ¬ nI 2 = 0 by decide), if_pos (show nI 2 = 2 from rfl), hmx]; rfl
          · rw [if_neg (show ¬ nI 3 = 0 by decide), if_neg (show ¬ nI 3 = 2 by decide), hmx]; rfl
        have eMo : C_Reader_mostOfRule K t = some (nI mx) := by
          unfold C_Reader_mostOfRule
          rw [e57]
          rcases hk3 with rfl | rfl | rfl
          · rw [if_pos (show nI 0 = 0 from rfl), hmx]; rfl
          · rw [if_neg (show ¬ nI 2 = 0 by decide), if_pos (show nI 2 = 2 from rfl), hmx]; rfl
          · rw [if_neg (show ¬ nI 3 = 0 by decide), if_neg (show ¬ nI 3 = 2 by decide), hmx]; rfl
        rw [if_pos (show nI 2 = 2 from rfl), if_pos (show nI (mt 2) = 2 from rfl), nm_eq, a1, show C_Reader_takeNumber_L17 100000 K t (nI P0) 0 = some (x, nI (dvN B P0 (P1 - P0))) from ex, bnd_some, nm2_eq, eMo, bnd_some, g3, e232, bnd_some, e57, a2]
        by_cases le : dvN B P0 (P1 - P0) ≤ mx
        · rw [if_pos (nI_le le (by omega)), if_pos (nI_le le (by omega))]
          right
          rcases hk3 with rfl | rfl | rfl
          · rw [if_pos (show nI 0 = 0 from rfl)]
            simp only [nm_eq, bnd2_some]
            refine ⟨_, _, rfl, rfl, by omega, ET_uS (ET_uS (ET_rf _ _ _ _) (by decide) _ _) (by decide) _ _, tS_e _ _ _ _ _, fun f => f0 f _ _ _, ?_⟩
            unfold DR
            simp (disch := decide) only [tS_c, tS_f, tS_e, tS_i, xSP, xSL, tP_c, tP_f, tP_e, tP_i, xPS, xPL, tL_c, tL_f, tL_e, tL_i, xLS, xLP, xNS, xNL, xNP, s1_oth, s1_e, s1_i, x12, x21]
            exact ⟨⟨_, by rw [hmx] at le; exact le, rfl, rfl⟩, D1, D2, D3, D4, D5, D6, D7, D8⟩
          · rw [if_neg (show ¬ nI 2 = 0 by decide), if_pos (show nI 2 = 2 from rfl)]
            simp only [nm_eq, bnd2_some]
            refine ⟨_, _, rfl, rfl, by omega, ET_uS (ET_uS (ET_rf _ _ _ _) (by decide) _ _) (by decide) _ _, tS_e _ _ _ _ _, fun f => f0 f _ _ _, ?_⟩
            unfold DR
            simp (disch := decide) only [tS_c, tS_f, tS_e, tS_i, xSP, xSL, tP_c, tP_f, tP_e, tP_i, xPS, xPL, tL_c, tL_f, tL_e, tL_i, xLS, xLP, xNS, xNL, xNP, s1_oth, s1_e, s1_i, x12, x21]
            exact ⟨D0, D1, ⟨_, by rw [hmx] at le; exact le, rfl, rfl⟩, D3, D4, D5, D6, D7, D8⟩
          · rw [if_neg (show ¬ nI 3 = 0 by decide), if_neg (show ¬ nI 3 = 2 by decide)]
            simp only [nm_eq, bnd2_some]
            refine ⟨_, _, rfl, rfl, by omega, ET_uS (ET_uS (ET_rf _ _ _ _) (by decide) _ _) (by decide) _ _, tS_e _ _ _ _ _, fun f => f0 f _ _ _, ?_⟩
            unfold DR
            simp (disch := decide) only [tS_c, tS_f, tS_e, tS_i, xSP, xSL, tP_c, tP_f, tP_e, tP_i, xPS, xPL, tL_c, tL_f, tL_e, tL_i, xLS, xLP, xNS, xNL, xNP, s1_oth, s1_e, s1_i, x12, x21]
            exact ⟨D0, D1, D2, ⟨_, by rw [hmx] at le; exact le, rfl, rfl⟩, D4, D5, D6, D7, D8⟩
        · rw [if_neg (nI_ge (by omega) (by omega)), if_neg (nI_ge (by omega) (by omega)), bnd2_some]
          left
          unfold M_wrong
          simp only [nm_eq, bnd2_some]
          exact ⟨3, 3, _, t, _, rfl, by decide, rfl, by omega, rfl, FT_w _ _ _, by rw [s1_oth _ _ _ _ (by decide), s1_e], s1_e _ _ _ _⟩
      · have mk : mt tk ≠ 2 := by unfold mt; split <;> (try split) <;> omega
        rw [if_neg (show ¬ nI tk = 2 from fun y => k2 ((nI_eq (b := 2) (by omega) (by omega)).mp y)), if_neg (show ¬ nI (mt tk) = 2 from fun y => mk ((nI_eq (b := 2) (by omega) (by omega)).mp y)), hc, bnd2_some, bnd2_some]
        exact Or.inl ⟨2, 2, _, t, σc, rfl, by decide, rfl, by omega, rfl, cF, c29, c30⟩
