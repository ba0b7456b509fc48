def rcs (B : Nat → Nat → Nat) (k : Nat) (C : Nat → Nat) (r c : Nat) : Int := if r < k then (if c = C r then cst B r c else 1000000) else cst B r c
def LoS (σ : St) (B : Nat → Nat → Nat) (R k : Nat) (C : Nat → Nat) : Prop := ∀ r c, r < R → c < 72 → σ.1 52 (72 * r + c) = iI (rcs B k C r c)
def cost (B : Nat → Nat → Nat) (R : Nat) (g : Nat → Nat) : Int := smI (fun r => cst B r (g r)) R
def costR (B : Nat → Nat → Nat) (k : Nat) (C : Nat → Nat) (R : Nat) (g : Nat → Nat) : Int := smI (fun r => rcs B k C r (g r)) R
theorem cst_bd {B : Nat → Nat → Nat} {k c : Nat} (h : B k c < 256) : 0 ≤ cst B k c ∧ cst B k c ≤ 1000000 := by
  unfold cst
  split
  · split <;> omega
  · omega
theorem rcs_bd {B : Nat → Nat → Nat} {k r c : Nat} {C : Nat → Nat} (h : B r c < 256) : 0 ≤ rcs B k C r c ∧ rcs B k C r c ≤ 1000000 ∧ cst B r c ≤ rcs B k C r c := by
  have := cst_bd h
  unfold rcs
  split
  · split <;> omega
  · omega
theorem smI_term {f : Nat → Int} : ∀ n, (∀ i, i < n → 0 ≤ f i) → ∀ i, i < n → f i ≤ smI f n := by
  intro n
  induction n with
  | zero => intro _ i hi; exact absurd hi (by omega)
  | succ n ih =>
    intro h i hi
    rw [smI_s]
    have a := smI_nonneg n (fun j hj => h j (by omega))
    have b := h n (by omega)
    rcases Nat.lt_or_ge i n with k | k
    · have := ih (fun j hj => h j (by omega)) i k
      omega
    · rw [show i = n by omega]
      omega
theorem rc_eq {B : Nat → Nat → Nat} {R k : Nat} {C g : Nat → Nat} (hB : ∀ r c, r < R → B r c < 256) (h : costR B k C R g < 1000000) : (∀ j, j < k → j < R → g j = C j) ∧ costR B k C R g = cost B R g := by
  have nn : ∀ i, i < R → 0 ≤ rcs B k C i (g i) := fun i hi => (rcs_bd (hB i (g i) hi)).1
  have e : ∀ j, j < k → j < R → g j = C j := fun j hj hR => by
    refine Classical.byContradiction (fun z => ?_)
    have q : rcs B k C j (g j) ≤ costR B k C R g := smI_term R nn j hR
    have : rcs B k C j (g j) = 1000000 := by
      unfold rcs
      rw [if_pos hj, if_neg z]
    omega
  refine ⟨e, smI_congr R (fun r hr => ?_)⟩
  show rcs B k C r (g r) = cst B r (g r)
  unfold rcs
  by_cases q : r < k
  · rw [if_pos q, if_pos (e r q hr)]
  · rw [if_neg q]
theorem rc_pre {B : Nat → Nat → Nat} {R k : Nat} {C g : Nat → Nat} (h : ∀ j, j < k → j < R → g j = C j) : costR B k C R g = cost B R g := by
  refine smI_congr R (fun r hr => ?_)
  show rcs B k C r (g r) = cst B r (g r)
  unfold rcs
  by_cases q : r < k
  · rw [if_pos q, if_pos (h r q hr)]
  · rw [if_neg q]
theorem rc_ge {B : Nat → Nat → Nat} {R k : Nat} {C g : Nat → Nat} (hB : ∀ r c, r < R → B r c < 256) : cost B R g ≤ costR B k C R g := smI_le R (fun r hr => (rcs_bd (hB r (g r) hr)).2.2)
theorem solve_R {σ : St} {B : Nat → Nat → Nat} {R k : Nat} {C : Nat → Nat} (hR : R ≤ 8) (hB : ∀ r c, r < R → B r c < 256) (hS : LoS σ B R k C) : ∃ S σ', M_solve σ (nI R) = some (iI S, σ') ∧ Fx [54, 55, 56, 57, 58, 60] σ σ' ∧ (∃ g, ij R g ∧ costR B k C R g = S) ∧ (∀ g, ij R g → S ≤ costR B k C R g) ∧ 0 ≤ S ∧ S ≤ 8000000 := by
  obtain ⟨S, σ', e, F, ⟨g, g1, g2⟩, g3⟩ := solve_spec (L := fun r c => rcs B k C (r - 1) (c - 1)) (R := R) (σ := σ) hR (fun r c a b a' b' => by
    have q := hS (r - 1) (c - 1) (by omega) (by omega)
    have w := rcs_bd (k := k) (C := C) (hB (r - 1) (c - 1) (by omega))
    rw [show 72 * (r - 1) + c - 1 = 72 * (r - 1) + (c - 1) by omega]
    exact ⟨q, w.1, w.2.1⟩)
  have e2 : costR B k C R g = S := g2
  have n1 : 0 ≤ costR B k C R g := smI_nonneg R (fun i hi => (rcs_bd (hB i (g i) hi)).1)
  have n2 : costR B k C R g ≤ R * 1000000 := smI_up R (fun i hi => (rcs_bd (hB i (g i) hi)).2.1)
  exact ⟨S, σ', e, F, ⟨g, g1, e2⟩, g3, by omega, by omega⟩
theorem hold_22 {σ : St} {k c : Nat} (hk : k < 8) (hc : c < 72) (x3 x4 : Int32) : ∀ (f j : Nat) (τ : St), j ≤ 72 → 72 < f + j → Fx [52, 53] σ τ → (∀ i, i < j → τ.1 53 i = σ.1 52 (72 * k + i)) → (∀ x, x < 576 → τ.1 52 x = if 72 * k ≤ x ∧ x < 72 * k + j ∧ x ≠ 72 * k + c then 1000000 else σ.1 52 x) →
    ∃ σ' x, M_holds_L22 f τ (nI j) (nI k) (nI c) x3 x4 = some (σ', x) ∧ Fx [52, 53] σ σ' ∧ (∀ i, i < 72 → σ'.1 53 i = σ.1 52 (72 * k + i)) ∧ ∀ x, x < 576 → σ'.1 52 x = if 72 * k ≤ x ∧ x < 72 * k + 72 ∧ x ≠ 72 * k + c then 1000000 else σ.1 52 x := by
  intro f
  induction f with
  | zero =>
    intro j τ _ h
    exact absurd h (by omega)
  | succ f ih =>
    intro j τ hj hf hF h1 h2
    unfold M_holds_L22
    rcases Nat.lt_or_ge j 72 with q | q
    · rw [if_neg (show ¬ (72 : Int32) ≤ nI j from fun z => by have := (nI_leI (a := 72) (by omega) (by omega)).mp z; omega), show (72 : Int32) = nI 72 from rfl, pk_mul, nI_add]
      simp only [chkI_nI (show 72 * k + j < 576 by omega) (show 576 < 2 ^ 31 by omega), chkI_nI (show j < 72 by omega) (show 72 < 2 ^ 31 by omega), nI_nat (show 72 * k + j < 2 ^ 31 by omega), nI_nat (show j < 2 ^ 31 by omega), nm_eq, nI_1]
      have e : τ.1 52 (72 * k + j) = σ.1 52 (72 * k + j) := by
        rw [h2 _ (by omega), if_neg (fun z => by have := z.2.1; omega)]
      rw [e]
      have h1' : ∀ i, i < j + 1 → (s1 τ 53 j (σ.1 52 (72 * k + j))).1 53 i = σ.1 52 (72 * k + i) := fun i hi => by
        rw [s1_self]
        by_cases w : i = j
        · rw [if_pos w, w]
        · rw [if_neg w]
          exact h1 i (by omega)
      by_cases w : j = c
      · rw [if_pos (show nI j = nI c by rw [w])]
        refine ih (j + 1) _ (by omega) (by omega) (Fx_s1 hF (by decide) _ _) h1' (fun x hx => ?_)
        rw [s1_oth _ _ _ _ (show 52 ≠ 53 by decide), h2 x hx]
        exact ifc ⟨fun z => ⟨z.1, by have := z.2.1; omega, z.2.2⟩, fun z => ⟨z.1, by have := z.2.1; have := z.2.2; omega, z.2.2⟩⟩
      · rw [if_neg (fun z => w ((nI_eq (show j < 2 ^ 31 by omega) (show c < 2 ^ 31 by omega)).mp z))]
        refine ih (j + 1) _ (by omega) (by omega) (Fx_s1 (Fx_s1 hF (by decide) _ _) (by decide) _ _) (fun i hi => ?_) (fun x hx => ?_)
        · rw [s1_oth _ _ _ _ (show 53 ≠ 52 by decide)]
          exact h1' i hi
        · rw [s1_self, s1_oth _ _ _ _ (show 52 ≠ 53 by decide)]
          by_cases y : x = 72 * k + j
          · rw [if_pos y, if_pos ⟨by omega, by omega, by omega⟩]
          · rw [if_neg y, h2 x hx]
            exact ifc ⟨fun z => ⟨z.1, by have := z.2.1; omega, z.2.2⟩, fun z => ⟨z.1, by have := z.2.1; omega, z.2.2⟩⟩
    · have : j = 72 := by omega
      subst this
      rw [if_pos (show (72 : Int32) ≤ nI 72 by decide)]
      exact ⟨τ, _, rfl, hF, h1, h2⟩
theorem hold_90 {σ : St} {k : Nat} (hk : k < 8) (x2 x3 x4 : Int32) : ∀ (f j : Nat) (τ : St), j ≤ 72 → 72 < f + j → Fx [52] σ τ → (∀ x, x < 576 → τ.1 52 x = if 72 * k ≤ x ∧ x < 72 * k + j then σ.1 53 (x - 72 * k) else σ.1 52 x) →
    ∃ σ' x, M_holds_L90 f τ (nI j) (nI k) x2 x3 x4 = some (σ', x) ∧ Fx [52] σ σ' ∧ ∀ x, x < 576 → σ'.1 52 x = if 72 * k ≤ x ∧ x < 72 * k + 72 then σ.1 53 (x - 72 * k) else σ.1 52 x := by
  intro f
  induction f with
  | zero =>
    intro j τ _ h
    exact absurd h (by omega)
  | succ f ih =>
    intro j τ hj hf hF h2
    unfold M_holds_L90
    rcases Nat.lt_or_ge j 72 with q | q
    · rw [if_neg (show ¬ (72 : Int32) ≤ nI j from fun z => by have := (nI_leI (a := 72) (by omega) (by omega)).mp z; omega), show (72 : Int32) = nI 72 from rfl, pk_mul, nI_add]
      simp only [chkI_nI (show 72 * k + j < 576 by omega) (show 576 < 2 ^ 31 by omega), chkI_nI (show j < 72 by omega) (show 72 < 2 ^ 31 by omega), nI_nat (show 72 * k + j < 2 ^ 31 by omega), nI_nat (show j < 2 ^ 31 by omega), nm_eq, nI_1]
      rw [hF.1 53 (by decide)]
      refine ih (j + 1) _ (by omega) (by omega) (Fx_s1 hF (by decide) _ _) (fun x hx => ?_)
      rw [s1_self]
      by_cases y : x = 72 * k + j
      · rw [if_pos y, if_pos ⟨by omega, by omega⟩, y, show 72 * k + j - 72 * k = j by omega]
      · rw [if_neg y, h2 x hx]
        exact ifc ⟨fun z => ⟨z.1, by have := z.2; omega⟩, fun z => ⟨z.1, by have := z.2; omega⟩⟩
    · have : j = 72 := by omega
      subst this
      rw [if_pos (show (72 : Int32) ≤ nI 72 by decide)]
      exact ⟨τ, _, rfl, hF, h2⟩
/-- an assignment that is best, and begins so -/
def opt2 (B : Nat → Nat → Nat) (R : Nat) (best : Int) (k : Nat) (C g : Nat → Nat) : Prop := ij R g ∧ cost B R g = best ∧ ∀ j, j < k → g j = C j
theorem holds_spec {σ : St} {B : Nat → Nat → Nat} {R k c : Nat} {C : Nat → Nat} {best : Int} (hR : R ≤ 8) (hk : k < R) (hc : c < 72) (hB : ∀ r c, r < R → B r c < 256) (hS : LoS σ B R k C) (b0 : 0 ≤ best) (b1 : best ≤ 2040) (hb : ∀ g, ij R g → best ≤ cost B R g) :
    ∃ v σ', M_holds σ (nI k) (nI c) (nI R) (iI best) = some (v, σ') ∧ Fx [52, 53, 54, 55, 56, 57, 58, 60] σ σ' ∧ ((v = 1 ∧ LoS σ' B R (k + 1) (fun j => if j = k then c else C j) ∧ ∃ g, opt2 B R best k C g ∧ g k = c) ∨ (v = 0 ∧ LoS σ' B R k C ∧ ¬ ∃ g, opt2 B R best k C g ∧ g k = c)) := by
  have hcell := hS k c hk hc
  have hrk : rcs B k C k c = cst B k c := by
    unfold rcs
    rw [if_neg (Nat.lt_irrefl k)]
  rw [hrk] at hcell
  have cb := cst_bd (hB k c hk)
  unfold M_holds
  rw [show (72 : Int32) = nI 72 from rfl, pk_mul, nI_add, chkI_nI (show 72 * k + c < 576 by omega) (by omega), nI_nat (show 72 * k + c < 2 ^ 31 by omega), hcell]
  by_cases nv : cst B k c = 1000000
  · rw [if_pos (show iI (cst B k c) = 1000000 by rw [nv]; rfl)]
    refine ⟨0, σ, rfl, Fx_rf _ _, Or.inr ⟨rfl, hS, fun ⟨g, ⟨g1, g2, g3⟩, g4⟩ => ?_⟩⟩
    have q := smI_term (f := fun r => cst B r (g r)) R (fun i hi => (cst_bd (hB i (g i) hi)).1) k hk
    have q' : cst B k (g k) ≤ cost B R g := q
    rw [g4, nv, g2] at q'
    omega
  · rw [if_neg (show ¬ iI (cst B k c) = 1000000 from fun z => nv ((iI_eq (b := 1000000) (by omega) (by omega) (by omega) (by omega)).mp z))]
    obtain ⟨σ1, x, e1, F1, k1, l1⟩ := hold_22 (σ := σ) (k := k) (c := c) (show k < 8 by omega) hc (nI R) (iI best) 100000 0 σ (by omega) (by omega) (Fx_rf _ _) (fun i hi => absurd hi (by omega)) (fun x _ => by rw [if_neg (fun z => by have := z.2.1; have := z.1; omega)])
    have S1 : LoS σ1 B R (k + 1) (fun j => if j = k then c else C j) := fun r c' hr hc' => by
      rw [l1 _ (by omega)]
      rcases Nat.lt_trichotomy r k with y | y | y
      · rw [if_neg (fun z => by have := z.1; omega), hS r c' hr hc']
        unfold rcs
        rw [if_pos y, if_pos (show r < k + 1 by omega)]
        simp only [show ¬ r = k by omega, if_false]
      · subst y
        unfold rcs
        rw [if_pos (show r < r + 1 by omega)]
        simp only [if_true]
        by_cases w : c' = c
        · rw [if_neg (fun z => z.2.2 (by rw [w])), if_pos w, hS r c' hr hc']
          unfold rcs
          rw [if_neg (Nat.lt_irrefl r)]
        · rw [if_pos ⟨by omega, by omega, by omega⟩, if_neg w]
          rfl
      · rw [if_neg (fun z => by have := z.2.1; omega), hS r c' hr hc']
        unfold rcs
        rw [if_neg (by omega), if_neg (by omega)]
    obtain ⟨S, σ2, e2, F2, ⟨g0, g1, g2⟩, g3, n1, n2⟩ := solve_R hR hB S1
    rw [show M_holds_L22 100000 σ 0 (nI k) (nI c) (nI R) (iI best) = some (σ1, x) from e1, bnd_some, nm2_eq, e2, bnd2_some]
    have S2 : LoS σ2 B R (k + 1) (fun j => if j = k then c else C j) := fun r c' hr hc' => by
      rw [F2.1 52 (by decide)]
      exact S1 r c' hr hc'
    by_cases eb : S = best
    · rw [if_pos (show iI S = iI best by rw [eb])]
      refine ⟨1, σ2, rfl, Fx_tr (Fx_mono F1 (by decide)) (Fx_mono F2 (by decide)), Or.inl ⟨rfl, S2, g0, ⟨g1, ?_, fun j hj => ?_⟩, ?_⟩⟩
      · rw [← (rc_eq hB (show costR B (k + 1) (fun j => if j = k then c else C j) R g0 < 1000000 by omega)).2, g2, eb]
      · rw [(rc_eq hB (show costR B (k + 1) (fun j => if j = k then c else C j) R g0 < 1000000 by omega)).1 j (by omega) (by omega)]
        show (if j = k then c else C j) = C j
        rw [if_neg (by omega)]
      · rw [(rc_eq hB (show costR B (k + 1) (fun j => if j = k then c else C j) R g0 < 1000000 by omega)).1 k (by omega) hk]
        show (if k = k then c else C k) = c
        rw [if_pos rfl]
    · rw [if_neg (fun z => eb ((iI_eq (by omega) (by omega) (by omega) (by omega)).mp z))]
      obtain ⟨σ3, y, e3, F3, l3⟩ := hold_90 (σ := σ2) (k := k) (show k < 8 by omega) (nI c) (nI R) (iI best) 100000 0 σ2 (by omega) (by omega) (Fx_rf _ _) (fun x _ => by rw [if_neg (fun z => by have := z.2; have := z.1; omega)])
      rw [show M_holds_L90 100000 σ2 0 (nI k) (nI c) (nI R) (iI best) = some (σ3, y) from e3, bnd_some, nm2_eq]
      refine ⟨0, σ3, rfl, Fx_tr (Fx_mono F1 (by decide)) (Fx_tr (Fx_mono F2 (by decide)) (Fx_mono F3 (by decide))), Or.inr ⟨rfl, fun r c' hr hc' => ?_, fun ⟨g, ⟨h1, h2, h3⟩, h4⟩ => ?_⟩⟩
      · rw [l3 _ (by omega)]
        by_cases w : r = k
        · subst w
          rw [if_pos ⟨by omega, by omega⟩, show 72 * r + c' - 72 * r = c' by omega, F2.1 53 (by decide), k1 c' hc', hS r c' hr hc']
        · rw [if_neg (fun z => by have := z.2; have := z.1; omega), F2.1 52 (by decide), l1 _ (by omega), if_neg (fun z => by have := z.2.1; have := z.1; omega), hS r c' hr hc']
      · have q1 := g3 g h1
        rw [rc_pre (k := k + 1) (C := fun j => if j = k then c else C j) (g := g) (fun j hj hjR => by
          show g j = (if j = k then c else C j)
          by_cases w : j = k
          · rw [if_pos w, w, h4]
          · rw [if_neg w]
            exact h3 j (by omega)), h2] at q1
        have q2 := rc_ge (k := k + 1) (C := fun j => if j = k then c else C j) (g := g0) hB
        have q3 := hb g0 g1
        omega
