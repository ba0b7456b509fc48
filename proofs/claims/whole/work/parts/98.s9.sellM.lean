def bo (c : Nat) : Int32 := if c < 64 then nI c else -1
theorem gr_161 {B : Nat → Nat → Nat} {R k : Nat} {C : Nat → Nat} {best : Int} (hR : R ≤ 8) (hk : k < R) (hB : ∀ r c, r < R → B r c < 256) (b0 : 0 ≤ best) (b1 : best ≤ 2040) (hb : ∀ g, ij R g → best ≤ cost B R g) {g : Nat → Nat} (hg : opt2 B R best k C g) :
    ∀ (f c : Nat) (σ : St), c ≤ g k → g k < f + c → LoS σ B R k C → (∀ x, x < c → ¬ ∃ g, opt2 B R best k C g ∧ g k = x) →
      ∃ σ' c', M_sell_L161 f σ (nI c) (nI k) (iI best) (nI R) = some (σ', nI c') ∧ Fx [52, 53, 54, 55, 56, 57, 58, 60] σ σ' ∧ c' < 72 ∧ LoS σ' B R (k + 1) (fun j => if j = k then c' else C j) ∧ (∃ g, opt2 B R best k C g ∧ g k = c') ∧ ∀ x, x < c' → ¬ ∃ g, opt2 B R best k C g ∧ g k = x := by
  intro f
  induction f with
  | zero =>
    intro c σ h1 h2
    exact absurd h2 (by omega)
  | succ f ih =>
    intro c σ h1 hf hS hx
    have h72 := hg.1.1 k hk
    unfold M_sell_L161
    obtain ⟨v, σ', e, F, q⟩ := holds_spec (c := c) hR hk (by omega) hB hS b0 b1 hb
    rw [e, bnd2_some]
    rcases q with ⟨rfl, q1, q2⟩ | ⟨rfl, q1, q2⟩
    · rw [if_neg (show ¬ (1 : Int32) = 0 by decide)]
      exact ⟨σ', c, rfl, F, by omega, q1, q2, hx⟩
    · rw [if_pos rfl, nm_eq, nI_1]
      have ne : c ≠ g k := fun z => q2 ⟨g, hg, z.symm⟩
      obtain ⟨σ'', c', e', F', w⟩ := ih (c + 1) σ' (by omega) (by omega) q1 (fun x hx' => by
        rcases Nat.lt_or_ge x c with y | y
        · exact hx x y
        · rw [show x = c by omega]
          exact q2)
      exact ⟨σ'', c', e', Fx_tr F F', w⟩
def SF : List Nat := [0, 52, 53, 54, 55, 56, 57, 58, 59, 60]
theorem gr_153 {B : Nat → Nat → Nat} {R : Nat} {best : Int} {σ0 : St} (hR : R ≤ 8) (hB : ∀ r c, r < R → B r c < 256) (b0 : 0 ≤ best) (b1 : best ≤ 2040) (hb : ∀ g, ij R g → best ≤ cost B R g) :
    ∀ (f k : Nat) (σ : St) (C : Nat → Nat), k ≤ R → R < f + k → LoS σ B R k C → Fx SF σ0 σ → (∃ g, opt2 B R best k C g) → (∀ j, j < k → σ.1 59 j = bo (C j)) → (∀ j, k ≤ j → σ.1 59 j = σ0.1 59 j) → (∀ j, j < k → ∀ g, opt2 B R best j C g → C j ≤ g j) →
      ∃ σ' x C', M_sell_L153 f σ (nI k) (iI best) (nI R) = some (σ', x) ∧ Fx SF σ0 σ' ∧ (∃ g, opt2 B R best R C' g) ∧ (∀ j, j < R → σ'.1 59 j = bo (C' j)) ∧ (∀ j, R ≤ j → σ'.1 59 j = σ0.1 59 j) ∧ ∀ j, j < R → ∀ g, opt2 B R best j C' g → C' j ≤ g j := by
  intro f
  induction f with
  | zero =>
    intro k σ C h1 h2
    exact absurd h2 (by omega)
  | succ f ih =>
    intro k σ C hk hf hS hF hg h59 h59' hl
    unfold M_sell_L153
    rcases Nat.lt_or_ge k R with q | q
    · rw [if_neg (nI_ge q (by omega))]
      obtain ⟨g, hg⟩ := hg
      obtain ⟨σ1, c, e, F1, c72, S1, ⟨g', g1, g2⟩, mn⟩ := gr_161 hR q hB b0 b1 hb hg 100000 0 σ (by omega) (by have := hg.1.1 k q; omega) hS (fun x hx => absurd hx (by omega))
      rw [show M_sell_L161 100000 σ 0 (nI k) (iI best) (nI R) = some (σ1, nI c) from e, bnd_some, nm2_eq]
      simp only [chkI_nI (show k < 8 by omega) (show 8 < 2 ^ 31 by omega), nI_nat (show k < 2 ^ 31 by omega), nm_eq, nI_1]
      have F2 : Fx SF σ0 σ1 := Fx_tr hF (Fx_mono F1 (by decide))
      have go : ∃ σ' x C', M_sell_L153 f (s1 σ1 59 k (bo c)) (nI (k + 1)) (iI best) (nI R) = some (σ', x) ∧ Fx SF σ0 σ' ∧ (∃ g, opt2 B R best R C' g) ∧ (∀ j, j < R → σ'.1 59 j = bo (C' j)) ∧ (∀ j, R ≤ j → σ'.1 59 j = σ0.1 59 j) ∧ ∀ j, j < R → ∀ g, opt2 B R best j C' g → C' j ≤ g j := by
        have e59 : σ1.1 59 = σ.1 59 := F1.1 59 (by decide)
        refine ih (k + 1) _ (fun j => if j = k then c else C j) (by omega) (by omega) (fun r c' hr hc' => by rw [s1_oth _ _ _ _ (show 52 ≠ 59 by decide)]; exact S1 r c' hr hc') (Fx_s1 F2 (by decide) _ _) ⟨g', g1.1, g1.2.1, fun j hj => ?_⟩ (fun j hj => ?_) (fun j hj => ?_) (fun j hj h ho => ?_)
        · show g' j = (if j = k then c else C j)
          by_cases w : j = k
          · rw [if_pos w, w, g2]
          · rw [if_neg w]
            exact g1.2.2 j (by omega)
        · rw [s1_self]
          by_cases w : j = k
          · rw [if_pos w]
            simp only [w, if_true]
          · rw [if_neg w, e59]
            simp only [w, if_false]
            exact h59 j (by omega)
        · rw [s1_self, if_neg (by omega), e59]
          exact h59' j (by omega)
        · have ho' : opt2 B R best j C h := ⟨ho.1, ho.2.1, fun i hi => by
            rw [ho.2.2 i hi]
            show (if i = k then c else C i) = C i
            rw [if_neg (by omega)]⟩
          show (if j = k then c else C j) ≤ h j
          by_cases w : j = k
          · rw [if_pos w]
            subst w
            rcases Nat.lt_or_ge (h j) c with y | y
            · exact absurd ⟨h, ho', rfl⟩ (mn (h j) y)
            · exact y
          · rw [if_neg w]
            exact hl j (by omega) h ho'
      rcases Nat.lt_or_ge c 64 with w | w
      · rw [if_neg (show ¬ (64 : Int32) ≤ nI c from fun z => by have := (nI_leI (a := 64) (by omega) (by omega)).mp z; omega)]
        unfold bo at go
        rw [if_pos w] at go
        exact go
      · rw [if_pos (show (64 : Int32) ≤ nI c from (nI_leI (a := 64) (by omega) (by omega)).mpr w)]
        unfold bo at go
        rw [if_neg (by omega)] at go
        exact go
    · have : k = R := by omega
      subst this
      rw [if_pos (nI_le q (by omega))]
      exact ⟨σ, _, C, rfl, hF, hg, h59, h59', hl⟩
theorem sell_R {σ : St} {n R : Nat} {kn : Nat → Nat} {Q Bd : Nat → Nat → Nat} (hK : KB σ n kn Q Bd) (hR : R ≤ 8) (hRn : R ≤ n) :
    ∃ best σ' C, bnd (M_sell_L26 100000 σ 0 (nI R)) (fun q => nm2 q (fun σ37 v38 => bnd2 (M_solve σ37 (nI R)) (fun v40 σ39 => bnd (M_sell_L153 100000 σ39 0 v40 (nI R)) (fun q => nm2 q (fun σ65 v66 => some ((255 * nI R) - v40, σ65)))))) = some (iI (255 * R - best), σ') ∧ Fx SF σ σ' ∧ 0 ≤ best ∧ best ≤ 255 * R ∧ (∀ k, k < R → σ'.1 59 k = bo (C k)) ∧ (∀ k, R ≤ k → σ'.1 59 k = σ.1 59 k) ∧ ij R C ∧ cost (BB kn Q Bd) R C = best ∧ (∀ g, ij R g → best ≤ cost (BB kn Q Bd) R g) ∧ ∀ g, ij R g → cost (BB kn Q Bd) R g = best → ∀ k, k < R → (∀ j, j < k → g j = C j) → C k ≤ g k := by
  have hB : ∀ r c, r < R → BB kn Q Bd r c < 256 := fun r c hr => bidN_lt _ (fun i hi => ((hK r (by omega)).2.2.1 i hi).2.2.1)
  obtain ⟨σ1, x, e1, F1, l1⟩ := fill_26 hK hR hRn 100000 0 σ (by omega) (by omega) (Fx_rf _ _) (fun r c hr => absurd hr (by omega))
  have S1 : LoS σ1 (BB kn Q Bd) R 0 (fun _ => 0) := fun r c hr hc => by
    rw [l1 r c hr hc]
    unfold rcs
    rw [if_neg (by omega)]
  obtain ⟨best, σ2, e2, F2, ⟨g0, g1, g2⟩, g3, n1, n2⟩ := solve_R hR hB S1
  have c0 : ∀ g, costR (BB kn Q Bd) 0 (fun _ => 0) R g = cost (BB kn Q Bd) R g := fun g => rc_pre (fun j hj => absurd hj (by omega))
  have hb : ∀ g, ij R g → best ≤ cost (BB kn Q Bd) R g := fun g hg => by
    have := g3 g hg
    rw [c0] at this
    exact this
  have up : best ≤ 255 * R := by
    have i64 : ij R (fun r => 64 + r) := ⟨fun r hr => by show 64 + r < 72; omega, fun r s _ _ e => by have e' : 64 + r = 64 + s := e; omega⟩
    have q := hb _ i64
    have q2 : cost (BB kn Q Bd) R (fun r => 64 + r) ≤ R * 255 := smI_up R (fun r hr => by
      show cst (BB kn Q Bd) r (64 + r) ≤ 255
      unfold cst
      rw [if_neg (by omega)]
      omega)
    omega
  obtain ⟨σ3, y, C, e3, F3, ⟨g, o1, o2, o3⟩, h59, h59', hl⟩ := gr_153 (σ0 := σ) (best := best) hR hB n1 (by omega) hb 100000 0 σ2 (fun _ => 0) (by omega) (by omega) (fun r c hr hc => by rw [F2.1 52 (by decide)]; exact S1 r c hr hc) (Fx_tr (Fx_mono F1 (by decide)) (Fx_mono F2 (by decide))) ⟨g0, g1, by rw [← c0, g2], fun j hj => absurd hj (by omega)⟩ (fun j hj => absurd hj (by omega)) (fun j _ => by rw [F2.1 59 (by decide), F1.1 59 (by decide)]) (fun j hj => absurd hj (by omega))
  refine ⟨best, σ3, C, ?_, F3, n1, up, h59, h59', ⟨fun r hr => ?_, fun r s hr hs => ?_⟩, ?_, hb, fun g' q1 q2 k hk q3 => hl k hk g' ⟨q1, q2, q3⟩⟩
  · rw [show M_sell_L26 100000 σ 0 (nI R) = some (σ1, x) from e1, bnd_some, nm2_eq, e2, bnd2_some, show M_sell_L153 100000 σ2 0 (iI best) (nI R) = some (σ3, y) from e3, bnd_some, nm2_eq, show (255 : Int32) = nI 255 from rfl, pk_mul, ← iI_n, iI_sub]
    rfl
  · rw [← o3 r hr]
    exact o1.1 r hr
  · rw [← o3 r hr, ← o3 s hs]
    exact o1.2 r s hr hs
  · rw [← o2]
    exact smI_congr R (fun r hr => by rw [o3 r hr])
