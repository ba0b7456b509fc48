def ij (R : Nat) (g : Nat → Nat) : Prop := (∀ r, r < R → g r < 72) ∧ ∀ r s, r < R → s < R → g r = g s → r = s
def csum (L : Nat → Nat → Int) (R : Nat) (g : Nat → Nat) : Int := smI (fun r => L (r + 1) (g r + 1)) R
theorem sol_opt {L : Nat → Nat → Int} {R : Nat} {u v : Nat → Int} {p : Nat → Nat} (h : HI L R (R + 1) u v p) :
    ∃ g, ij R g ∧ csum L R g = smI (fun c => if c ≠ 0 ∧ p c ≠ 0 then L (p c) c else 0) 73 ∧ ∀ g', ij R g' → csum L R g ≤ csum L R g' := by
  obtain ⟨h1, h2, h3, h4, h5, h6, h7⟩ := h
  have ex : ∀ r, ∃ c, r < R → (1 ≤ c ∧ c ≤ 72 ∧ p c = r + 1) := fun r => by
    rcases Nat.lt_or_ge r R with k | k
    · obtain ⟨c, hc⟩ := h3 (r + 1) (by omega) (by omega)
      exact ⟨c, fun _ => hc⟩
    · exact ⟨0, fun z => absurd z (by omega)⟩
  obtain ⟨G, hG⟩ := Classical.axiomOfChoice ex
  have hG' : ∀ r, r < R → 1 ≤ G r ∧ G r ≤ 72 ∧ p (G r) = r + 1 := fun r hr => hG r hr
  have inj : ij R (fun r => G r - 1) := by
    refine ⟨fun r hr => ?_, fun r s hr hs e => ?_⟩
    · have := hG' r hr
      show G r - 1 < 72
      omega
    · have a := hG' r hr
      have b := hG' s hs
      have e' : G r - 1 = G s - 1 := e
      have : G r = G s := by omega
      rw [this] at a
      omega
  have ge : ∀ r, r < R → G r - 1 + 1 = G r := fun r hr => by have := hG' r hr; omega
  have cov : ∀ c, c < 73 → c ≠ 0 → p c ≠ 0 → ∃ r, r < R ∧ G r = c := fun c hc c0 hp => by
    have := h1 c (by omega) (by omega)
    refine ⟨p c - 1, by omega, ?_⟩
    have q := hG' (p c - 1) (by omega)
    exact h2 _ _ q.1 q.2.1 (by omega) (by omega) (by omega) (by omega)
  have gin : ∀ r s, r < R → s < R → G r = G s → r = s := fun r s hr hs e => by
    have a := hG' r hr
    have b := hG' s hs
    rw [e] at a
    omega
  have glt : ∀ r, r < R → G r < 73 := fun r hr => by have := hG' r hr; omega
  have eS : csum L R (fun r => G r - 1) = smI (fun c => if c ≠ 0 ∧ p c ≠ 0 then L (p c) c else 0) 73 := by
    rw [smI_bijE (v := fun c => if c ≠ 0 ∧ p c ≠ 0 then L (p c) c else 0) glt gin (fun c hc => by
      by_cases k : c ≠ 0 ∧ p c ≠ 0
      · exact Or.inl (cov c hc k.1 k.2)
      · exact Or.inr (if_neg k))]
    refine smI_congr R (fun r hr => ?_)
    have a := hG' r hr
    show L (r + 1) (G r - 1 + 1) = (if G r ≠ 0 ∧ p (G r) ≠ 0 then L (p (G r)) (G r) else 0)
    rw [ge r hr, if_pos ⟨by omega, by omega⟩, a.2.2]
  have eV : smI (fun c => if c = 0 then 0 else v c) 73 = smI (fun r => v (G r)) R := by
    rw [smI_bijE (v := fun c => if c = 0 then 0 else v c) glt gin (fun c hc => by
      by_cases k : c = 0
      · exact Or.inr (if_pos k)
      · by_cases k' : p c = 0
        · right
          show (if c = 0 then 0 else v c) = 0
          rw [if_neg k]
          exact (h6 c (by omega) (by omega)).2 k'
        · exact Or.inl (cov c hc k k'))]
    refine smI_congr R (fun r hr => ?_)
    have a := hG' r hr
    show (if G r = 0 then 0 else v (G r)) = v (G r)
    rw [if_neg (by omega)]
  have eT : csum L R (fun r => G r - 1) = smI (fun r => u (r + 1)) R + smI (fun r => v (G r)) R := by
    rw [← smI_add]
    refine smI_congr R (fun r hr => ?_)
    have a := hG' r hr
    show L (r + 1) (G r - 1 + 1) = u (r + 1) + v (G r)
    have := h5 (G r) a.1 a.2.1 (by omega)
    rw [a.2.2] at this
    rw [ge r hr]
    exact this.symm
  refine ⟨fun r => G r - 1, inj, eS, fun g' hg' => ?_⟩
  have q1 : smI (fun c => if c = 0 then 0 else v c) 73 ≤ smI (fun r => v (g' r + 1)) R := by
    have := smI_bijL (R := R) (C := 73) (g := fun r => g' r + 1) (v := fun c => if c = 0 then 0 else v c) (fun r hr => by have := hg'.1 r hr; show g' r + 1 < 73; omega) (fun r s hr hs e => hg'.2 r s hr hs (by have e' : g' r + 1 = g' s + 1 := e; omega)) (fun c hc => by
      show (if c = 0 then 0 else v c) ≤ 0
      by_cases k : c = 0
      · rw [if_pos k]
        exact Int.le_refl _
      · rw [if_neg k]
        exact (h6 c (by omega) (by omega)).1)
    have e2 : smI (fun r => if g' r + 1 = 0 then 0 else v (g' r + 1)) R = smI (fun r => v (g' r + 1)) R := smI_congr R (fun r hr => if_neg (by omega))
    rw [← e2]
    exact this
  have q2 : smI (fun r => u (r + 1)) R + smI (fun r => v (g' r + 1)) R ≤ csum L R g' := by
    rw [← smI_add]
    refine smI_le R (fun r hr => ?_)
    have := hg'.1 r hr
    exact h4 (r + 1) (g' r + 1) (by omega) (by omega) (by omega) (by omega)
  rw [eT, ← eV]
  omega
theorem sol_1 {σ : St} (x1 : Int32) : ∀ (f c : Nat) (τ : St), c ≤ 9 → 9 < f + c → Fx [54] σ τ → (∀ j, j < c → τ.1 54 j = 0) → ∃ σ' x, M_solve_L2 f τ (nI c) x1 = some (σ', x) ∧ Fx [54] σ σ' ∧ ∀ j, j < 9 → σ'.1 54 j = 0 := by
  intro f
  induction f with
  | zero =>
    intro c τ _ h
    exact absurd h (by omega)
  | succ f ih =>
    intro c τ hc hf hF hj
    unfold M_solve_L2
    rcases Nat.lt_or_ge c 9 with k | k
    · rw [if_neg (show ¬ (9 : Int32) ≤ nI c from fun z => by have := (nI_leI (a := 9) (by omega) (by omega)).mp z; omega)]
      simp only [chkI_nI (show c < 9 by omega) (show 9 < 2 ^ 31 by omega), nI_nat (show c < 2 ^ 31 by omega), nm_eq, nI_1]
      refine ih (c + 1) _ (by omega) (by omega) (Fx_s1 hF (by decide) _ _) (fun j hj' => ?_)
      rw [s1_self]
      by_cases q : j = c
      · rw [if_pos q]
      · rw [if_neg q]
        exact hj j (by omega)
    · have : c = 9 := by omega
      subst this
      rw [if_pos (show (9 : Int32) ≤ nI 9 by decide)]
      exact ⟨τ, _, rfl, hF, hj⟩
theorem sol_2 {σ : St} (x1 : Int32) : ∀ (f c : Nat) (τ : St), c ≤ 73 → 73 < f + c → Fx [55, 56] σ τ → (∀ j, j < c → τ.1 55 j = 0 ∧ τ.1 56 j = 0) → ∃ σ' x, M_solve_L23 f τ (nI c) x1 = some (σ', x) ∧ Fx [55, 56] σ σ' ∧ ∀ j, j < 73 → σ'.1 55 j = 0 ∧ σ'.1 56 j = 0 := by
  intro f
  induction f with
  | zero =>
    intro c τ _ h
    exact absurd h (by omega)
  | succ f ih =>
    intro c τ hc hf hF hj
    unfold M_solve_L23
    rcases Nat.lt_or_ge 72 c with k | k
    · have : c = 73 := by omega
      subst this
      rw [if_pos (show (72 : Int32) < nI 73 by decide)]
      exact ⟨τ, _, rfl, hF, hj⟩
    · rw [if_neg (show ¬ (72 : Int32) < nI c from fun z => by have := (nI_ltI (a := 72) (by omega) (by omega)).mp z; omega)]
      simp only [chkI_nI (show c < 73 by omega) (show 73 < 2 ^ 31 by omega), nI_nat (show c < 2 ^ 31 by omega), nm_eq, nI_1]
      refine ih (c + 1) _ (by omega) (by omega) (Fx_s1 (Fx_s1 hF (by decide) _ _) (by decide) _ _) (fun j hj' => ?_)
      rw [s1_oth _ _ _ _ (show 55 ≠ 56 by decide), s1_self, s1_self, s1_oth _ _ _ _ (show 56 ≠ 55 by decide)]
      by_cases q : j = c
      · rw [if_pos q, if_pos q]
        exact ⟨rfl, rfl⟩
      · rw [if_neg q, if_neg q]
        exact hj j (by omega)
theorem sol_3 {L : Nat → Nat → Int} {R : Nat} (hR : R ≤ 8) : ∀ (f r0 : Nat) (σ : St) (u v : Nat → Int) (p : Nat → Nat), 1 ≤ r0 → r0 ≤ R + 1 → R + 1 < f + r0 → HL L R σ → HA σ u v p → HI L R r0 u v p → (∀ r, r0 ≤ r → u r = 0) → ∃ σ' x u' v' p', M_solve_L51 f σ (nI r0) (nI R) = some (σ', x) ∧ Fx [54, 55, 56, 57, 58, 60] σ σ' ∧ HA σ' u' v' p' ∧ HI L R (R + 1) u' v' p' := by
  intro f
  induction f with
  | zero =>
    intro r0 σ u v p _ h1 h2
    exact absurd h2 (by omega)
  | succ f ih =>
    intro r0 σ u v p h1 h2 hf hL hA hI hz
    unfold M_solve_L51
    rcases Nat.lt_or_ge R r0 with k | k
    · have : r0 = R + 1 := by omega
      subst this
      rw [if_pos (nI_lt k (by omega))]
      exact ⟨σ, _, u, v, p, rfl, Fx_rf _ _, hA, hI⟩
    · rw [if_neg (nI_nlt k (by omega))]
      obtain ⟨σ', u', v', p', e, F, A, I, z⟩ := enter_spec hR h1 k hL hA hI hz
      rw [e, bnd_some, nm_eq, nI_1]
      obtain ⟨σ'', x, u'', v'', p'', e', F', A', I'⟩ := ih (r0 + 1) σ' u' v' p' (by omega) (by omega) (by omega) (fun r c a b a' b' => by rw [F.1 52 (by decide)]; exact hL r c a b a' b') A I z
      exact ⟨σ'', x, u'', v'', p'', e', Fx_tr F F', A', I'⟩
theorem sol_4 {L : Nat → Nat → Int} {R : Nat} {σ : St} {u v : Nat → Int} {p : Nat → Nat} (hR : R ≤ 8) (hL : HL L R σ) (hA : HA σ u v p) (hI : HI L R (R + 1) u v p) (x1 : Int32) : ∀ (f c : Nat), 1 ≤ c → c ≤ 73 → 73 < f + c → ∃ x, M_solve_L71 f σ (nI c) (iI (smI (fun c => if c ≠ 0 ∧ p c ≠ 0 then L (p c) c else 0) c)) x1 = some (x, iI (smI (fun c => if c ≠ 0 ∧ p c ≠ 0 then L (p c) c else 0) 73)) := by
  intro f
  induction f with
  | zero =>
    intro c _ h1 h2
    exact absurd h2 (by omega)
  | succ f ih =>
    intro c h1 h2 hf
    unfold M_solve_L71
    rcases Nat.lt_or_ge 72 c with k | k
    · have : c = 73 := by omega
      subst this
      rw [if_pos (show (72 : Int32) < nI 73 by decide)]
      exact ⟨_, rfl⟩
    · have hp := hI.1 c h1 k
      have hn := ih (c + 1) (by omega) (by omega) (by omega)
      rw [smI_s] at hn
      rw [if_neg (show ¬ (72 : Int32) < nI c from fun z => by have := (nI_ltI (a := 72) (by omega) (by omega)).mp z; omega)]
      simp only [chkI_nI (show c < 73 by omega) (show 73 < 2 ^ 31 by omega), nI_nat (show c < 2 ^ 31 by omega), nm_eq, nI_1, hA.2.2 c k]
      by_cases q : p c = 0
      · rw [if_pos (show nI (p c) ≤ 0 by rw [q]; decide)]
        rw [if_neg (fun z => z.2 q), Int.add_zero] at hn
        exact hn
      · rw [if_neg (nI_nle (show 0 < p c by omega) (by omega)), ix72 (show 1 ≤ p c by omega) h1, chkI_nI (show 72 * (p c - 1) + c - 1 < 576 by omega) (by omega), nI_nat (show 72 * (p c - 1) + c - 1 < 2 ^ 31 by omega), (hL (p c) c (by omega) (by omega) h1 k).1, iI_add]
        rw [if_pos ⟨by omega, q⟩] at hn
        exact hn
theorem solve_spec {L : Nat → Nat → Int} {R : Nat} {σ : St} (hR : R ≤ 8) (hL : HL L R σ) : ∃ S σ', M_solve σ (nI R) = some (iI S, σ') ∧ Fx [54, 55, 56, 57, 58, 60] σ σ' ∧ (∃ g, ij R g ∧ csum L R g = S) ∧ ∀ g, ij R g → S ≤ csum L R g := by
  obtain ⟨σ1, x, e1, F1, i1⟩ := sol_1 (σ := σ) (nI R) 100000 0 σ (by omega) (by omega) (Fx_rf _ _) (fun j hj => absurd hj (by omega))
  obtain ⟨σ2, y, e2, F2, i2⟩ := sol_2 (σ := σ1) (nI R) 100000 0 σ1 (by omega) (by omega) (Fx_rf _ _) (fun j hj => absurd hj (by omega))
  have F12 : Fx [54, 55, 56, 57, 58, 60] σ σ2 := Fx_tr (Fx_mono F1 (by decide)) (Fx_mono F2 (by decide))
  have hL2 : HL L R σ2 := fun r c a b a' b' => by
    rw [F12.1 52 (by decide)]
    exact hL r c a b a' b'
  obtain ⟨σ3, z, u, v, p, e3, F3, A3, I3⟩ := sol_3 (L := L) hR 100000 1 σ2 (fun _ => 0) (fun _ => 0) (fun _ => 0) (by omega) (by omega) (by omega) hL2 ⟨fun r hr => by rw [F2.1 54 (by decide), i1 r (by omega)]; rfl, fun c a b => (i2 c (by omega)).1, fun c hc => (i2 c (by omega)).2⟩ ⟨fun _ _ _ => Nat.zero_lt_one, fun _ _ _ _ _ _ _ z => absurd rfl z, fun r a b => absurd b (by omega), fun r c a b a' b' => by have := (hL r c a b a' b').2.1; show (0 : Int) + 0 ≤ L r c; omega, fun _ _ _ z => absurd rfl z, fun _ _ _ => ⟨Int.le_refl _, fun _ => rfl⟩, fun _ => Int.le_refl _⟩ (fun _ _ => rfl)
  have hL3 : HL L R σ3 := fun r c a b a' b' => by
    rw [F3.1 52 (by decide)]
    exact hL2 r c a b a' b'
  obtain ⟨w, e4⟩ := sol_4 hR hL3 A3 I3 (nI R) 100000 1 (by omega) (by omega) (by omega)
  obtain ⟨g, g1, g2, g3⟩ := sol_opt I3
  refine ⟨_, σ3, ?_, Fx_tr F12 F3, ⟨g, g1, g2⟩, fun g' hg' => by rw [← g2]; exact g3 g' hg'⟩
  unfold M_solve
  rw [show M_solve_L2 100000 σ 0 (nI R) = some (σ1, x) from e1, bnd_some, nm2_eq, show M_solve_L23 100000 σ1 0 (nI R) = some (σ2, y) from e2, bnd_some, nm2_eq, show M_solve_L51 100000 σ2 1 (nI R) = some (σ3, z) from e3, bnd_some, nm2_eq, show M_solve_L71 100000 σ3 1 0 (nI R) = some (w, _) from e4, bnd_some, nm2_eq]
