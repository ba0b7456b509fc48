/-- a matching with a hole in a column -/
def Ho (L : Nat → Nat → Int) (r0 : Nat) (u v : Nat → Int) (P : Nat → Nat) (c : Nat) : Prop :=
  (∀ x, x ≤ 72 → x ≠ c → P x ≤ r0) ∧ (∀ x y, x ≤ 72 → y ≤ 72 → x ≠ c → y ≠ c → P x = P y → P x ≠ 0 → x = y) ∧ (∀ r, 1 ≤ r → r ≤ r0 → ∃ x, x ≤ 72 ∧ x ≠ c ∧ P x = r) ∧ (∀ x, 1 ≤ x → x ≤ 72 → x ≠ c → P x ≠ 0 → u (P x) + v x = L (P x) x) ∧ ∀ x, 1 ≤ x → x ≤ 72 → x ≠ c → P x = 0 → v x = 0
theorem Ho_step {L : Nat → Nat → Int} {r0 : Nat} {u v : Nat → Int} {P : Nat → Nat} {c a : Nat} (h : Ho L r0 u v P c) (hc : c ≤ 72) (ha : a ≤ 72) (hac : a ≠ c) (hP : P a ≠ 0) (ht : u (P a) + v c = L (P a) c) : Ho L r0 u v (fun x => if x = c then P a else P x) a := by
  obtain ⟨h1, h2, h3, h4, h5⟩ := h
  refine ⟨fun x q1 q2 => ?_, fun x y q1 q2 q3 q4 => ?_, fun r q1 q2 => ?_, fun x q0 q1 q2 => ?_, fun x q0 q1 q2 => ?_⟩
  · show (if x = c then P a else P x) ≤ r0
    by_cases k : x = c
    · rw [if_pos k]
      exact h1 a ha hac
    · rw [if_neg k]
      exact h1 x q1 k
  · show (if x = c then P a else P x) = (if y = c then P a else P y) → (if x = c then P a else P x) ≠ 0 → x = y
    by_cases k : x = c <;> by_cases k' : y = c
    · intro _ _
      rw [k, k']
    · rw [if_pos k, if_neg k']
      intro e e0
      exact absurd (h2 a y ha q2 hac k' e e0).symm q4
    · rw [if_neg k, if_pos k']
      intro e e0
      exact absurd (h2 x a q1 ha k hac e e0) q3
    · rw [if_neg k, if_neg k']
      exact h2 x y q1 q2 k k'
  · obtain ⟨x, x1, x2, x3⟩ := h3 r q1 q2
    by_cases k : x = a
    · refine ⟨c, hc, fun z => hac z.symm, ?_⟩
      show (if c = c then P a else P c) = r
      rw [if_pos rfl, ← k, x3]
    · refine ⟨x, x1, k, ?_⟩
      show (if x = c then P a else P x) = r
      rw [if_neg x2, x3]
  · show (if x = c then P a else P x) ≠ 0 → u (if x = c then P a else P x) + v x = L (if x = c then P a else P x) x
    by_cases k : x = c
    · rw [if_pos k, k]
      intro _
      exact ht
    · rw [if_neg k]
      exact h4 x q0 q1 k
  · show (if x = c then P a else P x) = 0 → v x = 0
    by_cases k : x = c
    · rw [if_pos k]
      intro z
      exact absurd z hP
    · rw [if_neg k]
      exact h5 x q0 q1 k
theorem aug {L : Nat → Nat → Int} {r0 : Nat} {u v : Nat → Int} {p : Nat → Nat} {W : Nat → Int32} (x1 : Int32) :
    ∀ (D : List Nat) (f c d : Nat) (σ : St) (P : Nat → Nat), D.length + 1 < f → D.Nodup → Tr W (fun d c => u (p d) + v c = L (p d) c) D → (∀ x, x ∈ D → x ≤ 72 ∧ p x ≠ 0) → σ.1 57 = W → (∀ x, x ≤ 72 → σ.1 56 x = nI (P x)) → (∀ x, x ∈ D → P x = p x) → c ≠ 0 → c ≤ 72 → c ∉ D → d ∈ D → W c = nI d → u (p d) + v c = L (p d) c → Ho L r0 u v P c →
      ∃ σ' P', M_enter_L267 f σ (nI c) x1 = some (σ', nI 0) ∧ Fx [56] σ σ' ∧ (∀ x, x ≤ 72 → σ'.1 56 x = nI (P' x)) ∧ Ho L r0 u v P' 0 := by
  intro D
  induction D with
  | nil =>
    intro f c d σ P _ _ _ _ _ _ _ _ _ _ hd
    exact absurd hd List.not_mem_nil
  | cons a D ih =>
    intro f c d σ P hf hnd hT hD hW hP hPp hc0 hc72 hcD hd hWc htg hHo
    rw [List.length_cons] at hf
    have hnd' := List.nodup_cons.mp hnd
    by_cases hda : d = a
    · subst hda
      obtain ⟨hd72, hpd⟩ := hD d (List.mem_cons_self ..)
      have hPd := hPp d (List.mem_cons_self ..)
      have hdc : d ≠ c := fun z => hcD (by rw [← z]; exact List.mem_cons_self ..)
      obtain ⟨f, rfl⟩ : ∃ g, f = g + 1 := ⟨f - 1, by omega⟩
      have e1 : M_enter_L267 (f + 1) σ (nI c) x1 = M_enter_L267 f (s1 σ 56 c (nI (P d))) (nI d) x1 := by
        have e0 : M_enter_L267 (f + 1) σ (nI c) x1 = (if nI c = 0 then some (σ, nI c) else chkI (nI c) 73 (chkI (σ.1 57 (nI c).toNatClampNeg) 73 (chkI (nI c) 73 (nm (s1 σ 56 (nI c).toNatClampNeg (σ.1 56 (σ.1 57 (nI c).toNatClampNeg).toNatClampNeg)) (fun σ86 => chkI (nI c) 73 (nm (σ86.1 57 (nI c).toNatClampNeg) (fun v87 => M_enter_L267 f σ86 v87 x1))))))) := rfl
        rw [e0, if_neg (nI_ne0 (by omega) (by omega)), nI_nat (show c < 2 ^ 31 by omega)]
        simp only [chkI_nI (show c < 73 by omega) (show 73 < 2 ^ 31 by omega), nm_eq]
        have e2 : (s1 σ 56 c (σ.1 56 (σ.1 57 c).toNatClampNeg)).1 57 c = σ.1 57 c := rfl
        rw [e2, hW, hWc, chkI_nI (show d < 73 by omega) (by omega), nI_nat (show d < 2 ^ 31 by omega), hP d hd72]
      have hPd0 : P d ≠ 0 := by rw [hPd]; exact hpd
      have hHo' := Ho_step hHo hc72 hd72 hdc hPd0 (by rw [hPd]; exact htg)
      have hP' : ∀ x, x ≤ 72 → (s1 σ 56 c (nI (P d))).1 56 x = nI (if x = c then P d else P x) := fun x hx => by
        rw [s1_self]
        by_cases k : x = c
        · rw [if_pos k, if_pos k]
        · rw [if_neg k, if_neg k]
          exact hP x hx
      rcases hT.1 with ⟨k1, k2⟩ | ⟨k1, d', k2, k3, k4⟩
      · subst k1
        refine ⟨s1 σ 56 c (nI (P 0)), fun x => if x = c then P 0 else P x, ?_, Fx_s1 (Fx_rf _ _) (by decide) _ _, hP', hHo'⟩
        rw [e1]
        obtain ⟨f, rfl⟩ : ∃ g, f = g + 1 := ⟨f - 1, by omega⟩
        rfl
      · obtain ⟨σ', P', g1, g2, g3, g4⟩ := ih f d d' (s1 σ 56 c (nI (P d))) (fun x => if x = c then P d else P x) (by omega) hnd'.2 hT.2 (fun x hx => hD x (List.mem_cons_of_mem _ hx)) hW hP' (fun x hx => by
          have : x ≠ c := fun z => hcD (by rw [← z]; exact List.mem_cons_of_mem _ hx)
          show (if x = c then P d else P x) = p x
          rw [if_neg this]
          exact hPp x (List.mem_cons_of_mem _ hx)) k1 hd72 hnd'.1 k2 k3 k4 hHo'
        exact ⟨σ', P', e1.trans g1, Fx_tr (Fx_s1 (Fx_rf _ _) (by decide) _ _) g2, g3, g4⟩
    · exact ih f c d σ P (by omega) hnd'.2 hT.2 (fun x hx => hD x (List.mem_cons_of_mem _ hx)) hW hP (fun x hx => hPp x (List.mem_cons_of_mem _ hx)) hc0 hc72 (fun z => hcD (List.mem_cons_of_mem _ z)) ((List.mem_cons.mp hd).resolve_left hda) hWc htg hHo
theorem ent_0 {σ : St} (x1 : Int32) : ∀ (f c : Nat) (τ : St), c ≤ 73 → 73 < f + c → Fx [58, 60] σ τ → (∀ j, j < c → τ.1 58 j = 100000000 ∧ τ.1 60 j = 0) → ∃ σ' x, M_enter_L2 f τ (nI c) x1 = some (σ', x) ∧ Fx [58, 60] σ σ' ∧ ∀ j, j < 73 → σ'.1 58 j = 100000000 ∧ σ'.1 60 j = 0 := by
  intro f
  induction f with
  | zero =>
    intro c τ _ h
    exact absurd h (by omega)
  | succ f ih =>
    intro c τ hc hf hF hj
    unfold M_enter_L2
    rcases Nat.lt_or_ge 72 c with k | k
    · have : c = 73 := by omega
      subst this
      rw [if_pos (show (72 : Int32) < nI 73 by decide)]
      exact ⟨τ, _, rfl, hF, hj⟩
    · rw [if_neg (show ¬ (72 : Int32) < nI c from fun z => by have := (nI_ltI (a := 72) (by omega) (by omega)).mp z; omega)]
      simp only [chkI_nI (show c < 73 by omega) (show 73 < 2 ^ 31 by omega), nI_nat (show c < 2 ^ 31 by omega), nm_eq, nI_1]
      refine ih (c + 1) _ (by omega) (by omega) (Fx_s1 (Fx_s1 hF (by decide) _ _) (by decide) _ _) (fun j hj' => ?_)
      rw [s1_oth _ _ _ _ (show 58 ≠ 60 by decide), s1_self, s1_self, s1_oth _ _ _ _ (show 60 ≠ 58 by decide)]
      by_cases q : j = c
      · rw [if_pos q, if_pos q]
        exact ⟨rfl, rfl⟩
      · rw [if_neg q, if_neg q]
        exact hj j (by omega)
theorem enter_spec {L : Nat → Nat → Int} {R r0 : Nat} {σ : St} {u v : Nat → Int} {p : Nat → Nat} (hR : R ≤ 8) (hr0 : 1 ≤ r0) (hr0R : r0 ≤ R) (hL : HL L R σ) (hA : HA σ u v p) (hI : HI L R r0 u v p) (hz : ∀ r, r0 ≤ r → u r = 0) :
    ∃ σ' u' v' p', M_enter σ (nI r0) = some σ' ∧ Fx [54, 55, 56, 57, 58, 60] σ σ' ∧ HA σ' u' v' p' ∧ HI L R (r0 + 1) u' v' p' ∧ ∀ r, r0 + 1 ≤ r → u' r = 0 := by
  obtain ⟨σ1, x, e1, F1, i1⟩ := ent_0 (σ := σ) (nI r0) 100000 0 σ (by omega) (by omega) (Fx_rf _ _) (fun j hj => absurd hj (by omega))
  obtain ⟨p', hp'⟩ : ∃ p' : Nat → Nat, p' = fun c => if c = 0 then r0 else p c := ⟨_, rfl⟩
  have pp : ∀ c, 1 ≤ c → p' c = p c := fun c hc => by
    rw [hp']
    exact if_neg (by omega)
  have p0 : p' 0 = r0 := by
    rw [hp']
    exact if_pos rfl
  have hI' : HI L R r0 u v p' := by
    obtain ⟨h1, h2, h3, h4, h5, h6, h7⟩ := hI
    refine ⟨fun c a b => ?_, fun c c' a b a' b' => ?_, fun r a b => ?_, h4, fun c a b => ?_, fun c a b => ?_, h7⟩
    · rw [pp c a]
      exact h1 c a b
    · rw [pp c a, pp c' a']
      exact h2 c c' a b a' b'
    · obtain ⟨c, c1, c2, c3⟩ := h3 r a b
      exact ⟨c, c1, c2, (pp c c1).trans c3⟩
    · rw [pp c a]
      exact h5 c a b
    · rw [pp c a]
      exact h6 c a b
  have F2 : Fx [56, 58, 60] σ (s1 σ1 56 0 (nI r0)) := Fx_s1 (Fx_mono F1 (by decide)) (by decide) _ _
  have HJ0 : HJ L R r0 (s1 σ1 56 0 (nI r0)) [] 0 u v (fun _ => 100000000) p' := by
    refine ⟨hI', p0, ⟨fun r hr => ?_, fun c a b => ?_, fun c hc => ?_⟩, fun c a b => ?_, fun c hc => ?_, ⟨by omega, List.not_mem_nil, fun _ => rfl, fun z => absurd rfl z⟩, fun c hc => absurd hc List.not_mem_nil, fun c _ _ _ => ⟨by show (0 : Int) ≤ 100000000; omega, fun d hd => absurd hd List.not_mem_nil, fun _ => rfl, fun z => absurd rfl z⟩, trivial, fun r hr => hz r (by omega), fun c _ _ => ⟨by show (-1000000000 : Int) ≤ 100000000; omega, by show (100000000 : Int) ≤ 1000000000; omega⟩⟩
    · rw [F2.1 54 (by decide)]
      exact hA.1 r hr
    · rw [F2.1 55 (by decide)]
      exact hA.2.1 c a b
    · rw [s1_self]
      by_cases k : c = 0
      · rw [if_pos k, k, p0]
      · rw [if_neg k, F1.1 56 (by decide), hA.2.2 c hc, pp c (by omega)]
    · rw [s1_oth _ _ _ _ (show 58 ≠ 56 by decide), (i1 c (by omega)).1]
      rfl
    · rw [s1_oth _ _ _ _ (show 60 ≠ 56 by decide), (i1 c (by omega)).2, if_neg List.not_mem_nil]
  have hL2 : HL L R (s1 σ1 56 0 (nI r0)) := fun r c a b a' b' => by
    rw [F2.1 52 (by decide)]
    exact hL r c a b a' b'
  obtain ⟨σ3, D, c', u', v', ls', e3, J3, pc, hlen, hnd, F3⟩ := h_loop hR hr0 hr0R (nI r0) 100000 (s1 σ1 56 0 (nI r0)) [] 0 u v (fun _ => 100000000) p' (Nat.lt_of_le_of_lt (und_le [] 73) (by omega)) (by have := und_le [] 73; rw [List.length_nil]; omega) List.nodup_nil hL2 HJ0
  obtain ⟨jI, j0, ⟨ja1, ja2, ja3⟩, j4, j5, ⟨k1, k2, k3, k4⟩, j7, j8, j9, j10, j11⟩ := J3
  have c0 : c' ≠ 0 := fun z => by
    rw [z, j0] at pc
    omega
  have hD : D ≠ [] := fun z => c0 (k3 z)
  obtain ⟨d, d1, d2, d3⟩ := (j8 c' (by omega) k1 k2).2.2.2 hD
  rw [(k4 hD).2] at d3
  have hpr : ∀ c, c ≤ 72 → p' c ≤ r0 := fun c hc => by
    rcases Nat.eq_zero_or_pos c with e | e
    · rw [e, j0]
      exact Nat.le_refl _
    · have := jI.1 c e hc
      omega
  have HO : Ho L r0 u' v' p' c' := by
    refine ⟨fun x a _ => hpr x a, fun x y a b _ _ e e0 => ?_, fun r a b => ?_, fun x a b _ => jI.2.2.2.2.1 x a b, fun x a b _ => (jI.2.2.2.2.2.1 x a b).2⟩
    · rcases Nat.eq_zero_or_pos x with q | q <;> rcases Nat.eq_zero_or_pos y with q' | q'
      · omega
      · have := jI.1 y q' b
        rw [q, j0] at e
        omega
      · have := jI.1 x q a
        rw [q', j0] at e
        omega
      · exact jI.2.1 x y q a q' b e e0
    · rcases Nat.lt_or_ge r r0 with q | q
      · obtain ⟨x, x1, x2, x3⟩ := jI.2.2.1 r a q
        exact ⟨x, x2, fun z => by rw [z, pc] at x3; omega, x3⟩
      · exact ⟨0, by omega, fun z => c0 z.symm, by rw [j0]; omega⟩
  obtain ⟨σ4, P, e4, F4, g56, HP⟩ := aug (r0 := r0) (W := σ3.1 57) (nI r0) D 100000 c' d σ3 p' (by omega) hnd j9 j7 rfl ja3 (fun _ _ => rfl) c0 k1 k2 d1 d2 (by unfold rd at d3; omega) HO
  refine ⟨σ4, u', v', P, ?_, ?_, ⟨fun r hr => ?_, fun c a b => ?_, g56⟩, ⟨fun c a b => ?_, fun c c2 a b a' b' => ?_, fun r a b => ?_, jI.2.2.2.1, fun c a b => ?_, fun c a b => ⟨(jI.2.2.2.2.2.1 c a b).1, HP.2.2.2.2 c a b (by omega)⟩, jI.2.2.2.2.2.2⟩, fun r hr => j10 r (by omega)⟩
  · unfold M_enter
    rw [show M_enter_L2 100000 σ 0 (nI r0) = some (σ1, x) from e1, bnd_some, nm2_eq, show chkI (β := St) (0 : Int32) 73 = chkI (nI 0) 73 from rfl, chkI_nI (show 0 < 73 by omega) (by omega), nm_eq, show (0 : Int32).toNatClampNeg = 0 from rfl, show M_enter_L39 100000 (s1 σ1 56 0 (nI r0)) 0 (nI r0) = some (σ3, nI c') from e3, bnd_some, nm2_eq, e4, bnd_some, nm2_eq]
  · exact Fx_tr (Fx_mono F2 (by decide)) (Fx_tr (Fx_mono F3 (by decide)) (Fx_mono F4 (by decide)))
  · rw [F4.1 54 (by decide)]
    exact ja1 r hr
  · rw [F4.1 55 (by decide)]
    exact ja2 c a b
  · have := HP.1 c b (by omega)
    omega
  · exact HP.2.1 c c2 b b' (by omega) (by omega)
  · obtain ⟨x, x1, x2, x3⟩ := HP.2.2.1 r a (by omega)
    exact ⟨x, by omega, x1, x3⟩
  · exact HP.2.2.2.1 c a b (by omega)
