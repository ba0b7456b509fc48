def HL (L : Nat → Nat → Int) (R : Nat) (σ : St) : Prop := ∀ r c, 1 ≤ r → r ≤ R → 1 ≤ c → c ≤ 72 → σ.1 52 (72 * (r - 1) + c - 1) = iI (L r c) ∧ 0 ≤ L r c ∧ L r c ≤ 1000000
def HA (σ : St) (u v : Nat → Int) (p : Nat → Nat) : Prop := (∀ r, r ≤ 8 → σ.1 54 r = iI (u r)) ∧ (∀ c, 1 ≤ c → c ≤ 72 → σ.1 55 c = iI (v c)) ∧ ∀ c, c ≤ 72 → σ.1 56 c = nI (p c)
def HJ (L : Nat → Nat → Int) (R r0 : Nat) (σ : St) (D : List Nat) (c0 : Nat) (u v ls : Nat → Int) (p : Nat → Nat) : Prop :=
  HI L R r0 u v p ∧ p 0 = r0 ∧ HA σ u v p ∧ (∀ c, 1 ≤ c → c ≤ 72 → σ.1 58 c = iI (ls c)) ∧ (∀ c, c ≤ 72 → σ.1 60 c = if c ∈ D then 1 else 0) ∧ (c0 ≤ 72 ∧ c0 ∉ D ∧ (D = [] → c0 = 0) ∧ (D ≠ [] → 0 ∈ D ∧ ls c0 = 0)) ∧ (∀ c, c ∈ D → c ≤ 72 ∧ p c ≠ 0) ∧ (∀ c, 1 ≤ c → c ≤ 72 → c ∉ D → 0 ≤ ls c ∧ (∀ d, d ∈ D → ls c ≤ rd L u v (p d) c) ∧ (D = [] → ls c = 100000000) ∧ (D ≠ [] → ∃ d, d ∈ D ∧ σ.1 57 c = nI d ∧ ls c = rd L u v (p d) c)) ∧ Tr (σ.1 57) (fun d c => u (p d) + v c = L (p d) c) D ∧ (∀ r, r0 < r → u r = 0) ∧ ∀ c, 1 ≤ c → c ≤ 72 → -1000000000 ≤ ls c ∧ ls c ≤ 1000000000
theorem h_iter {L : Nat → Nat → Int} {R r0 : Nat} {σ : St} {D : List Nat} {c0 : Nat} {u v ls : Nat → Int} {p : Nat → Nat} (hR : R ≤ 8) (hr0 : 1 ≤ r0) (hr0R : r0 ≤ R) (hL : HL L R σ) (h : HJ L R r0 σ D c0 u v ls p) (hp : p c0 ≠ 0) (x1 : Int32) (f : Nat) :
    ∃ σ' to u' v' ls', M_enter_L39 (f + 1) σ (nI c0) x1 = M_enter_L39 f σ' (nI to) x1 ∧ HJ L R r0 σ' (c0 :: D) to u' v' ls' p ∧ Fx [54, 55, 57, 58, 60] σ σ' := by
  obtain ⟨hI, hp0, ⟨a1, a2, a3⟩, a4, a5, ⟨b1, b2, b3, b4⟩, b5, b6, b7, b8, b9⟩ := h
  have hLb : ∀ r c, 1 ≤ r → r ≤ R → 1 ≤ c → c ≤ 72 → 0 ≤ L r c ∧ L r c ≤ 1000000 := fun r c q1 q2 q3 q4 => (hL r c q1 q2 q3 q4).2
  obtain ⟨hu, hv⟩ := HI_bd hI hr0 (by omega) hR hLb
  have hpr : ∀ c, c ≤ 72 → p c ≤ r0 := fun c hc => by
    rcases Nat.eq_zero_or_pos c with e | e
    · rw [e, hp0]
      exact Nat.le_refl _
    · have := hI.1 c e hc
      omega
  have hr1 : 1 ≤ p c0 := by omega
  have hrR : p c0 ≤ R := by have := hpr c0 b1; omega
  have e0 : 0 ∈ c0 :: D := by
    by_cases k : D = []
    · rw [b3 k]
      exact List.mem_cons_self ..
    · exact List.mem_cons_of_mem _ (b4 k).1
  have hD' : ∀ c, c ∈ c0 :: D → c ≤ 72 ∧ p c ≠ 0 := fun c hc => by
    rcases List.mem_cons.mp hc with e | e
    · rw [e]
      exact ⟨b1, hp⟩
    · exact b5 c e
  have hinj : ∀ i j, i ∈ c0 :: D → j ∈ c0 :: D → p i = p j → i = j := fun i j hi hj e => by
    obtain ⟨i1, i2⟩ := hD' i hi
    obtain ⟨j1, j2⟩ := hD' j hj
    rcases Nat.eq_zero_or_pos i with k | k <;> rcases Nat.eq_zero_or_pos j with k' | k'
    · omega
    · have := hI.1 j k' j1
      rw [k, hp0] at e
      omega
    · have := hI.1 i k i1
      rw [k', hp0] at e
      omega
    · exact hI.2.1 i j k i1 k' j1 e i2
  -- the column is done
  have f1 : Fx [54, 55, 57, 58, 60] σ (s1 σ 60 c0 1) := Fx_s1 (Fx_rf _ _) (by decide) _ _
  have d1 : ∀ c, c ≤ 72 → (s1 σ 60 c0 1).1 60 c = if c ∈ c0 :: D then 1 else 0 := fun c hc => by
    rw [s1_self]
    by_cases k : c = c0
    · rw [if_pos k, if_pos (by rw [k]; exact List.mem_cons_self ..)]
    · rw [if_neg k, a5 c hc]
      exact ifc ⟨fun z => List.mem_cons_of_mem _ z, fun z => (List.mem_cons.mp z).resolve_left k⟩
  have bd2 : ∀ c, 1 ≤ c → c ≤ 72 → 0 ≤ rd L u v (p c0) c ∧ rd L u v (p c0) c ≤ 2000000 := fun c q1 q2 => by
    have w1 := hI.2.2.2.1 (p c0) c hr1 hrR q1 q2
    have w2 := hLb (p c0) c hr1 hrR q1 q2
    have w3 := hI.2.2.2.2.2.2 (p c0)
    have w4 := hv c q1 q2
    unfold rd
    omega
  obtain ⟨σ2, to, xx, es, hS, hT⟩ := scan (L := L) (r := p c0) (c0 := c0) (σ0 := s1 σ 60 c0 1) (u := u) (v := v) (ls := ls) (D := c0 :: D) hr1 (by omega) (fun c q1 q2 => (hL (p c0) c hr1 hrR q1 q2).1) (a1 (p c0) (by omega)) a2 d1 b9 (fun c q1 q2 => by have := bd2 c q1 q2; omega) x1 100000 1 (s1 σ 60 c0 1) 0 (by omega) (by omega) (by omega)
    ⟨Fx_rf _ _, fun j q1 q2 => by rw [if_neg (show ¬ j < 1 by omega)]; exact a4 j q1 q2, fun j q1 q2 => by rw [if_neg (fun z => by have := z.1; omega)]⟩ (Or.inl ⟨rfl, fun j q1 q2 => absurd q2 (by omega)⟩)
  obtain ⟨cf, cf1, cf2, cf3⟩ := HI_free hI hr0 (by omega)
  have cfD : cf ∉ c0 :: D := fun z => (hD' cf z).2 cf3
  obtain ⟨t1, t2, t3, t4, t5⟩ : 1 ≤ to ∧ to < 73 ∧ to ≤ 72 ∧ to ∉ c0 :: D ∧ ∀ j, 1 ≤ j → j < 73 → j ∉ c0 :: D → lsN (c0 :: D) ls (rd L u v (p c0)) to ≤ lsN (c0 :: D) ls (rd L u v (p c0)) j := by
    rcases hT with ⟨_, q⟩ | q
    · exact absurd (q cf cf1 (by omega)) cfD
    · exact q
  obtain ⟨ln, hln⟩ : ∃ ln, ln = lsN (c0 :: D) ls (rd L u v (p c0)) := ⟨_, rfl⟩
  rw [← hln] at t5
  have mD : ∀ c, c ∉ c0 :: D → c ∉ D := fun c hc z => hc (List.mem_cons_of_mem _ z)
  have l0 : ∀ c, 1 ≤ c → c ≤ 72 → c ∉ c0 :: D → 0 ≤ ln c ∧ ln c ≤ rd L u v (p c0) c ∧ ln c ≤ ls c := fun c q1 q2 q3 => by
    have w1 := bd2 c q1 q2
    have w2 := (b6 c q1 q2 (mD c q3)).1
    rw [hln]
    unfold lsN
    by_cases k : c ∉ c0 :: D ∧ rd L u v (p c0) c < ls c
    · rw [if_pos k]
      have := k.2
      omega
    · rw [if_neg k]
      have : ¬ rd L u v (p c0) c < ls c := fun z => k ⟨q3, z⟩
      omega
  have l1 : ∀ c, 1 ≤ c → c ≤ 72 → c ∉ c0 :: D → ∃ d, d ∈ c0 :: D ∧ σ2.1 57 c = nI d ∧ ln c = rd L u v (p d) c := fun c q1 q2 q3 => by
    by_cases k : rd L u v (p c0) c < ls c
    · refine ⟨c0, List.mem_cons_self .., ?_, ?_⟩
      · rw [hS.2.2 c q1 q2, if_pos ⟨by omega, q3, k⟩]
      · rw [hln]
        unfold lsN
        rw [if_pos ⟨q3, k⟩]
    · have e : σ2.1 57 c = σ.1 57 c := by
        rw [hS.2.2 c q1 q2, if_neg (fun z => k z.2.2)]
        rfl
      have e' : ln c = ls c := by
        rw [hln]
        unfold lsN
        rw [if_neg (fun z => k z.2)]
      obtain ⟨_, _, w3, w4⟩ := b6 c q1 q2 (mD c q3)
      by_cases kD : D = []
      · have := w3 kD
        have := bd2 c q1 q2
        omega
      · obtain ⟨d, w5, w6, w7⟩ := w4 kD
        exact ⟨d, List.mem_cons_of_mem _ w5, e.trans w6, e'.trans w7⟩
  have δ0 := (l0 to t1 t3 t4).1
  have est : σ2.1 58 to = iI (ln to) := by rw [hS.2.1 to t1 t3, if_pos (by omega), hln]
  have g56 : ∀ c, c ≤ 72 → σ2.1 56 c = nI (p c) := fun c hc => by
    rw [hS.1.1 56 (by decide)]
    exact a3 c hc
  have g60 : ∀ c, c ≤ 72 → σ2.1 60 c = if c ∈ c0 :: D then 1 else 0 := fun c hc => by
    rw [hS.1.1 60 (by decide)]
    exact d1 c hc
  obtain ⟨σ3, u', xy, eu, hU⟩ := upd_L (σ0 := σ2) (D := c0 :: D) (p := p) (u := u) (v := v) (ls := ln) (δ := ln to) g56 (fun c hc => by have := hpr c hc; omega) g60 hinj x1 (nI c0) (nI (p c0)) (nI to) 100000 0 σ2 u (by omega) (by omega)
    ⟨Fx_rf _ _, fun r hr => by rw [hS.1.1 54 (by decide)]; exact a1 r hr, fun r ⟨j, j1, _⟩ => absurd j1 (by omega), fun r _ => rfl, fun j q1 q2 => by rw [if_neg (fun z => absurd z.1 (by omega)), hS.1.1 55 (by decide)]; exact a2 j q1 q2, fun j q1 q2 => by rw [if_neg (fun z => absurd z.1 (by omega)), hS.2.1 j q1 q2, if_pos (by omega), hln]⟩
  obtain ⟨U1, U2, U3, U4, U5, U6⟩ := hU
  have uIn : ∀ d, d ∈ c0 :: D → u' (p d) = u (p d) + ln to := fun d hd => U3 (p d) ⟨d, by have := (hD' d hd).1; omega, hd, rfl⟩
  have uOut : ∀ r, (¬ ∃ d, d ∈ c0 :: D ∧ p d = r) → u' r = u r := fun r hr => U4 r (fun ⟨j, _, j2, j3⟩ => hr ⟨j, j2, j3⟩)
  refine ⟨σ3, to, u', fun j => if j ∈ c0 :: D then v j - ln to else v j, fun j => if j ∈ c0 :: D then ln j else ln j - ln to, ?_, ?_, ?_⟩
  · have e1 : M_enter_L39 (f + 1) σ (nI c0) x1 = chkI (nI c0) 73 (if (σ.1 56 (nI c0).toNatClampNeg) = 0 then some (σ, nI c0) else chkI (nI c0) 73 (nm (s1 σ 60 (nI c0).toNatClampNeg (vp_nar .boolean 1)) (fun σ72 => chkI (nI c0) 73 (nm (σ72.1 56 (nI c0).toNatClampNeg) (fun v73 => bnd (M_enter_L68 100000 σ72 1 0 v73 (nI c0) x1) (fun q => nm2 q (fun σ74 q => nm2 q (fun v75 v76 => chkI v76 73 (nm (σ74.1 58 v76.toNatClampNeg) (fun v77 => bnd (M_enter_L194 100000 σ74 0 v77 v76 v73 (nI c0) x1) (fun q => nm2 q (fun σ78 v79 => M_enter_L39 f σ78 v76 x1)))))))))))) := rfl
    have e2 : (s1 σ 60 c0 1).1 56 c0 = nI (p c0) := a3 c0 b1
    rw [e1, nI_nat (show c0 < 2 ^ 31 by omega)]
    simp only [chkI_nI (show c0 < 73 by omega) (show 73 < 2 ^ 31 by omega)]
    rw [a3 c0 b1, if_neg (nI_ne0 hr1 (by omega)), nm_eq, show vp_nar .boolean 1 = 1 from rfl, nm_eq, e2]
    rw [show M_enter_L68 100000 (s1 σ 60 c0 1) 1 0 (nI (p c0)) (nI c0) x1 = some (σ2, xx, nI to) from es, bnd_some, nm2_eq, nm2_eq, chkI_nI (show to < 73 by omega) (by omega), nm_eq, nI_nat (show to < 2 ^ 31 by omega), est]
    rw [show M_enter_L194 100000 σ2 0 (iI (ln to)) (nI to) (nI (p c0)) (nI c0) x1 = some (σ3, xy) from eu, bnd_some, nm2_eq]
  · have feas : ∀ r c, 1 ≤ r → r ≤ R → 1 ≤ c → c ≤ 72 → u' r + (if c ∈ c0 :: D then v c - ln to else v c) ≤ L r c := fun r c q1 q2 q3 q4 => by
      have w := hI.2.2.2.1 r c q1 q2 q3 q4
      rcases Classical.em (∃ d, d ∈ c0 :: D ∧ p d = r) with ⟨d, k1, k2⟩ | k
      · rw [← k2, uIn d k1, k2]
        by_cases kc : c ∈ c0 :: D
        · rw [if_pos kc]
          omega
        · rw [if_neg kc]
          have w1 : ln c ≤ rd L u v (p d) c := by
            have x0 := l0 c q3 q4 kc
            rcases List.mem_cons.mp k1 with e | e
            · rw [e]
              exact x0.2.1
            · have := (b6 c q3 q4 (mD c kc)).2.1 d e
              omega
          have w2 := t5 c q3 (by omega) kc
          rw [k2] at w1
          unfold rd at w1
          omega
      · rw [uOut r k]
        by_cases kc : c ∈ c0 :: D
        · rw [if_pos kc]
          omega
        · rw [if_neg kc]
          exact w
    have rdN : ∀ d c, d ∈ c0 :: D → c ∉ c0 :: D → rd L u' (fun j => if j ∈ c0 :: D then v j - ln to else v j) (p d) c = rd L u v (p d) c - ln to := fun d c q1 q2 => by
      unfold rd
      rw [uIn d q1]
      simp only [q2, if_false]
      omega
    have HI' : HI L R r0 u' (fun j => if j ∈ c0 :: D then v j - ln to else v j) p := by
      refine ⟨hI.1, hI.2.1, hI.2.2.1, feas, fun c q1 q2 q3 => ?_, fun c q1 q2 => ?_, fun r => ?_⟩
      · have w := hI.2.2.2.2.1 c q1 q2 q3
        by_cases kc : c ∈ c0 :: D
        · simp only [kc, if_true]
          rw [uIn c kc]
          omega
        · simp only [kc, if_false]
          rw [uOut (p c) (fun ⟨d, k1, k2⟩ => by
            have kd := hD' d k1
            rcases Nat.eq_zero_or_pos d with z | z
            · rw [z, hp0] at k2
              have := hI.1 c q1 q2
              omega
            · have := hI.2.1 d c z kd.1 q1 q2 k2 kd.2
              rw [this] at k1
              exact kc k1)]
          exact w
      · have w := hI.2.2.2.2.2.1 c q1 q2
        by_cases kc : c ∈ c0 :: D
        · simp only [kc, if_true]
          exact ⟨by omega, fun z => absurd z (hD' c kc).2⟩
        · simp only [kc, if_false]
          exact w
      · have w := hI.2.2.2.2.2.2 r
        rcases Classical.em (∃ d, d ∈ c0 :: D ∧ p d = r) with ⟨d, k1, k2⟩ | k
        · rw [← k2, uIn d k1, k2]
          omega
        · rw [uOut r k]
          exact w
    refine ⟨HI', hp0, ⟨U2, fun c q1 q2 => ?_, fun c hc => ?_⟩, fun c q1 q2 => ?_, fun c hc => ?_, ⟨t3, t4, fun z => absurd z (List.cons_ne_nil _ _), fun _ => ⟨e0, ?_⟩⟩, hD', fun c q1 q2 q3 => ?_, ?_, fun r hr => ?_, fun c q1 q2 => ?_⟩
    · rw [U5 c q1 q2]
      exact congrArg iI (ifc ⟨fun z => z.2, fun z => ⟨by omega, z⟩⟩)
    · rw [U1.1 56 (by decide)]
      exact g56 c hc
    · rw [U6 c q1 q2]
      refine congrArg iI ?_
      by_cases kc : c ∈ c0 :: D
      · simp only [kc, if_true]
        rw [if_neg (fun z => z.2 trivial)]
      · simp only [kc, if_false]
        rw [if_pos ⟨by omega, fun z => z⟩]
    · rw [U1.1 60 (by decide)]
      exact g60 c hc
    · show (if to ∈ c0 :: D then ln to else ln to - ln to) = 0
      rw [if_neg t4]
      omega
    · obtain ⟨x1', x2', x3'⟩ := l0 c q1 q2 q3
      have w2 := t5 c q1 (by omega) q3
      simp only [q3, if_false]
      refine ⟨by omega, fun d hd => ?_, fun z => absurd z (List.cons_ne_nil _ _), fun _ => ?_⟩
      · rw [rdN d c hd q3]
        rcases List.mem_cons.mp hd with e | e
        · rw [e]
          omega
        · have := (b6 c q1 q2 (mD c q3)).2.1 d e
          omega
      · obtain ⟨d, k1, k2, k3⟩ := l1 c q1 q2 q3
        refine ⟨d, k1, ?_, ?_⟩
        · rw [U1.1 57 (by decide)]
          exact k2
        · rw [rdN d c k1 q3, k3]
    · have T0 : Tr (σ2.1 57) (fun d c => u (p d) + v c = L (p d) c) (c0 :: D) := by
        refine ⟨?_, Tr_mono D (fun c hc hc0 => ?_) (fun _ _ _ _ _ z => z) b7⟩
        · by_cases kD : D = []
          · exact Or.inl ⟨b3 kD, kD⟩
          · have n0 : c0 ≠ 0 := fun z => b2 (by rw [z]; exact (b4 kD).1)
            obtain ⟨d, k1, k2, k3⟩ := (b6 c0 (by omega) b1 b2).2.2.2 kD
            refine Or.inr ⟨n0, d, k1, ?_, ?_⟩
            · rw [hS.2.2 c0 (by omega) b1, if_neg (fun z => z.2.1 (List.mem_cons_self ..))]
              exact k2
            · rw [(b4 kD).2] at k3
              unfold rd at k3
              show u (p d) + v c0 = L (p d) c0
              omega
        · rw [hS.2.2 c (by omega) (b5 c hc).1, if_neg (fun z => z.2.1 (List.mem_cons_of_mem _ hc))]
          rfl
      refine Tr_mono (c0 :: D) (fun c hc _ => ?_) (fun c d hc hc0 hd z => ?_) T0
      · rw [U1.1 57 (by decide)]
      · show u' (p d) + (if c ∈ c0 :: D then v c - ln to else v c) = L (p d) c
        rw [uIn d hd, if_pos hc]
        have z' : u (p d) + v c = L (p d) c := z
        omega
    · rw [uOut r (fun ⟨d, k1, k2⟩ => by have := hpr d (hD' d k1).1; omega)]
      exact b8 r hr
    · have w1 := bd2 c q1 q2
      have w2 := b9 c q1 q2
      have w3 : -1000000000 ≤ ln c ∧ ln c ≤ 1000000000 := by
        rw [hln]
        exact lsN_bd w2 (by omega)
      by_cases kc : c ∈ c0 :: D
      · simp only [kc, if_true]
        exact w3
      · simp only [kc, if_false]
        have := l0 c q1 q2 kc
        have := t5 c q1 (by omega) kc
        omega
  · refine Fx_tr f1 (Fx_tr (Fx_mono hS.1 (by decide)) (Fx_mono U1 (by decide)))
theorem h_loop {L : Nat → Nat → Int} {R r0 : Nat} (hR : R ≤ 8) (hr0 : 1 ≤ r0) (hr0R : r0 ≤ R) (x1 : Int32) :
    ∀ (f : Nat) (σ : St) (D : List Nat) (c0 : Nat) (u v ls : Nat → Int) (p : Nat → Nat), und D 73 < f → D.length + und D 73 ≤ 73 → D.Nodup → HL L R σ → HJ L R r0 σ D c0 u v ls p →
      ∃ σ' D' c' u' v' ls', M_enter_L39 f σ (nI c0) x1 = some (σ', nI c') ∧ HJ L R r0 σ' D' c' u' v' ls' p ∧ p c' = 0 ∧ D'.length ≤ 73 ∧ D'.Nodup ∧ Fx [54, 55, 57, 58, 60] σ σ' := by
  intro f
  induction f with
  | zero =>
    intro σ D c0 u v ls p h
    exact absurd h (by omega)
  | succ f ih =>
    intro σ D c0 u v ls p hf hlen hnd hL h
    by_cases hp : p c0 = 0
    · refine ⟨σ, D, c0, u, v, ls, ?_, h, hp, by omega, hnd, Fx_rf _ _⟩
      unfold M_enter_L39
      have b1 := h.2.2.2.2.2.1.1
      rw [chkI_nI (show c0 < 73 by omega) (by omega), nI_nat (show c0 < 2 ^ 31 by omega), h.2.2.1.2.2 c0 b1, hp, if_pos (show nI 0 = 0 from rfl)]
    · obtain ⟨σ', to, u', v', ls', e, h', hF⟩ := h_iter hR hr0 hr0R hL h hp x1 f
      have b1 := h.2.2.2.2.2.1.1
      have b2 := h.2.2.2.2.2.1.2.1
      have q := und_c b2 73
      rw [if_pos (show c0 < 73 by omega)] at q
      obtain ⟨σ'', D', c', u'', v'', ls'', e', h'', hp', hl', hn', hF'⟩ := ih σ' (c0 :: D) to u' v' ls' p (by omega) (by rw [List.length_cons]; omega) (List.nodup_cons.mpr ⟨b2, hnd⟩) (fun r c q1 q2 q3 q4 => by rw [hF.1 52 (by decide)]; exact hL r c q1 q2 q3 q4) h'
      exact ⟨σ'', D', c', u'', v'', ls'', e.trans e', h'', hp', hl', hn', Fx_tr hF hF'⟩
