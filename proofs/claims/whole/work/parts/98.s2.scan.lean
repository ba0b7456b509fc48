def rd (L : Nat → Nat → Int) (u v : Nat → Int) (r c : Nat) : Int := L r c - u r - v c
def lsN (D : List Nat) (ls g : Nat → Int) (j : Nat) : Int := if j ∉ D ∧ g j < ls j then g j else ls j
def ScS (σ0 σ : St) (D : List Nat) (ls g : Nat → Int) (c0 c : Nat) : Prop := Fx [57, 58] σ0 σ ∧ (∀ j, 1 ≤ j → j ≤ 72 → σ.1 58 j = iI (if j < c then lsN D ls g j else ls j)) ∧ ∀ j, 1 ≤ j → j ≤ 72 → σ.1 57 j = if j < c ∧ j ∉ D ∧ g j < ls j then nI c0 else σ0.1 57 j
def ScT (D : List Nat) (ls g : Nat → Int) (c to : Nat) : Prop := (to = 0 ∧ ∀ j, 1 ≤ j → j < c → j ∈ D) ∨ (1 ≤ to ∧ to < c ∧ to ≤ 72 ∧ to ∉ D ∧ ∀ j, 1 ≤ j → j < c → j ∉ D → lsN D ls g to ≤ lsN D ls g j)
theorem ScT_in {D : List Nat} {ls g : Nat → Int} {c to : Nat} (h : ScT D ls g c to) (hc : c ∈ D) : ScT D ls g (c + 1) to := by
  rcases h with ⟨a, b⟩ | ⟨a, b, b', d, e⟩
  · refine Or.inl ⟨a, fun j h1 h2 => ?_⟩
    rcases Nat.lt_or_ge j c with k | k
    · exact b j h1 k
    · rw [show j = c by omega]
      exact hc
  · refine Or.inr ⟨a, by omega, b', d, fun j h1 h2 h3 => ?_⟩
    rcases Nat.lt_or_ge j c with k | k
    · exact e j h1 k h3
    · rw [show j = c by omega] at h3
      exact absurd hc h3
theorem lsN_bd {D : List Nat} {ls g : Nat → Int} {j : Nat} (h1 : -1000000000 ≤ ls j ∧ ls j ≤ 1000000000) (h2 : -1000000000 ≤ g j ∧ g j ≤ 1000000000) : -1000000000 ≤ lsN D ls g j ∧ lsN D ls g j ≤ 1000000000 := by
  unfold lsN
  split
  · exact h2
  · exact h1
/-- which column is the next one -/
theorem scan_pick {σ0 σ2 : St} {D : List Nat} {ls g : Nat → Int} {c0 c to r : Nat} (h : ScS σ0 σ2 D ls g c0 (c + 1)) (ht : ScT D ls g c to) (hc1 : 1 ≤ c) (hc2 : c ≤ 72) (hcD : c ∉ D) (hb : ∀ j, 1 ≤ j → j ≤ 72 → -1000000000 ≤ lsN D ls g j ∧ lsN D ls g j ≤ 1000000000) (x1 : Int32) (f : Nat) :
    ∃ to', ScT D ls g (c + 1) to' ∧ (if nI to = 0 then M_enter_L68 f σ2 (nI (c + 1)) (nI c) (nI r) (nI c0) x1 else chkI (nI c) 73 (chkI (nI to) 73 (if σ2.1 58 (nI to).toNatClampNeg ≤ σ2.1 58 c then M_enter_L68 f σ2 (nI (c + 1)) (nI to) (nI r) (nI c0) x1 else M_enter_L68 f σ2 (nI (c + 1)) (nI c) (nI r) (nI c0) x1))) = M_enter_L68 f σ2 (nI (c + 1)) (nI to') (nI r) (nI c0) x1 := by
  have ec : σ2.1 58 c = iI (lsN D ls g c) := by
    rw [h.2.1 c hc1 hc2, if_pos (show c < c + 1 by omega)]
  rcases ht with ⟨a, b⟩ | ⟨a, b, b', d, e⟩
  · subst a
    refine ⟨c, Or.inr ⟨hc1, by omega, hc2, hcD, fun j h1 h2 h3 => ?_⟩, ?_⟩
    · rcases Nat.lt_or_ge j c with k | k
      · exact absurd (b j h1 k) h3
      · rw [show j = c by omega]
        exact Int.le_refl _
    · rw [if_pos (show nI 0 = 0 from rfl)]
  · have et : σ2.1 58 to = iI (lsN D ls g to) := by
      rw [h.2.1 to a b', if_pos (show to < c + 1 by omega)]
    have b1 := hb to a b'
    have b2 := hb c hc1 hc2
    rw [if_neg (nI_ne0 a (by omega)), chkI_nI (show c < 73 by omega) (by omega), chkI_nI (show to < 73 by omega) (by omega), nI_nat (show to < 2 ^ 31 by omega), ec, et]
    by_cases q : lsN D ls g to ≤ lsN D ls g c
    · refine ⟨to, Or.inr ⟨a, by omega, b', d, fun j h1 h2 h3 => ?_⟩, ?_⟩
      · rcases Nat.lt_or_ge j c with k | k
        · exact e j h1 k h3
        · rw [show j = c by omega]
          exact q
      · rw [if_pos ((iI_le b1.1 b1.2 b2.1 b2.2).mpr q)]
    · refine ⟨c, Or.inr ⟨hc1, by omega, hc2, hcD, fun j h1 h2 h3 => ?_⟩, ?_⟩
      · rcases Nat.lt_or_ge j c with k | k
        · have := e j h1 k h3
          omega
        · rw [show j = c by omega]
          exact Int.le_refl _
      · rw [if_neg (fun z => q ((iI_le b1.1 b1.2 b2.1 b2.2).mp z))]
theorem ix72 {r c : Nat} (hr : 1 ≤ r) (hc : 1 ≤ c) : 72 * (nI r - 1) + nI c - 1 = nI (72 * (r - 1) + c - 1) := by
  have e1 : nI r - 1 = nI (r - 1) := pk_sub (a := r) (b := 1) hr
  have e2 : (72 : Int32) = nI 72 := rfl
  have e3 : nI (72 * (r - 1) + c) - 1 = nI (72 * (r - 1) + c - 1) := pk_sub (a := 72 * (r - 1) + c) (b := 1) (by omega)
  rw [e1, e2, pk_mul, nI_add, e3]
theorem scan {L : Nat → Nat → Int} {r c0 : Nat} {σ0 : St} {u v ls : Nat → Int} {D : List Nat} (hr : 1 ≤ r) (hr8 : r ≤ 8)
    (hL : ∀ c, 1 ≤ c → c ≤ 72 → σ0.1 52 (72 * (r - 1) + c - 1) = iI (L r c)) (hu : σ0.1 54 r = iI (u r)) (hv : ∀ c, 1 ≤ c → c ≤ 72 → σ0.1 55 c = iI (v c))
    (hd : ∀ c, c ≤ 72 → σ0.1 60 c = if c ∈ D then 1 else 0)
    (hb1 : ∀ c, 1 ≤ c → c ≤ 72 → -1000000000 ≤ ls c ∧ ls c ≤ 1000000000) (hb2 : ∀ c, 1 ≤ c → c ≤ 72 → -1000000000 ≤ rd L u v r c ∧ rd L u v r c ≤ 1000000000) (x1 : Int32) :
    ∀ (f c : Nat) (σ : St) (to : Nat), 1 ≤ c → c ≤ 73 → 73 < f + c → ScS σ0 σ D ls (rd L u v r) c0 c → ScT D ls (rd L u v r) c to →
      ∃ σ' to' x, M_enter_L68 f σ (nI c) (nI to) (nI r) (nI c0) x1 = some (σ', x, nI to') ∧ ScS σ0 σ' D ls (rd L u v r) c0 73 ∧ ScT D ls (rd L u v r) 73 to' := by
  have hb : ∀ j, 1 ≤ j → j ≤ 72 → -1000000000 ≤ lsN D ls (rd L u v r) j ∧ lsN D ls (rd L u v r) j ≤ 1000000000 := fun j h1 h2 => lsN_bd (hb1 j h1 h2) (hb2 j h1 h2)
  intro f
  induction f with
  | zero =>
    intro c σ to _ h1 h2
    exact absurd h2 (by omega)
  | succ f ih =>
    intro c σ to hc1 hc2 hf hS hT
    unfold M_enter_L68
    rcases Nat.lt_or_ge 72 c with hc | hc
    · have : c = 73 := by omega
      subst this
      rw [if_pos (show (72 : Int32) < nI 73 by decide)]
      exact ⟨σ, to, _, rfl, hS, hT⟩
    · rw [if_neg (show ¬ (72 : Int32) < nI c from fun z => by have := (nI_ltI (a := 72) (by omega) (by omega)).mp z; omega), chkI_nI (show c < 73 by omega) (by omega), nI_nat (show c < 2 ^ 31 by omega), hS.1.1 60 (by decide), hd c hc]
      simp only [nm_eq, nI_1]
      by_cases cD : c ∈ D
      · rw [if_pos cD, if_neg (show ¬ (1 : Int32) = 0 by decide)]
        refine ih (c + 1) σ to (by omega) (by omega) (by omega) ⟨hS.1, fun j h1 h2 => ?_, fun j h1 h2 => ?_⟩ (ScT_in hT cD)
        · rw [hS.2.1 j h1 h2]
          rcases Nat.lt_trichotomy j c with k | k | k
          · rw [if_pos k, if_pos (by omega)]
          · subst k
            rw [if_neg (Nat.lt_irrefl _), if_pos (by omega), lsN, if_neg (fun z => z.1 cD)]
          · rw [if_neg (by omega), if_neg (by omega)]
        · rw [hS.2.2 j h1 h2]
          rcases Nat.lt_trichotomy j c with k | k | k
          · have e : (j < c ∧ j ∉ D ∧ rd L u v r j < ls j) ↔ (j < c + 1 ∧ j ∉ D ∧ rd L u v r j < ls j) := ⟨fun z => ⟨by omega, z.2⟩, fun z => ⟨k, z.2⟩⟩
            by_cases q : j < c ∧ j ∉ D ∧ rd L u v r j < ls j
            · rw [if_pos q, if_pos (e.mp q)]
            · rw [if_neg q, if_neg (fun z => q (e.mpr z))]
          · subst k
            rw [if_neg (fun z => absurd z.1 (Nat.lt_irrefl _)), if_neg (fun z => z.2.1 cD)]
          · rw [if_neg (fun z => by have := z.1; omega), if_neg (fun z => by have := z.1; omega)]
      · rw [if_neg cD, if_pos rfl, ix72 hr hc1, chkI_nI (show 72 * (r - 1) + c - 1 < 576 by omega) (by omega), chkI_nI (show r < 9 by omega) (by omega), chkI_nI (show c < 73 by omega) (by omega), nI_nat (show 72 * (r - 1) + c - 1 < 2 ^ 31 by omega), nI_nat (show r < 2 ^ 31 by omega), hS.1.1 52 (by decide), hS.1.1 54 (by decide), hS.1.1 55 (by decide), hL c hc1 hc, hu, hv c hc1 hc, iI_sub, iI_sub, show L r c - u r - v c = rd L u v r c from rfl, hS.2.1 c hc1 hc, if_neg (Nat.lt_irrefl c)]
        simp only [chkI_nI (show c < 73 by omega) (show 73 < 2 ^ 31 by omega)]
        have b1 := hb1 c hc1 hc
        have b2 := hb2 c hc1 hc
        by_cases q : ls c ≤ rd L u v r c
        · rw [if_pos ((iI_le b1.1 b1.2 b2.1 b2.2).mpr q)]
          have hS' : ScS σ0 σ D ls (rd L u v r) c0 (c + 1) := by
            refine ⟨hS.1, fun j h1 h2 => ?_, fun j h1 h2 => ?_⟩
            · rw [hS.2.1 j h1 h2]
              rcases Nat.lt_trichotomy j c with k | k | k
              · rw [if_pos k, if_pos (by omega)]
              · subst k
                rw [if_neg (Nat.lt_irrefl _), if_pos (by omega), lsN, if_neg (fun z => by have := z.2; omega)]
              · rw [if_neg (by omega), if_neg (by omega)]
            · rw [hS.2.2 j h1 h2]
              by_cases k : j < c ∧ j ∉ D ∧ rd L u v r j < ls j
              · rw [if_pos k, if_pos ⟨by have := k.1; omega, k.2⟩]
              · rw [if_neg k, if_neg (fun z => k ⟨by
                  rcases Nat.lt_or_ge j c with g | g
                  · exact g
                  · have e : j = c := by have := z.1; omega
                    have := z.2.2
                    rw [e] at this
                    omega, z.2⟩)]
          obtain ⟨to', hT', e⟩ := scan_pick (r := r) hS' hT hc1 hc cD hb x1 f
          simp only [chkI_nI (show c < 73 by omega) (show 73 < 2 ^ 31 by omega)] at e
          rw [show iI (ls c) = σ.1 58 c from by rw [hS.2.1 c hc1 hc, if_neg (Nat.lt_irrefl c)]]
          rw [e]
          exact ih (c + 1) σ to' (by omega) (by omega) (by omega) hS' hT'
        · rw [if_neg (fun z => q ((iI_le b1.1 b1.2 b2.1 b2.2).mp z))]
          have hS' : ScS σ0 (s1 (s1 σ 58 c (iI (rd L u v r c))) 57 c (nI c0)) D ls (rd L u v r) c0 (c + 1) := by
            refine ⟨Fx_s1 (Fx_s1 hS.1 (by decide) _ _) (by decide) _ _, fun j h1 h2 => ?_, fun j h1 h2 => ?_⟩
            · rw [s1_oth _ _ _ _ (show 58 ≠ 57 by decide), s1_self]
              by_cases k : j = c
              · subst k
                rw [if_pos rfl, if_pos (by omega), lsN, if_pos ⟨cD, by omega⟩]
              · rw [if_neg k, hS.2.1 j h1 h2]
                by_cases k' : j < c
                · rw [if_pos k', if_pos (by omega)]
                · rw [if_neg k', if_neg (by omega)]
            · rw [s1_self, s1_oth _ _ _ _ (show 57 ≠ 58 by decide)]
              by_cases k : j = c
              · subst k
                rw [if_pos rfl, if_pos ⟨by omega, cD, by omega⟩]
              · rw [if_neg k, hS.2.2 j h1 h2]
                by_cases k' : j < c ∧ j ∉ D ∧ rd L u v r j < ls j
                · rw [if_pos k', if_pos ⟨by have := k'.1; omega, k'.2⟩]
                · rw [if_neg k', if_neg (fun z => k' ⟨by have := z.1; omega, z.2⟩)]
          obtain ⟨to', hT', e⟩ := scan_pick (r := r) hS' hT hc1 hc cD hb x1 f
          simp only [chkI_nI (show c < 73 by omega) (show 73 < 2 ^ 31 by omega)] at e
          rw [e]
          exact ih (c + 1) _ to' (by omega) (by omega) (by omega) hS' hT'
