def mt (tk : Nat) : Nat := if tk = 0 then 4 else if tk = 4 then 0 else tk
def TK (t : TH) (σ : St) (z : Nat) (B : Nat → Nat) (P0 P1 tk : Nat) : Prop := (tS t 5 4 0 = nI P0 ∧ σ.1 27 0 = nI P0) ∧ (tS t 5 3 0 = nI P1 ∧ σ.1 4 0 = nI P1) ∧ (tS t 5 5 0 = nI tk ∧ σ.1 26 0 = nI (mt tk)) ∧ ((tk = 4 ∧ P0 = z ∧ P1 = z) ∨ (tk ≤ 3 ∧ P0 < P1 ∧ P1 ≤ z)) ∧ (tk = 1 → (∀ j, j < P1 - P0 → isL (B (P0 + j))) ∧ σ.2 33 0 = lN (if P1 - P0 ≤ 7 then pk8 B P0 (P1 - P0) else 0)) ∧ (tk = 2 → P1 - P0 ≤ 3 ∧ (∀ j, j < P1 - P0 → isD (B (P0 + j))) ∧ σ.1 28 0 = nuI B P0 (P1 - P0))
theorem cnL_all {B : Nat → Nat} {P0 : Nat} : ∀ n, cnL B P0 n = n → ∀ j, j < n → isL (B (P0 + j)) := by
  intro n
  induction n with
  | zero => intro _ j hj; exact absurd hj (by omega)
  | succ n ih =>
    intro h j hj
    have cs := cnL_s B P0 n
    have cl := cnL_le B P0 n
    by_cases c : 97 ≤ B (P0 + n) ∧ B (P0 + n) ≤ 122
    · rw [if_pos c] at cs
      rcases Nat.lt_or_ge j n with y | y
      · exact ih (by omega) j y
      · rw [show j = n by omega]
        exact c
    · rw [if_neg c] at cs
      omega
theorem cnL_non {B : Nat → Nat} {P0 : Nat} : ∀ n, cnL B P0 n = 0 → ∀ j, j < n → ¬ isL (B (P0 + j)) := by
  intro n
  induction n with
  | zero => intro _ j hj; exact absurd hj (by omega)
  | succ n ih =>
    intro h j hj
    have cs := cnL_s B P0 n
    by_cases c : 97 ≤ B (P0 + n) ∧ B (P0 + n) ≤ 122
    · rw [if_pos c] at cs
      omega
    · rw [if_neg c] at cs
      rcases Nat.lt_or_ge j n with y | y
      · exact ih (by omega) j y
      · rw [show j = n by omega]
        exact c
theorem cnL_1 {B : Nat → Nat} {P0 : Nat} : ∀ n, 1 ≤ n → (isL (B P0) → 1 ≤ cnL B P0 n) ∧ (¬ isL (B P0) → cnL B P0 n < n) := by
  intro n hn
  constructor
  · intro h
    rcases Nat.eq_zero_or_pos (cnL B P0 n) with y | y
    · exact absurd h (cnL_non n y 0 hn)
    · exact y
  · intro h
    have cl := cnL_le B P0 n
    rcases Nat.lt_or_ge (cnL B P0 n) n with y | y
    · exact y
    · exact absurd (cnL_all n (by omega) 0 hn) h
theorem tok_C (d l : Nat) (hd : d ≤ 200) (hl : l ≤ 200) (t : TH) : (if nI d = 0 then some ((1 : Int32), t) else if nI l = 0 then if 3 < nI d then some (0, t) else some (2, t) else some (0, t)) = some (nI (if d = 0 then 1 else if l = 0 then (if 3 < d then 0 else 2) else 0), t) := by
  by_cases a : d = 0
  · rw [if_pos (show nI d = 0 by rw [a]; rfl), if_pos a]
    rfl
  · rw [if_neg (nI_ne0 (by omega) (by omega)), if_neg a]
    by_cases b : l = 0
    · rw [if_pos (show nI l = 0 by rw [b]; rfl), if_pos b]
      by_cases c : 3 < d
      · rw [if_pos (show (3 : Int32) < nI d from (nI_ltI (a := 3) (by omega) (by omega)).mpr c), if_pos c]
        rfl
      · rw [if_neg (show ¬ (3 : Int32) < nI d from fun z => c ((nI_ltI (a := 3) (by omega) (by omega)).mp z)), if_neg c]
        rfl
    · rw [if_neg (nI_ne0 (by omega) (by omega)), if_neg b]
      rfl
/-- a word or a number, on both sides -/
theorem won_eq {K : List (Nat × Nat)} {t : TH} {σ : St} {z : Nat} {B : Nat → Nat} (h : TB t σ z B) {P0 : Nat} (hP : P0 < z) (e53 : tS t 5 3 0 = nI P0) (e54 : tS t 5 4 0 = nI P0) (e4 : σ.1 4 0 = nI P0) (e27 : σ.1 27 0 = nI P0) {sm : Int32} (hsm : (sm = 1 ∧ isL (B P0)) ∨ (sm = 0 ∧ isD (B P0))) (x1 : Int32) :
    ∃ t' σ' tk P1, bnd2 (C_Reader_wordOrNumber K t) (fun v8 t7 => nm (uS t7 5 5 0 v8) (fun t9 => some t9)) = some t' ∧ nm (s2 σ 33 0 0) (fun σ25 => nm (s1 σ25 28 0 0) (fun σ26 => bnd (M_next_L114 100000 σ26 0 1 sm x1) (fun q => nm2 q (fun σ89 q => nm2 q (fun v90 v91 => bnd (M_next_B220 σ89 v90 v91 sm x1) (fun σ96 => bnd (M_next_B233 σ96 v90 v91 sm x1) (fun v107 => nm (s1 σ96 26 0 v107) (fun σ108 => some σ108)))))))) = some σ' ∧ ET [(5, 3), (5, 5)] [] [] t t' ∧ FL σ σ' ∧ TK t' σ' z B P0 P1 tk := by
  have hz := h.1
  have hB : ∀ j, j < z → B j < 256 := fun j hj => (h.2.2.2.2 j (by omega)).2.2
  have al0 : aln (B P0) := hsm.elim (fun q => Or.inl q.2) (fun q => Or.inr q.2)
  -- the reference
  have W0 : WM σ (s1 (s2 σ 33 0 0) 28 0 0) B P0 0 sm 1 := by
    refine ⟨FL_s1 (FL_s2 (FL_rf _) _ _) (by decide) _ _, by rw [s1_oth _ _ _ _ (by decide), x21]; exact e4, by rw [x12, s2_e]; rfl, by rw [s1_e]; rfl, Or.inl ⟨rfl, ?_⟩⟩
    rcases hsm with q | q
    · exact Or.inl ⟨q.1, rfl⟩
    · exact Or.inr ⟨q.1, rfl⟩
  obtain ⟨σ1, len, x3, eM, ⟨w1, w2, w3, w4, w5⟩, _, l2, l3, l4⟩ := wl_M h x1 100000 0 (s1 (s2 σ 33 0 0) 28 0 0) 1 (by omega) (by omega) W0 (fun j hj => absurd hj (by omega))
  obtain ⟨t1, len', eC, T1, p1, _, m2, m3, m4⟩ := wl_C (K := K) h (P0 := P0) 100000 0 t (by omega) (by omega) (ET_rf _ _ _ _) e53 (fun j hj => absurd hj (by omega))
  have el : len' = len := wl_uni m2 m3 m4 l2 l3 l4
  subst el
  have len1 : 1 ≤ len' := by
    rcases Nat.eq_zero_or_pos len' with y | y
    · rw [y] at l4
      exact absurd al0 (l4 hP)
    · exact y
  have cl := cnL_le B P0 len'
  obtain ⟨c1, c2⟩ := cnL_1 (B := B) (P0 := P0) len' len1
  have eW : C_Reader_wordOrNumber K t = some (nI (if len' - cnL B P0 len' = 0 then 1 else if cnL B P0 len' = 0 then (if 3 < len' - cnL B P0 len' then 0 else 2) else 0), t1) := by
    unfold C_Reader_wordOrNumber
    rw [show C_Reader_wordOrNumber_L4 100000 K t 0 0 = some (t1, nI (len' - cnL B P0 len'), nI (cnL B P0 len')) from eC, bnd_some, nm2_eq, nm2_eq]
    exact tok_C _ _ (by omega) (by omega) t1
  obtain ⟨σ2, e220, f2, g2⟩ : ∃ σ2, M_next_B220 σ1 (nI len') x3 sm x1 = some σ2 ∧ (FL σ σ2 ∧ σ2.1 4 0 = nI (P0 + len') ∧ σ2.1 28 0 = nuI B P0 (mi len' 3)) ∧ σ2.2 33 0 = lN (if len' ≤ 7 then pk8 B P0 len' else 0) := by
    unfold M_next_B220
    by_cases c : len' ≤ 7
    · rw [if_pos (show nI len' ≤ 7 from (nI_leI (b := 7) (by omega) (by omega)).mpr c)]
      refine ⟨σ1, rfl, ⟨w1, w2, w4⟩, ?_⟩
      rw [w3, if_pos c]
      have em : mi len' 7 = len' := by unfold mi; split <;> omega
      rw [em]
    · rw [if_neg (show ¬ nI len' ≤ 7 from fun q => c ((nI_leI (b := 7) (by omega) (by omega)).mp q)), nm_eq]
      exact ⟨_, rfl, ⟨FL_s2 w1 _ _, by rw [x21]; exact w2, by rw [x21]; exact w4⟩, by rw [s2_e, if_neg c]; rfl⟩
  have fin : ∀ (tk : Nat), (tk ≤ 2) → (if len' - cnL B P0 len' = 0 then 1 else if cnL B P0 len' = 0 then (if 3 < len' - cnL B P0 len' then 0 else 2) else 0) = tk → M_next_B233 σ2 (nI len') x3 sm x1 = some (nI (mt tk)) → ∃ t' σ' tk P1, bnd2 (C_Reader_wordOrNumber K t) (fun v8 t7 => nm (uS t7 5 5 0 v8) (fun t9 => some t9)) = some t' ∧ nm (s2 σ 33 0 0) (fun σ25 => nm (s1 σ25 28 0 0) (fun σ26 => bnd (M_next_L114 100000 σ26 0 1 sm x1) (fun q => nm2 q (fun σ89 q => nm2 q (fun v90 v91 => bnd (M_next_B220 σ89 v90 v91 sm x1) (fun σ96 => bnd (M_next_B233 σ96 v90 v91 sm x1) (fun v107 => nm (s1 σ96 26 0 v107) (fun σ108 => some σ108)))))))) = some σ' ∧ ET [(5, 3), (5, 5)] [] [] t t' ∧ FL σ σ' ∧ TK t' σ' z B P0 P1 tk := fun tk htk e1 e2 => by
    refine ⟨uS t1 5 5 0 (nI tk), s1 σ2 26 0 (nI (mt tk)), tk, P0 + len', ?_, ?_, ET_uS (ET_mono T1 (by decide) (by decide) (by decide)) (by decide) _ _, FL_s1 f2.1 (by decide) _ _, ⟨?_, ?_⟩, ⟨?_, ?_⟩, ⟨tS_e _ _ _ _ _, s1_e _ _ _ _⟩, Or.inr ⟨by omega, by omega, m2⟩, fun t1' => ?_, fun t2' => ?_⟩
    · rw [eW, bnd2_some, e1, nm_eq]
    · rw [nm_eq, nm_eq, show M_next_L114 100000 (s1 (s2 σ 33 0 0) 28 0 0) 0 1 sm x1 = some (σ1, nI len', x3) from eM, bnd_some, nm2_eq, nm2_eq, e220, bnd_some, e2, bnd_some, nm_eq]
    · rw [tS_f _ _ _ _ _ (by decide), T1.1 5 4 (by decide)]
      exact e54
    · rw [s1_oth _ _ _ _ (by decide), f2.1.1 27 (by decide)]
      exact e27
    · rw [tS_f _ _ _ _ _ (by decide)]
      exact p1
    · rw [s1_oth _ _ _ _ (by decide)]
      exact f2.2.1
    · rw [show P0 + len' - P0 = len' by omega, x12]
      refine ⟨cnL_all len' ?_, g2⟩
      rw [t1'] at e1
      by_cases q : len' - cnL B P0 len' = 0
      · omega
      · rw [if_neg q] at e1
        exfalso
        revert e1
        split
        · split <;> omega
        · omega
    · rw [show P0 + len' - P0 = len' by omega, s1_oth _ _ _ _ (by decide)]
      rw [t2'] at e1
      by_cases q : len' - cnL B P0 len' = 0
      · rw [if_pos q] at e1
        omega
      · rw [if_neg q] at e1
        by_cases q2 : cnL B P0 len' = 0
        · rw [if_pos q2] at e1
          by_cases q3 : 3 < len' - cnL B P0 len'
          · rw [if_pos q3] at e1
            omega
          · refine ⟨by omega, fun j hj => (l3 j hj).resolve_left (cnL_non len' q2 j hj), ?_⟩
            have em : mi len' 3 = len' := by unfold mi; split <;> omega
            rw [f2.2.2, em]
        · rw [if_neg q2] at e1
          omega
  rcases w5 with ⟨rfl, q⟩ | ⟨rfl, q⟩
  · rcases q with ⟨rfl, q⟩ | ⟨rfl, q⟩
    · refine fin 1 (by omega) (by rw [if_pos (by omega)]) ?_
      unfold M_next_B233
      rw [if_neg (show ¬ (1 : Int32) = 0 by decide)]
      rfl
    · by_cases c : 3 < len'
      · refine fin 0 (by omega) (by rw [if_neg (by omega), if_pos q, if_pos (by omega)]) ?_
        unfold M_next_B233
        rw [if_neg (show ¬ (1 : Int32) = 0 by decide), if_pos rfl, if_neg (show ¬ nI len' ≤ 3 from fun y => by have := (nI_leI (b := 3) (by omega) (by omega)).mp y; omega)]
        rfl
      · refine fin 2 (by omega) (by rw [if_neg (by omega), if_pos q, if_neg (by omega)]) ?_
        unfold M_next_B233
        rw [if_neg (show ¬ (1 : Int32) = 0 by decide), if_pos rfl, if_pos (show nI len' ≤ 3 from (nI_leI (b := 3) (by omega) (by omega)).mpr (by omega))]
        rfl
  · have hl : cnL B P0 len' ≠ 0 ∧ cnL B P0 len' ≠ len' := by
      rcases hsm with ⟨s1', s2'⟩ | ⟨s1', s2'⟩
      · have := c1 s2'
        rcases q with ⟨_, q⟩ | ⟨r, _⟩
        · exact ⟨by omega, q⟩
        · rw [s1'] at r
          exact absurd r (by decide)
      · have := c2 (fun y => not_LD ⟨y, s2'⟩)
        rcases q with ⟨r, _⟩ | ⟨_, q⟩
        · rw [s1'] at r
          exact absurd r (by decide)
        · exact ⟨q, by omega⟩
    refine fin 0 (by omega) (by rw [if_neg (by omega), if_neg hl.1]) ?_
    unfold M_next_B233
    rw [if_pos rfl]
    rfl
def FN (σ σ' : St) : Prop := (∀ x, x ∉ [4, 26, 27, 28] → σ'.1 x = σ.1 x) ∧ ∀ x, x ≠ 33 → σ'.2 x = σ.2 x
theorem FN_tr {σ σ' σ'' : St} (h : FN σ σ') (h' : FN σ' σ'') : FN σ σ'' := ⟨fun x hx => (h'.1 x hx).trans (h.1 x hx), fun x hx => (h'.2 x hx).trans (h.2 x hx)⟩
theorem FN_L {σ σ' : St} (h : FL σ σ') : FN σ σ' := ⟨fun x hx => h.1 x (fun z => hx ((by decide : ∀ y, y ∈ [4, 26, 28] → y ∈ [4, 26, 27, 28]) x z)), h.2⟩
theorem FN_s1 {σ σ' : St} (h : FN σ σ') {k : Nat} (hk : k ∈ [4, 26, 27, 28]) (i : Nat) (v : Int32) : FN σ (s1 σ' k i v) := ⟨fun x hx => by
  rw [s1_oth _ _ _ _ (fun z => hx (by rw [z]; exact hk))]
  exact h.1 x hx, fun x hx => by rw [x12]; exact h.2 x hx⟩
/-- the next token, on both sides -/
theorem next_eq {K : List (Nat × Nat)} {t : TH} {σ : St} {z : Nat} {B : Nat → Nat} (h : TB t σ z B) {P : Nat} (hP : P ≤ z) (e53 : tS t 5 3 0 = nI P) (e4 : σ.1 4 0 = nI P) : ∃ t' σ' tk P0 P1, C_Reader_nextToken K t = some t' ∧ M_next σ = some σ' ∧ ET [(5, 3), (5, 4), (5, 5)] [] [] t t' ∧ FN σ σ' ∧ P ≤ P0 ∧ TK t' σ' z B P0 P1 tk := by
  have hz := h.1
  have hB : ∀ j, j < z → B j < 256 := fun j hj => (h.2.2.2.2 j (by omega)).2.2
  obtain ⟨σ1, P1, eM, F1, p1, a1, a2, a3, a4⟩ := sb_M h 100000 P σ hP (by omega) (Fx_rf _ _) e4
  obtain ⟨t1, P2, eC, T1, p2, b1, b2, b3, b4⟩ := sb_C (K := K) h 100000 P t hP (by omega) (ET_rf _ _ _ _) e53
  have ep := sb_uni b1 b2 b3 b4 a1 a2 a3 a4
  subst ep
  have eS : C_Reader_skipBlanks K t = some t1 := by
    unfold C_Reader_skipBlanks
    rw [eC, bnd_some]
  obtain ⟨t2, ht2⟩ : ∃ t2, t2 = uS t1 5 4 0 (nI P2) := ⟨_, rfl⟩
  obtain ⟨σ2, hσ2⟩ : ∃ σ2, σ2 = s1 σ1 27 0 (nI P2) := ⟨_, rfl⟩
  have T2 : ET [(5, 3), (5, 4), (5, 5)] [] [] t t2 := by rw [ht2]; exact ET_uS (ET_mono T1 (by decide) (by decide) (by decide)) (by decide) _ _
  have F2 : FN σ σ2 := by rw [hσ2]; exact FN_s1 (FN_L (FL_4 F1)) (by decide) _ _
  have H2 : TB t2 σ2 z B := TB_E h T2 (F2.1 3 (by decide)) (F2.1 1 (by decide))
  have q53 : tS t2 5 3 0 = nI P2 := by rw [ht2, tS_f _ _ _ _ _ (by decide)]; exact p2
  have q54 : tS t2 5 4 0 = nI P2 := by rw [ht2, tS_e]
  have q4 : σ2.1 4 0 = nI P2 := by rw [hσ2, s1_oth _ _ _ _ (by decide)]; exact p1
  have q27 : σ2.1 27 0 = nI P2 := by rw [hσ2, s1_e]
  unfold M_next
  rw [eM, bnd_some, nm_eq, p1, ← hσ2, at_M H2 (by omega) q4, bnd_some]
  unfold C_Reader_nextToken
  rw [eS, bnd_some, nm_eq, p2, ← ht2, q54, at_C H2 (by omega), bnd_some]
  by_cases lt : P2 < z
  · have b256 := hB P2 lt
    rw [show pkv z B P2 = nI (B P2) from if_pos lt, if_neg (nNb (show B P2 < 2 ^ 31 by omega)), if_pos (nI_pos' (show B P2 < 2 ^ 31 by omega))]
    rw [C_let, C_dig]
    rcases let_n b256 with ⟨e1, il⟩ | ⟨e1, il⟩
    · rw [e1, bnd_some, if_neg (show ¬ (1 : Int32) = 0 by decide), bnd_some, if_neg (show ¬ (1 : Int32) = 0 by decide), bnd_some]
      obtain ⟨t3, σ3, tk, P3, r1, r2, r3, r4, r5⟩ := won_eq (K := K) H2 lt q53 q54 q4 q27 (Or.inl ⟨rfl, il⟩) (nI (B P2))
      exact ⟨t3, σ3, tk, P2, P3, r1, r2, ET_tr T2 (ET_mono r3 (by decide) (by decide) (by decide)), FN_tr F2 (FN_L r4), b1, r5⟩
    · rw [e1, bnd_some, if_pos rfl, bnd_some, if_pos rfl]
      rcases dig_n b256 with ⟨e2, id⟩ | ⟨e2, id⟩
      · rw [e2, bnd_some, if_neg (show ¬ (1 : Int32) = 0 by decide), bnd_some, if_neg (show ¬ (1 : Int32) = 0 by decide), bnd_some]
        obtain ⟨t3, σ3, tk, P3, r1, r2, r3, r4, r5⟩ := won_eq (K := K) H2 lt q53 q54 q4 q27 (Or.inr ⟨rfl, id⟩) (nI (B P2))
        exact ⟨t3, σ3, tk, P2, P3, r1, r2, ET_tr T2 (ET_mono r3 (by decide) (by decide) (by decide)), FN_tr F2 (FN_L r4), b1, r5⟩
      · rw [e2, bnd_some, if_pos rfl, bnd_some, if_pos rfl]
        unfold M_next_B69
        simp only [nm_eq]
        rw [q53, nI_1]
        have fin : ∀ tk : Nat, tk = 0 ∨ tk = 3 → TK (uS (uS t2 5 3 0 (nI (P2 + 1))) 5 5 0 (nI tk)) (s1 (s1 σ2 26 0 (nI (mt tk))) 4 0 (nI (P2 + 1))) z B P2 (P2 + 1) tk := fun tk htk => by
          refine ⟨⟨?_, ?_⟩, ⟨?_, s1_e _ _ _ _⟩, ⟨tS_e _ _ _ _ _, ?_⟩, Or.inr ⟨by omega, by omega, by omega⟩, fun y => absurd y (by omega), fun y => absurd y (by omega)⟩
          · rw [tS_f _ _ _ _ _ (by decide), tS_f _ _ _ _ _ (by decide)]
            exact q54
          · rw [s1_oth _ _ _ _ (by decide), s1_oth _ _ _ _ (by decide)]
            exact q27
          · rw [tS_f _ _ _ _ _ (by decide), tS_e]
          · rw [s1_oth _ _ _ _ (by decide), s1_e]
        have fr : ∀ v w, ET [(5, 3), (5, 4), (5, 5)] [] [] t (uS (uS t2 5 3 0 v) 5 5 0 w) := fun v w => ET_uS (ET_uS T2 (by decide) _ _) (by decide) _ _
        have fm : ∀ v w, FN σ (s1 (s1 σ2 26 0 v) 4 0 w) := fun v w => FN_s1 (FN_s1 F2 (by decide) _ _) (by decide) _ _
        by_cases c : nI (B P2) = 59
        · rw [if_pos c, if_pos c, bnd_some, s1_oth _ _ _ _ (show 4 ≠ 26 by decide), q4, nI_1]
          exact ⟨_, _, 3, P2, P2 + 1, rfl, rfl, fr _ _, fm _ _, b1, fin 3 (Or.inr rfl)⟩
        · rw [if_neg c, if_neg c, bnd_some, s1_oth _ _ _ _ (show 4 ≠ 26 by decide), q4, nI_1]
          exact ⟨_, _, 0, P2, P2 + 1, rfl, rfl, fr _ _, fm _ _, b1, fin 0 (Or.inl rfl)⟩
  · have ez : P2 = z := by omega
    rw [show pkv z B P2 = -1 from if_neg lt, if_pos rfl, if_neg (show ¬ (0 : Int32) ≤ -1 by decide), nm_eq, nm_eq]
    refine ⟨_, _, 4, P2, P2, rfl, rfl, ET_uS T2 (by decide) _ _, FN_s1 F2 (by decide) _ _, b1, ⟨?_, ?_⟩, ⟨?_, ?_⟩, ⟨tS_e _ _ _ _ _, s1_e _ _ _ _⟩, Or.inl ⟨rfl, ez, ez⟩, fun y => absurd y (by omega), fun y => absurd y (by omega)⟩
    · rw [tS_f _ _ _ _ _ (by decide)]
      exact q54
    · rw [s1_oth _ _ _ _ (by decide)]
      exact q27
    · rw [tS_f _ _ _ _ _ (by decide)]
      exact q53
    · rw [s1_oth _ _ _ _ (by decide)]
      exact q4
