theorem lastW_congr {wc wc' : Nat → Nat} {k : Nat} : ∀ w, (∀ j, j < w → wc' j = wc j) → lastW wc' k w = lastW wc k w := by
  intro w
  induction w with
  | zero => intro _; rfl
  | succ w ih =>
    intro h
    show (if wc' w = k then some w else lastW wc' k w) = (if wc w = k then some w else lastW wc k w)
    rw [h w (by omega), ih (fun j hj => h j (by omega))]
theorem cntW_congr {wc wc' : Nat → Nat} {k : Nat} : ∀ w, (∀ j, j < w → wc' j = wc j) → cntW wc' k w = cntW wc k w := by
  intro w
  induction w with
  | zero => intro _; rfl
  | succ w ih =>
    intro h
    show cntW wc' k w + (if wc' w = k then 1 else 0) = cntW wc k w + (if wc w = k then 1 else 0)
    rw [h w (by omega), ih (fun j hj => h j (by omega))]
theorem cntW_le {wc : Nat → Nat} {k : Nat} : ∀ w, cntW wc k w ≤ w := by
  intro w
  induction w with
  | zero => exact Nat.le_refl 0
  | succ w ih =>
    show cntW wc k w + (if wc w = k then 1 else 0) ≤ w + 1
    split <;> omega
theorem wit_M {σ : St} {N k : Nat} {wc : Nat → Nat} (hN : N ≤ 200) (hk : k < 60) (e : σ.1 42 0 = nI N) (hw : ∀ w, w < N → wc w < 60 ∧ σ.1 37 w = nI (wc w)) (x2 x3 : Int32) :
    ∀ f i, i ≤ N → N < f + i → M_witness_L100 f σ (nI i) (nI (cntW wc k i)) (nI k) x2 x3 = some (nI N, nI (cntW wc k N)) := by
  intro f
  induction f with
  | zero =>
    intro i _ h
    exact absurd h (by omega)
  | succ f ih =>
    intro i hi hf
    unfold M_witness_L100
    rw [e]
    rcases Nat.lt_or_ge i N with h | h
    · obtain ⟨a1, a2⟩ := hw i h
      have st : cntW wc k (i + 1) = cntW wc k i + (if wc i = k then 1 else 0) := rfl
      rw [if_neg (nI_ge h (by omega)), chkI_nI (show i < 200 by omega) (by omega), nI_nat (show i < 2 ^ 31 by omega), a2]
      by_cases c : wc i = k
      · rw [if_pos (show nI (wc i) = nI k by rw [c]), nm_eq, nm_eq, nI_1, nI_1]
        rw [if_pos c] at st
        rw [← st]
        exact ih (i + 1) (by omega) (by omega)
      · rw [if_neg (fun z => c ((nI_eq (show wc i < 2 ^ 31 by omega) (show k < 2 ^ 31 by omega)).mp z)), nm_eq, nm_eq, nI_1, show (0 : Int32) = nI 0 from rfl, nI_add]
        rw [if_neg c] at st
        rw [← st]
        exact ih (i + 1) (by omega) (by omega)
    · rw [if_pos (nI_le h (by omega)), show i = N by omega]
def wiT (t : TH) (nw j : Nat) (d f to : Int32) (o : Option Nat) (v6 v4 : Int32) : TH := uS (uS (uP (mkWitness t nw d f to o) 1 5 j (some nw)) 1 6 j v6) 2 4 0 v4
theorem wiT_n (t : TH) (nw j : Nat) (d f to : Int32) (o : Option Nat) (v6 v4 : Int32) : tS (wiT t nw j d f to o v6 v4) 10 0 nw = d ∧ tS (wiT t nw j d f to o v6 v4) 10 1 nw = f ∧ tS (wiT t nw j d f to o v6 v4) 10 2 nw = to ∧ tP (wiT t nw j d f to o v6 v4) 10 3 nw = o ∧ tP (wiT t nw j d f to o v6 v4) 1 5 j = some nw ∧ tS (wiT t nw j d f to o v6 v4) 1 6 j = v6 ∧ tS (wiT t nw j d f to o v6 v4) 2 4 0 = v4 := by
  unfold wiT mkWitness
  simp (disch := decide) only [tS_c, tS_f, tS_e, tS_i, xSP, xSL, tP_c, tP_f, tP_e, tP_i, xPS, xPL, tL_c, tL_f, tL_e, tL_i, xLS, xLP, xNS, xNL, xNP, and_self]
theorem wiT_o (t : TH) (nw j : Nat) (d f to : Int32) (o : Option Nat) (v6 v4 : Int32) (i : Nat) (h : i ≠ nw) : tS (wiT t nw j d f to o v6 v4) 10 0 i = tS t 10 0 i ∧ tS (wiT t nw j d f to o v6 v4) 10 1 i = tS t 10 1 i ∧ tS (wiT t nw j d f to o v6 v4) 10 2 i = tS t 10 2 i ∧ tP (wiT t nw j d f to o v6 v4) 10 3 i = tP t 10 3 i := by
  unfold wiT mkWitness
  simp (disch := first | decide | assumption) only [tS_c, tS_f, tS_e, tS_i, xSP, xSL, tP_c, tP_f, tP_e, tP_i, xPS, xPL, tL_c, tL_f, tL_e, tL_i, xLS, xLP, xNS, xNL, xNP, and_self]
theorem wiT_q (t : TH) (nw j : Nat) (d f to : Int32) (o : Option Nat) (v6 v4 : Int32) (i : Nat) (h : i ≠ j) : tP (wiT t nw j d f to o v6 v4) 1 5 i = tP t 1 5 i ∧ tS (wiT t nw j d f to o v6 v4) 1 6 i = tS t 1 6 i := by
  unfold wiT mkWitness
  simp (disch := first | decide | assumption) only [tS_c, tS_f, tS_e, tS_i, xSP, xSL, tP_c, tP_f, tP_e, tP_i, xPS, xPL, tL_c, tL_f, tL_e, tL_i, xLS, xLP, xNS, xNL, xNP, and_self]
theorem wiT_E (t : TH) (nw j : Nat) (d f to : Int32) (o : Option Nat) (v6 v4 : Int32) : ET [(10, 0), (10, 1), (10, 2), (1, 6), (2, 4)] [(10, 3), (1, 5)] [] t (wiT t nw j d f to o v6 v4) := by
  unfold wiT mkWitness
  exact ET_uS (ET_uS (ET_uP (ET_uP (ET_uS (ET_uS (ET_uS (ET_rf _ _ _ _) (by decide) _ _) (by decide) _ _) (by decide) _ _) (by decide) _ _) (by decide) _ _) (by decide) _ _) (by decide) _ _
theorem wit_Rel {K : List (Nat × Nat)} {t t' : TH} {σ σ' : St} {n nc nw m d : Nat} {cb cq cd wc wd wf wt : Nat → Nat} (h1 : R_len t) (h2 : R_tape t σ) (h3 : R_land t σ) (h4 : R_race t σ m) (h5 : R_stk t σ n) (h6 : R_ppl K t σ n m) (h7 : R_rul t σ) (h8 : R_day t σ d) (h9 : R_court K t σ n nc nw d cb cq cd wc wd wf wt) (h10 : R_K K n nc nw) (h11 : R_P t n nc nw) {j a b : Nat} (hj : j < nc) (hab : a ≤ b) (hb : b ≤ 9999) (hnw : nw < 200)
    (ht' : t' = wiT t nw j (nI d) (nI a) (nI b) (tP t 1 5 j) (nI (cntW wc j nw + 1)) (nI (nw + 1))) (hσ' : σ' = s1 (s1 (s1 (s1 (s1 (s1 σ 0 0 0) 37 nw (nI j)) 38 nw (nI d)) 39 nw (nI a)) 40 nw (nI b)) 42 0 (nI (nw + 1))) : Rel ((10, nw) :: K) t' σ' := by
  have mK : ∀ z, z ∈ K → z ∈ (10, nw) :: K := fun _ h => List.mem_cons_of_mem _ h
  have N := wiT_n t nw j (nI d) (nI a) (nI b) (tP t 1 5 j) (nI (cntW wc j nw + 1)) (nI (nw + 1))
  have O := wiT_o t nw j (nI d) (nI a) (nI b) (tP t 1 5 j) (nI (cntW wc j nw + 1)) (nI (nw + 1))
  have Oq := wiT_q t nw j (nI d) (nI a) (nI b) (tP t 1 5 j) (nI (cntW wc j nw + 1)) (nI (nw + 1))
  have hT := wiT_E t nw j (nI d) (nI a) (nI b) (tP t 1 5 j) (nI (cntW wc j nw + 1)) (nI (nw + 1))
  rw [← ht'] at N O Oq hT
  have hF : Fx [0, 37, 38, 39, 40, 42] σ σ' := by
    rw [hσ']
    exact Fx_s1 (Fx_s1 (Fx_s1 (Fx_s1 (Fx_s1 (Fx_s1 (Fx_rf _ _) (by decide) _ _) (by decide) _ _) (by decide) _ _) (by decide) _ _) (by decide) _ _) (by decide) _ _
  have Sn : σ'.1 37 nw = nI j ∧ σ'.1 38 nw = nI d ∧ σ'.1 39 nw = nI a ∧ σ'.1 40 nw = nI b ∧ σ'.1 42 0 = nI (nw + 1) := by
    rw [hσ']
    simp (disch := decide) only [s1_oth, s1_e, s1_i, x12, x21, and_self]
  have So : ∀ w, w ≠ nw → σ'.1 37 w = σ.1 37 w ∧ σ'.1 38 w = σ.1 38 w ∧ σ'.1 39 w = σ.1 39 w ∧ σ'.1 40 w = σ.1 40 w := fun w hw => by
    rw [hσ']
    clear N O Oq hT hF Sn h1 h2 h3 h4 h5 h6 h7 h8 h9 h10 h11 ht' hσ'
    simp (disch := first | decide | assumption) only [s1_oth, s1_e, s1_i, x12, x21, and_self]
  have cg : ∀ k, lastW (fun w => if w = nw then j else wc w) k nw = lastW wc k nw := fun k => lastW_congr nw (fun i hi => if_neg (by omega))
  have cn : ∀ k, cntW (fun w => if w = nw then j else wc w) k nw = cntW wc k nw := fun k => cntW_congr nw (fun i hi => if_neg (by omega))
  refine ⟨n, nc, nw + 1, m, d, cb, cq, cd, fun w => if w = nw then j else wc w, fun w => if w = nw then d else wd w, fun w => if w = nw then a else wf w, fun w => if w = nw then b else wt w, c_len h1 hT, c_tape h2 hT hF, c_land h3 hT hF, c_race h4 hT hF, c_stk h5 hT hF, c_ppl h6 hT hF mK, c_rul h7 hT hF, c_day h8 hT hF, ⟨⟨h9.1.1, ?_, ?_⟩, ⟨by omega, N.2.2.2.2.2.2, Sn.2.2.2.2⟩, fun k hk => ?_, h9.2.2.2.1, fun w hw => ?_⟩, ?_, ?_⟩
  · rw [hT.1 2 3 (by decide)]
    exact h9.1.2.1
  · rw [hF.1 41 (by decide)]
    exact h9.1.2.2
  · obtain ⟨r1, r2, r3, r4, r5, r9, r10⟩ := h9.2.2.1 k hk
    unfold R_claim
    rw [hT.1 1 0 (by decide), hT.1 1 2 (by decide), hT.1 1 3 (by decide), hT.1 1 4 (by decide), hT.2.1 16 0 (by decide), hT.2.1 1 1 (by decide), hF.1 34 (by decide), hF.1 35 (by decide), hF.1 36 (by decide)]
    refine ⟨⟨mK _ r1.1, r1.2⟩, r2, r3, r4, r5, ?_, ?_⟩
    · show tP t' 1 5 k = (if (if nw = nw then j else wc nw) = k then some nw else lastW (fun w => if w = nw then j else wc w) k nw)
      rw [if_pos rfl, cg]
      by_cases e : j = k
      · rw [if_pos e, ← e]
        exact N.2.2.2.2.1
      · rw [if_neg e, (Oq k (fun z => e z.symm)).1]
        exact r9
    · show tS t' 1 6 k = nI (cntW (fun w => if w = nw then j else wc w) k nw + (if (if nw = nw then j else wc nw) = k then 1 else 0))
      rw [if_pos rfl, cn]
      by_cases e : j = k
      · rw [if_pos e, ← e]
        exact N.2.2.2.2.2.1
      · rw [if_neg e, (Oq k (fun z => e z.symm)).2]
        exact r10
  · by_cases e : w = nw
    · subst e
      refine ⟨List.mem_cons_self .., ⟨?_, ?_⟩, ⟨?_, ?_, ?_⟩, ⟨?_, ?_, ?_⟩, ⟨?_, ?_, ?_⟩, ?_⟩
      · simp only [if_true]; exact hj
      · simp only [if_true]; exact Sn.1
      · simp only [if_true]; exact h8.1
      · simp only [if_true]; exact N.1
      · simp only [if_true]; exact Sn.2.1
      · simp only [if_true]; exact hab
      · simp only [if_true]; exact N.2.1
      · simp only [if_true]; exact Sn.2.2.1
      · simp only [if_true]; exact hb
      · simp only [if_true]; exact N.2.2.1
      · simp only [if_true]; exact Sn.2.2.2.1
      · simp only [if_true]
        rw [N.2.2.2.1, cg]
        exact (h9.2.2.1 j hj).2.2.2.2.2.1
    · have q := h9.2.2.2.2 w (by omega)
      obtain ⟨o0, o1, o2, o3⟩ := O w e
      obtain ⟨s37, s38, s39, s40⟩ := So w e
      unfold R_wit at q ⊢
      simp only [e, if_false]
      rw [o0, o1, o2, o3, s37, s38, s39, s40, lastW_congr (wc := wc) w (fun i hi => if_neg (by omega))]
      exact ⟨mK _ q.1, q.2⟩
  · exact K_cons h10 (by decide) (Nat.le_refl _) (Nat.le_refl _) (Nat.le_succ _) ⟨fun z => absurd z (by decide), fun z => absurd z (by decide), fun z => absurd z (by decide), fun _ => Nat.lt_succ_self _⟩
  · refine ⟨fun i x => ?_, fun i e x => ?_, fun i e x => ?_, fun i x hx => ?_, fun i x hx => ?_⟩
    · rw [hT.2.1 1 1 (by decide)]
      exact h11.1 i x
    · rw [hT.2.1 15 i (nin (by decide) i)]
      exact h11.2.1 i e x
    · rw [hT.2.1 16 i (nin (by decide) i)]
      exact h11.2.2.1 i e x
    · by_cases e : i = j
      · rw [e, N.2.2.2.2.1] at hx
        cases hx
        omega
      · rw [(Oq i e).1] at hx
        have := h11.2.2.2.1 i x hx
        omega
    · by_cases e : i = nw
      · rw [e, N.2.2.2.1] at hx
        have := h11.2.2.2.1 j x hx
        omega
      · rw [(O i e).2.2.2] at hx
        have := h11.2.2.2.2 i x hx
        omega
theorem p_witness {K : List (Nat × Nat)} {t : TH} {σ : St} (h : Rel K t σ) (x y z : Int32) : ∃ Y, some Y = L_witness K t σ x y z ∧ Rel Y.1 Y.2.1 Y.2.2 := by
  obtain ⟨n, nc, nw, m, d, cb, cq, cd, wc, wd, wf, wt, h1, h2, h3, h4, h5, h6, h7, h8, h9, h10, h11⟩ := h
  have hdef : ∃ Y, some Y = bnd2 (some ((-1 : Int32), K, t)) (fun r u => bnd2 (some ((-1 : Int32), s1 σ 0 0 0)) (fun b σ1 => if r = b then some (u.1, u.2, σ1) else none)) ∧ Rel Y.1 Y.2.1 Y.2.2 := ⟨(K, t, s1 σ 0 0 0), rfl, ⟨n, nc, nw, m, d, cb, cq, cd, wc, wd, wf, wt, h1, h2, h3, h4, h5, h6, h7, h8, h9, h10, h11⟩⟩
  have h9' : R_court K t (s1 σ 0 0 0) n nc nw d cb cq cd wc wd wf wt := h9
  have hnw := h9.2.1.1
  have hnc := h9.1.1
  have ew : (s1 σ 0 0 0).1 42 0 = nI nw := h9.2.1.2.2
  have bad : (y < 0 ∨ z < y ∨ ¬ z ≤ 9999) → M_witness σ x y z = some (-1, s1 σ 0 0 0) := fun hb => by
    unfold M_witness
    simp only [nm_eq]
    by_cases f : (s1 σ 0 0 0).1 42 0 = 200
    · rw [if_pos f]
    · rw [if_neg f]
      rcases c_at h1 h9' x with ⟨k, hk, rfl, e1, e2⟩ | ⟨e1, e2⟩
      · rw [e2, bnd_some, if_neg (show ¬ (1 : Int32) = 0 by decide)]
        by_cases c1 : y < 0
        · rw [if_pos c1]
        · rw [if_neg c1]
          by_cases c2 : z < y
          · rw [if_pos c2]
          · rw [if_neg c2, if_neg ((hb.resolve_left c1).resolve_left c2)]
      · rw [e2, bnd_some, if_pos rfl]
  unfold L_witness C_Run_witness
  by_cases c1 : y < 0
  · rw [wi_lo c1, bnd_some, if_pos rfl, bad (Or.inl c1)]
    exact hdef
  by_cases c2 : z < y
  · rw [bad (Or.inr (Or.inl c2))]
    by_cases c3 : 9999 < y
    · rw [wi_hi c3, bnd_some, if_pos rfl]
      exact hdef
    · rw [wi_in c1 c3, bnd_some, if_neg (show ¬ (1 : Int32) = 0 by decide), wi_lo c2, bnd_some, if_pos rfl]
      exact hdef
  by_cases c4 : z ≤ 9999
  · obtain ⟨a, ha, rfl⟩ := nI_of c1
    have c5 : ¬ z < 0 := fun w => c2 (Int32.lt_of_lt_of_le w (nI_pos' ha))
    obtain ⟨b, hb, rfl⟩ := nI_of c5
    have hab : a ≤ b := by
      rcases Nat.lt_or_ge b a with w | w
      · exact absurd (nI_lt w ha) c2
      · exact w
    have hb9 : b ≤ 9999 := (nI_leI (b := 9999) hb (by omega)).mp c4
    rw [wi_in c1 (show ¬ (9999 : Int32) < nI a from fun w => by have := (nI_ltI (a := 9999) (by omega) ha).mp w; omega), bnd_some, if_neg (show ¬ (1 : Int32) = 0 by decide), wi_in c2 (show ¬ (9999 : Int32) < nI b from fun w => by have := (nI_ltI (a := 9999) (by omega) hb).mp w; omega), bnd_some, if_neg (show ¬ (1 : Int32) = 0 by decide)]
    unfold M_witness C_Court_hear
    simp only [nm_eq]
    rw [ew, h9.2.1.2.1, h8.2.1]
    rcases c_at h1 h9' x with ⟨k, hk, rfl, e1, e2⟩ | ⟨e1, e2⟩
    · rw [e1, e2, bnd_some, opt_some, bnd_some, if_neg (show ¬ (1 : Int32) = 0 by decide), if_neg c1, if_neg c2, if_pos c4]
      by_cases full : nw = 200
      · subst full
        rw [if_neg (show ¬ nI 200 < 200 by decide), if_pos (show nI 200 = 200 from rfl)]
        exact hdef
      · have rc := h9.2.2.1 k hk
        have cl := cntW_le (wc := wc) (k := k) nw
        rw [if_pos (show nI nw < 200 from (nI_ltI (b := 200) (by omega) (by omega)).mpr (by omega)), if_neg (show ¬ nI nw = 200 from fun w => full ((nI_eq (b := 200) (by omega) (by omega)).mp w)), chkP_t rc.1.1, nI_nat (show nw < 2 ^ 31 by omega), bnd2_some]
        have ed : (s1 σ 0 0 0).1 32 0 = nI d := h8.2.2
        simp (disch := first | decide | omega) only [s1_oth, s1_e, ew, ed, nI_nat, chkI_nI, nI_1]
        have e6 : tS (uP (mkWitness t nw (nI d) (nI a) (nI b) (tP t 1 5 k)) 1 5 k (some nw)) 1 6 k + 1 = nI (cntW wc k nw + 1) := by
          rw [show tS (uP (mkWitness t nw (nI d) (nI a) (nI b) (tP t 1 5 k)) 1 5 k (some nw)) 1 6 k = tS t 1 6 k from by unfold mkWitness; simp (disch := decide) only [tS_c, tS_f, tS_e, tS_i, xSP, xSL, tP_c, tP_f, tP_e, tP_i, xPS, xPL, tL_c, tL_f, tL_e, tL_i, xLS, xLP, xNS, xNL, xNP], rc.2.2.2.2.2.2, nI_1]
        rw [e6]
        have e4 : tS (uS (uP (mkWitness t nw (nI d) (nI a) (nI b) (tP t 1 5 k)) 1 5 k (some nw)) 1 6 k (nI (cntW wc k nw + 1))) 2 4 0 + 1 = nI (nw + 1) := by
          rw [show tS (uS (uP (mkWitness t nw (nI d) (nI a) (nI b) (tP t 1 5 k)) 1 5 k (some nw)) 1 6 k (nI (cntW wc k nw + 1))) 2 4 0 = tS t 2 4 0 from by unfold mkWitness; simp (disch := decide) only [tS_c, tS_f, tS_e, tS_i, xSP, xSL, tP_c, tP_f, tP_e, tP_i, xPS, xPL, tL_c, tL_f, tL_e, tL_i, xLS, xLP, xNS, xNL, xNP], h9.2.1.2.1, nI_1]
        rw [e4]
        have N := wiT_n t nw k (nI d) (nI a) (nI b) (tP t 1 5 k) (nI (cntW wc k nw + 1)) (nI (nw + 1))
        have ef : tS (uS (uS (uP (mkWitness t nw (nI d) (nI a) (nI b) (tP t 1 5 k)) 1 5 k (some nw)) 1 6 k (nI (cntW wc k nw + 1))) 2 4 0 (nI (nw + 1))) 1 6 k = nI (cntW wc k nw + 1) := N.2.2.2.2.2.1
        rw [ef]
        have el := wit_M (σ := s1 (s1 (s1 (s1 (s1 (s1 σ 0 0 0) 37 nw (nI k)) 38 nw (nI d)) 39 nw (nI a)) 40 nw (nI b)) 42 0 (nI (nw + 1))) (N := nw + 1) (k := k) (wc := fun w => if w = nw then k else wc w) (by omega) (by omega) (by rw [s1_e]) (fun w hw => ?_) (nI a) (nI b) 100000 0 (by omega) (by omega)
        · have ec : cntW (fun w => if w = nw then k else wc w) k (nw + 1) = cntW wc k nw + 1 := by
            show cntW (fun w => if w = nw then k else wc w) k nw + (if (if nw = nw then k else wc nw) = k then 1 else 0) = _
            rw [if_pos rfl, if_pos rfl, cntW_congr (wc := wc) nw (fun i hi => if_neg (by omega))]
          rw [ec] at el
          rw [show M_witness_L100 100000 (s1 (s1 (s1 (s1 (s1 (s1 σ 0 0 0) 37 nw (nI k)) 38 nw (nI d)) 39 nw (nI a)) 40 nw (nI b)) 42 0 (nI (nw + 1))) 0 0 (nI k) (nI a) (nI b) = some (nI (nw + 1), nI (cntW wc k nw + 1)) from el, bnd_some, nm2_eq, bnd2_some, if_pos rfl]
          exact ⟨_, rfl, wit_Rel h1 h2 h3 h4 h5 h6 h7 h8 h9 h10 h11 hk hab hb9 (by omega) rfl rfl⟩
        · by_cases e : w = nw
          · subst e
            simp only [if_true]
            refine ⟨by omega, ?_⟩
            simp (disch := decide) only [s1_oth, s1_e, s1_i, x12, x21]
          · simp only [e, if_false]
            have q := (h9.2.2.2.2 w (by omega)).2.1
            refine ⟨by omega, ?_⟩
            rw [s1_oth _ _ _ _ (by decide), s1_oth _ _ _ _ (by decide), s1_oth _ _ _ _ (by decide), s1_oth _ _ _ _ (by decide), s1_i _ _ _ _ e, s1_oth _ _ _ _ (by decide)]
            exact q.2
    · rw [e1, e2, bnd_some, opt_none, bnd_some, if_pos rfl]
      by_cases full : nI nw = 200
      · rw [if_pos full]
        exact hdef
      · rw [if_neg full]
        exact hdef
  · rw [bad (Or.inr (Or.inr c4))]
    by_cases c3 : 9999 < y
    · rw [wi_hi c3, bnd_some, if_pos rfl]
      exact hdef
    · rw [wi_in c1 c3, bnd_some, if_neg (show ¬ (1 : Int32) = 0 by decide), wi_hi (show (9999 : Int32) < z from Int32.not_le.mp c4), bnd_some, if_pos rfl]
      exact hdef
