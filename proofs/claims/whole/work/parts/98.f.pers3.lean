theorem teo {K : List (Nat × Nat)} {t : TH} {z L : Nat} (hz : z ≤ 200) (hsz : tS t 9 1 0 = nI z) (hlen : tN t 13 0 = 200) (hu : ∀ j, j < z → ∃ w, w < 256 ∧ tS t 13 0 j = nI w) (hL : L ≤ 64) : (C_Tape_tellsEachOnce K t (nI L) = some 1 ∧ gd (tS t 13 0) L z) ∨ (C_Tape_tellsEachOnce K t (nI L) = some 0 ∧ ¬ gd (tS t 13 0) L z) := by
  unfold C_Tape_tellsEachOnce
  rcases C_tells (K := K) hz hsz hlen hu hL 100000 0 0 (by omega) (by omega) trivial (fun q hq => by
    constructor
    · intro h
      simp at h
    · rintro ⟨j, hj, _⟩
      omega) with ⟨g, a, b, e⟩ | ⟨g, a, b, e⟩
  · left
    rw [show C_Tape_tellsEachOnce_L5 100000 K t 0 0 (nI L) = some (1, a, b, 0) from e, bnd_some]
    exact ⟨rfl, g⟩
  · right
    rw [show C_Tape_tellsEachOnce_L5 100000 K t 0 0 (nI L) = some (0, a, b, 0) from e, bnd_some]
    exact ⟨rfl, g⟩
theorem tape_u {t : TH} {σ : St} (z4 : ∀ j, j < 200 → tS t 13 0 j = σ.1 1 j &&& 255 ∧ -128 ≤ (σ.1 1 j).toInt ∧ (σ.1 1 j).toInt < 128) : ∀ j, j < 200 → ∃ w, w < 256 ∧ tS t 13 0 j = nI w := fun j hj => ⟨_, Nat.mod_lt _ (by omega), (z4 j hj).1.trans (bt_and _)⟩
def fits (t : TH) (z : Nat) (x1 hi x3 x4 : Int32) : Prop := (¬ x1 < 0 ∧ ¬ hi < x1) ∧ (¬ x3 < 1 ∧ ¬ 9 < x3) ∧ (¬ x4 < 0 ∧ ¬ 120 < x4) ∧ z ≤ 12 ∧ gd (tS t 13 0) 64 z
theorem wi_or (x lo hi : Int32) : (C_Run_isWithin x lo hi = some 1 ∧ (¬ x < lo ∧ ¬ hi < x)) ∨ (C_Run_isWithin x lo hi = some 0 ∧ ¬ (¬ x < lo ∧ ¬ hi < x)) := by
  by_cases a : x < lo
  · exact Or.inr ⟨wi_lo a, fun z => z.1 a⟩
  · by_cases b : hi < x
    · exact Or.inr ⟨wi_hi b, fun z => z.2 b⟩
    · exact Or.inl ⟨wi_in a b, a, b⟩
theorem pers_B29 {K : List (Nat × Nat)} {t : TH} {z : Nat} (hz : z ≤ 200) (hsz : tS t 9 1 0 = nI z) (hlen : tN t 13 0 = 200) (hu : ∀ j, j < z → ∃ w, w < 256 ∧ tS t 13 0 j = nI w) {x2 hi : Int32} (hhi : hi = if x2 = 0 then 7 else 63) (x1 x3 x4 x5 : Int32) : (C_Run_person_B29 K t x5 x1 x2 x3 x4 = some 1 ∧ fits t z x1 hi x3 x4) ∨ (C_Run_person_B29 K t x5 x1 x2 x3 x4 = some 0 ∧ ¬ fits t z x1 hi x3 x4) := by
  have e31 : C_Run_person_B31 K t x5 x1 x2 x3 x4 0 x1 = some hi := by
    unfold C_Run_person_B31
    rw [hhi]
    split <;> rfl
  unfold C_Run_person_B29
  rw [e31, bnd_some]
  rcases wi_or x1 0 hi with ⟨a, b⟩ | ⟨a, b⟩
  · rw [a, bnd_some, if_neg (show ¬ (1 : Int32) = 0 by decide)]
    rcases wi_or x3 1 9 with ⟨a', b'⟩ | ⟨a', b'⟩
    · rw [a', bnd_some, if_neg (show ¬ (1 : Int32) = 0 by decide)]
      rcases wi_or x4 0 120 with ⟨a'', b''⟩ | ⟨a'', b''⟩
      · rw [a'', bnd_some, if_neg (show ¬ (1 : Int32) = 0 by decide)]
        unfold C_Run_tapeTellsQuarters
        rw [hsz]
        by_cases k : 12 < z
        · rw [if_pos (show (12 : Int32) < nI z from (nI_ltI (a := 12) (by omega) (by omega)).mpr k), bnd_some, if_pos rfl]
          exact Or.inr ⟨rfl, fun w => by have := w.2.2.2.1; omega⟩
        · rw [if_neg (show ¬ (12 : Int32) < nI z from fun w => k ((nI_ltI (a := 12) (by omega) (by omega)).mp w))]
          rcases teo (K := K) (L := 64) hz hsz hlen hu (Nat.le_refl _) with ⟨c, g⟩ | ⟨c, g⟩
          · rw [show C_Tape_tellsEachOnce K t 64 = some 1 from c, bnd_some, if_neg (show ¬ (1 : Int32) = 0 by decide), bnd_some, if_neg (show ¬ (1 : Int32) = 0 by decide)]
            exact Or.inl ⟨rfl, b, b', b'', by omega, g⟩
          · rw [show C_Tape_tellsEachOnce K t 64 = some 0 from c, bnd_some, if_pos rfl, bnd_some, if_pos rfl]
            exact Or.inr ⟨rfl, fun w => g w.2.2.2.2⟩
      · rw [a'', bnd_some, if_pos rfl]
        exact Or.inr ⟨rfl, fun w => b'' w.2.2.1⟩
    · rw [a', bnd_some, if_pos rfl]
      exact Or.inr ⟨rfl, fun w => b' w.2.1⟩
  · rw [a, bnd_some, if_pos rfl]
    exact Or.inr ⟨rfl, fun w => b w.1⟩
def PeF (σ σ' : St) (n : Nat) : Prop := Fx [0, 2, 3, 4, 16] σ σ' ∧ σ'.1 2 0 = nI 0 ∧ ∀ x, x < 12 * n → σ'.1 16 x = σ.1 16 x
theorem pers_MM {t : TH} {σ : St} {n z : Nat} (hn : n ≤ 30) (h20 : σ.1 20 0 = nI n) (z1 : z ≤ 200) (z3 : σ.1 2 0 = nI z) (z4 : ∀ j, j < 200 → tS t 13 0 j = σ.1 1 j &&& 255 ∧ -128 ≤ (σ.1 1 j).toInt ∧ (σ.1 1 j).toInt < 128) {x2 hi : Int32} (hx2 : x2 = 0 ∨ x2 = 1) (hhi : hi = if x2 = 0 then 7 else 63) (x1 x3 x4 : Int32) :
    ((n < 30 ∧ σ.1 22 0 = 0 ∧ fits t z x1 hi x3 x4) ∧ ∃ τ, PeF σ τ n ∧ (∀ j, j < z → τ.1 16 (12 * n + j) = tS t 13 0 j) ∧ M_person σ x1 x2 x3 x4 = some (nI n, peS τ n z (if x2 = 0 then -1 else x1) (if x2 = 0 then x1 else x1 / 8) x2 x3 x4)) ∨
    (¬ (n < 30 ∧ σ.1 22 0 = 0 ∧ fits t z x1 hi x3 x4) ∧ ∃ σ', PeF σ σ' n ∧ M_person σ x1 x2 x3 x4 = some (-1, σ')) := by
  have hF := tk_F σ z
  have F0 : PeF σ (tkS σ z) n := ⟨Fx_mono hF (by decide), tk_2 σ z, fun x _ => by rw [hF.1 16 (by decide)]⟩
  have e20 : (tkS σ z).1 20 0 = nI n := by rw [hF.1 20 (by decide)]; exact h20
  have e22 : (tkS σ z).1 22 0 = σ.1 22 0 := by rw [hF.1 22 (by decide)]
  have e36 : M_person_B36 (tkS σ z) x1 x2 x3 x4 0 x1 = some hi := by
    unfold M_person_B36
    rw [hhi]
    split <;> rfl
  unfold M_person
  rw [nm_eq, tk_eq z3, bnd_some, e20, e22, tk_3]
  by_cases c1 : n = 30
  · right
    rw [if_pos (show nI n = 30 by rw [c1]; rfl)]
    exact ⟨fun w => by have := w.1; omega, _, F0, rfl⟩
  rw [if_neg (show ¬ nI n = 30 from fun w => c1 ((nI_eq (b := 30) (by omega) (by omega)).mp w))]
  by_cases c2 : σ.1 22 0 = 0
  · rw [if_pos c2]
    by_cases c3 : 12 < z
    · right
      rw [if_pos (show (12 : Int32) < nI z from (nI_ltI (a := 12) (by omega) (by omega)).mpr c3)]
      exact ⟨fun w => by have := w.2.2.2.2.2.1; omega, _, F0, rfl⟩
    rw [if_neg (show ¬ (12 : Int32) < nI z from fun w => c3 ((nI_ltI (a := 12) (by omega) (by omega)).mp w)), e36, bnd_some]
    simp only [mi_eq]
    rcases wi_or x1 0 hi with ⟨a, b⟩ | ⟨a, b⟩
    · rw [a, bnd_some, if_neg (show ¬ (1 : Int32) = 0 by decide)]
      rcases wi_or x3 1 9 with ⟨a', b'⟩ | ⟨a', b'⟩
      · rw [a', bnd_some, if_neg (show ¬ (1 : Int32) = 0 by decide)]
        rcases wi_or x4 0 120 with ⟨a'', b''⟩ | ⟨a'', b''⟩
        · rw [a'', bnd_some, if_neg (show ¬ (1 : Int32) = 0 by decide)]
          have z4' : ∀ j, j < 200 → tS t 13 0 j = (tkS σ z).1 1 j &&& 255 ∧ -128 ≤ ((tkS σ z).1 1 j).toInt ∧ ((tkS σ z).1 1 j).toInt < 128 := by
            rw [hF.1 1 (by decide)]
            exact z4
          rcases pers_M (t := t) (σ0 := tkS σ z) (n := n) (z := z) (by omega) (by omega) (tk_3 σ z) e20 z4' x1 x2 x3 x4 100000 0 (tkS σ z) 0 (by omega) (by omega) (Fx_rf _ _) (fun _ _ => rfl) (fun j hj => absurd hj (by omega)) trivial (fun q hq => by
            constructor
            · intro h
              simp at h
            · rintro ⟨j, hj, _⟩
              omega) with ⟨g, τ, u, v, e, F1, w1, w2⟩ | ⟨g, τ, u, v, e, F1, w1⟩
          · left
            have F2 : PeF σ τ n := ⟨Fx_tr (Fx_mono hF (by decide)) (Fx_mono F1 (by decide)), by rw [F1.1 2 (by decide)]; exact tk_2 σ z, fun x hx => by rw [w1 x hx, hF.1 16 (by decide)]⟩
            refine ⟨⟨by omega, c2, b, b', b'', by omega, g⟩, τ, F2, w2, ?_⟩
            rw [show M_person_L82 100000 (tkS σ z) 0 0 x1 x2 x3 x4 = some (1, τ, u, v, 0) from e, bnd_some]
            have t20 : τ.1 20 0 = nI n := by rw [F1.1 20 (by decide)]; exact e20
            have t3 : τ.1 3 0 = nI z := by rw [F1.1 3 (by decide)]; exact tk_3 σ z
            have e186 : ∀ ρ, M_person_B186 ρ u v x1 x2 x3 x4 (nI n) = some (if x2 = 0 then -1 else x1) := fun ρ => by
              unfold M_person_B186
              split <;> rfl
            have e204 : ∀ ρ, M_person_B204 ρ u v x1 x2 x3 x4 (nI n) = some (if x2 = 0 then x1 else x1 / 8) := fun ρ => by
              unfold M_person_B204
              split <;> rfl
            have ev : vp_nar .boolean x2 = x2 := by rcases hx2 with rfl | rfl <;> rfl
            simp only [nm2_eq, nm_eq, Nat.one_ne_zero, if_false, if_true]
            simp (disch := first | decide | omega) only [s1_oth, t20, t3, e186, e204, bnd_some, nI_nat, chkI_nI, ev, x21, s1_e, nI_1, nI_pred]
            rfl
          · right
            refine ⟨fun w => g w.2.2.2.2.2.2, τ, ⟨Fx_tr (Fx_mono hF (by decide)) (Fx_mono F1 (by decide)), by rw [F1.1 2 (by decide)]; exact tk_2 σ z, fun x hx => by rw [w1 x hx, hF.1 16 (by decide)]⟩, ?_⟩
            rw [show M_person_L82 100000 (tkS σ z) 0 0 x1 x2 x3 x4 = some (0, τ, u, v, -1) from e, bnd_some]
            rfl
        · right
          rw [a'', bnd_some, if_pos rfl]
          exact ⟨fun w => b'' w.2.2.2.2.1, _, F0, rfl⟩
      · right
        rw [a', bnd_some, if_pos rfl]
        exact ⟨fun w => b' w.2.2.2.1, _, F0, rfl⟩
    · right
      rw [a, bnd_some, if_pos rfl]
      exact ⟨fun w => b w.2.2.1, _, F0, rfl⟩
  · right
    rw [if_neg c2]
    exact ⟨fun w => c2 w.2.1, _, F0, rfl⟩
theorem fd8 {j : Nat} (hj : j < 64) : C_J9_floorDiv (nI j) 8 = some (nI (j / 8)) ∧ C_J9_floorMod (nI j) 8 = some (nI (j % 8)) := (by decide +kernel : ∀ j : Fin 64, C_J9_floorDiv (nI j.val) 8 = some (nI (j.val / 8)) ∧ C_J9_floorMod (nI j.val) 8 = some (nI (j.val % 8))) ⟨j, hj⟩
theorem ppl_16 {K : List (Nat × Nat)} {t t' : TH} {σ σ' : St} {n m : Nat} (h : R_ppl K t σ n m) (hT : ET [(9, 1)] [] [] t t') (hF : PeF σ σ' n) : R_ppl K t' σ' n m := by
  obtain ⟨p1, p2, p3, p4, p5, p6⟩ := h
  obtain ⟨F, _, f16⟩ := hF
  have q7 : tS t' 7 = tS t 7 := funext (fun f => hT.1 7 f (nin (by decide) f))
  have q17 : tS t' 17 = tS t 17 := funext (fun f => hT.1 17 f (nin (by decide) f))
  have q18 : tS t' 18 = tS t 18 := funext (fun f => hT.1 18 f (nin (by decide) f))
  refine ⟨p1, by rw [hT.1 6 1 (by decide)]; exact p2, by rw [F.1 20 (by decide)]; exact p3, fun k hk => ?_, ?_, by rw [F.1 51 (by decide)]; exact p6⟩
  · have q := p4 k hk
    unfold R_one R_pos R_goal R_known at q ⊢
    rw [hT.2.1 15 1 (by decide), q7, hT.2.2.1 7 12 (by decide), hT.2.2.2, q17, q18, F.1 8 (by decide), F.1 9 (by decide), F.1 10 (by decide), F.1 11 (by decide), F.1 12 (by decide), F.1 13 (by decide), F.1 14 (by decide), F.1 15 (by decide), F.1 17 (by decide), F.2, F.1 19 (by decide), F.1 50 (by decide), F.1 51 (by decide), F.1 59 (by decide), F.1 61 (by decide)]
    obtain ⟨q1, q2, q3, q4, q5, q6, ⟨kn, c1, c2, c3, c4, c5, c6⟩, q8, q9⟩ := q
    refine ⟨q1, q2, q3, q4, q5, q6, ⟨kn, c1, c2, c3, c4, fun i hi => ?_, c6⟩, q8, q9⟩
    rw [f16 _ (by omega)]
    exact c5 i hi
  · unfold R_rest at *
    rw [F.1 61 (by decide), F.1 59 (by decide), F.1 51 (by decide), F.1 50 (by decide), F.1 13 (by decide)]
    exact p5
theorem p_person0 {K : List (Nat × Nat)} {t : TH} {σ : St} (h : Rel K t σ) (x1 x2 x3 x4 : Int32) (hx2 : x2 = 0 ∨ x2 = 1) : ∃ Y, some Y = L_person0 K t σ x1 x2 x3 x4 ∧ Rel Y.1 Y.2.1 Y.2.2 := by
  obtain ⟨n, nc, nw, m, d, cb, cq, cd, wc, wd, wf, wt, h1, h2, h3, h4, h5, h6, h7, h8, h9, h10, h11⟩ := h
  obtain ⟨z, z1, z2, z3, z4⟩ := h2
  have h2 : R_tape t σ := ⟨z, z1, z2, z3, z4⟩
  have hn := h6.1
  have hT : ET [(9, 1)] [] [] t (uS t 9 1 0 0) := ET_uS (ET_rf _ _ _ _) (by decide) _ _
  obtain ⟨hi, hhi⟩ : ∃ hi : Int32, hi = if x2 = 0 then 7 else 63 := ⟨_, rfl⟩
  have hu := fun j (hj : j < z) => tape_u z4 j (by omega)
  have fail : ∀ σ', PeF σ σ' n → Rel K (uS t 9 1 0 0) σ' := fun σ' hF => ⟨n, nc, nw, m, d, cb, cq, cd, wc, wd, wf, wt, c_len h1 hT, tape_0 h2 (tS_e _ _ _ _ _) (hT.1 13 0 (by decide)) hF.2.1 (hF.1.1 1 (by decide)), c_land h3 hT hF.1, c_race h4 hT hF.1, c_stk h5 hT hF.1, ppl_16 h6 hT hF, c_rul h7 hT hF.1, c_day h8 hT hF.1, c_court h9 hT hF.1 (fun _ w => w), h10, c_P h11 hT⟩
  unfold L_person0
  rcases pers_MM (t := t) hn h6.2.2.1 z1 z3 z4 hx2 hhi x1 x3 x4 with ⟨⟨g1, g2, g3⟩, τ, F, w, eM⟩ | ⟨g, σ', F, eM⟩
  · obtain ⟨b1, b3, b4, b5, b6⟩ := g3
    rcases pers_B29 (K := K) z1 z2 h1.1 hu hhi x1 x3 x4 1 with ⟨e29, _⟩ | ⟨_, q⟩
    · have e0 : C_Run_person_B0 K t x1 x2 x3 x4 = some 1 := by
        unfold C_Run_person_B0
        rw [h4.2.2.2.1, if_pos g2, h6.2.1, if_neg (show ¬ (30 : Int32) ≤ nI n from fun y => by have := (nI_leI (a := 30) (by omega) (by omega)).mp y; omega)]
      obtain ⟨p, hp, ep⟩ := nI_in2 (x := x3) (N := 9) (M := 9) rfl (by omega) (fun y => b3.1 (Int32.lt_trans y (by decide))) b3.2
      have hp1 : 1 ≤ p := by
        rcases Nat.eq_zero_or_pos p with y | y
        · rw [ep, y] at b3
          exact absurd (show nI 0 < 1 by decide) b3.1
        · exact y
      obtain ⟨a, ha, ea⟩ := nI_in2 (x := x4) (N := 120) (M := 120) rfl (by omega) b4.1 b4.2
      obtain ⟨fr, efr⟩ := nI_of b1.1
      have ecp : C_Tape_copied t 12 = some z := by
        unfold C_Tape_copied
        rw [z2, h1.1]
        have e1 : (if (12 : Int32) < nI z then 12 else nI z) = nI z := if_neg (fun y => by have := (nI_ltI (a := 12) (by omega) (by omega)).mp y; omega)
        have e2 : (if (0 : Int32) < nI z then nI z else 0) = nI z := by
          rcases Nat.eq_zero_or_pos z with y | y
          · rw [y]
            rfl
          · rw [if_pos (show (0 : Int32) < nI z from (nI_ltI (a := 0) (by omega) (by omega)).mpr y)]
        rw [nm_eq, e1, nm_eq, e2, chkP_t ⟨nI_pos (by omega), by rw [nI_nat (by omega)]; omega, by rw [nI_nat (by omega)]; omega, by omega⟩, nI_nat (by omega)]
      have erc : ∃ rw cl, C_rowcol x1 x2 = some (rw, cl) ∧ ∃ r, r < 8 ∧ rw = nI r ∧ (if x2 = 0 then x1 else x1 / 8) = nI r ∧ ((cl = -1 ∧ (if x2 = 0 then -1 else x1) = (-1 : Int32)) ∨ ∃ c, c < 8 ∧ cl = nI c ∧ (if x2 = 0 then -1 else x1) = nI (8 * r + c)) := by
        unfold C_rowcol
        rcases hx2 with rfl | rfl
        · rw [if_pos rfl, if_pos rfl, if_pos rfl]
          rw [if_pos rfl] at hhi
          rw [hhi] at b1
          obtain ⟨j, hj, ej⟩ := nI_in2 (x := x1) (N := 7) (M := 7) rfl (by omega) b1.1 b1.2
          exact ⟨x1, -1, rfl, j, by omega, ej, ej, Or.inl ⟨rfl, rfl⟩⟩
        · rw [if_neg (show ¬ (1 : Int32) = 0 by decide), if_neg (show ¬ (1 : Int32) = 0 by decide), if_neg (show ¬ (1 : Int32) = 0 by decide)]
          rw [if_neg (show ¬ (1 : Int32) = 0 by decide)] at hhi
          rw [hhi] at b1
          obtain ⟨j, hj, ej⟩ := nI_in2 (x := x1) (N := 63) (M := 63) rfl (by omega) b1.1 b1.2
          rw [ej, (fd8 (show j < 64 by omega)).1, (fd8 (show j < 64 by omega)).2, bnd_some, bnd_some, show (8 : Int32) = nI 8 from rfl, pk_div (by omega) (by omega) (by omega)]
          exact ⟨_, _, rfl, j / 8, by omega, rfl, rfl, Or.inr ⟨j % 8, by omega, rfl, by rw [show 8 * (j / 8) + j % 8 = j by omega]⟩⟩
      obtain ⟨rw', cl, erc, hpos⟩ := erc
      unfold C_Run_person
      rw [e0, bnd_some, e29, bnd_some, if_neg (show ¬ (1 : Int32) = 0 by decide), if_neg (show ¬ (1 : Int32) = 0 by decide), ecp, bnd_some, chkP_t b5, chkZ_t hx2, erc, bnd2_some, nm_eq, h6.2.1, nI_nat (show n < 2 ^ 31 by omega)]
      unfold C_People_welcome
      obtain ⟨kf, hkf⟩ : ∃ kf, kf = va_cpy (tS t 13 0) (fun _ => 0) 0 0 z := ⟨_, rfl⟩
      rw [← hkf]
      have e6 : tS (mkPers t n x2 x3 x4 rw' cl z kf) 6 1 0 = nI n := by
        rw [← h6.2.1]
        unfold mkPers mkPers0
        simp (disch := decide) only [tS_c, tS_f, tS_e, tS_i, xSP, xSL, tP_c, tP_f, tP_e, tP_i, xPS, xPL, tL_c, tL_f, tL_e, tL_i, xLS, xLP, xNS, xNL, xNP, uR_S, uR_P, uR_L]
      have e15 : tN (mkPers t n x2 x3 x4 rw' cl z kf) 15 1 = 30 := by
        rw [← h1.2.2.2.2.2.2.1]
        unfold mkPers mkPers0
        simp (disch := decide) only [tS_c, tS_f, tS_e, tS_i, xSP, xSL, tP_c, tP_f, tP_e, tP_i, xPS, xPL, tL_c, tL_f, tL_e, tL_i, xLS, xLP, xNS, xNL, xNP, uR_N]
      rw [e6, if_neg (nI_pos (show n < 2 ^ 31 by omega)), e15, if_pos (nI_lt g1 (by omega)), chkP_t (by simp)]
      simp only [nm_eq]
      have e6' : tS (uS (mkPers t n x2 x3 x4 rw' cl z kf) 7 0 n (nI n)) 6 1 0 = nI n := by
        rw [tS_c _ _ _ _ _ (by decide), e6]
      rw [e6', xNS, e15, chkI_nI g1 (by omega), nI_nat (show n < 2 ^ 31 by omega), xSP, e6', nI_1, bnd2_some, bnd2_some]
      have e70 : tS (uS (uP (uS (mkPers t n x2 x3 x4 rw' cl z kf) 7 0 n (nI n)) 15 1 n (some n)) 6 1 0 (nI (n + 1))) 7 0 n = nI n := by
        rw [tS_c _ _ _ _ _ (by decide), xSP, tS_e]
      rw [e70, eM, bnd2_some, if_pos rfl]
      rw [ep, ea]
      rw [ep, ea] at eM
      exact ⟨_, rfl, pers_Rel h1 h2 h3 h4 h5 h6 h7 h8 h9 h10 h11 g1 b5 b6 F.1 F.2.1 F.2.2 w hp1 hp ha hx2 hpos (by rw [← hkf]; rfl) rfl⟩
    · exact absurd ⟨b1, b3, b4, b5, b6⟩ q
  · have eC : C_Run_person K t x1 x2 x3 x4 = some (-1, K, uS t 9 1 0 0) := by
      unfold C_Run_person
      have e0 : (C_Run_person_B0 K t x1 x2 x3 x4 = some 1 ∧ n < 30 ∧ σ.1 22 0 = 0) ∨ C_Run_person_B0 K t x1 x2 x3 x4 = some 0 := by
        unfold C_Run_person_B0
        rw [h4.2.2.2.1, h6.2.1]
        by_cases c : σ.1 22 0 = 0
        · rw [if_pos c]
          by_cases c' : 30 ≤ n
          · rw [if_pos (show (30 : Int32) ≤ nI n from (nI_leI (a := 30) (by omega) (by omega)).mpr c')]
            exact Or.inr rfl
          · rw [if_neg (show ¬ (30 : Int32) ≤ nI n from fun y => c' ((nI_leI (a := 30) (by omega) (by omega)).mp y))]
            exact Or.inl ⟨rfl, by omega, c⟩
        · rw [if_neg c]
          exact Or.inr rfl
      rcases e0 with ⟨e0, c1, c2⟩ | e0
      · rw [e0, bnd_some]
        rcases pers_B29 (K := K) z1 z2 h1.1 hu hhi x1 x3 x4 1 with ⟨e29, q⟩ | ⟨e29, _⟩
        · exact absurd ⟨c1, c2, q⟩ g
        · rw [e29, bnd_some, if_neg (show ¬ (1 : Int32) = 0 by decide), if_pos rfl, nm_eq]
      · rw [e0, bnd_some]
        rcases pers_B29 (K := K) z1 z2 h1.1 hu hhi x1 x3 x4 0 with ⟨e29, _⟩ | ⟨e29, _⟩
        · rw [e29, bnd_some, if_pos rfl, nm_eq]
        · rw [e29, bnd_some, if_pos rfl, nm_eq]
    rw [eC, bnd2_some, eM, bnd2_some, if_pos rfl]
    exact ⟨_, rfl, fail σ' F⟩
theorem p_person {K : List (Nat × Nat)} {t : TH} {σ : St} (h : Rel K t σ) (x1 x2 x3 x4 : Int32) : ∃ Y, some Y = L_person K t σ x1 x2 x3 x4 ∧ Rel Y.1 Y.2.1 Y.2.2 := by
  unfold L_person
  by_cases c : x2 = 0
  · rw [if_pos c]
    exact p_person0 h x1 0 x3 x4 (Or.inl rfl)
  · rw [if_neg c]
    exact p_person0 h x1 1 x3 x4 (Or.inr rfl)
