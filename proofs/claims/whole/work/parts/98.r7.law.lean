theorem rl_L {K : List (Nat × Nat)} {z : Nat} {B : Nat → Nat} :
    ∀ (δ P i n W f f' tk0 : Nat) (t : TH) (σ : St), z - P ≤ δ → P ≤ z → TB t σ z B → tS t 5 3 0 = nI P → σ.1 4 0 = nI P → tS t 5 6 0 = 0 → tS t 5 5 0 = nI tk0 → tk0 ≤ 3 → DR t σ n W → i ≤ P → z - P + 1 < f → z - P < f' →
      ∃ σa, M_next σ = some σa ∧ (EndF t σ (C_Reader_read_L34 f K t (nI i)) (M_law_L76 f' σa (nI n)) ∨ EndK t σ (C_Reader_read_L34 f K t (nI i)) (M_law_L76 f' σa (nI n))) := by
  intro δ
  induction δ with
  | zero =>
    intro P i n W f f' tk0 t σ hd hP hTB e53 e4 e56 e55 h3 hD hi hf hf'
    have hz := hTB.1
    obtain ⟨t1, σ1, tk, P0, P1, eN, eM, T1, F1, pP, hT⟩ := next_eq (K := K) hTB hP e53 e4
    refine ⟨σ1, eM, Or.inr ?_⟩
    obtain ⟨⟨a1, a2⟩, ⟨b1, b2⟩, ⟨c1, c2⟩, d, _, _⟩ := hT
    have tk4 : tk = 4 := by omega
    subst tk4
    obtain ⟨f, rfl⟩ : ∃ g, f = g + 1 := ⟨f - 1, by omega⟩
    obtain ⟨f, rfl⟩ : ∃ g, f = g + 1 := ⟨f - 1, by omega⟩
    obtain ⟨f', rfl⟩ : ∃ g, f' = g + 1 := ⟨f' - 1, by omega⟩
    have eT : C_Reader_takeToken K t1 = some (0, t1) := by
      unfold C_Reader_takeToken
      rw [c1, T1.1 5 6 (by decide), e56, if_neg (show ¬ nI 4 = 0 by decide), nm_eq, if_pos rfl, if_pos (show nI 4 = 4 from rfl)]
    rw [st_C hTB.2.1 hz (by omega) e55 h3 eN eT, if_pos rfl]
    have e1 : C_Reader_read_L34 (f + 1) K (uS t1 5 2 0 0) (nI (i + 1)) = some (1, uS t1 5 2 0 0, nI (i + 1), 0) := by
      unfold C_Reader_read_L34
      rw [tS_f _ _ _ _ _ (show 5 ≠ 2 by decide), c1, if_pos (show nI 4 = 4 from rfl)]
      split <;> rfl
    refine ⟨uS t1 5 2 0 0, σ1, nI (i + 1), n, W, e1, ?_, LC_5 (LC_n T1) (by decide) _, LM_N F1, tS_e _ _ _ _ _, by rw [F1.1 29 (by decide)], DR_L hD (fun f => by rw [tS_c _ _ _ _ _ (by decide), T1.1 4 f (nin (by decide) f)]) (by rw [tS_f _ _ _ _ _ (by decide), T1.1 5 8 (by decide)]) (F1.1 24 (by decide)) (F1.1 25 (by decide))⟩
    unfold M_law_L76
    rw [c2, if_pos (show nI (mt 4) = 0 from rfl)]
  | succ δ ih =>
    intro P i n W f f' tk0 t σ hd hP hTB e53 e4 e56 e55 h3 hD hi hf hf'
    have hz := hTB.1
    obtain ⟨t1, σ1, tk, P0, P1, eN, eM, T1, F1, pP, hT⟩ := next_eq (K := K) hTB hP e53 e4
    refine ⟨σ1, eM, ?_⟩
    have H1 : TB t1 σ1 z B := TB_L hTB (LC_n T1) (LM_N F1)
    obtain ⟨⟨a1, a2⟩, ⟨b1, b2⟩, ⟨c1, c2⟩, d, e, g⟩ := hT
    have hT : TK t1 σ1 z B P0 P1 tk := ⟨⟨a1, a2⟩, ⟨b1, b2⟩, ⟨c1, c2⟩, d, e, g⟩
    have tk4 : tk ≤ 4 := by omega
    have m4 : mt tk ≤ 4 := by unfold mt; split <;> (try split) <;> omega
    have D1 : DR t1 σ1 n W := DR_L hD (fun f => by rw [T1.1 4 f (nin (by decide) f)]) (by rw [T1.1 5 8 (by decide)]) (F1.1 24 (by decide)) (F1.1 25 (by decide))
    have e56' : tS t1 5 6 0 = 0 := by rw [T1.1 5 6 (by decide)]; exact e56
    have hc := cant_eq tk4 c2 a2
    obtain ⟨f, rfl⟩ : ∃ g, f = g + 1 := ⟨f - 1, by omega⟩
    obtain ⟨f', rfl⟩ : ∃ g, f' = g + 1 := ⟨f' - 1, by omega⟩
    have step := fun (v : Int32) (t2 : TH) (eT : C_Reader_takeToken K t1 = some (v, t2)) => st_C (f := f) (i := i) hTB.2.1 hz (by omega) e55 h3 eN eT
    by_cases k4 : tk = 4
    · subst k4
      right
      obtain ⟨f, rfl⟩ : ∃ g, f = g + 1 := ⟨f - 1, by omega⟩
      have eT : C_Reader_takeToken K t1 = some (0, t1) := by
        unfold C_Reader_takeToken
        rw [c1, e56', if_neg (show ¬ nI 4 = 0 by decide), nm_eq, if_pos rfl, if_pos (show nI 4 = 4 from rfl)]
      rw [step _ _ eT, if_pos rfl]
      have e1 : C_Reader_read_L34 (f + 1) K (uS t1 5 2 0 0) (nI (i + 1)) = some (1, uS t1 5 2 0 0, nI (i + 1), 0) := by
        unfold C_Reader_read_L34
        rw [tS_f _ _ _ _ _ (show 5 ≠ 2 by decide), c1, if_pos (show nI 4 = 4 from rfl)]
        split <;> rfl
      refine ⟨uS t1 5 2 0 0, σ1, nI (i + 1), n, W, e1, ?_, LC_5 (LC_n T1) (by decide) _, LM_N F1, tS_e _ _ _ _ _, by rw [F1.1 29 (by decide)], DR_L D1 (fun f => by rw [tS_c _ _ _ _ _ (by decide)]) (by rw [tS_f _ _ _ _ _ (by decide)]) rfl rfl⟩
      unfold M_law_L76
      rw [c2, if_pos (show nI (mt 4) = 0 from rfl)]
    · have mz : ¬ nI (mt tk) = 0 := fun y => by
        have := (nI_eq (b := 0) (by omega) (by omega)).mp y
        unfold mt at this
        revert this
        split <;> (try split) <;> omega
      have eL : ∀ {v : Int32} {σ2 : St}, M_rule σ1 = some (v, σ2) → M_law_L76 (f' + 1) σ1 (nI n) = (if v = 0 then some (0, σ2, nI n, ((-1) - (σ2.1 30 0))) else M_law_L76 f' σ2 (nI (n + 1))) := fun {v σ2} er => by
        have e0 : M_law_L76 (f' + 1) σ1 (nI n) = (if (σ1.1 26 0) = 0 then some (1, σ1, nI n, 0) else bnd2 (M_rule σ1) (fun v30 σ29 => if v30 = 0 then some (0, σ29, nI n, ((-1) - (σ29.1 30 0))) else nm (nI n + 1) (fun v32 => M_law_L76 f' σ29 v32))) := rfl
        rw [e0, c2, if_neg mz, er, bnd2_some, nm_eq, nI_1]
      obtain ⟨r, r1, r2, r3⟩ := rule_eq (K := K) H1 hT
      rcases r3 with rfl | ⟨tk1, k, hk, rfl⟩
      · left
        have er : M_rule σ1 = some (0, s1 (s1 σ1 29 0 (if tk = 0 then 1 else 2)) 30 0 (nI P0)) := by
          unfold M_rule
          rw [r2, bnd_some, if_neg (show ¬ (0 : Int32) ≤ -1 by decide), hc, bnd2_some]
          exact chkZ_0
        rw [eL er, if_pos rfl, s1_e]
        by_cases t0 : tk = 0
        · have eT : C_Reader_takeToken K t1 = some (1, t1) := by
            unfold C_Reader_takeToken
            rw [c1, if_pos (show nI tk = 0 by rw [t0]; rfl)]
          rw [step _ _ eT, if_neg (show ¬ (1 : Int32) = 0 by decide), tS_f _ _ _ _ _ (show 4 ≠ 2 by decide), a1]
          exact ⟨_, _, _, _, _, rfl, rfl, LC_5 (LC_n T1) (by decide) _, LM_s1 (LM_s1 (LM_N F1) (by decide) _ _) (by decide) _ _, by rw [tS_e, s1_oth _ _ _ _ (by decide), s1_e, if_pos t0], by rw [tS_e]; decide⟩
        · have eT : C_Reader_takeToken K t1 = some (2, uS t1 5 7 0 (-1)) := by
            unfold C_Reader_takeToken C_Reader_takeRule
            rw [c1, e56', if_neg (nI_ne0 (by omega) (by omega)), nm_eq, if_pos rfl, if_neg (show ¬ nI tk = 4 from fun y => k4 ((nI_eq (b := 4) (by omega) (by omega)).mp y)), r1, bnd_some, nm_eq, tS_e, if_pos rfl, bnd2_some]
          rw [step _ _ eT, if_neg (show ¬ (2 : Int32) = 0 by decide), tS_f _ _ _ _ _ (show 4 ≠ 2 by decide), tS_f _ _ _ _ _ (show 4 ≠ 7 by decide), a1]
          exact ⟨_, _, _, _, _, rfl, rfl, LC_5 (LC_5 (LC_n T1) (by decide) _) (by decide) _, LM_s1 (LM_s1 (LM_N F1) (by decide) _ _) (by decide) _ _, by rw [tS_e, s1_oth _ _ _ _ (by decide), s1_e, if_neg t0], by rw [tS_e]; decide⟩
      · subst tk1
        obtain ⟨_, _, _, _, _, _, W32, d58, d25⟩ := D1
        have D1 : DR t1 σ1 n W := DR_L hD (fun f => by rw [T1.1 4 f (nin (by decide) f)]) (by rw [T1.1 5 8 (by decide)]) (F1.1 24 (by decide)) (F1.1 25 (by decide))
        obtain ⟨x1, x2, x3⟩ := bit5 W32 hk
        have dP : P0 < P1 ∧ P1 ≤ z := by omega
        have e58 : tS (uS t1 5 7 0 (nI k)) 5 8 0 = nI W := by rw [tS_f _ _ _ _ _ (by decide)]; exact d58
        have tR : C_Reader_takeToken K t1 = bnd2 (C_Reader_takeRule K t1) (fun v6 t5 => some (v6, t5)) := by
          unfold C_Reader_takeToken
          rw [c1, e56', if_neg (show ¬ nI 1 = 0 by decide), nm_eq, if_pos rfl, if_neg (show ¬ nI 1 = 4 by decide)]
        by_cases told : W.testBit k = true
        · left
          have eT : C_Reader_takeToken K t1 = some (4, uS t1 5 7 0 (nI k)) := by
            rw [tR]
            unfold C_Reader_takeRule
            rw [r1, bnd_some, nm_eq, tS_e, if_neg (nNb (show k < 2 ^ 31 by omega)), e58, x1, if_pos told, if_neg (show ¬ (1 : Int32) = 0 by decide), bnd2_some]
          have er : M_rule σ1 = some (0, s1 (s1 σ1 29 0 4) 30 0 (nI P0)) := by
            unfold M_rule
            rw [r2, bnd_some, if_pos (nI_pos' (show k < 2 ^ 31 by omega)), chkI_nI hk (by omega), nI_nat (show k < 2 ^ 31 by omega), d25 k hk, if_pos told, if_neg (show ¬ (1 : Int32) = 0 by decide)]
            unfold M_wrong
            simp only [nm_eq, bnd2_some, a2]
            exact chkZ_0
          rw [eL er, if_pos rfl, s1_e, step _ _ eT, if_neg (show ¬ (4 : Int32) = 0 by decide), tS_f _ _ _ _ _ (show 4 ≠ 2 by decide), tS_f _ _ _ _ _ (show 4 ≠ 7 by decide), a1]
          exact ⟨_, _, _, _, _, rfl, rfl, LC_5 (LC_5 (LC_n T1) (by decide) _) (by decide) _, LM_s1 (LM_s1 (LM_N F1) (by decide) _ _) (by decide) _ _, by rw [tS_e, s1_oth _ _ _ _ (by decide), s1_e], by rw [tS_e]; decide⟩
        · obtain ⟨t2, ht2⟩ : ∃ t2, t2 = uS (uS (uS (uS t1 5 7 0 (nI k)) 5 8 0 (nI (W ||| 2 ^ k))) 5 6 0 1) 5 2 0 0 := ⟨_, rfl⟩
          obtain ⟨σ2, hσ2⟩ : ∃ σ2, σ2 = s1 σ1 25 k 1 := ⟨_, rfl⟩
          have eT : C_Reader_takeToken K t1 = some (0, uS (uS (uS t1 5 7 0 (nI k)) 5 8 0 (nI (W ||| 2 ^ k))) 5 6 0 1) := by
            rw [tR]
            unfold C_Reader_takeRule
            rw [r1, bnd_some, nm_eq, tS_e, if_neg (nNb (show k < 2 ^ 31 by omega)), e58, x1, if_neg told, if_pos rfl, nm_eq, nm_eq, x2, bnd2_some]
          have C2 : LC t t2 := by rw [ht2]; exact LC_5 (LC_5 (LC_5 (LC_5 (LC_n T1) (by decide) _) (by decide) _) (by decide) _) (by decide) _
          have M2 : LM σ σ2 := by rw [hσ2]; exact LM_s1 (LM_N F1) (by decide) _ _
          have H2 := TB_L hTB C2 M2
          have q53 : tS t2 5 3 0 = nI P1 := by rw [ht2]; simp (disch := decide) only [tS_c, tS_f, tS_e, tS_i, xSP, xSL, tP_c, tP_f, tP_e, tP_i, xPS, xPL, tL_c, tL_f, tL_e, tL_i, xLS, xLP, xNS, xNL, xNP]; exact b1
          have q4 : σ2.1 4 0 = nI P1 := by rw [hσ2, s1_oth _ _ _ _ (by decide)]; exact b2
          have q55 : tS t2 5 5 0 = nI 1 := by rw [ht2]; simp (disch := decide) only [tS_c, tS_f, tS_e, tS_i, xSP, xSL, tP_c, tP_f, tP_e, tP_i, xPS, xPL, tL_c, tL_f, tL_e, tL_i, xLS, xLP, xNS, xNL, xNP]; exact c1
          have q56 : tS t2 5 6 0 = 1 := by rw [ht2]; simp (disch := decide) only [tS_c, tS_f, tS_e, tS_i, xSP, xSL, tP_c, tP_f, tP_e, tP_i, xPS, xPL, tL_c, tL_f, tL_e, tL_i, xLS, xLP, xNS, xNL, xNP]
          have q57 : tS t2 5 7 0 = nI k := by rw [ht2]; simp (disch := decide) only [tS_c, tS_f, tS_e, tS_i, xSP, xSL, tP_c, tP_f, tP_e, tP_i, xPS, xPL, tL_c, tL_f, tL_e, tL_i, xLS, xLP, xNS, xNL, xNP]
          have q58 : tS t2 5 8 0 = nI (W ||| 2 ^ k) := by rw [ht2]; simp (disch := decide) only [tS_c, tS_f, tS_e, tS_i, xSP, xSL, tP_c, tP_f, tP_e, tP_i, xPS, xPL, tL_c, tL_f, tL_e, tL_i, xLS, xLP, xNS, xNL, xNP]
          have q4x : ∀ f, tS t2 4 f = tS t1 4 f := fun f => by rw [ht2, tS_c _ _ _ _ _ (by decide), tS_c _ _ _ _ _ (by decide), tS_c _ _ _ _ _ (by decide), tS_c _ _ _ _ _ (by decide)]
          have D2 : DR t2 σ2 n (W ||| 2 ^ k) := by
            obtain ⟨y0, y1, y2, y3, y4, y5, _, _, _⟩ := D1
            unfold DR
            rw [q4x, q4x, q4x, q4x, q4x, q4x, q58, hσ2, s1_oth _ _ _ _ (show 24 ≠ 25 by decide)]
            refine ⟨y0, y1, y2, y3, y4, y5, x3, rfl, fun r hr => ?_⟩
            by_cases y : r = k
            · rw [y, s1_e, if_pos (by rw [Nat.testBit_or, Nat.testBit_two_pow_self, Bool.or_true])]
            · rw [s1_i _ _ _ _ y, d25 r hr]
              rw [Nat.testBit_or, Nat.testBit_two_pow, show (decide (k = r)) = false from decide_eq_false (fun w => y w.symm), Bool.or_false]
          obtain ⟨t3, σ3, tk2, P2, P3, eN2, eM2, T3, F3, pP2, hT2⟩ := next_eq (K := K) H2 dP.2 q53 q4
          have C3 : LC t t3 := LC_tr C2 (LC_n T3)
          have M3 : LM σ σ3 := LM_tr M2 (LM_N F3)
          have H3 := TB_L hTB C3 M3
          have D3 : DR t3 σ3 n (W ||| 2 ^ k) := DR_L D2 (fun f => by rw [T3.1 4 f (nin (by decide) f)]) (by rw [T3.1 5 8 (by decide)]) (F3.1 24 (by decide)) (F3.1 25 (by decide))
          obtain ⟨f, rfl⟩ : ∃ g, f = g + 1 := ⟨f - 1, by omega⟩
          have step2 := fun (v : Int32) (t4 : TH) (eT2 : C_Reader_takeToken K t3 = some (v, t4)) => st_C (f := f) (i := i + 1) H2.2.1 hz (show i + 1 ≤ z by omega) q55 (by omega) eN2 eT2
          rw [step _ _ eT, if_pos rfl, ← ht2]
          have er0 : ∀ R, bnd (M_rule_B113 σ3 (-1) (nI k)) (fun q => nm2 q (fun j q => nm2 q (fun σ106 q => nm2 q (fun v107 v108 => if j = 0 then chkZ v108 (some (v108, σ106)) else if j = 1 then chkZ v108 (some (v108, σ106)) else if j = 2 then chkZ v108 (some (v108, σ106)) else if j = 3 then chkZ v108 (some (v108, σ106)) else if j = 4 then chkI (nI k) 5 (nm (s1 σ106 24 k v107) (fun σ121 => bnd (M_next σ121) (fun σ122 => if (σ122.1 26 0) = 3 then bnd (M_next σ122) (fun σ124 => some (1, σ124)) else bnd2 (M_cant σ122) (fun v126 σ125 => chkZ v126 (some (v126, σ125)))))) else none)))) = R → M_rule σ1 = R := fun R hR => by
            unfold M_rule
            rw [r2, bnd_some, if_pos (nI_pos' (show k < 2 ^ 31 by omega)), chkI_nI hk (by omega), nI_nat (show k < 2 ^ 31 by omega), d25 k hk, if_neg told, if_pos rfl, chkI_nI hk (by omega), nm_eq, show vp_nar .boolean 1 = 1 from rfl, ← hσ2, eM2, bnd_some]
            exact hR
          have hT2' := hT2
          obtain ⟨⟨g1, g2⟩, ⟨g3, g4⟩, ⟨g5, g6⟩, g7, _, _⟩ := hT2'
          rcases val_eq (K := K) H3 hT2 hk (by rw [T3.1 5 7 (by decide)]; exact q57) (by rw [T3.1 5 6 (by decide)]; exact q56) D3 with ⟨fk, j, v, t', σ', eT2, hfk, rfl, hj, eB, hFT, s29, s30⟩ | ⟨v, t4, eT2, eB, tk23, T4, q56', f40, D4⟩
          · left
            have er : M_rule σ1 = some (0, σ') := er0 _ (by
              rw [eB, bnd_some]
              rcases (show j = 0 ∨ j = 1 ∨ j = 2 ∨ j = 3 by omega) with rfl | rfl | rfl | rfl <;> exact chkZ_0)
            rw [eL er, if_pos rfl, s30, step2 _ _ eT2, if_neg hfk, tS_f _ _ _ _ _ (show 4 ≠ 2 by decide), g1]
            exact ⟨_, _, _, _, _, rfl, rfl, LC_5 C3 (by decide) _, LM_tr M3 (LM_T hFT), by rw [tS_e, s29], by rw [tS_e]; exact hfk⟩
          · have dP3 : P2 < P3 ∧ P3 ≤ z := by omega
            obtain ⟨t5, ht5⟩ : ∃ t5, t5 = uS t4 5 2 0 0 := ⟨_, rfl⟩
            obtain ⟨σ4, hσ4⟩ : ∃ σ4, σ4 = s1 σ3 24 k v := ⟨_, rfl⟩
            rw [← hσ4] at D4
            have C4 : LC t t4 := LC_tr C3 ⟨ET_mono T4 (by decide) (by decide) (by decide), f40⟩
            have C5 : LC t t5 := by rw [ht5]; exact LC_5 C4 (by decide) _
            have M4 : LM σ σ4 := by rw [hσ4]; exact LM_s1 M3 (by decide) _ _
            have H5 := TB_L hTB C5 M4
            have u53 : tS t5 5 3 0 = nI P3 := by rw [ht5, tS_f _ _ _ _ _ (by decide), T4.1 5 3 (by decide)]; exact g3
            have u4 : σ4.1 4 0 = nI P3 := by rw [hσ4, s1_oth _ _ _ _ (by decide)]; exact g4
            have u55 : tS t5 5 5 0 = nI tk2 := by rw [ht5, tS_f _ _ _ _ _ (by decide), T4.1 5 5 (by decide)]; exact g5
            have u56 : tS t5 5 6 0 = nI 2 := by rw [ht5, tS_f _ _ _ _ _ (by decide)]; exact q56'
            have D5 : DR t5 σ4 n (W ||| 2 ^ k) := DR_L D4 (fun f => by rw [ht5, tS_c _ _ _ _ _ (by decide)]) (by rw [ht5, tS_f _ _ _ _ _ (by decide)]) rfl rfl
            obtain ⟨t6, σ5, tk3, P4, P5, eN3, eM3, T6, F6, pP4, hT3⟩ := next_eq (K := K) H5 dP3.2 u53 u4
            obtain ⟨⟨h1, h2⟩, ⟨h3', h4⟩, ⟨h5, h6⟩, h7, _, _⟩ := hT3
            have C6 : LC t t6 := LC_tr C5 (LC_n T6)
            have M6 : LM σ σ5 := LM_tr M4 (LM_N F6)
            have H6 := TB_L hTB C6 M6
            have D6 : DR t6 σ5 n (W ||| 2 ^ k) := DR_L D5 (fun f => by rw [T6.1 4 f (nin (by decide) f)]) (by rw [T6.1 5 8 (by decide)]) (F6.1 24 (by decide)) (F6.1 25 (by decide))
            have w56 : tS t6 5 6 0 = nI 2 := by rw [T6.1 5 6 (by decide)]; exact u56
            have tk34 : tk3 ≤ 4 := by omega
            have m34 : mt tk3 ≤ 4 := by unfold mt; split <;> (try split) <;> omega
            obtain ⟨f, rfl⟩ : ∃ g, f = g + 1 := ⟨f - 1, by omega⟩
            have step3 := fun (v : Int32) (t7 : TH) (eT3 : C_Reader_takeToken K t6 = some (v, t7)) => st_C (f := f) (i := i + 1 + 1) H5.2.1 hz (show i + 1 + 1 ≤ z by omega) u55 tk23 eN3 eT3
            rw [step2 _ _ eT2, if_pos rfl, ← ht5]
            have er1 : ∀ R, (if (σ5.1 26 0) = 3 then bnd (M_next σ5) (fun σ124 => some (1, σ124)) else bnd2 (M_cant σ5) (fun v126 σ125 => chkZ v126 (some (v126, σ125)))) = R → M_rule σ1 = R := fun R hR => er0 _ (by
              rw [eB, bnd_some, nm2_eq, nm2_eq, nm2_eq]
              show chkI (nI k) 5 (nm (s1 σ3 24 k v) (fun σ121 => bnd (M_next σ121) (fun σ122 => if (σ122.1 26 0) = 3 then bnd (M_next σ122) (fun σ124 => some (1, σ124)) else bnd2 (M_cant σ122) (fun v126 σ125 => chkZ v126 (some (v126, σ125)))))) = R
              rw [chkI_nI hk (by omega), nm_eq, ← hσ4, eM3, bnd_some]
              exact hR)
            by_cases s3 : tk3 = 3
            · subst s3
              have eT3 : C_Reader_takeToken K t6 = some (0, uS (uS t6 4 5 1 (nI (n + 1))) 5 6 0 0) := by
                unfold C_Reader_takeToken C_Reader_takeSemicolon
                rw [h5, w56, if_neg (show ¬ nI 3 = 0 by decide), nm_eq, if_neg (show ¬ nI 2 = 0 by decide), if_neg (show ¬ nI 2 = 1 by decide), if_pos (show nI 3 = 3 from rfl), nm_eq, nm_eq, D6.2.2.2.2.2.1, nI_1, bnd2_some]
              obtain ⟨t7, ht7⟩ : ∃ t7, t7 = uS (uS (uS t6 4 5 1 (nI (n + 1))) 5 6 0 0) 5 2 0 0 := ⟨_, rfl⟩
              have C7 : LC t t7 := by rw [ht7]; exact LC_5 (LC_5 (LC_4 C6 (by decide) _) (by decide) _) (by decide) _
              have D7 : DR t7 σ5 (n + 1) (W ||| 2 ^ k) := by
                obtain ⟨y0, y1, y2, y3, y4, y5, y6, y7, y8⟩ := D6
                rw [ht7]
                unfold DR
                simp (disch := decide) only [tS_c, tS_f, tS_e, tS_i, xSP, xSL, tP_c, tP_f, tP_e, tP_i, xPS, xPL, tL_c, tL_f, tL_e, tL_i, xLS, xLP, xNS, xNL, xNP]
                exact ⟨y0, y1, y2, y3, y4, trivial, y6, y7, y8⟩
              have dP5 : P4 < P5 ∧ P5 ≤ z := by omega
              obtain ⟨σa, ea, fin⟩ := ih P5 (i + 1 + 1 + 1) (n + 1) (W ||| 2 ^ k) f f' 3 t7 σ5 (by omega) dP5.2 (TB_L hTB C7 M6) (by rw [ht7]; simp (disch := decide) only [tS_c, tS_f, tS_e, tS_i, xSP, xSL, tP_c, tP_f, tP_e, tP_i, xPS, xPL, tL_c, tL_f, tL_e, tL_i, xLS, xLP, xNS, xNL, xNP]; exact h3') h4 (by rw [ht7]; simp (disch := decide) only [tS_c, tS_f, tS_e, tS_i, xSP, xSL, tP_c, tP_f, tP_e, tP_i, xPS, xPL, tL_c, tL_f, tL_e, tL_i, xLS, xLP, xNS, xNL, xNP]) (by rw [ht7]; simp (disch := decide) only [tS_c, tS_f, tS_e, tS_i, xSP, xSL, tP_c, tP_f, tP_e, tP_i, xPS, xPL, tL_c, tL_f, tL_e, tL_i, xLS, xLP, xNS, xNL, xNP]; exact h5) (by omega) D7 (by omega) (by omega) (by omega)
              have er : M_rule σ1 = some (1, σa) := er1 _ (by rw [h6, if_pos (show nI (mt 3) = 3 from rfl), ea, bnd_some])
              rw [eL er, if_neg (show ¬ (1 : Int32) = 0 by decide), step3 _ _ eT3, if_pos rfl, ← ht7]
              rcases fin with ⟨t8, σ8, x, y, v8, e1, e2, e3, e4', e5, e6⟩ | ⟨t8, σ8, x, n8, W8, e1, e2, e3, e4', e5, e6, e7⟩
              · exact Or.inl ⟨t8, σ8, x, y, v8, e1, e2, LC_tr C7 e3, LM_tr M6 e4', e5, e6⟩
              · refine Or.inr ⟨t8, σ8, x, n8, W8, e1, e2, LC_tr C7 e3, LM_tr M6 e4', e5, ?_, e7⟩
                rw [e6, F6.1 29 (by decide), hσ4, s1_oth _ _ _ _ (by decide), F3.1 29 (by decide), hσ2, s1_oth _ _ _ _ (by decide), F1.1 29 (by decide)]
            · left
              have m3 : mt tk3 ≠ 3 := by unfold mt; split <;> (try split) <;> omega
              have er : M_rule σ1 = some (0, s1 (s1 σ5 29 0 (if tk3 = 0 then 1 else 2)) 30 0 (nI P4)) := er1 _ (by
                rw [h6, if_neg (show ¬ nI (mt tk3) = 3 from fun y => m3 ((nI_eq (b := 3) (by omega) (by omega)).mp y)), cant_eq tk34 h6 h2, bnd2_some]
                exact chkZ_0)
              have eT3 : C_Reader_takeToken K t6 = some (if tk3 = 0 then 1 else 2, t6) := by
                unfold C_Reader_takeToken C_Reader_takeSemicolon
                rw [h5, w56]
                by_cases t0 : tk3 = 0
                · rw [if_pos (show nI tk3 = 0 by rw [t0]; rfl), if_pos t0]
                · rw [if_neg (nI_ne0 (by omega) (by omega)), if_neg t0, nm_eq, if_neg (show ¬ nI 2 = 0 by decide), if_neg (show ¬ nI 2 = 1 by decide), if_neg (show ¬ nI tk3 = 3 from fun y => s3 ((nI_eq (b := 3) (by omega) (by omega)).mp y)), bnd2_some]
              have nf : ¬ (if tk3 = 0 then (1 : Int32) else 2) = 0 := by split <;> decide
              rw [eL er, if_pos rfl, s1_e, step3 _ _ eT3, if_neg nf, tS_f _ _ _ _ _ (show 4 ≠ 2 by decide), h1]
              exact ⟨_, _, _, _, _, rfl, rfl, LC_5 C6 (by decide) _, LM_s1 (LM_s1 M6 (by decide) _ _) (by decide) _ _, by rw [tS_e, s1_oth _ _ _ _ (by decide), s1_e], by rw [tS_e]; exact nf⟩
