def beT (t : TH) : TH := uS (uS (uS (uS (uS (uS t 4 0 0 (tS t 4 0 1)) 4 1 0 (tS t 4 1 1)) 4 2 0 (tS t 4 2 1)) 4 3 0 (tS t 4 3 1)) 4 4 0 (tS t 4 4 1)) 4 5 0 (tS t 4 5 1)
theorem be_eq (K : List (Nat × Nat)) {t : TH} (h : tS t 4 1 1 = 0 ∨ tS t 4 1 1 = 1) : C_Law_become K t = some (beT t) := by
  unfold C_Law_become beT
  simp only [nm_eq]
  simp (disch := decide) only [tS_c, tS_f, tS_e, tS_i, xSP, xSL, tP_c, tP_f, tP_e, tP_i, xPS, xPL, tL_c, tL_f, tL_e, tL_i, xLS, xLP, xNS, xNL, xNP]
  rcases h with h | h <;> rw [h] <;> first | exact chkZ_0 | exact chkZ_1
theorem p_law {K : List (Nat × Nat)} {t : TH} {σ : St} (h : Rel K t σ) : ∃ Y, some Y = L_law K t σ ∧ Rel Y.1 Y.2.1 Y.2.2 := by
  obtain ⟨n, nc, nw, m, d, cb, cq, cd, wc, wd, wf, wt, h1, h2, h3, h4, h5, h6, h7, h8, h9, h10, h11⟩ := h
  obtain ⟨z, z1, z2, z3, z4⟩ := h2
  have h2 : R_tape t σ := ⟨z, z1, z2, z3, z4⟩
  have hF := tk_F σ z
  obtain ⟨σ1, u, e16, F1, i1⟩ := lw_16 (σ0 := s1 (tkS σ z) 29 0 0) 100000 0 (s1 (tkS σ z) 29 0 0) (by omega) (by omega) (Fx_rf _ _) (fun j hj => absurd hj (by omega))
  obtain ⟨t1, ht1⟩ : ∃ t1, t1 = uS (uS (uS (uS (uS (uS (uS (uS (uS (uS (uS t 4 0 1 0) 4 1 1 0) 4 2 1 0) 4 3 1 999) 4 4 1 2) 4 5 1 0) 5 3 0 0) 5 6 0 0) 5 8 0 0) 5 2 0 0) 5 5 0 0 := ⟨_, rfl⟩
  have L1 : LC t t1 := by rw [ht1]; exact LC_5 (LC_5 (LC_5 (LC_5 (LC_5 (LC_4 (LC_4 (LC_4 (LC_4 (LC_4 (LC_4 (LC_rf _) (by decide) _) (by decide) _) (by decide) _) (by decide) _) (by decide) _) (by decide) _) (by decide) _) (by decide) _) (by decide) _) (by decide) _) (by decide) _
  have F2 : Fx [0, 2, 3, 4, 24, 25, 29] σ σ1 := Fx_tr (Fx_s1 (Fx_mono hF (by decide)) (by decide) _ _) (Fx_mono F1 (by decide))
  have s3 : σ1.1 3 0 = nI z := by rw [F1.1 3 (by decide), s1_oth _ _ _ _ (by decide)]; exact tk_3 σ z
  have s4 : σ1.1 4 0 = nI 0 := by rw [F1.1 4 (by decide), s1_oth _ _ _ _ (by decide)]; exact tk_4 σ z
  have s2' : σ1.1 2 0 = nI 0 := by rw [F1.1 2 (by decide), s1_oth _ _ _ _ (by decide)]; exact tk_2 σ z
  have s29 : σ1.1 29 0 = 0 := by rw [F1.1 29 (by decide), s1_e]
  have hTB : TB t1 σ1 z (fun j => (σ.1 1 j).toBitVec.toNat % 256) := by
    refine ⟨z1, by rw [L1.1.1 9 1 (by decide)]; exact z2, s3, by rw [L1.1.2.2.2]; exact h1.1, fun j hj => ?_⟩
    rw [L1.1.1 13 0 (by decide), F2.1 1 (by decide), (z4 j hj).1]
    exact ⟨bt_and _, bt_and _, Nat.mod_lt _ (by omega)⟩
  have D1 : DR t1 σ1 0 0 := by
    have q := fun j hj => (i1 j hj).2
    refine ⟨⟨0, by omega, ?_, q 0 (by omega)⟩, Or.inl ⟨?_, q 1 (by omega)⟩, ⟨0, by omega, ?_, q 2 (by omega)⟩, ⟨999, by omega, ?_, q 3 (by omega)⟩, ⟨2, by omega, ?_, q 4 (by omega)⟩, ?_, by omega, ?_, fun r hr => by rw [(i1 r hr).1, Nat.zero_testBit]; rfl⟩ <;> (rw [ht1]; simp (disch := decide) only [tS_c, tS_f, tS_e, tS_i, xSP, xSL, tP_c, tP_f, tP_e, tP_i, xPS, xPL, tL_c, tL_f, tL_e, tL_i, xLS, xLP, xNS, xNL, xNP]) <;> rfl
  obtain ⟨σa, ea, fin⟩ := rl_L (K := K) z 0 0 0 0 100000 100000 0 t1 σ1 (by omega) (by omega) hTB (by rw [ht1]; simp (disch := decide) only [tS_c, tS_f, tS_e, tS_i, xSP, xSL, tP_c, tP_f, tP_e, tP_i, xPS, xPL, tL_c, tL_f, tL_e, tL_i, xLS, xLP, xNS, xNL, xNP]; rfl) s4 (by rw [ht1]; simp (disch := decide) only [tS_c, tS_f, tS_e, tS_i, xSP, xSL, tP_c, tP_f, tP_e, tP_i, xPS, xPL, tL_c, tL_f, tL_e, tL_i, xLS, xLP, xNS, xNL, xNP]) (by rw [ht1]; simp (disch := decide) only [tS_c, tS_f, tS_e, tS_i, xSP, xSL, tP_c, tP_f, tP_e, tP_i, xPS, xPL, tL_c, tL_f, tL_e, tL_i, xLS, xLP, xNS, xNL, xNP]; rfl) (by omega) D1 (by omega) (by omega) (by omega)
  have eR : C_Reader_read K t = bnd (C_Reader_read_L34 100000 K t1 0) (fun q => nm2 q (fun j q => nm2 q (fun t23 q => nm2 q (fun v24 v25 => if j = 0 then some (v25, t23) else if j = 1 then some (tS t23 4 5 1, t23) else none)))) := by
    unfold C_Reader_read C_Law_forget
    simp only [nm_eq, bnd_some]
    rw [← ht1]
  have eMl : M_law σ = bnd (M_law_L76 100000 σa 0) (fun q => nm2 q (fun j q => nm2 q (fun σ33 q => nm2 q (fun v34 v35 => if j = 0 then some (v35, σ33) else if j = 1 then bnd (M_law_L105 100000 σ33 0 v34) (fun q => nm2 q (fun σ45 v46 => nm (s1 σ45 31 0 v34) (fun σ47 => some (v34, σ47)))) else none)))) := by
    unfold M_law
    rw [nm_eq, tk_eq z3, bnd_some, nm_eq, show M_law_L16 100000 (s1 (tkS σ z) 29 0 0) 0 = some (σ1, u) from e16, bnd_some, nm2_eq, ea, bnd_some]
  unfold L_law C_Run_law
  rw [eR, eMl]
  have LMg : ∀ {σ' : St}, LM σ1 σ' → (∀ x, x ∉ Glw → σ'.1 x = σ.1 x) ∧ σ'.2 18 = σ.2 18 := fun {σ'} hm => ⟨fun x hx => by
    rw [hm.1 x (fun w => hx ((by decide : ∀ y, y ∈ [4, 24, 25, 26, 27, 28, 29, 30] → y ∈ Glw) x w)), F2.1 x (fun w => hx ((by decide : ∀ y, y ∈ [0, 2, 3, 4, 24, 25, 29] → y ∈ Glw) x w))], by rw [hm.2 18 (by decide), F2.2]⟩
  rcases fin with ⟨t2, σ2, x, y, v, e1, e2, C2, M2, q1, q2⟩ | ⟨t2, σ2, x, n', W', e1, e2, C2, M2, q1, q2, D2⟩
  · rw [show C_Reader_read_L34 100000 K t1 0 = some (0, t2, x, v) from e1, show M_law_L76 100000 σa 0 = some (0, σ2, y, v) from e2]
    simp only [bnd_some, nm2_eq, nm_eq, if_true, bnd2_some, q2, if_false]
    have C3 := LC_tr L1 C2
    obtain ⟨g1, g2⟩ := LMg M2
    refine ⟨_, rfl, law_Rel (t' := uS t2 9 1 0 0) (σ' := σ2) h1 h2 h3 h4 h5 h6 h8 h9 h10 h11 (ET_uS (ET_mono C3.1 (by decide) (by decide) (by decide)) (by decide) _ _) g1 g2 (tS_e _ _ _ _ _) (by rw [M2.1 2 (by decide)]; exact s2') ?_⟩
    have v : ∀ f, tS (uS t2 9 1 0 0) 4 f 0 = tS t 4 f 0 := fun f => by rw [tS_c _ _ _ _ _ (by decide)]; exact C3.2 f
    have w23 : σ2.1 23 = σ.1 23 := by rw [M2.1 23 (by decide), F2.1 23 (by decide)]
    have w31 : σ2.1 31 = σ.1 31 := by rw [M2.1 31 (by decide), F2.1 31 (by decide)]
    unfold R_rul at h7 ⊢
    rw [v 0, v 1, v 2, v 3, v 4, v 5, w23, w31, tS_c _ _ _ _ _ (by decide)]
    exact ⟨h7.1, h7.2.1, h7.2.2.1, h7.2.2.2.1, h7.2.2.2.2.1, h7.2.2.2.2.2.1, q1⟩
  · rw [show C_Reader_read_L34 100000 K t1 0 = some (1, t2, x, 0) from e1, show M_law_L76 100000 σa 0 = some (1, σ2, nI n', 0) from e2]
    obtain ⟨σ3, y3, e3, F3, i3⟩ := lw_105 (σ0 := σ2) (nI n') 100000 0 σ2 (by omega) (by omega) (Fx_rf _ _) (fun j hj => absurd hj (by omega))
    have hb : tS t2 4 1 1 = 0 ∨ tS t2 4 1 1 = 1 := D2.2.1.elim (fun w => Or.inl w.1) (fun w => Or.inr w.1)
    simp only [bnd_some, nm2_eq, nm_eq, if_true, bnd2_some, q1, if_neg (show ¬ (1 : Nat) = 0 by decide), be_eq K hb, show M_law_L105 100000 σ2 0 (nI n') = some (σ3, y3) from e3, D2.2.2.2.2.2.1]
    have C3 := LC_tr L1 C2
    obtain ⟨g1, g2⟩ := LMg M2
    have hT : ET Slw [] [] t (uS (beT t2) 9 1 0 0) := by
      unfold beT
      exact ET_uS (ET_uS (ET_uS (ET_uS (ET_uS (ET_uS (ET_uS (ET_mono C3.1 (by decide) (by decide) (by decide)) (by decide) _ _) (by decide) _ _) (by decide) _ _) (by decide) _ _) (by decide) _ _) (by decide) _ _) (by decide) _ _
    refine ⟨(K, uS (beT t2) 9 1 0 0, s1 σ3 31 0 (nI n')), rfl, law_Rel (t' := uS (beT t2) 9 1 0 0) (σ' := s1 σ3 31 0 (nI n')) h1 h2 h3 h4 h5 h6 h8 h9 h10 h11 hT (fun x hx => ?_) ?_ (tS_e _ _ _ _ _) ?_ ?_⟩
    · rw [s1_oth _ _ _ _ (fun w => hx (by rw [w]; decide)), F3.1 x (fun w => hx ((by decide : ∀ y, y ∈ [23] → y ∈ Glw) x w)), g1 x hx]
    · rw [x12, F3.2, g2]
    · rw [s1_oth _ _ _ _ (by decide), F3.1 2 (by decide), M2.1 2 (by decide)]; exact s2'
    · have w23 : ∀ j, j < 5 → (s1 σ3 31 0 (nI n')).1 23 j = σ2.1 24 j := fun j hj => by rw [s1_oth _ _ _ _ (by decide)]; exact i3 j hj
      have w29 : (s1 σ3 31 0 (nI n')).1 29 0 = 0 := by rw [s1_oth _ _ _ _ (by decide), F3.1 29 (by decide), q2]; exact s29
      obtain ⟨d0, d1, d2, d3, d4, d5, _⟩ := D2
      unfold R_rul
      rw [w23 0 (by omega), w23 1 (by omega), w23 2 (by omega), w23 3 (by omega), w23 4 (by omega), s1_e, w29]
      unfold beT
      simp (disch := decide) only [tS_c, tS_f, tS_e, tS_i, xSP, xSL, tP_c, tP_f, tP_e, tP_i, xPS, xPL, tL_c, tL_f, tL_e, tL_i, xLS, xLP, xNS, xNL, xNP]
      exact ⟨d0, d1, d2, d3, d4, d5, q1⟩
