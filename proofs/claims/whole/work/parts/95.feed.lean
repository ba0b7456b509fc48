def ovS (t : TH) (c f : Nat) (b : Nat → Int32) : TH := (fun c' => if c' = c then (fun f' => if f' = f then b else tS t c f') else tS t c', t.2)
def ov1 (σ : St) (k : Nat) (b : Nat → Int32) : St := (fun j => if j = k then b else σ.1 j, σ.2)
theorem uS_ov (t : TH) (c f i : Nat) (v : Int32) : uS t c f i v = ovS t c f (va_up (tS t c f) i v) := rfl
theorem s1_ov (σ : St) (k i : Nat) (v : Int32) : s1 σ k i v = ov1 σ k (upd (σ.1 k) i v) := rfl
theorem ovS_self (t : TH) (c f : Nat) : ovS t c f (tS t c f) = t := by
  refine Prod.ext (funext fun c' => ?_) rfl
  show (if c' = c then (fun f' => if f' = f then tS t c f else tS t c f') else tS t c') = tS t c'
  by_cases h : c' = c
  · rw [if_pos h, h]
    funext f'
    by_cases g : f' = f
    · rw [if_pos g, g]
    · rw [if_neg g]
  · rw [if_neg h]
theorem ov1_self (σ : St) (k : Nat) : ov1 σ k (σ.1 k) = σ := by
  refine Prod.ext (funext fun j => ?_) rfl
  show (if j = k then σ.1 k else σ.1 j) = σ.1 j
  by_cases h : j = k
  · rw [if_pos h, h]
  · rw [if_neg h]
theorem ovS_same (t : TH) (c f : Nat) (b b' : Nat → Int32) : ovS (ovS t c f b) c f b' = ovS t c f b' := by
  refine Prod.ext (funext fun c' => ?_) rfl
  show (if c' = c then (fun f' => if f' = f then b' else tS (ovS t c f b) c f') else tS (ovS t c f b) c') = (if c' = c then (fun f' => if f' = f then b' else tS t c f') else tS t c')
  by_cases h : c' = c
  · rw [if_pos h, if_pos h]
    funext f'
    by_cases g : f' = f
    · rw [if_pos g, if_pos g]
    · rw [if_neg g, if_neg g]
      show (if c = c then (fun f' => if f' = f then b else tS t c f') else tS t c) f' = tS t c f'
      rw [if_pos rfl]
      exact if_neg g
  · rw [if_neg h, if_neg h]
    show (if c' = c then (fun f' => if f' = f then b else tS t c f') else tS t c') = tS t c'
    rw [if_neg h]
theorem ov1_same (σ : St) (k : Nat) (b b' : Nat → Int32) : ov1 (ov1 σ k b) k b' = ov1 σ k b' := by
  refine Prod.ext (funext fun j => ?_) rfl
  show (if j = k then b' else (if j = k then b else σ.1 j)) = (if j = k then b' else σ.1 j)
  by_cases h : j = k
  · rw [if_pos h, if_pos h]
  · rw [if_neg h, if_neg h, if_neg h]
def fourC (t : TH) (z : Nat) (x : Int32) (k : Nat) : TH := uS (uS t 13 0 z (((x.toUInt32 >>> ((nI k).toUInt32 &&& Int32.toUInt32 31)).toInt32) &&& 255)) 9 1 0 (nI (z + 1))
def fourM (σ : St) (z : Nat) (x : Int32) (k : Nat) : St := s1 (s1 σ 1 z ((x >>> (nI k &&& 31)).toInt8.toInt32)) 2 0 (nI (z + 1))
def numC (t : TH) (z : Nat) (x : Int32) : TH := fourC (fourC (fourC (fourC t z x 24) (z + 1) x 16) (z + 2) x 8) (z + 3) x 0
def numM (σ : St) (z : Nat) (x : Int32) : St := fourM (fourM (fourM (fourM σ z x 24) (z + 1) x 16) (z + 2) x 8) (z + 3) x 0
theorem pb_M {σ : St} {z : Nat} (hz : z < 200) (hs : σ.1 2 0 = nI z) (f : Nat) (k : Nat) (x : Int32) : M_four_L3 (f + 1) σ (nI k) x = (if nI k < 0 then some (σ, nI k) else M_four_L3 f (fourM σ z x k) (nI k + (-8)) x) := by
  show (if nI k < 0 then some (σ, nI k) else chkI (σ.1 2 0) 200 (nm (s1 σ 1 (σ.1 2 0).toNatClampNeg (vp_nar .byte ((x >>> (nI k &&& 31)).toInt8.toInt32))) (fun σ6 => nm (s1 σ6 2 0 ((σ6.1 2 0) + 1)) (fun σ7 => nm (nI k + (-8)) (fun v8 => M_four_L3 f σ7 v8 x))))) = _
  rw [hs, chkI_nI hz (by omega), nI_nat (by omega), pk_vb, nm_eq, nm_eq, nm_eq]
  have e : (s1 σ 1 z ((x >>> (nI k &&& 31)).toInt8.toInt32)).1 2 0 = nI z := hs
  rw [e, nI_1]
  rfl
theorem addB {K : List (Nat × Nat)} {t : TH} {z : Nat} (hz : z < 200) (hs : tS t 9 1 0 = nI z) (hl : tN t 13 0 = 200) (v : Int32) : C_Tape_addByte K t v = some (uS (uS t 13 0 z v) 9 1 0 (nI (z + 1))) := by
  unfold C_Tape_addByte
  rw [hs, hl, if_neg (nI_pos (show z < 2 ^ 31 by omega)), if_neg (fun q => by have := (nI_leI (show 200 < 2 ^ 31 by omega) (show z < 2 ^ 31 by omega)).mp q; omega), chkI_nI hz (by omega), nI_nat (by omega), nm_eq, nm_eq]
  rw [show tS (uS t 13 0 z v) 9 1 0 = nI z from hs, nI_1]
theorem pb_C {K : List (Nat × Nat)} {t : TH} {z : Nat} (hz : z < 200) (hs : tS t 9 1 0 = nI z) (hl : tN t 13 0 = 200) (f : Nat) (k : Nat) (x : Int32) : C_Tape_addNumber_L3 (f + 1) K t (nI k) x = (if nI k < 0 then some (t, nI k) else C_Tape_addNumber_L3 f K (fourC t z x k) (nI k + (-8)) x) := by
  show (if nI k < 0 then some (t, nI k) else bnd (C_Tape_addByte K t (((x.toUInt32 >>> ((nI k).toUInt32 &&& Int32.toUInt32 31)).toInt32) &&& 255)) (fun t5 => nm (nI k + (-8)) (fun v6 => C_Tape_addNumber_L3 f K t5 v6 x))) = _
  rw [addB hz hs hl]
  rfl
theorem put_tape {t : TH} {σ : St} {z : Nat} {x : Int32} {k : Nat} (hk : k = 0 ∨ k = 8 ∨ k = 16 ∨ k = 24) (h : ∀ j, j < 200 → tS t 13 0 j = σ.1 1 j &&& 255 ∧ -128 ≤ (σ.1 1 j).toInt ∧ (σ.1 1 j).toInt < 128) : ∀ j, j < 200 → tS (uS (uS t 13 0 z (((x.toUInt32 >>> ((nI k).toUInt32 &&& Int32.toUInt32 31)).toInt32) &&& 255)) 9 1 0 (nI (z + 1))) 13 0 j = (s1 (s1 σ 1 z ((x >>> (nI k &&& 31)).toInt8.toInt32)) 2 0 (nI (z + 1))).1 1 j &&& 255 ∧ -128 ≤ ((s1 (s1 σ 1 z ((x >>> (nI k &&& 31)).toInt8.toInt32)) 2 0 (nI (z + 1))).1 1 j).toInt ∧ ((s1 (s1 σ 1 z ((x >>> (nI k &&& 31)).toInt8.toInt32)) 2 0 (nI (z + 1))).1 1 j).toInt < 128 := by
  intro j hj
  by_cases e : j = z
  · subst e
    have q1 : tS (uS (uS t 13 0 j (((x.toUInt32 >>> ((nI k).toUInt32 &&& Int32.toUInt32 31)).toInt32) &&& 255)) 9 1 0 (nI (j + 1))) 13 0 j = (((x.toUInt32 >>> ((nI k).toUInt32 &&& Int32.toUInt32 31)).toInt32) &&& 255) := va_up_self _ _ _
    have q2 : (s1 (s1 σ 1 j ((x >>> (nI k &&& 31)).toInt8.toInt32)) 2 0 (nI (j + 1))).1 1 j = (x >>> (nI k &&& 31)).toInt8.toInt32 := if_pos rfl
    rw [q1, q2]
    exact ⟨bt_sh x hk, bt_rng _⟩
  · have := h j hj
    simp only [tS_uS, s1_1]
    simpa [e] using this
/-- four bytes of a number behind the tape -/
theorem p_four {K : List (Nat × Nat)} {t : TH} {σ : St} {z : Nat} (hz : z + 4 ≤ 200) (hs : tS t 9 1 0 = nI z) (hm : σ.1 2 0 = nI z) (hl : tN t 13 0 = 200) (h : ∀ j, j < 200 → tS t 13 0 j = σ.1 1 j &&& 255 ∧ -128 ≤ (σ.1 1 j).toInt ∧ (σ.1 1 j).toInt < 128) (x : Int32) :
    C_Tape_addNumber K t x = some (numC t z x) ∧ M_four σ x = some (numM σ z x) ∧ ∀ j, j < 200 → tS (numC t z x) 13 0 j = (numM σ z x).1 1 j &&& 255 ∧ -128 ≤ ((numM σ z x).1 1 j).toInt ∧ ((numM σ z x).1 1 j).toInt < 128 := by
  have e1 : ∀ (tt : TH), C_Tape_addNumber_L3 (99995 + 1) K tt (nI 0 + (-8)) x = some (tt, nI 0 + (-8)) := fun tt => if_pos (by decide)
  have e2 : ∀ (ss : St), M_four_L3 (99995 + 1) ss (nI 0 + (-8)) x = some (ss, nI 0 + (-8)) := fun ss => if_pos (by decide)
  refine ⟨?_, ?_, put_tape (Or.inl rfl) (put_tape (Or.inr (Or.inl rfl)) (put_tape (Or.inr (Or.inr (Or.inl rfl))) (put_tape (Or.inr (Or.inr (Or.inr rfl))) h)))⟩
  · unfold C_Tape_addNumber
    rw [show (100000 : Nat) = 99995 + 1 + 1 + 1 + 1 + 1 from rfl, show (24 : Int32) = nI 24 from rfl]
    rw [pb_C (by omega) hs hl, if_neg (nI_pos (by omega)), show nI 24 + (-8) = nI 16 from rfl, pb_C (t := fourC t z x 24) (z := z + 1) (by omega) rfl hl, if_neg (nI_pos (by omega)), show nI 16 + (-8) = nI 8 from rfl, pb_C (t := fourC (fourC t z x 24) (z + 1) x 16) (z := z + 2) (by omega) rfl hl, if_neg (nI_pos (by omega)), show nI 8 + (-8) = nI 0 from rfl, pb_C (t := fourC (fourC (fourC t z x 24) (z + 1) x 16) (z + 2) x 8) (z := z + 3) (by omega) rfl hl, if_neg (nI_pos (by omega)), e1]
    rfl
  · unfold M_four
    rw [show (100000 : Nat) = 99995 + 1 + 1 + 1 + 1 + 1 from rfl, show (24 : Int32) = nI 24 from rfl]
    rw [pb_M (by omega) hm, if_neg (nI_pos (by omega)), show nI 24 + (-8) = nI 16 from rfl, pb_M (σ := fourM σ z x 24) (z := z + 1) (by omega) rfl, if_neg (nI_pos (by omega)), show nI 16 + (-8) = nI 8 from rfl, pb_M (σ := fourM (fourM σ z x 24) (z + 1) x 16) (z := z + 2) (by omega) rfl, if_neg (nI_pos (by omega)), show nI 8 + (-8) = nI 0 from rfl, pb_M (σ := fourM (fourM (fourM σ z x 24) (z + 1) x 16) (z + 2) x 8) (z := z + 3) (by omega) rfl, if_neg (nI_pos (by omega)), e2]
    rfl
theorem p_feed {K : List (Nat × Nat)} {t : TH} {σ : St} (h : Rel K t σ) (x1 x2 x3 x4 x5 : Int32) : ∃ Y, some Y = L_feed K t σ x1 x2 x3 x4 x5 ∧ Rel Y.1 Y.2.1 Y.2.2 := by
  obtain ⟨n, nc, nw, m, d, cb, cq, cd, wc, wd, wf, wt, h1, h2, h3, h4, h5, h6, h7, h8, h9, h10, h11⟩ := h
  obtain ⟨z, g1, g2, g3, g4⟩ := h2
  unfold L_feed C_Run_feed M_feed
  have g3' : (s1 σ 0 0 0).1 2 0 = nI z := g3
  simp only [bnd_some, bnd2_some, nm_eq, nm2_eq, opt_none, opt_some, i10, i01, eq_self, if_true, if_false]
  rw [g2, g3', show (20 : Int32) = nI 20 from rfl, nI_add, show (200 : Int32) = nI 200 from rfl]
  by_cases c : nI (z + 20) ≤ nI 200
  · have c' := (nI_leI (by omega) (by omega)).mp c
    obtain ⟨a1, b1, d1⟩ := p_four (K := K) (z := z) (σ := s1 σ 0 0 0) (by omega) g2 g3' h1.1 g4 x1
    obtain ⟨a2, b2, d2⟩ := p_four (K := K) (z := z + 4) (t := numC t z x1) (σ := numM (s1 σ 0 0 0) z x1) (by omega) rfl rfl h1.1 d1 x2
    obtain ⟨a3, b3, d3⟩ := p_four (K := K) (z := z + 8) (t := numC (numC t z x1) (z + 4) x2) (σ := numM (numM (s1 σ 0 0 0) z x1) (z + 4) x2) (by omega) rfl rfl h1.1 d2 x3
    obtain ⟨a4, b4, d4⟩ := p_four (K := K) (z := z + 12) (t := numC (numC (numC t z x1) (z + 4) x2) (z + 8) x3) (σ := numM (numM (numM (s1 σ 0 0 0) z x1) (z + 4) x2) (z + 8) x3) (by omega) rfl rfl h1.1 d3 x4
    obtain ⟨a5, b5, d5⟩ := p_four (K := K) (z := z + 16) (t := numC (numC (numC (numC t z x1) (z + 4) x2) (z + 8) x3) (z + 12) x4) (σ := numM (numM (numM (numM (s1 σ 0 0 0) z x1) (z + 4) x2) (z + 8) x3) (z + 12) x4) (by omega) rfl rfl h1.1 d4 x5
    simp only [c, a1, a2, a3, a4, a5, b1, b2, b3, b4, b5, bnd_some, bnd2_some, nm_eq, nm2_eq, opt_none, opt_some, i10, i01, eq_self, if_true, if_false]
    refine ⟨_, (if_pos ?_).symm, ⟨n, nc, nw, m, d, cb, cq, cd, wc, wd, wf, wt, h1, ⟨z + 20, c', rfl, rfl, d5⟩, h3, h4, h5, h6, h7, h8, h9, h10, h11⟩⟩
    rfl
  · simp only [c, bnd_some, bnd2_some, nm_eq, nm2_eq, opt_none, opt_some, i10, i01, eq_self, if_true, if_false]
    exact ⟨(K, t, s1 σ 0 0 0), rfl, ⟨n, nc, nw, m, d, cb, cq, cd, wc, wd, wf, wt, h1, ⟨z, g1, g2, g3, g4⟩, h3, h4, h5, h6, h7, h8, h9, h10, h11⟩⟩
