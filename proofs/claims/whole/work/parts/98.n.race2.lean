def Sr : List (Nat × Nat) := [(7, 6), (7, 7), (7, 8), (7, 9), (7, 10), (7, 11), (3, 3)]
def RX (K : List (Nat × Nat)) (t : TH) (σ : St) (n m : Nat) (kn : Nat → Nat) (Q : Nat → Nat → Nat) : Prop := PV K t n kn Q ∧ MV σ n kn Q ∧ (tN t 13 1 = 64 ∧ tN t 13 2 = 64 ∧ tN t 15 0 = 64) ∧ R_land t σ ∧ (m ≤ 9999 ∧ tS t 8 3 0 = nI m ∧ σ.1 21 0 = nI m) ∧ σ.1 22 0 = 1 ∧ ∀ k, k < n → tS t 7 0 k = nI k ∧ ∃ p, 1 ≤ p ∧ p ≤ 9 ∧ tS t 7 2 k = nI p ∧ σ.1 10 k = nI p
def PF (k : Nat) (t t' : TH) : Prop := ET Sr [(15, 0)] [(7, 12)] t t' ∧ (∀ j, j ≠ k → (∀ f, tS t' 7 f j = tS t 7 f j) ∧ tL t' 7 12 j = tL t 7 12 j) ∧ ∀ e x, tP t' 15 0 e = some x → tP t 15 0 e = some x ∨ x = k
def SM (k : Nat) (σ σ' : St) : Prop := (∀ x, x ∉ [7, 8, 9, 12, 13, 14, 15] → σ'.1 x = σ.1 x) ∧ (∀ x j, x ≠ 7 → j ≠ k → σ'.1 x j = σ.1 x j) ∧ (∀ j, j ≠ k → σ'.2 18 j = σ.2 18 j) ∧ ∀ x, x ≠ 18 → σ'.2 x = σ.2 x
theorem PF_rf (k : Nat) (t : TH) : PF k t t := ⟨ET_rf _ _ _ _, fun _ _ => ⟨fun _ => rfl, rfl⟩, fun _ _ h => Or.inl h⟩
theorem PF_tr {k : Nat} {t t' t'' : TH} (h : PF k t t') (h' : PF k t' t'') : PF k t t'' := ⟨ET_tr h.1 h'.1, fun j hj => ⟨fun f => ((h'.2.1 j hj).1 f).trans ((h.2.1 j hj).1 f), (h'.2.1 j hj).2.trans (h.2.1 j hj).2⟩, fun e x q => by
  rcases h'.2.2 e x q with z | z
  · exact h.2.2 e x z
  · exact Or.inr z⟩
theorem PF_uS {k f : Nat} {t t' : TH} (h : PF k t t') (hf : (7, f) ∈ Sr) (v : Int32) : PF k t (uS t' 7 f k v) := ⟨ET_uS h.1 hf _ _, fun j hj => ⟨fun f' => by
  rw [tS_uS, if_neg (fun z => hj z.2.2)]
  exact (h.2.1 j hj).1 f', by rw [xLS]; exact (h.2.1 j hj).2⟩, by rw [xPS]; exact h.2.2⟩
theorem PF_uL {k : Nat} {t t' : TH} (h : PF k t t') (v : Int64) : PF k t (uL t' 7 12 k v) := ⟨ET_uL h.1 (by decide) _ _, fun j hj => ⟨fun f' => by rw [xSL]; exact (h.2.1 j hj).1 f', by rw [tL_i _ _ _ _ _ hj]; exact (h.2.1 j hj).2⟩, by rw [xPL]; exact h.2.2⟩
theorem PF_uP {k q : Nat} {t t' : TH} (h : PF k t t') : PF k t (uP t' 15 0 q (some k)) := ⟨ET_uP h.1 (by decide) _ _, fun j hj => ⟨fun f' => by rw [xSP]; exact (h.2.1 j hj).1 f', by rw [xLP]; exact (h.2.1 j hj).2⟩, fun e x z => by
  by_cases y : e = q
  · rw [y, tP_e] at z
    cases z
    exact Or.inr rfl
  · rw [tP_i _ _ _ _ _ y] at z
    exact h.2.2 e x z⟩
theorem PF_u3 {k : Nat} {t t' : TH} (h : PF k t t') (v : Int32) : PF k t (uS t' 3 3 0 v) := ⟨ET_uS h.1 (by decide) _ _, fun j hj => ⟨fun f' => by rw [tS_c _ _ _ _ _ (by decide)]; exact (h.2.1 j hj).1 f', by rw [xLS]; exact (h.2.1 j hj).2⟩, by rw [xPS]; exact h.2.2⟩
theorem SM_rf (k : Nat) (σ : St) : SM k σ σ := ⟨fun _ _ => rfl, fun _ _ _ _ => rfl, fun _ _ => rfl, fun _ _ => rfl⟩
theorem SM_tr {k : Nat} {σ σ' σ'' : St} (h : SM k σ σ') (h' : SM k σ' σ'') : SM k σ σ'' := ⟨fun x hx => (h'.1 x hx).trans (h.1 x hx), fun x j a b => (h'.2.1 x j a b).trans (h.2.1 x j a b), fun j a => (h'.2.2.1 j a).trans (h.2.2.1 j a), fun x a => (h'.2.2.2 x a).trans (h.2.2.2 x a)⟩
theorem SM_s1 {k x : Nat} {σ σ' : St} (h : SM k σ σ') (hx : x ∈ [8, 9, 12, 13, 14, 15]) (v : Int32) : SM k σ (s1 σ' x k v) := by
  refine ⟨fun y hy => ?_, fun y j a b => ?_, fun j a => by rw [x12]; exact h.2.2.1 j a, fun y a => by rw [x12]; exact h.2.2.2 y a⟩
  · rw [s1_oth _ _ _ _ (fun z => hy (by rw [z]; exact List.mem_cons_of_mem _ hx))]
    exact h.1 y hy
  · rw [s1_1, if_neg (fun z => b z.2)]
    exact h.2.1 y j a b
theorem SM_7 {k q : Nat} {σ σ' : St} (h : SM k σ σ') (v : Int32) : SM k σ (s1 σ' 7 q v) := by
  refine ⟨fun y hy => ?_, fun y j a b => ?_, fun j a => by rw [x12]; exact h.2.2.1 j a, fun y a => by rw [x12]; exact h.2.2.2 y a⟩
  · rw [s1_oth _ _ _ _ (fun z => hy (by rw [z]; decide))]
    exact h.1 y hy
  · rw [s1_oth _ _ _ _ a]
    exact h.2.1 y j a b
theorem SM_s2 {k : Nat} {σ σ' : St} (h : SM k σ σ') (v : Int64) : SM k σ (s2 σ' 18 k v) := by
  refine ⟨fun y hy => by rw [x21]; exact h.1 y hy, fun y j a b => by rw [x21]; exact h.2.1 y j a b, fun j a => ?_, fun y a => ?_⟩
  · rw [s2_i _ _ _ _ a]
    exact h.2.2.1 j a
  · rw [s2_o _ _ _ _ a]
    exact h.2.2.2 y a
theorem RX_P {K : List (Nat × Nat)} {t t' : TH} {σ σ' : St} {n m : Nat} {kn : Nat → Nat} {Q : Nat → Nat → Nat} {k : Nat} (h : RX K t σ n m kn Q) (hT : PF k t t') (hS : SM k σ σ') : RX K t' σ' n m kn Q := by
  obtain ⟨h1, h2, h3, h4, h5, h6, h7⟩ := h
  refine ⟨PV_E h1 hT.1, MV_E (G := []) h2 (fun x hx => by rcases hx with rfl | rfl <;> exact hS.1 _ (by decide)), by rw [hT.1.2.2.2]; exact h3, ?_, ⟨h5.1, by rw [hT.1.1 8 3 (by decide)]; exact h5.2.1, by rw [hS.1 21 (by decide)]; exact h5.2.2⟩, by rw [hS.1 22 (by decide)]; exact h6, fun j hj => by rw [hT.1.1 7 0 (by decide), hT.1.1 7 2 (by decide), hS.1 10 (by decide)]; exact h7 j hj⟩
  unfold R_land at *
  rw [hT.1.1 13 1 (by decide), hT.1.1 13 2 (by decide), hS.1 5 (by decide), hS.1 6 (by decide)]
  exact h4
theorem pos_P {t t' : TH} {σ σ' : St} {k : Nat} (h : R_pos t σ k) (e6 : tS t' 7 6 k = tS t 7 6 k) (e7 : tS t' 7 7 k = tS t 7 7 k) (s8 : σ'.1 8 k = σ.1 8 k) (s9 : σ'.1 9 k = σ.1 9 k) : R_pos t' σ' k := by
  unfold R_pos at *
  rw [e6, e7, s8, s9]
  exact h
/-- one of the people in the run: both sides hold the same -/
def RD (lo hi : Nat) (t : TH) (σ : St) (k : Nat) : Prop := R_pos t σ k ∧ tS t 7 8 k = σ.1 12 k ∧ tS t 7 9 k = σ.1 13 k ∧ tS t 7 10 k = σ.1 14 k ∧ tS t 7 11 k = σ.1 15 k ∧ tL t 7 12 k = σ.2 18 k ∧ (σ.1 12 k = -1 ∨ ∃ g d, g < 64 ∧ σ.1 12 k = nI g ∧ σ.1 8 k ≠ nI g ∧ σ.1 13 k = nI d ∧ lo ≤ d ∧ d ≤ hi)
/-- the same, but for what one goes for -/
def RE (t : TH) (σ : St) (k : Nat) : Prop := R_pos t σ k ∧ tS t 7 9 k = σ.1 13 k ∧ tS t 7 10 k = σ.1 14 k ∧ tS t 7 11 k = σ.1 15 k ∧ tL t 7 12 k = σ.2 18 k
theorem so_eq {K : List (Nat × Nat)} {t : TH} {σ : St} {n m : Nat} {kn : Nat → Nat} {Q : Nat → Nat → Nat} (h : RX K t σ n m kn Q) {k g : Nat} (hk : k < n) (hE : RE t σ k) (hg : g < 64) (e8 : tS t 7 8 k = nI g) (e12 : σ.1 12 k = nI g) (hn : σ.1 8 k ≠ nI g) :
    ∃ t' σ', C_Race_setOff K t k = some t' ∧ M_setOut σ (nI k) = some σ' ∧ PF k t t' ∧ SM k σ σ' ∧ RD (m + 1) (m + 36) t' σ' k ∧ tP t' = tP t ∧ tS t' 3 = tS t 3 ∧ σ'.1 7 = σ.1 7 := by
  obtain ⟨h1, h2, ⟨l1, l2, l3⟩, h4, ⟨h5, h51, h52⟩, h6, h7⟩ := h
  have hn30 := h1.1
  obtain ⟨p0, p, p1, p2, p3, p4⟩ := h7 k hk
  have a1 := (h1.2.2.2 k hk).1.1
  obtain ⟨q, q1, q2, q3⟩ := nx_eq (show k < 30 by omega) a1 hE.1 hg e8 e12 hn
  obtain ⟨_, r, r1, r2, r3⟩ := h4 q q1
  have eC : C_Race_setOff K t k = some (uS t 7 9 k (nI (m + p * (1 + r)))) := by
    unfold C_Race_setOff C_Land_roughOf
    rw [chkP_t a1, q2, bnd_some, if_neg (nI_pos (show q < 2 ^ 31 by omega)), l2, if_neg (nI_ge q1 (by omega)), chkI_nI q1 (by omega), nI_nat (show q < 2 ^ 31 by omega), r2, bnd_some, nm_eq, h51, p3, show (1 : Int32) = nI 1 from rfl, nI_add, pk_mul, nI_add]
  have eM : M_setOut σ (nI k) = some (s1 σ 13 k (nI (m + p * (1 + r)))) := by
    unfold M_setOut
    simp only [chkI_nI (show k < 30 by omega) (show 30 < 2 ^ 31 by omega), nI_nat (show k < 2 ^ 31 by omega)]
    rw [q3, bnd_some, chkI_nI q1 (by omega), nm_eq, nI_nat (show q < 2 ^ 31 by omega), h52, p4, r3, show (1 : Int32) = nI 1 from rfl, nI_add, pk_mul, nI_add]
  have b1 : 1 ≤ p * (1 + r) := Nat.mul_pos p1 (by omega)
  have b2 : p * (1 + r) ≤ 9 * 4 := Nat.mul_le_mul p2 (by omega)
  refine ⟨_, _, eC, eM, PF_uS (PF_rf _ _) (by decide) _, SM_s1 (SM_rf _ _) (by decide) _, ⟨pos_P hE.1 (by rw [tS_f _ _ _ _ _ (show 6 ≠ 9 by decide)]) (by rw [tS_f _ _ _ _ _ (show 7 ≠ 9 by decide)]) (by rw [s1_oth _ _ _ _ (by decide)]) (by rw [s1_oth _ _ _ _ (by decide)]), ?_, ?_, ?_, ?_, ?_, Or.inr ⟨g, m + p * (1 + r), hg, ?_, ?_, s1_e _ _ _ _, by omega, by omega⟩⟩, xPS _ _ _ _ _, tS_c _ _ _ _ _ (by decide), s1_oth _ _ _ _ (by decide)⟩
  · rw [tS_f _ _ _ _ _ (by decide), s1_oth _ _ _ _ (by decide), e8, e12]
  · rw [tS_e, s1_e]
  · rw [tS_f _ _ _ _ _ (by decide), s1_oth _ _ _ _ (by decide)]
    exact hE.2.2.1
  · rw [tS_f _ _ _ _ _ (by decide), s1_oth _ _ _ _ (by decide)]
    exact hE.2.2.2.1
  · rw [xLS, x12]
    exact hE.2.2.2.2
  · rw [s1_oth _ _ _ _ (by decide)]
    exact e12
  · rw [s1_oth _ _ _ _ (by decide)]
    exact hn
theorem pCnt_up {cp : Nat → Option Nat} {q k : Nat} (h : cp q = none) : ∀ n, pCnt (va_up cp q (some k)) n = pCnt cp n + (if q < n then 1 else 0) := by
  intro n
  induction n with
  | zero => rfl
  | succ n ih =>
    show pCnt (va_up cp q (some k)) n + (if (va_up cp q (some k) n).isSome then 1 else 0) = pCnt cp n + (if (cp n).isSome then 1 else 0) + (if q < n + 1 then 1 else 0)
    rw [ih]
    rcases Nat.lt_trichotomy q n with y | y | y
    · rw [va_up_ne _ _ (by omega), if_pos y, if_pos (show q < n + 1 by omega)]
      omega
    · subst y
      rw [va_up_self, h, if_neg (Nat.lt_irrefl q), if_pos (show q < q + 1 by omega), if_pos (show (some k).isSome = true from rfl), if_neg (show ¬ (none : Option Nat).isSome = true by decide)]
    · rw [va_up_ne _ _ (by omega), if_neg (show ¬ q < n by omega), if_neg (show ¬ q < n + 1 by omega)]
      omega
theorem st_eq {K : List (Nat × Nat)} {t : TH} {σ : St} {n m : Nat} {kn : Nat → Nat} {Q : Nat → Nat → Nat} (h : RX K t σ n m kn Q) {k q : Nat} (hk : k < n) (hE : RE t σ k) (hq : q < 64) (e8 : σ.1 8 k = nI q) (hS : R_stk t σ n) (hf : tP t 15 0 q = none) :
    ∃ t' σ', C_Race_putStake K t k (nI q) = some t' ∧ M_stakes σ (nI k) = some σ' ∧ PF k t t' ∧ SM k σ σ' ∧ RD (m + 1) (m + 36) t' σ' k ∧ R_stk t' σ' n := by
  obtain ⟨h1, h2, ⟨l1, l2, l3⟩, h4, ⟨h5, h51, h52⟩, h6, h7⟩ := h
  have hn30 := h1.1
  have a1 := (h1.2.2.2 k hk).1.1
  have e83 : ∀ v w, tS (uS (uS (uP t 15 0 q (some k)) 3 3 0 v) 7 10 k w) 8 3 0 = nI m := fun v w => by
    rw [tS_c _ _ _ _ _ (by decide), tS_c _ _ _ _ _ (by decide), xSP]
    exact h51
  have cl := pCnt_le (tP t 15 0) 64
  have eC : C_Race_putStake K t k (nI q) = some (uS (uS (uS (uS (uP t 15 0 q (some k)) 3 3 0 (nI (pCnt (tP t 15 0) 64 + 1))) 7 10 k (nI q)) 7 11 k (nI m)) 7 8 k (-1)) := by
    unfold C_Race_putStake C_Land_markStaked
    rw [if_neg (nI_pos (show q < 2 ^ 31 by omega)), l3, if_neg (nI_ge hq (by omega)), chkP_t a1, chkI_nI hq (by omega), nm_eq, nm_eq, nI_nat (show q < 2 ^ 31 by omega), xSP, hS.2.2, nI_1, bnd_some, chkP_t a1, nm_eq, nm_eq, nm_eq, e83]
  have e8' : (s1 σ 7 q (nI k)).1 8 k = nI q := by rw [s1_oth _ _ _ _ (by decide)]; exact e8
  have eM : M_stakes σ (nI k) = some (s1 (s1 (s1 (s1 σ 7 q (nI k)) 14 k (nI q)) 15 k (nI m)) 12 k (-1)) := by
    unfold M_stakes
    simp only [chkI_nI (show k < 30 by omega) (show 30 < 2 ^ 31 by omega), nI_nat (show k < 2 ^ 31 by omega), nm_eq]
    rw [e8, chkI_nI hq (by omega), nI_nat (show q < 2 ^ 31 by omega), e8', s1_oth _ _ _ _ (show 21 ≠ 14 by decide), s1_oth _ _ _ _ (show 21 ≠ 7 by decide), h52]
  refine ⟨_, _, eC, eM, PF_uS (PF_uS (PF_uS (PF_u3 (PF_uP (PF_rf _ _)) _) (by decide) _) (by decide) _) (by decide) _, SM_s1 (SM_s1 (SM_s1 (SM_7 (SM_rf _ _) _) (by decide) _) (by decide) _) (by decide) _, ⟨pos_P hE.1 ?_ ?_ ?_ ?_, ?_, ?_, ?_, ?_, ?_, Or.inl (s1_e _ _ _ _)⟩, ?_⟩
  · simp (disch := decide) only [tS_c, tS_f, tS_e, tS_i, xSP, xSL, tP_c, tP_f, tP_e, tP_i, xPS, xPL, tL_c, tL_f, tL_e, tL_i, xLS, xLP, xNS, xNL, xNP]
  · simp (disch := decide) only [tS_c, tS_f, tS_e, tS_i, xSP, xSL, tP_c, tP_f, tP_e, tP_i, xPS, xPL, tL_c, tL_f, tL_e, tL_i, xLS, xLP, xNS, xNL, xNP]
  · simp (disch := decide) only [s1_oth, s1_e, s1_i, x12, x21]
  · simp (disch := decide) only [s1_oth, s1_e, s1_i, x12, x21]
  · rw [tS_e, s1_e]
  · simp (disch := decide) only [tS_c, tS_f, tS_e, tS_i, xSP, xSL, tP_c, tP_f, tP_e, tP_i, xPS, xPL, tL_c, tL_f, tL_e, tL_i, xLS, xLP, xNS, xNL, xNP, s1_oth, s1_e, s1_i, x12, x21]
    exact hE.2.1
  · simp (disch := decide) only [tS_c, tS_f, tS_e, tS_i, xSP, xSL, tP_c, tP_f, tP_e, tP_i, xPS, xPL, tL_c, tL_f, tL_e, tL_i, xLS, xLP, xNS, xNL, xNP, s1_oth, s1_e, s1_i, x12, x21]
  · simp (disch := decide) only [tS_c, tS_f, tS_e, tS_i, xSP, xSL, tP_c, tP_f, tP_e, tP_i, xPS, xPL, tL_c, tL_f, tL_e, tL_i, xLS, xLP, xNS, xNL, xNP, s1_oth, s1_e, s1_i, x12, x21]
  · simp (disch := decide) only [tS_c, tS_f, tS_e, tS_i, xSP, xSL, tP_c, tP_f, tP_e, tP_i, xPS, xPL, tL_c, tL_f, tL_e, tL_i, xLS, xLP, xNS, xNL, xNP, s1_oth, s1_e, s1_i, x12, x21]
    exact hE.2.2.2.2
  · have eP : tP (uS (uS (uS (uS (uP t 15 0 q (some k)) 3 3 0 (nI (pCnt (tP t 15 0) 64 + 1))) 7 10 k (nI q)) 7 11 k (nI m)) 7 8 k (-1)) 15 0 = va_up (tP t 15 0) q (some k) := by
      rw [xPS, xPS, xPS, xPS]
      funext j
      by_cases y : j = q
      · rw [y, tP_e, va_up_self]
      · rw [tP_i _ _ _ _ _ y, va_up_ne _ _ y]
    have e3 : tS (uS (uS (uS (uS (uP t 15 0 q (some k)) 3 3 0 (nI (pCnt (tP t 15 0) 64 + 1))) 7 10 k (nI q)) 7 11 k (nI m)) 7 8 k (-1)) 3 3 0 = nI (pCnt (tP t 15 0) 64 + 1) := by
      simp (disch := decide) only [tS_c, tS_f, tS_e, tS_i, xSP, xSL, tP_c, tP_f, tP_e, tP_i, xPS, xPL, tL_c, tL_f, tL_e, tL_i, xLS, xLP, xNS, xNL, xNP]
    have e22 : (s1 (s1 (s1 (s1 σ 7 q (nI k)) 14 k (nI q)) 15 k (nI m)) 12 k (-1)).1 22 0 = 1 := by
      simp (disch := decide) only [s1_oth, s1_e, s1_i, x12, x21]
      exact h6
    have e7 : (s1 (s1 (s1 (s1 σ 7 q (nI k)) 14 k (nI q)) 15 k (nI m)) 12 k (-1)).1 7 = (s1 σ 7 q (nI k)).1 7 := by
      rw [s1_oth _ _ _ _ (by decide), s1_oth _ _ _ _ (by decide), s1_oth _ _ _ _ (by decide)]
    unfold R_stk
    rw [eP, e3, e22, e7]
    refine ⟨fun z => absurd z (by decide), fun _ j hj => ?_, ?_⟩
    · by_cases y : j = q
      · rw [y, s1_e, va_up_self]
        exact Or.inr ⟨k, hk, rfl, rfl⟩
      · rw [s1_i _ _ _ _ y, va_up_ne _ _ y]
        exact hS.2.1 h6 j hj
    · rw [pCnt_up hf, if_pos hq]
theorem sk_eq {K : List (Nat × Nat)} {t : TH} {σ : St} {n m : Nat} {kn : Nat → Nat} {Q : Nat → Nat → Nat} (h : RX K t σ n m kn Q) (hS : R_stk t σ n) {q : Nat} (hq : q < 64) : C_Land_stakerOf K t (nI q) = some (σ.1 7 q) ∧ ((σ.1 7 q = -1 ∧ tP t 15 0 q = none) ∨ ∃ j, j < 30 ∧ σ.1 7 q = nI j) := by
  obtain ⟨h1, h2, ⟨l1, l2, l3⟩, h4, h5, h6, h7⟩ := h
  have hn30 := h1.1
  unfold C_Land_stakerOf
  rw [if_neg (nI_pos (show q < 2 ^ 31 by omega)), l3, if_neg (nI_ge hq (by omega)), chkI_nI hq (by omega), nm_eq, nI_nat (show q < 2 ^ 31 by omega)]
  rcases hS.2.1 h6 q hq with ⟨a, b⟩ | ⟨j, a, b, c⟩
  · rw [b, opt_none, a]
    exact ⟨rfl, Or.inl ⟨rfl, rfl⟩⟩
  · rw [c, opt_some, chkP_t (h1.2.2.2 j a).1.1, (h7 j a).1, b]
    exact ⟨rfl, Or.inr ⟨j, by omega, rfl⟩⟩
def unC (s : Int64) (Q : Nat → Nat) : Nat → Nat
  | 0 => 0
  | i + 1 => unC s Q i + (if s.toBitVec.getLsbD (Q i) then 0 else 1)
theorem unC_s (s : Int64) (Q : Nat → Nat) (i : Nat) : unC s Q (i + 1) = unC s Q i + (if s.toBitVec.getLsbD (Q i) then 0 else 1) := rfl
theorem unC_le (s : Int64) (Q : Nat → Nat) : ∀ n, unC s Q n ≤ n := by
  intro n
  induction n with
  | zero => exact Nat.le_refl 0
  | succ n ih =>
    rw [unC_s]
    split <;> omega
theorem unC_lt {s : Int64} {Q : Nat → Nat} {q : Nat} (hq : q < 64) : ∀ n, unC (s ||| ((1 : Int64) <<< ((nI q).toInt64 &&& 63))) Q n ≤ unC s Q n ∧ ∀ i, i < n → Q i = q → s.toBitVec.getLsbD q = false → unC (s ||| ((1 : Int64) <<< ((nI q).toInt64 &&& 63))) Q n < unC s Q n := by
  intro n
  induction n with
  | zero => exact ⟨Nat.le_refl _, fun i hi => absurd hi (by omega)⟩
  | succ n ih =>
    rw [unC_s, unC_s, bSet s hq]
    constructor
    · have := ih.1
      by_cases a : s.toBitVec.getLsbD (Q n) = true
      · simp only [a, Bool.true_or, if_true]
        omega
      · by_cases b : Q n = q
        · simp only [a, b, decide_true, Bool.or_true, if_true, if_false]
          omega
        · simp only [a, b, decide_false, Bool.or_false, if_false]
          omega
    · intro i hi e0 hs
      rcases Nat.lt_or_ge i n with y | y
      · have := ih.2 i y e0 hs
        by_cases a : s.toBitVec.getLsbD (Q n) = true
        · simp only [a, Bool.true_or, if_true]
          omega
        · by_cases b : Q n = q
          · simp only [a, b, decide_true, Bool.or_true, if_true, if_false]
            omega
          · simp only [a, b, decide_false, Bool.or_false, if_false]
            omega
      · have e1 : i = n := by omega
        subst e1
        have := ih.1
        rw [e0, hs]
        simp
        omega
