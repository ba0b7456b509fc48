/-- the people, and what they know of -/
def PV (K : List (Nat × Nat)) (t : TH) (n : Nat) (kn : Nat → Nat) (Q : Nat → Nat → Nat) : Prop := n ≤ 30 ∧ tS t 6 1 0 = nI n ∧ tN t 15 1 = 30 ∧ ∀ k, k < n → ((7, k) ∈ K ∧ tP t 15 1 k = some k) ∧ (kn k ≤ 12 ∧ tN t 17 k = kn k) ∧ ∀ i, i < kn k → Q k i < 64 ∧ tS t 17 k i = nI (Q k i)
def MV (σ : St) (n : Nat) (kn : Nat → Nat) (Q : Nat → Nat → Nat) : Prop := ∀ k, k < n → σ.1 17 k = nI (kn k) ∧ ∀ i, i < kn k → σ.1 16 (12 * k + i) = nI (Q k i)
theorem PV_E {S P L : List (Nat × Nat)} {K : List (Nat × Nat)} {t t' : TH} {n : Nat} {kn : Nat → Nat} {Q : Nat → Nat → Nat} (h : PV K t n kn Q) (hT : ET S P L t t') (e1 : (6, 1) ∉ S := by decide) (e2 : (15, 1) ∉ P := by decide) (e3 : 17 ∉ S.map Prod.fst := by decide) : PV K t' n kn Q := by
  unfold PV at *
  have q17 : tS t' 17 = tS t 17 := funext (fun f => hT.1 17 f (nin e3 f))
  rw [hT.1 6 1 e1, hT.2.2.2, hT.2.1 15 1 e2, q17]
  exact h
theorem MV_E {G : List Nat} {σ σ' : St} {n : Nat} {kn : Nat → Nat} {Q : Nat → Nat → Nat} (h : MV σ n kn Q) (hF : ∀ k, k = 16 ∨ k = 17 → σ'.1 k = σ.1 k) : MV σ' n kn Q := by
  unfold MV at *
  rw [hF 16 (Or.inl rfl), hF 17 (Or.inr rfl)]
  exact h
theorem PV_at {K : List (Nat × Nat)} {t : TH} {n : Nat} {kn : Nat → Nat} {Q : Nat → Nat → Nat} (h : PV K t n kn Q) {p : Nat} (hp : p < n) : C_People_at K t (nI p) = some (some p) := by
  obtain ⟨h1, h2, h3, h6⟩ := h
  unfold C_People_at
  rw [if_neg (nI_pos (show p < 2 ^ 31 by omega)), h2, if_neg (nI_ge hp (by omega)), h3, if_neg (nI_ge (show p < 30 by omega) (by omega)), chkI_nI (show p < 30 by omega) (by omega), nI_nat (by omega), nm_eq, (h6 p hp).1.2]
theorem rel_PV {K : List (Nat × Nat)} {t : TH} {σ : St} {n m : Nat} (h1 : R_len t) (h6 : R_ppl K t σ n m) : ∃ kn Q, PV K t n kn Q ∧ MV σ n kn Q := by
  refine ⟨fun k => tN t 17 k, fun k i => (tS t 17 k i).toNatClampNeg, ⟨h6.1, h6.2.1, h1.2.2.2.2.2.2.1, fun k hk => ?_⟩, fun k hk => ?_⟩
  · obtain ⟨⟨a1, a2, a3⟩, _, _, _, _, _, ⟨kn, b1, b2, b3, b4, b5, b6⟩, _, _⟩ := h6.2.2.2.1 k hk
    simp only [b2]
    refine ⟨⟨a1, a2⟩, ⟨b1, trivial⟩, fun i hi => ?_⟩
    obtain ⟨q, b, c1, c2, c3, c4, c5, c6⟩ := b5 i hi
    rw [c2, nI_nat (show q < 2 ^ 31 by omega)]
    exact ⟨c1, rfl⟩
  · obtain ⟨⟨a1, a2, a3⟩, _, _, _, _, _, ⟨kn, b1, b2, b3, b4, b5, b6⟩, _, _⟩ := h6.2.2.2.1 k hk
    simp only [b2]
    refine ⟨b4, fun i hi => ?_⟩
    obtain ⟨q, b, c1, c2, c3, c4, c5, c6⟩ := b5 i hi
    rw [c2, nI_nat (show q < 2 ^ 31 by omega)]
    exact c3
theorem wo_eq {K : List (Nat × Nat)} {t : TH} {σ : St} (h1 : tN t 13 1 = 64) (h3 : R_land t σ) {q : Nat} (hq : q < 64) : C_Land_worthOf K t (nI q) = some (σ.1 5 q) := by
  obtain ⟨⟨w, w1, w2, w3⟩, _⟩ := h3 q hq
  unfold C_Land_worthOf
  rw [if_neg (nI_pos (show q < 2 ^ 31 by omega)), h1, if_neg (nI_ge hq (by omega)), chkI_nI hq (by omega), nI_nat (by omega), w2, w3]
def isQ (r : Int32) : Prop := r = -1 ∨ ∃ b, b < 64 ∧ r = nI b
theorem bf_L {K : List (Nat × Nat)} {t : TH} {σ : St} {n : Nat} {kn : Nat → Nat} {Q : Nat → Nat → Nat} (hP : PV K t n kn Q) (hM : MV σ n kn Q) (h1 : tN t 13 1 = 64) (h3 : R_land t σ) {k : Nat} (hk : k < n) (mask : Int64) (y5 y4 y1 : Int32) :
    ∀ (f i : Nat) (best : Int32), i ≤ kn k → kn k < f + i → isQ best → ∃ r a b, isQ r ∧ C_Person_bestFree_L6 f K t (nI i) best k mask = some (a, r) ∧ M_lots_L125 f σ (nI i) best (nI k) y5 y4 mask y1 = some (b, r) := by
  obtain ⟨⟨a1, a2⟩, ⟨a3, a4⟩, a5⟩ := hP.2.2.2 k hk
  obtain ⟨m1, m2⟩ := hM k hk
  have hn := hP.1
  intro f
  induction f with
  | zero =>
    intro i best _ h
    exact absurd h (by omega)
  | succ f ih =>
    intro i best hi hf hq
    unfold C_Person_bestFree_L6 M_lots_L125
    rw [chkP_t a1, a4, chkI_nI (show k < 30 by omega) (by omega), nI_nat (show k < 2 ^ 31 by omega), m1]
    rcases Nat.lt_or_ge i (kn k) with w | w
    · obtain ⟨q1, q2⟩ := a5 i w
      rw [if_neg (nI_ge w (by omega)), if_neg (nI_ge w (by omega)), chkI_nI w (by omega), nI_nat (show i < 2 ^ 31 by omega), show (12 : Int32) = nI 12 from rfl, pk_mul, nI_add, chkI_nI (show 12 * k + i < 360 by omega) (by omega), nI_nat (show 12 * k + i < 2 ^ 31 by omega), m2 i w, q2]
      simp only [nm_eq, nI_1, i10, if_true, if_false, cmpC0 mask q1, cmpM0 mask q1]
      have go := fun b hb => ih (i + 1) b (by omega) (by omega) hb
      by_cases b0 : mask.toBitVec.getLsbD (Q k i) = false
      · rw [if_pos b0, if_pos b0]
        rcases hq with rfl | ⟨b, b1, rfl⟩
        · rw [if_pos rfl, if_pos (show (-1 : Int32) < 0 by decide)]
          exact go _ (Or.inr ⟨_, q1, rfl⟩)
        · rw [if_neg (show ¬ nI b = -1 from fun z => by have := congrArg Int32.toInt z; rw [nI_toInt (by omega)] at this; exact absurd this (by show ¬ (b : Int) = -1; omega)), if_neg (nI_pos (show b < 2 ^ 31 by omega)), wo_eq h1 h3 q1, wo_eq h1 h3 b1]
          simp only [bnd_some, chkI_nI q1 (show 64 < 2 ^ 31 by omega), chkI_nI b1 (show 64 < 2 ^ 31 by omega), nI_nat (show Q k i < 2 ^ 31 by omega), nI_nat (show b < 2 ^ 31 by omega)]
          by_cases c1 : σ.1 5 b < σ.1 5 (Q k i)
          · rw [if_pos c1, if_pos c1]
            exact go _ (Or.inr ⟨_, q1, rfl⟩)
          · rw [if_neg c1, if_neg c1]
            by_cases c2 : σ.1 5 (Q k i) = σ.1 5 b
            · rw [if_pos c2, if_pos c2]
              by_cases c3 : nI b ≤ nI (Q k i)
              · rw [if_pos c3, if_pos c3]
                exact go _ (Or.inr ⟨_, b1, rfl⟩)
              · rw [if_neg c3, if_neg c3]
                exact go _ (Or.inr ⟨_, q1, rfl⟩)
            · rw [if_neg c2, if_neg c2]
              exact go _ (Or.inr ⟨_, b1, rfl⟩)
      · rw [if_neg b0, if_neg b0]
        exact go _ hq
    · rw [if_pos (nI_le w (by omega)), if_pos (nI_le w (by omega))]
      exact ⟨best, _, _, hq, rfl, rfl⟩
theorem sh31 {j : Nat} (hj : j < 31) : ((nI j &&& 31).toBitVec.smod 32) = BitVec.ofNat 32 j := (by decide +kernel : ∀ j : Fin 31, ((nI j.val &&& 31).toBitVec.smod 32) = BitVec.ofNat 32 j.val) ⟨j, hj⟩
theorem bI (w : Int32) {j : Nat} (hj : j < 31) : ((w >>> (nI j &&& 31)) &&& 1 = 1) = (w.toBitVec.getLsbD j = true) := by
  have e : ((w >>> (nI j &&& 31)) &&& 1) = (if w.toBitVec.getLsbD j then 1 else 0) := by
    apply Int32.toBitVec_inj.mp
    rw [Int32.toBitVec_and, Int32.toBitVec_shiftRight, sh31 hj]
    apply BitVec.eq_of_getLsbD_eq
    intro i hi
    have e1 : (1 : Int32).toBitVec = 1#32 := rfl
    have e2 : (BitVec.ofNat 32 j).toNat = j := by simp; omega
    rw [BitVec.getLsbD_and, show w.toBitVec.sshiftRight' (BitVec.ofNat 32 j) = w.toBitVec.sshiftRight (BitVec.ofNat 32 j).toNat from rfl, e2, BitVec.getLsbD_sshiftRight, e1]
    have e3 : w.toBitVec[j] = w.toBitVec.getLsbD j := (BitVec.getLsbD_eq_getElem (by omega)).symm
    rcases Bool.eq_false_or_eq_true (w.toBitVec.getLsbD j) with hb | hb
    · rw [hb] at e3 ⊢
      by_cases h0 : i = 0
      · subst h0; simp [e3, show j < 32 by omega]
      · simp [h0]
    · rw [hb] at e3 ⊢
      by_cases h0 : i = 0
      · subst h0; simp [e3, show j < 32 by omega]
      · simp [h0]
  rw [e]
  by_cases hb : w.toBitVec.getLsbD j <;> simp [hb]
theorem oneI {j : Nat} (hj : j < 31) : ((1 : Int32) <<< (nI j &&& 31)).toBitVec = BitVec.twoPow 32 j := (by decide +kernel : ∀ j : Fin 31, ((1 : Int32) <<< (nI j.val &&& 31)).toBitVec = BitVec.twoPow 32 j.val) ⟨j, hj⟩
theorem bSetI (w : Int32) {j i : Nat} (hj : j < 31) : (w ||| ((1 : Int32) <<< (nI j &&& 31))).toBitVec.getLsbD i = (w.toBitVec.getLsbD i || decide (i = j)) := by
  rw [Int32.toBitVec_or, BitVec.getLsbD_or, oneI hj, BitVec.getLsbD_twoPow]
  by_cases h : i = j
  · subst h; simp [show i < 32 by omega]
  · have : ¬ j = i := fun z => h z.symm
    simp [h, this]
theorem lots_13 {t : TH} {σ : St} {n z : Nat} (hn : n ≤ 30) (hz : z ≤ 200) (h3 : σ.1 3 0 = nI z) (h20 : σ.1 20 0 = nI n) (hu : ∀ j, j < 200 → tS t 13 0 j = σ.1 1 j &&& 255 ∧ -128 ≤ (σ.1 1 j).toInt ∧ (σ.1 1 j).toInt < 128) :
    ∀ (f i : Nat) (mask : Int32), i ≤ z → z < f + i → gd (tS t 13 0) n i → (∀ q, q < 30 → (mask.toBitVec.getLsbD q = true ↔ ∃ j, j < i ∧ tS t 13 0 j = nI q)) →
      (gd (tS t 13 0) n z ∧ ∃ a b, M_lots_L13 f σ (nI i) mask = some (1, a, b, 0)) ∨ (¬ gd (tS t 13 0) n z ∧ ∃ a b, M_lots_L13 f σ (nI i) mask = some (0, a, b, -1)) := by
  intro f
  induction f with
  | zero =>
    intro i mask _ h
    exact absurd h (by omega)
  | succ f ih =>
    intro i mask hi hf hg hm
    unfold M_lots_L13
    rw [h3]
    rcases Nat.lt_or_ge i z with k | k
    · rw [if_neg (nI_ge k (by omega)), nI_nat (show i < 2 ^ 31 by omega)]
      simp only [chkI_nI (show i < 200 by omega) (show 200 < 2 ^ 31 by omega)]
      obtain ⟨u1, u2, u3⟩ := hu i (by omega)
      have nog : (∀ q, q < n → tS t 13 0 i ≠ nI q) → ¬ gd (tS t 13 0) n z := fun hq g => by
        obtain ⟨q, q1, q2⟩ := gd_lt g k
        exact hq q q1 q2
      rcases tb_cases u1 u2 u3 with ⟨w, w1, w2, w3⟩ | ⟨w0, w, w1, w2, w3⟩
      · rw [w2]
        rcases Nat.lt_or_ge w n with y | y
        · have eq : M_isPerson σ (nI w) = some 1 := by
            unfold M_isPerson
            rw [if_neg (nI_pos (show w < 2 ^ 31 by omega)), h20, if_neg (nI_ge y (by omega))]
          rw [eq, bnd_some, if_neg (show ¬ (1 : Int32) = 0 by decide)]
          by_cases hb : mask.toBitVec.getLsbD w = true
          · right
            rw [if_pos (by rw [bI mask (show w < 31 by omega)]; exact hb)]
            refine ⟨fun g => ?_, _, _, rfl⟩
            obtain ⟨j, hj, ej⟩ := (hm w (by omega)).mp hb
            have := gd_ne g (show j < z by omega) k (ej.trans w3.symm)
            omega
          · rw [if_neg (by rw [bI mask (show w < 31 by omega)]; exact hb), nm_eq, nm_eq, nI_1]
            refine ih (i + 1) _ (by omega) (by omega) ⟨hg, ⟨w, y, w3⟩, fun j hj e => hb ((hm w (by omega)).mpr ⟨j, hj, e.trans w3⟩)⟩ (fun q hq => ?_)
            rw [bSetI mask (show w < 31 by omega), Bool.or_eq_true, decide_eq_true_eq, hm q hq]
            constructor
            · rintro (⟨j, hj, ej⟩ | rfl)
              · exact ⟨j, by omega, ej⟩
              · exact ⟨i, by omega, w3⟩
            · rintro ⟨j, hj, ej⟩
              rcases Nat.lt_or_ge j i with g | g
              · exact Or.inl ⟨j, g, ej⟩
              · right
                have : j = i := by omega
                subst this
                exact (nI_eq (by omega) (by omega)).mp (ej.symm.trans w3)
        · right
          have eq : M_isPerson σ (nI w) = some 0 := by
            unfold M_isPerson
            rw [if_neg (nI_pos (show w < 2 ^ 31 by omega)), h20, if_pos (nI_le y (by omega))]
          rw [eq, bnd_some, if_pos rfl]
          refine ⟨nog (fun q hq e => ?_), _, _, rfl⟩
          have := (nI_eq (by omega) (by omega)).mp (w3.symm.trans e)
          omega
      · right
        have eq : M_isPerson σ (σ.1 1 i) = some 0 := by
          unfold M_isPerson
          rw [if_pos w0]
        rw [eq, bnd_some, if_pos rfl]
        refine ⟨nog (fun q hq e => ?_), _, _, rfl⟩
        have := (nI_eq (by omega) (by omega)).mp (w3.symm.trans e)
        omega
    · left
      rw [if_pos (nI_le k (by omega))]
      have : i = z := by omega
      subst this
      exact ⟨hg, _, _, rfl⟩
theorem lots_69 {σ0 : St} (x1 : Int32) : ∀ (f k : Nat) (σ : St), k ≤ 30 → 30 < f + k → Fx [50] σ0 σ → (∀ j, j < k → σ.1 50 j = -1) → ∃ σ' x, M_lots_L69 f σ (nI k) x1 = some (σ', x) ∧ Fx [50] σ0 σ' ∧ ∀ j, j < 30 → σ'.1 50 j = -1 := by
  intro f
  induction f with
  | zero =>
    intro k σ _ h
    exact absurd h (by omega)
  | succ f ih =>
    intro k σ hk hf hF hj
    unfold M_lots_L69
    rcases Nat.lt_or_ge k 30 with w | w
    · rw [if_neg (show ¬ (30 : Int32) ≤ nI k from fun z => by have := (nI_leI (a := 30) (by omega) (by omega)).mp z; omega), chkI_nI w (by omega), nm_eq, nm_eq, nI_nat (show k < 2 ^ 31 by omega), nI_1]
      refine ih (k + 1) _ (by omega) (by omega) (Fx_s1 hF (by decide) _ _) (fun j hj' => ?_)
      by_cases y : j = k
      · rw [y, s1_e]
      · rw [s1_i _ _ _ _ y]
        exact hj j (by omega)
    · have : k = 30 := by omega
      subst this
      rw [if_pos (show (30 : Int32) ≤ nI 30 by decide)]
      exact ⟨σ, _, rfl, hF, hj⟩
theorem lots_2 {K : List (Nat × Nat)} {t0 : TH} {n : Nat} {kn : Nat → Nat} {Q : Nat → Nat → Nat} (h0 : PV K t0 n kn Q) : ∀ (f k : Nat) (t : TH), k ≤ n → n < f + k → ET [(7, 13)] [] [] t0 t → (∀ j, j < k → tS t 7 13 j = -1) → ∃ t' x, C_People_drawLots_L2 f K t (nI k) = some (t', x) ∧ ET [(7, 13)] [] [] t0 t' ∧ ∀ j, j < n → tS t' 7 13 j = -1 := by
  have hn := h0.1
  intro f
  induction f with
  | zero =>
    intro k t _ h
    exact absurd h (by omega)
  | succ f ih =>
    intro k t hk hf hT hj
    have h := PV_E h0 hT
    unfold C_People_drawLots_L2
    rw [h.2.1]
    rcases Nat.lt_or_ge k n with w | w
    · rw [if_neg (nI_ge w (by omega)), PV_at h w, bnd_some, opt_some, chkP_t (h.2.2.2 k w).1.1, nm_eq, nm_eq, nI_1]
      refine ih (k + 1) _ (by omega) (by omega) (ET_uS hT (by decide) _ _) (fun j hj' => ?_)
      by_cases y : j = k
      · rw [y, tS_e]
      · rw [tS_i _ _ _ _ _ y]
        exact hj j (by omega)
    · have : k = n := by omega
      subst this
      rw [if_pos (nI_le w (by omega))]
      exact ⟨t, _, rfl, hT, hj⟩
theorem or0 (x : Int64) : x ||| 0 = x := Int64.toBitVec_inj.mp (by rw [Int64.toBitVec_or, show (0 : Int64).toBitVec = 0#64 from rfl, BitVec.or_zero])
theorem add0 (x : Int32) : x + 0 = x := Int32.add_zero x
theorem lots_main {K : List (Nat × Nat)} {t0 : TH} {σ0 : St} {n z : Nat} {kn : Nat → Nat} {Q : Nat → Nat → Nat} (h0 : PV K t0 n kn Q) (hM0 : MV σ0 n kn Q) (hL : tN t0 13 1 = 64) (hL0 : tN t0 13 0 = 200) (hland : R_land t0 σ0) (hz : z ≤ 200) (hsz : tS t0 9 1 0 = nI z) (hs3 : σ0.1 3 0 = nI z) (hu : ∀ j, j < 200 → tS t0 13 0 j = σ0.1 1 j &&& 255 ∧ -128 ≤ (σ0.1 1 j).toInt ∧ (σ0.1 1 j).toInt < 128) (hg : gd (tS t0 13 0) n z) (y1 : Int32) :
    ∀ (f i : Nat) (t : TH) (σ : St) (sm : Int32) (mask : Int64), i ≤ z → z < f + i → ET [(7, 13)] [] [] t0 t → Fx [50] σ0 σ → (∀ k, k < n → tS t 7 13 k = σ.1 50 k) → (∀ k, n ≤ k → k < 30 → σ.1 50 k = -1) →
      ∃ t' σ' r a b c e, C_People_drawLots_L42 f K t (nI i) sm mask = some (t', a, r, b) ∧ M_lots_L101 f σ (nI i) sm mask y1 = some (σ', c, r, e) ∧ ET [(7, 13)] [] [] t0 t' ∧ Fx [50] σ0 σ' ∧ (∀ k, k < n → tS t' 7 13 k = σ'.1 50 k) ∧ ∀ k, n ≤ k → k < 30 → σ'.1 50 k = -1 := by
  have hn := h0.1
  intro f
  induction f with
  | zero =>
    intro i t σ sm mask _ h
    exact absurd h (by omega)
  | succ f ih =>
    intro i t σ sm mask hi hf hT hF hk hr
    have h := PV_E h0 hT
    have hM : MV σ n kn Q := MV_E (G := []) hM0 (fun k hk => by rcases hk with rfl | rfl <;> exact hF.1 _ (by decide))
    have hlr : R_land t σ := c_land hland hT hF
    have hN : tN t = tN t0 := hT.2.2.2
    unfold C_People_drawLots_L42 M_lots_L101
    rw [hT.1 9 1 (by decide), hsz, hF.1 3 (by decide), hs3]
    rcases Nat.lt_or_ge i z with w | w
    · obtain ⟨k, k1, k2⟩ := gd_lt hg w
      have ev : σ0.1 1 i = nI k := by
        obtain ⟨u1, u2, u3⟩ := hu i (by omega)
        rcases tb_cases u1 u2 u3 with ⟨v, v1, v2, v3⟩ | ⟨v0, v, v1, v2, v3⟩
        · rw [v2, ← (nI_eq (show k < 2 ^ 31 by omega) (show v < 2 ^ 31 by omega)).mp (k2.symm.trans v3)]
        · have := (nI_eq (show k < 2 ^ 31 by omega) (show v < 2 ^ 31 by omega)).mp (k2.symm.trans v3)
          omega
      rw [if_neg (nI_ge w (by omega)), if_neg (nI_ge w (by omega)), C_at (t := t) hz (by rw [hT.1 9 1 (by decide)]; exact hsz) (by rw [hN]; exact hL0) w, bnd_some, hT.1 13 0 (by decide), k2, PV_at h k1, bnd_some, opt_some, chkP_t (h.2.2.2 k k1).1.1, chkI_nI (show i < 200 by omega) (by omega), nI_nat (show i < 2 ^ 31 by omega), hF.1 1 (by decide), ev, nm_eq]
      obtain ⟨r, a, b, hq, eC, eM⟩ := bf_L h hM (by rw [hN]; exact hL) hlr k1 mask (nI i) sm y1 100000 0 (-1) (by omega) (by have := (h.2.2.2 k k1).2.1.1; omega) (Or.inl rfl)
      have eB : C_Person_bestFree K t k mask = some r := by
        unfold C_Person_bestFree
        rw [show C_Person_bestFree_L6 100000 K t 0 (-1) k mask = some (a, r) from eC, bnd_some, nm2_eq]
      rw [eB, bnd_some, nm_eq, tS_e, show M_lots_L125 100000 σ 0 (-1) (nI k) (nI i) sm mask y1 = some (b, r) from eM, bnd_some, nm2_eq, chkI_nI (show k < 30 by omega) (by omega), nm_eq, nI_nat (show k < 2 ^ 31 by omega)]
      have hT' : ET [(7, 13)] [] [] t0 (uS t 7 13 k r) := ET_uS hT (by decide) _ _
      have hF' : Fx [50] σ0 (s1 σ 50 k r) := Fx_s1 hF (by decide) _ _
      have hk' : ∀ j, j < n → tS (uS t 7 13 k r) 7 13 j = (s1 σ 50 k r).1 50 j := fun j hj => by
        by_cases y : j = k
        · rw [y, tS_e, s1_e]
        · rw [tS_i _ _ _ _ _ y, s1_i _ _ _ _ y]
          exact hk j hj
      have hr' : ∀ j, n ≤ j → j < 30 → (s1 σ 50 k r).1 50 j = -1 := fun j a b => by
        rw [s1_i _ _ _ _ (by omega)]
        exact hr j a b
      have hlr' : R_land (uS t 7 13 k r) (s1 σ 50 k r) := c_land hland hT' hF'
      rcases hq with rfl | ⟨b, b1, rfl⟩
      · rw [show C_Land_worthOf K (uS t 7 13 k (-1)) (-1) = some 0 from if_pos (by decide), bnd_some, nm_eq, if_pos rfl, if_neg (show ¬ (0 : Int32) ≤ -1 by decide), nm_eq, nm_eq, nm_eq, nI_1, or0, add0]
        exact ih (i + 1) _ _ sm mask (by omega) (by omega) hT' hF' hk' hr'
      · have nb : ¬ nI b = (-1 : Int32) := fun z => by
          have := congrArg Int32.toInt z
          rw [nI_toInt (by omega)] at this
          exact absurd this (by show ¬ (b : Int) = -1; omega)
        rw [wo_eq (σ := s1 σ 50 k (nI b)) (by rw [xNS, hN]; exact hL) hlr' b1, bnd_some, nm_eq, if_neg nb, if_pos (nI_pos' (show b < 2 ^ 31 by omega)), nm_eq, nm_eq, nm_eq, chkI_nI b1 (by omega), nm_eq, nm_eq, nI_nat (show b < 2 ^ 31 by omega), nI_1]
        exact ih (i + 1) _ _ _ _ (by omega) (by omega) hT' hF' hk' hr'
    · rw [if_pos (nI_le w (by omega)), if_pos (nI_le w (by omega))]
      exact ⟨t, σ, sm, _, _, _, _, rfl, rfl, hT, hF, hk, hr⟩
theorem p_lots {K : List (Nat × Nat)} {t : TH} {σ : St} (h : Rel K t σ) : ∃ Y, some Y = L_lots K t σ ∧ Rel Y.1 Y.2.1 Y.2.2 := by
  obtain ⟨n, nc, nw, m, d, cb, cq, cd, wc, wd, wf, wt, h1, h2, h3, h4, h5, h6, h7, h8, h9, h10, h11⟩ := h
  obtain ⟨z, z1, z2, z3, z4⟩ := h2
  have h2 : R_tape t σ := ⟨z, z1, z2, z3, z4⟩
  have hn := h6.1
  have hF := tk_F σ z
  have hT : ET [(9, 1)] [] [] t (uS t 9 1 0 0) := ET_uS (ET_rf _ _ _ _) (by decide) _ _
  have z4' : ∀ j, j < 200 → tS t 13 0 j = (tkS σ z).1 1 j &&& 255 ∧ -128 ≤ ((tkS σ z).1 1 j).toInt ∧ ((tkS σ z).1 1 j).toInt < 128 := by
    rw [hF.1 1 (by decide)]
    exact z4
  have e20 : (tkS σ z).1 20 0 = nI n := by rw [hF.1 20 (by decide)]; exact h6.2.2.1
  have start : ∀ q, q < 30 → ((0 : Int32).toBitVec.getLsbD q = true ↔ ∃ j, j < 0 ∧ tS t 13 0 j = nI q) := fun q hq => by
    constructor
    · intro h
      simp at h
    · rintro ⟨j, hj, _⟩
      omega
  unfold L_lots M_lots
  rw [nm_eq, tk_eq z3, bnd_some]
  unfold C_Run_lots C_Run_tapeTellsPeople
  rw [h6.2.1]
  rcases teo (K := K) (L := n) z1 z2 h1.1 (fun j hj => tape_u z4 j (by omega)) (by omega) with ⟨c, g⟩ | ⟨c, g⟩
  · rw [c, bnd_some, chkZ_1, bnd_some, if_neg (show ¬ (1 : Int32) = 0 by decide)]
    rcases lots_13 hn z1 (tk_3 σ z) e20 z4' 100000 0 0 (by omega) (by omega) trivial start with ⟨_, a, b, e⟩ | ⟨g', _⟩
    · rw [show M_lots_L13 100000 (tkS σ z) 0 0 = some (1, a, b, 0) from e, bnd_some]
      simp only [nm2_eq, Nat.one_ne_zero, if_false, if_true]
      obtain ⟨kn, Q, hP, hM⟩ := rel_PV h1 h6
      obtain ⟨σ1, u, e1, F1, k1⟩ := lots_69 (σ0 := tkS σ z) b 100000 0 (tkS σ z) (by omega) (by omega) (Fx_rf _ _) (fun j hj => absurd hj (by omega))
      obtain ⟨t1, v, e2, T1, k2⟩ := lots_2 hP 100000 0 t (by omega) (by omega) (ET_rf _ _ _ _) (fun j hj => absurd hj (by omega))
      have F2 : Fx [0, 2, 3, 4, 50, 51] σ (s1 σ1 51 0 1) := Fx_s1 (Fx_tr (Fx_mono hF (by decide)) (Fx_mono F1 (by decide))) (by decide) _ _
      have s1' : (s1 σ1 51 0 1).1 1 = σ.1 1 := F2.1 1 (by decide)
      obtain ⟨t2, σ2, r, a1, a2, a3, a4, eC, eM, T2, F3, k3, k4⟩ := lots_main (K := K) (t0 := t1) (σ0 := s1 σ1 51 0 1) (kn := kn) (Q := Q) (PV_E hP T1) (MV_E (G := []) hM (fun k hk => by rcases hk with rfl | rfl <;> exact F2.1 _ (by decide))) (by rw [T1.2.2.2]; exact h1.2.1) (by rw [T1.2.2.2]; exact h1.1) (c_land h3 T1 F2) z1 (by rw [T1.1 9 1 (by decide)]; exact z2) (by rw [s1_oth _ _ _ _ (by decide), F1.1 3 (by decide)]; exact tk_3 σ z) (by rw [T1.1 13 0 (by decide), s1']; exact z4) (by rw [T1.1 13 0 (by decide)]; exact g) b 100000 0 t1 (s1 σ1 51 0 1) 0 0 (by omega) (by omega) (ET_rf _ _ _ _) (Fx_rf _ _) (fun k hk => by rw [k2 k hk, s1_oth _ _ _ _ (by decide), k1 k (by omega)]) (fun k a b => by rw [s1_oth _ _ _ _ (by decide), k1 k b])
      unfold C_People_drawLots
      rw [show C_People_drawLots_L2 100000 K t 0 = some (t1, v) from e2, bnd_some, nm2_eq, show C_People_drawLots_L42 100000 K t1 0 0 0 = some (t2, a1, r, a2) from eC, bnd_some, nm2_eq, nm2_eq, nm2_eq, bnd2_some, nm_eq, bnd2_some, show M_lots_L69 100000 (tkS σ z) 0 b = some (σ1, u) from e1, bnd_some, nm2_eq, nm_eq, show M_lots_L101 100000 (s1 σ1 51 0 1) 0 0 0 b = some (σ2, a3, r, a4) from eM, bnd_some, nm2_eq, nm2_eq, nm2_eq, bnd2_some, if_pos rfl]
      have T3 : ET [(7, 13), (9, 1)] [] [] t (uS t2 9 1 0 0) := ET_uS (ET_tr (ET_mono T1 (by decide) (by decide) (by decide)) (ET_mono T2 (by decide) (by decide) (by decide))) (by decide) _ _
      have F4 : Fx [0, 2, 3, 4, 50, 51] σ σ2 := Fx_tr F2 (Fx_mono F3 (by decide))
      have e51 : σ2.1 51 0 = 1 := by rw [F3.1 51 (by decide), s1_e]
      refine ⟨(K, uS t2 9 1 0 0, σ2), rfl, n, nc, nw, m, d, cb, cq, cd, wc, wd, wf, wt, c_len h1 T3, tape_0 h2 (tS_e _ _ _ _ _) (T3.1 13 0 (by decide)) (by rw [F3.1 2 (by decide), s1_oth _ _ _ _ (by decide), F1.1 2 (by decide)]; exact tk_2 σ z) (F4.1 1 (by decide)), c_land h3 T3 F4, c_race h4 T3 F4, c_stk h5 T3 F4, ?_, c_rul h7 T3 F4, c_day h8 T3 F4, c_court h9 T3 F4 (fun _ w => w), h10, c_P h11 T3⟩
      obtain ⟨p1, p2, p3, p4, p5, p6⟩ := h6
      have q17 : tS (uS t2 9 1 0 0) 17 = tS t 17 := funext (fun f => T3.1 17 f (nin (by decide) f))
      have q18 : tS (uS t2 9 1 0 0) 18 = tS t 18 := funext (fun f => T3.1 18 f (nin (by decide) f))
      refine ⟨p1, by rw [T3.1 6 1 (by decide)]; exact p2, by rw [F4.1 20 (by decide)]; exact p3, fun k hk => ?_, fun k a b => ?_, Or.inr e51⟩
      · have q := p4 k hk
        have e13 : tS (uS t2 9 1 0 0) 7 13 k = if σ2.1 51 0 = 0 then -1 else σ2.1 50 k := by
          rw [tS_c _ _ _ _ _ (by decide), k3 k hk, e51, if_neg (show ¬ (1 : Int32) = 0 by decide)]
        unfold R_one R_pos R_goal R_known at q ⊢
        rw [T3.2.1 15 1 (by decide), T3.2.2.1 7 12 (by decide), T3.2.2.2, q17, q18, T3.1 7 0 (by decide), T3.1 7 1 (by decide), T3.1 7 2 (by decide), T3.1 7 3 (by decide), T3.1 7 6 (by decide), T3.1 7 7 (by decide), T3.1 7 8 (by decide), T3.1 7 9 (by decide), T3.1 7 10 (by decide), T3.1 7 11 (by decide), T3.1 7 14 (by decide), F4.1 8 (by decide), F4.1 9 (by decide), F4.1 10 (by decide), F4.1 11 (by decide), F4.1 12 (by decide), F4.1 13 (by decide), F4.1 14 (by decide), F4.1 15 (by decide), F4.1 16 (by decide), F4.1 17 (by decide), F4.2, F4.1 19 (by decide), F4.1 59 (by decide), F4.1 61 (by decide)]
        exact ⟨q.1, q.2.1, q.2.2.1, q.2.2.2.1, q.2.2.2.2.1, q.2.2.2.2.2.1, q.2.2.2.2.2.2.1, e13, q.2.2.2.2.2.2.2.2⟩
      · have q := p5 k a b
        rw [F4.1 61 (by decide), F4.1 59 (by decide), F4.1 13 (by decide)]
        exact ⟨q.1, q.2.1, fun _ => k4 k a b, q.2.2.2⟩
    · exact absurd g g'
  · rw [c, bnd_some, chkZ_0, bnd_some, if_pos rfl]
    rcases lots_13 hn z1 (tk_3 σ z) e20 z4' 100000 0 0 (by omega) (by omega) trivial start with ⟨g', _⟩ | ⟨_, a, b, e⟩
    · exact absurd g' g
    · rw [show M_lots_L13 100000 (tkS σ z) 0 0 = some (0, a, b, -1) from e, bnd_some]
      simp only [nm2_eq, nm_eq, if_true, bnd2_some]
      refine ⟨(K, uS t 9 1 0 0, tkS σ z), rfl, n, nc, nw, m, d, cb, cq, cd, wc, wd, wf, wt, c_len h1 hT, tape_0 h2 (tS_e _ _ _ _ _) (hT.1 13 0 (by decide)) (tk_2 σ z) (hF.1 1 (by decide)), c_land h3 hT hF, c_race h4 hT hF, c_stk h5 hT hF, c_ppl h6 hT hF (fun _ w => w), c_rul h7 hT hF, c_day h8 hT hF, c_court h9 hT hF (fun _ w => w), h10, c_P h11 hT⟩
