theorem smN_ext {f : Nat → Nat} {R : Nat} (h : ∀ i, R ≤ i → f i = 0) : ∀ n, R ≤ n → smN f n = smN f R := by
  intro n
  induction n with
  | zero =>
    intro hn
    rw [show R = 0 by omega]
  | succ n ih =>
    intro hn
    rcases Nat.lt_or_ge n R with k | k
    · rw [show R = n + 1 by omega]
    · rw [smN_s, ih k, h n k]
      omega
theorem smN_lin (b e : Nat → Nat) (P : Nat) : ∀ n, smN (fun p => b p * P + e p) n = P * smN b n + smN e n := by
  intro n
  induction n with
  | zero => rfl
  | succ n ih =>
    rw [smN_s, smN_s, smN_s, ih, Nat.mul_add, Nat.mul_comm (b n) P]
    omega
def dgt (R : Nat) (kn : Nat → Nat) (Q : Nat → Nat → Nat) (m : Nat → Nat) (p : Nat) : Nat := if p < R ∧ m p < 64 then 12 - rkN (Q p) (m p) (kn p) else 0
def vN (B : Nat → Nat → Nat) (R : Nat) (m : Nat → Nat) : Nat := smN (fun p => if p < R ∧ m p < 64 then B p (m p) else 0) 8
theorem dgt_lt {R : Nat} {kn : Nat → Nat} {Q : Nat → Nat → Nat} {m : Nat → Nat} (p : Nat) : dgt R kn Q m p < 13 := by
  unfold dgt
  split <;> omega
theorem WW_eq {n R : Nat} {kn : Nat → Nat} {Q Bd : Nat → Nat → Nat} {m : Nat → Nat} (hRn : R ≤ n) (h1 : ∀ p, p < 8 → m p < 64 → p < R) (h2 : PM (BB kn Q Bd) R m) : WW (wgt n kn Q Bd) m = 815730721 * vN (BB kn Q Bd) R m + nmb (dgt R kn Q m) 8 := by
  rw [← nmb_8]
  unfold WW vN
  rw [← smN_lin]
  refine smN_congr 8 (fun p hp => ?_)
  show (if m p < 64 then wgt n kn Q Bd p (m p) else 0) = (if p < R ∧ m p < 64 then BB kn Q Bd p (m p) else 0) * 815730721 + dgt R kn Q m p * 13 ^ (7 - p)
  unfold dgt
  by_cases k : m p < 64
  · have hpR := h1 p hp k
    rw [if_pos k, if_pos ⟨hpR, k⟩, if_pos ⟨hpR, k⟩]
    unfold wgt
    rw [if_pos ⟨by omega, h2.1 p hpR k⟩]
  · rw [if_neg k, if_neg (fun z => k z.2), if_neg (fun z => k z.2)]
    omega
theorem vN_val {B : Nat → Nat → Nat} {R : Nat} {m : Nat → Nat} (hR : R ≤ 8) : (vN B R m : Int) = val B R m := by
  unfold vN val
  rw [smN_ext (R := R) (fun i hi => if_neg (fun z => by have := z.1; omega)) 8 hR, smN_I]
  refine smI_congr R (fun r hr => ?_)
  show ((if r < R ∧ m r < 64 then B r (m r) else 0 : Nat) : Int) = if m r < 64 then (B r (m r) : Int) else 0
  by_cases k : m r < 64
  · rw [if_pos ⟨hr, k⟩, if_pos k]
  · rw [if_neg (fun z => k z.2), if_neg k]
    rfl
theorem sell_max {K : List (Nat × Nat)} {t : TH} {n R : Nat} {kn : Nat → Nat} {Q Bd : Nat → Nat → Nat} {C : Nat → Nat} {V : Int} {H : Nat → Nat} (hc : CV K t n kn Q Bd) (hR : R ≤ 8) (hRn : R ≤ n) (pc : PM (BB kn Q Bd) R C) (vc : val (BB kn Q Bd) R C = V)
    (hm : ∀ m, PM (BB kn Q Bd) R m → val (BB kn Q Bd) R m ≤ V ∧ (val (BB kn Q Bd) R m = V → ∀ k, k < R → (∀ j, j < k → (m j < 64 → C j = m j) ∧ (64 ≤ m j → 64 ≤ C j)) → m k < 64 → C k ≤ m k)) (hD : DPI (wgt n kn Q Bd) 64 H (2 ^ R - 1)) :
    H (2 ^ R - 1) = 815730721 * vN (BB kn Q Bd) R C + nmb (dgt R kn Q C) 8 := by
  have bits : ∀ p, (2 ^ R - 1).testBit p = true ↔ p < R := fun p => by
    rw [Nat.testBit_two_pow_sub_one]
    exact decide_eq_true_iff
  have toPM : ∀ m, PQ (wgt n kn Q Bd) 64 (2 ^ R - 1) m → (∀ p, p < 8 → m p < 64 → p < R) ∧ PM (BB kn Q Bd) R m := fun m hq => by
    refine ⟨fun p hp h64 => (bits p).mp (hq.1 p hp h64).2.1, fun k hk h64 => ?_, fun i j hi hj => hq.2 i j (by omega) (by omega)⟩
    have := (hq.1 k (by omega) h64).2.2
    unfold wgt at this
    by_cases z : k < n ∧ 0 < BB kn Q Bd k (m k)
    · exact z.2
    · rw [if_neg z] at this
      exact absurd this (Nat.lt_irrefl 0)
  -- the reference's choice among the class's
  obtain ⟨c, ec⟩ : ∃ c : Nat → Nat, c = fun p => if p < R then C p else 64 := ⟨_, rfl⟩
  have ecl : ∀ p, p < R → c p = C p := fun p hp => by rw [ec]; exact if_pos hp
  have ecg : ∀ p, ¬ p < R → c p = 64 := fun p hp => by rw [ec]; exact if_neg hp
  have hcR : ∀ p, p < 8 → c p < 64 → p < R := fun p _ h => Classical.byContradiction (fun z => by rw [ecg p z] at h; omega)
  have pcm : PM (BB kn Q Bd) R c := ⟨fun k hk => by rw [ecl k hk]; exact pc.1 k hk, fun i j hi hj => by rw [ecl i hi, ecl j hj]; exact pc.2 i j hi hj⟩
  have ev : vN (BB kn Q Bd) R c = vN (BB kn Q Bd) R C := smN_congr 8 (fun p _ => by
    show (if p < R ∧ c p < 64 then BB kn Q Bd p (c p) else 0) = (if p < R ∧ C p < 64 then BB kn Q Bd p (C p) else 0)
    by_cases k : p < R
    · rw [ecl p k]
    · rw [if_neg (fun z => k z.1), if_neg (fun z => k z.1)])
  have ed : ∀ p, dgt R kn Q c p = dgt R kn Q C p := fun p => by
    unfold dgt
    by_cases k : p < R
    · rw [ecl p k]
    · rw [if_neg (fun z => k z.1), if_neg (fun z => k z.1)]
  have en : nmb (dgt R kn Q c) 8 = nmb (dgt R kn Q C) 8 := by rw [show dgt R kn Q c = dgt R kn Q C from funext ed]
  have qc : PQ (wgt n kn Q Bd) 64 (2 ^ R - 1) c := by
    refine ⟨fun p hp h64 => ?_, fun i j hi hj e h64 => ?_⟩
    · have pR := hcR p hp h64
      refine ⟨h64, (bits p).mpr pR, ?_⟩
      have b := pcm.1 p pR h64
      unfold wgt
      rw [if_pos ⟨by omega, b⟩]
      exact Nat.lt_of_lt_of_le (Nat.mul_pos b (by omega)) (Nat.le_add_right _ _)
    · exact pcm.2 i j (hcR i hi h64) (hcR j hj (by omega)) e h64
  have kno : ∀ m p, PM (BB kn Q Bd) R m → p < R → m p < 64 → ∃ i, i < kn p ∧ Q p i = m p := fun m p hpm hp h64 => bidN_ex _ (hpm.1 p hp h64)
  have up : ∀ m, PQ (wgt n kn Q Bd) 64 (2 ^ R - 1) m → WW (wgt n kn Q Bd) m ≤ WW (wgt n kn Q Bd) c := fun m hq => by
    obtain ⟨q1, q2⟩ := toPM m hq
    rw [WW_eq hRn q1 q2, WW_eq hRn hcR pcm, ev, en]
    obtain ⟨a, b⟩ := hm m q2
    have v1 := vN_val (B := BB kn Q Bd) (m := m) hR
    have v2 := vN_val (B := BB kn Q Bd) (m := C) hR
    have l1 : nmb (dgt R kn Q m) 8 < 13 ^ 8 := nmb_lt 8 (fun i _ => dgt_lt i)
    have e13 : (13 : Nat) ^ 8 = 815730721 := rfl
    rcases Nat.lt_or_ge (vN (BB kn Q Bd) R m) (vN (BB kn Q Bd) R C) with k | k
    · have := Nat.mul_le_mul_left 815730721 (show vN (BB kn Q Bd) R m + 1 ≤ vN (BB kn Q Bd) R C from k)
      omega
    · have eV : vN (BB kn Q Bd) R m = vN (BB kn Q Bd) R C := by omega
      have lex := nmb_lex (a := dgt R kn Q m) (b := dgt R kn Q C) 8 (fun i _ => ⟨dgt_lt i, dgt_lt i⟩) (fun k hk hpre => ?_)
      · rw [eV]
        rcases lex with w | w
        · omega
        · omega
      · by_cases z : k < R ∧ m k < 64
        · have hC := b (by omega) k z.1 (fun j hj => ?_) z.2
          · have : rkN (Q k) (C k) (kn k) ≤ rkN (Q k) (m k) (kn k) := rkN_mono hC _
            unfold dgt
            rw [if_pos z, if_pos ⟨z.1, by omega⟩]
            omega
          · have ej := hpre j hj
            have jR : j < R := by omega
            have kn12 := (hc.2.2.2.2.2 j (by omega)).2.1
            unfold dgt at ej
            constructor
            · intro mj
              obtain ⟨i, i1, i2⟩ := kno m j q2 jR mj
              have r1 := rkN_kn i2 _ i1
              rw [if_pos ⟨jR, mj⟩] at ej
              by_cases cj : C j < 64
              · rw [if_pos ⟨jR, cj⟩] at ej
                obtain ⟨i', i1', i2'⟩ := kno C j pc jR cj
                have r2 := rkN_kn i2' _ i1'
                rw [← i2, ← i2']
                exact (rkN_inj i1 i1' (by rw [i2, i2']; omega)).symm
              · rw [if_neg (fun z => cj z.2)] at ej
                omega
            · intro mj
              rcases Nat.lt_or_ge (C j) 64 with cj | cj
              · obtain ⟨i', i1', i2'⟩ := kno C j pc jR cj
                have r2 := rkN_kn i2' _ i1'
                rw [if_neg (fun z => by have := z.2; omega), if_pos ⟨jR, cj⟩] at ej
                omega
              · exact cj
        · rw [show dgt R kn Q m k = 0 from if_neg z]
          omega
  obtain ⟨m0, a1, a2⟩ := (hD (2 ^ R - 1) (Nat.le_refl _)).1
  have b1 := up m0 a1
  have b2 := (hD (2 ^ R - 1) (Nat.le_refl _)).2 c qc
  rw [← ev, ← en, ← WW_eq hRn hcR pcm]
  omega
theorem tg_L {K : List (Nat × Nat)} {t0 : TH} {n R : Nat} {kn : Nat → Nat} {Q Bd : Nat → Nat → Nat} {C : Nat → Nat} (h0 : CV K t0 n kn Q Bd) (hRm : ∀ p, p < 8 → (p < n ↔ p < R)) (pc : PM (BB kn Q Bd) R C) (x1 : Int64) :
    ∀ (f i : Nat) (t : TH), i ≤ 8 → i < f → ET [(7, 14)] [] [] t0 t → (∀ j, i ≤ j → j < 8 → j < R → tS t 7 14 j = bo (C j)) → (∀ j, ¬ (i ≤ j ∧ j < 8 ∧ j < R) → tS t 7 14 j = tS t0 7 14 j) →
      ∃ t' x y, C_Auction_tellGains_L6 f K t (nI i + (-1)) (lN (nmb (dgt R kn Q C) i)) x1 = some (t', x, y) ∧ ET [(7, 14)] [] [] t0 t' ∧ (∀ j, j < 8 → j < R → tS t' 7 14 j = bo (C j)) ∧ ∀ j, ¬ (j < 8 ∧ j < R) → tS t' 7 14 j = tS t0 7 14 j := by
  intro f
  induction f with
  | zero =>
    intro i t _ h
    exact absurd h (by omega)
  | succ f ih =>
    intro i t hi hf hT h1 h2
    unfold C_Auction_tellGains_L6
    cases i with
    | zero =>
      rw [if_pos (show nI 0 + (-1) < 0 by decide)]
      exact ⟨t, _, _, rfl, hT, fun j => h1 j (by omega), fun j hj => h2 j (fun z => hj z.2)⟩
    | succ i =>
      have h := CV_E h0 (ET_mono hT (by decide) (by decide) (by decide))
      have nl : nmb (dgt R kn Q C) (i + 1) < 13 ^ 8 := Nat.lt_of_lt_of_le (nmb_lt (i + 1) (fun j _ => dgt_lt j)) (Nat.pow_le_pow_right (by omega) hi)
      have e13 : (13 : Nat) ^ 8 = 815730721 := rfl
      have en : nmb (dgt R kn Q C) (i + 1) = 13 * nmb (dgt R kn Q C) i + dgt R kn Q C i := rfl
      have dl := dgt_lt (R := R) (kn := kn) (Q := Q) (m := C) i
      rw [pk_m1, if_neg (nI_pos (show i < 2 ^ 31 by omega)), show (13 : Int64) = lN 13 from rfl, pk_lRem (by omega) (by omega) (by omega), pk_lDiv (by omega) (by omega) (by omega), nm_eq, nm_eq, lN_i32, show nmb (dgt R kn Q C) (i + 1) % 13 = dgt R kn Q C i by omega, show nmb (dgt R kn Q C) (i + 1) / 13 = nmb (dgt R kn Q C) i by omega, CV_at h (by omega), bnd_some]
      simp only [nm_eq]
      by_cases k : i < n
      · have iR := (hRm i (by omega)).mp k
        rw [if_pos k, opt_some]
        have go : ∀ v, v = bo (C i) → ∃ t' x y, C_Auction_tellGains_L6 f K (uS t 7 14 i v) (nI i + (-1)) (lN (nmb (dgt R kn Q C) i)) x1 = some (t', x, y) ∧ ET [(7, 14)] [] [] t0 t' ∧ (∀ j, j < 8 → j < R → tS t' 7 14 j = bo (C j)) ∧ ∀ j, ¬ (j < 8 ∧ j < R) → tS t' 7 14 j = tS t0 7 14 j := fun v hv => by
          refine ih i _ (by omega) (by omega) (ET_uS hT (by decide) _ _) (fun j a b c => ?_) (fun j a => ?_)
          · by_cases y : j = i
            · rw [y, tS_e, hv]
            · rw [tS_i _ _ _ _ _ y]
              exact h1 j (by omega) b c
          · by_cases y : j = i
            · exact absurd ⟨by omega, by omega, by omega⟩ a
            · rw [tS_i _ _ _ _ _ y]
              exact h2 j (fun z => a ⟨by omega, z.2⟩)
        have kn12 := (h.2.2.2.2.2 i k).2.1
        by_cases cj : C i < 64
        · obtain ⟨i', i1', i2'⟩ := bidN_ex _ (pc.1 i iR cj)
          have r2 := rkN_kn i2' _ i1'
          have ed : dgt R kn Q C i = 12 - rkN (Q i) (C i) (kn i) := if_pos ⟨iR, cj⟩
          rw [if_neg (nI_ne0 (show 0 < dgt R kn Q C i by omega) (by omega)), chkP_t (h.2.2.2.2.2 i k).1.1, show (12 : Int32) = nI 12 from rfl, pk_sub (show dgt R kn Q C i ≤ 12 by omega), show 12 - dgt R kn Q C i = rkN (Q i) (Q i i') (kn i) by rw [i2']; omega, kr_eq h k i1', bnd_some, i2']
          exact go _ (by unfold bo; rw [if_pos cj])
        · rw [show dgt R kn Q C i = 0 from if_neg (fun z => cj z.2), if_pos (show nI 0 = 0 from rfl), chkP_t (h.2.2.2.2.2 i k).1.1]
          exact go _ (by unfold bo; rw [if_neg cj])
      · rw [if_neg k, opt_none]
        have iR : ¬ i < R := fun z => k ((hRm i (by omega)).mpr z)
        refine ih i t (by omega) (by omega) hT (fun j a b c => ?_) (fun j a => ?_)
        · exact h1 j (by
            rcases Nat.lt_or_ge i j with y | y
            · exact y
            · exact absurd c (by rw [show j = i by omega]; exact iR)) b c
        · exact h2 j (fun z => a ⟨by omega, z.2⟩)
theorem all_eq {R : Nat} (hR : R ≤ 8) : ((1 : Int32) <<< (nI R &&& 31)) - 1 = nI (2 ^ R - 1) := (by decide +kernel : ∀ R : Fin 9, ((1 : Int32) <<< (nI R.val &&& 31)) - 1 = nI (2 ^ R.val - 1)) ⟨R, by omega⟩
theorem two_R {R : Nat} (hR : R ≤ 8) : 2 ^ R - 1 < 256 := (by decide : ∀ R : Fin 9, 2 ^ R.val - 1 < 256) ⟨R, by omega⟩
theorem settle_eq {K : List (Nat × Nat)} {t : TH} {n R : Nat} {kn : Nat → Nat} {Q Bd : Nat → Nat → Nat} {C : Nat → Nat} {V : Int} (hc : CV K t n kn Q Bd) (hR : R ≤ 8) (hRn : R = if 8 < n then 8 else n) (pc : PM (BB kn Q Bd) R C) (vc : val (BB kn Q Bd) R C = V)
    (hm : ∀ m, PM (BB kn Q Bd) R m → val (BB kn Q Bd) R m ≤ V ∧ (val (BB kn Q Bd) R m = V → ∀ k, k < R → (∀ j, j < k → (m j < 64 → C j = m j) ∧ (64 ≤ m j → 64 ≤ C j)) → m k < 64 → C k ≤ m k)) :
    ∃ t', C_Run_sell K t = some (iI V, t') ∧ ET [(7, 14)] [] [(14, 0), (14, 1)] t t' ∧ (∀ j, j < 8 → j < R → tS t' 7 14 j = bo (C j)) ∧ ∀ j, ¬ (j < 8 ∧ j < R) → tS t' 7 14 j = tS t 7 14 j := by
  have hn := hc.1
  have hRn' : R ≤ n := by rw [hRn]; split <;> omega
  have hRm : ∀ p, p < 8 → (p < n ↔ p < R) := fun p hp => by
    rw [hRn]
    split <;> omega
  have ha := two_R hR
  obtain ⟨t1, x, e1, T1, z1⟩ := se_19 (K := K) hc.2.2.2.1 (nI (2 ^ R - 1)) 100000 0 t (by omega) (by omega) (ET_rf _ _ _ _) (fun x hx => absurd hx (by omega))
  have hc1 := CV_E hc (ET_mono T1 (by decide) (by decide) (by decide))
  obtain ⟨t2, y, H, e2, T2, D2, z2⟩ := se_43 (K := K) (t0 := t1) (all := 2 ^ R - 1) hc1 ha 100000 0 t1 (fun _ => 0) (by omega) (by omega) (ET_rf _ _ _ _) dp_0 (fun _ _ => rfl) z1
  have hc2 := CV_E hc1 (ET_mono T2 (by decide) (by decide) (by decide))
  have eH := sell_max hc hR hRn' pc vc hm D2
  have nl : nmb (dgt R kn Q C) 8 < 13 ^ 8 := nmb_lt 8 (fun j _ => dgt_lt j)
  have e13 : (13 : Nat) ^ 8 = 815730721 := rfl
  have vl : vN (BB kn Q Bd) R C ≤ 8 * 256 := smN_le 8 (fun p _ => by
    show (if p < R ∧ C p < 64 then BB kn Q Bd p (C p) else 0) ≤ 256
    by_cases z : p < R ∧ C p < 64
    · rw [if_pos z]
      have := BB_lt (q := C p) hc (show p < n by omega)
      omega
    · rw [if_neg z]
      omega)
  obtain ⟨t3, u, v, e3, T3, g1, g2⟩ := tg_L (K := K) (t0 := t2) (C := C) hc2 hRm pc (lN (nmb (dgt R kn Q C) 8)) 100000 8 t2 (by omega) (by omega) (ET_rf _ _ _ _) (fun j a b => absurd b (by omega)) (fun _ _ => rfl)
  have T02 : ET [(7, 14)] [] [(14, 0), (14, 1)] t t2 := ET_tr (ET_mono T1 (by decide) (by decide) (by decide)) (ET_mono T2 (by decide) (by decide) (by decide))
  have e714 : tS t2 7 14 = tS t 7 14 := by rw [T2.1 7 14 (by decide), T1.1 7 14 (by decide)]
  refine ⟨t3, ?_, ET_tr T02 (ET_mono T3 (by decide) (by decide) (by decide)), g1, fun j hj => by rw [g2 j hj, e714]⟩
  unfold C_Run_sell C_Auction_settle
  have eR : (if (8 : Int32) < tS t 6 1 0 then 8 else tS t 6 1 0) = nI R := by
    rw [hc.2.1, hRn]
    by_cases k : 8 < n
    · rw [if_pos (show (8 : Int32) < nI n from (nI_ltI (a := 8) (by omega) (by omega)).mpr k), if_pos k]
      rfl
    · rw [if_neg (show ¬ (8 : Int32) < nI n from fun z => k ((nI_ltI (a := 8) (by omega) (by omega)).mp z)), if_neg k]
  rw [eR, nm_eq, all_eq hR, nm_eq, show C_Auction_settle_L19 100000 K t 0 (nI (2 ^ R - 1)) = some (t1, x) from e1, bnd_some, nm2_eq, show C_Auction_settle_L43 100000 K t1 0 (nI (2 ^ R - 1)) = some (t2, y) from e2, bnd_some, nm2_eq, if_neg (nI_pos (show 2 ^ R - 1 < 2 ^ 31 by omega)), hc2.2.2.2.1, if_neg (nI_ge ha (by omega)), chkI_nI ha (by omega), nm_eq, nI_nat (show 2 ^ R - 1 < 2 ^ 31 by omega), z2 _ ha, eH, show (815730721 : Int64) = lN 815730721 from rfl, pk_lRem (by omega) (by omega) (by omega), pk_lDiv (by omega) (by omega) (by omega), show (815730721 * vN (BB kn Q Bd) R C + nmb (dgt R kn Q C) 8) % 815730721 = nmb (dgt R kn Q C) 8 by omega, show (815730721 * vN (BB kn Q Bd) R C + nmb (dgt R kn Q C) 8) / 815730721 = vN (BB kn Q Bd) R C by omega]
  unfold C_Auction_tellGains
  rw [show C_Auction_tellGains_L6 100000 K t2 7 (lN (nmb (dgt R kn Q C) 8)) (lN (nmb (dgt R kn Q C) 8)) = some (t3, u, v) from e3, bnd_some, nm2_eq, nm2_eq, bnd_some, bnd2_some, lN_i32, ← vc, ← vN_val (B := BB kn Q Bd) (m := C) hR, iI_n]
