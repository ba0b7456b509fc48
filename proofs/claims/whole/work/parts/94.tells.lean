theorem tb_cases {v u : Int32} (h : u = v &&& 255) (h1 : -128 ≤ v.toInt) (h2 : v.toInt < 128) : (∃ w, w < 128 ∧ v = nI w ∧ u = nI w) ∨ (v < 0 ∧ ∃ w, 128 ≤ w ∧ w < 256 ∧ u = nI w) := by
  by_cases c : v < 0
  · right
    refine ⟨c, v.toBitVec.toNat % 256, ?_, ?_, h.trans (bt_and v)⟩
    · have a := bt_mod v
      have b : v.toInt < 0 := Int32.lt_iff_toInt_lt.mp c
      omega
    · omega
  · left
    obtain ⟨j, hj, rfl⟩ := nI_of c
    rw [nI_toInt hj] at h2
    refine ⟨j, by omega, rfl, ?_⟩
    rw [h, show (255 : Int32) = nI 255 from rfl, pk_andN (by omega) 8 (by decide), Nat.mod_eq_of_lt (by omega)]
def gd (u : Nat → Int32) (L : Nat) : Nat → Prop
  | 0 => True
  | z + 1 => gd u L z ∧ (∃ q, q < L ∧ u z = nI q) ∧ ∀ i, i < z → u i ≠ u z
theorem gd_mono {u : Nat → Int32} {L z k : Nat} (h : gd u L z) (hk : k ≤ z) : gd u L k := by
  induction z with
  | zero =>
    rw [Nat.le_zero.mp hk]
    exact h
  | succ z ih =>
    rcases Nat.lt_or_ge k (z + 1) with g | g
    · exact ih h.1 (by omega)
    · rw [show k = z + 1 by omega]
      exact h
theorem gd_lt {u : Nat → Int32} {L z : Nat} (h : gd u L z) {j : Nat} (hj : j < z) : ∃ q, q < L ∧ u j = nI q := (gd_mono h (show j + 1 ≤ z from hj)).2.1
theorem gd_ne {u : Nat → Int32} {L z : Nat} (h : gd u L z) {i j : Nat} (hi : i < z) (hj : j < z) (e : u i = u j) : i = j := by
  rcases Nat.lt_trichotomy i j with g | g | g
  · exact absurd e ((gd_mono h (show j + 1 ≤ z from hj)).2.2 i g)
  · exact g
  · exact absurd e.symm ((gd_mono h (show i + 1 ≤ z from hi)).2.2 j g)
theorem C_at {K : List (Nat × Nat)} {t : TH} {z i : Nat} (hz : z ≤ 200) (hsz : tS t 9 1 0 = nI z) (hlen : tN t 13 0 = 200) (hi : i < z) : C_Tape_at K t (nI i) = some (tS t 13 0 i) := by
  unfold C_Tape_at
  rw [hsz, hlen]
  simp (disch := omega) only [lit_nI, neg_nN, neg_nI1, nI_nat, chkI_nI, bnd_some, bnd2_some, nm_eq, nm2_eq, opt_none, opt_some, nI_add, pk_mul, nI_ltI, nI_leI, nI_eq, nN_ne, nN_ne', nN_lt, nN_nlt, nN_le, nN_nle, ltT, ltF, leT, leF, eqT, eqF, tS_uS, tS_uL, tS_uP, tL_uS, tL_uP, tP_uS, tP_uL, tN_uS, tN_uL, tN_uP, tL_uL, tP_uP, s1_1, s1_2, s2_1, s2_2, if_false]
theorem nI_m1 {L : Nat} (hL : L < 2 ^ 31) (h : 0 < L) : nI L - 1 = nI (L - 1) := by
  have := pk_sub (a := L) (b := 1) h
  exact this
theorem C_tells {K : List (Nat × Nat)} {t : TH} {z L : Nat} (hz : z ≤ 200) (hsz : tS t 9 1 0 = nI z) (hlen : tN t 13 0 = 200) (hu : ∀ j, j < z → ∃ w, w < 256 ∧ tS t 13 0 j = nI w) (hL : L ≤ 64) :
    ∀ (f k : Nat) (mask : Int64), k ≤ z → z < f + k → gd (tS t 13 0) L k → (∀ q, q < 64 → (mask.toBitVec.getLsbD q = true ↔ ∃ j, j < k ∧ tS t 13 0 j = nI q)) →
      (gd (tS t 13 0) L z ∧ ∃ a b, C_Tape_tellsEachOnce_L5 f K t (nI k) mask (nI L) = some (1, a, b, 0)) ∨ (¬ gd (tS t 13 0) L z ∧ ∃ a b, C_Tape_tellsEachOnce_L5 f K t (nI k) mask (nI L) = some (0, a, b, 0)) := by
  intro f
  induction f with
  | zero =>
    intro k mask h1 h2
    exact absurd h2 (by omega)
  | succ f ih =>
    intro k mask hk hf hg hm
    unfold C_Tape_tellsEachOnce_L5
    rw [hsz]
    rcases Nat.lt_or_ge k z with hkz | hkz
    · rw [if_neg (show ¬ nI z ≤ nI k from fun q => by have := (nI_leI (by omega) (by omega)).mp q; omega), C_at hz hsz hlen hkz, bnd_some]
      obtain ⟨w, hw, ew⟩ := hu k hkz
      rw [ew]
      rcases Nat.lt_or_ge w L with hwL | hwL
      · rw [wi_in (nI_pos (by omega)) (by rw [nI_m1 (by omega) (by omega)]; exact nI_nlt (by omega) (by omega)), bnd_some, if_neg (show ¬ (1 : Int32) = 0 by decide), nm_eq, nm_eq, nI_1]
        by_cases hb : mask.toBitVec.getLsbD w = true
        · right
          rw [if_neg (by rw [cmpC0 mask (show w < 64 by omega), hb]; decide)]
          refine ⟨fun g => ?_, _, _, rfl⟩
          obtain ⟨j, hj, ej⟩ := (hm w (by omega)).mp hb
          have := gd_ne g (show j < z by omega) hkz (ej.trans ew.symm)
          omega
        · rw [if_pos (by rw [cmpC0 mask (show w < 64 by omega)]; simpa using hb)]
          refine ih (k + 1) _ (by omega) (by omega) ⟨hg, ⟨w, hwL, ew⟩, fun i hi e => hb ((hm w (by omega)).mpr ⟨i, hi, e.trans ew⟩)⟩ (fun q hq => ?_)
          rw [bSet mask (show w < 64 by omega), Bool.or_eq_true, decide_eq_true_eq, hm q hq]
          constructor
          · rintro (⟨j, hj, ej⟩ | rfl)
            · exact ⟨j, by omega, ej⟩
            · exact ⟨k, by omega, ew⟩
          · rintro ⟨j, hj, ej⟩
            rcases Nat.lt_or_ge j k with g | g
            · exact Or.inl ⟨j, g, ej⟩
            · right
              have : j = k := by omega
              subst this
              exact (nI_eq (by omega) (by omega)).mp (ej.symm.trans ew)
      · right
        have hn : ¬ gd (tS t 13 0) L z := fun g => by
          obtain ⟨q, hq, eq⟩ := gd_lt g hkz
          have := (nI_eq (by omega) (by omega)).mp (ew.symm.trans eq)
          omega
        have hi : nI L - 1 < nI w := by
          rcases Nat.eq_zero_or_pos L with rfl | hp
          · rw [show nI 0 - 1 = nN from rfl, nN_lt (by omega)]
            trivial
          · rw [nI_m1 (by omega) hp]
            exact nI_lt (by omega) (by omega)
        rw [wi_hi hi, bnd_some, if_pos rfl]
        exact ⟨hn, _, _, rfl⟩
    · rw [if_pos (show nI z ≤ nI k from (nI_leI (by omega) (by omega)).mpr hkz)]
      left
      rw [show k = z by omega] at hg
      exact ⟨hg, _, _, rfl⟩
