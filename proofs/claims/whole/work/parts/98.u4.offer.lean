theorem wo' : ∀ s : Fin 256, ∀ p : Fin 8, (nI s.val &&& (((1 : Int32) <<< (nI p.val &&& 31)) ^^^ (-1))) = nI (if s.val.testBit p.val = true then s.val - 2 ^ p.val else s.val) := by decide +kernel
theorem wo {s p : Nat} (hs : s < 256) (hp : p < 8) : (nI s &&& (((1 : Int32) <<< (nI p &&& 31)) ^^^ (-1))) = nI (if s.testBit p = true then s - 2 ^ p else s) := wo' ⟨s, hs⟩ ⟨p, hp⟩
theorem ofr_le {H w : Nat → Nat} {M W s : Nat} (hH : ∀ x, H x ≤ M) (hw : ∀ p, w p ≤ W) (n : Nat) : ofr H w s n ≤ M + W := by
  rcases ofr_or H w s n with e | ⟨p, _, _, _, e⟩
  · rw [e]
    have := hH s
    omega
  · rw [e]
    have := hH (s - 2 ^ p)
    have := hw p
    omega
/-- how far a set has been offered to -/
def gS (H w : Nat → Nat) (all s p x : Nat) : Nat := if x = s then ofr H w s p else if s < x ∧ x ≤ all then ofr H w x 8 else H x
theorem bit_le {s p : Nat} (h : s.testBit p = true) : 2 ^ p ≤ s := by
  rcases Nat.lt_or_ge s (2 ^ p) with k | k
  · rw [Nat.testBit_lt_two_pow k] at h
    cases h
  · exact k
theorem of_18 {K : List (Nat × Nat)} {t0 : TH} {H w : Nat → Nat} {all s : Nat} (l0 : tN t0 14 0 = 256) (l1 : tN t0 14 1 = 8) (hw : ∀ p, p < 8 → tL t0 14 1 p = lN (w p)) (hH : ∀ x, H x ≤ 4000000000000) (hwl : ∀ p, w p ≤ 300000000000) (hs1 : 1 ≤ s) (hs2 : s < 256) (x1 : Int32) :
    ∀ (f p : Nat) (t : TH), p ≤ 8 → 8 < f + p → ET [] [] [(14, 0)] t0 t → (∀ x, x < 256 → tL t 14 0 x = lN (gS H w all s p x)) →
      ∃ t' x, C_Auction_offer_L18 f K t (nI p) (nI s) x1 = some (t', x) ∧ ET [] [] [(14, 0)] t0 t' ∧ ∀ x, x < 256 → tL t' 14 0 x = lN (gS H w all s 8 x) := by
  intro f
  induction f with
  | zero =>
    intro p t _ h
    exact absurd h (by omega)
  | succ f ih =>
    intro p t hp hf hT hx
    unfold C_Auction_offer_L18
    rw [hT.2.2.2, l1, l0]
    rcases Nat.lt_or_ge p 8 with k | k
    · have hwp : tL t 14 1 p = lN (w p) := by rw [hT.2.2.1 14 1 (by decide)]; exact hw p k
      have wl := hwl p
      have ol : ofr H w s p ≤ 4000000000000 + 300000000000 := ofr_le hH hwl p
      have same : (¬ (s.testBit p = true ∧ 0 < w p)) → ∃ t' x, C_Auction_offer_L18 f K t (nI (p + 1)) (nI s) x1 = some (t', x) ∧ ET [] [] [(14, 0)] t0 t' ∧ ∀ x, x < 256 → tL t' 14 0 x = lN (gS H w all s 8 x) := fun hn =>
        ih (p + 1) t (by omega) (by omega) hT (fun x hx' => by
          rw [hx x hx']
          unfold gS
          rw [show ofr H w s (p + 1) = ofr H w s p from by rw [ofr_s H w s p, if_neg hn]])
      rw [if_neg (nI_ge k (by omega)), nm_eq, wo hs2 k]
      simp only [nm_eq, nI_1]
      by_cases b : s.testBit p = true
      · rw [if_pos b]
        have pl := bit_le b
        have pp : 0 < 2 ^ p := Nat.two_pow_pos p
        rw [if_neg (fun z => by have := (nI_eq (show s - 2 ^ p < 2 ^ 31 by omega) (show s < 2 ^ 31 by omega)).mp z; omega), chkI_nI k (by omega), nI_nat (show p < 2 ^ 31 by omega), hwp]
        by_cases w0 : w p = 0
        · rw [if_pos ((lg_cmp_le _ _).mpr (by rw [w0]; exact (pk_lLE (a := 0) (b := 0) (by omega) (by omega)).mpr (Nat.le_refl 0)))]
          exact same (fun z => by have := z.2; omega)
        · rw [if_neg (fun z => by have := (pk_lLE (b := 0) (show w p < 2 ^ 63 by omega) (by omega)).mp ((lg_cmp_le _ _).mp z); omega)]
          have e1 : tL t 14 0 (s - 2 ^ p) = lN (H (s - 2 ^ p)) := by
            rw [hx _ (by omega)]
            unfold gS
            rw [if_neg (by omega), if_neg (fun z => by have := z.1; omega)]
          have e2 : tL t 14 0 s = lN (ofr H w s p) := by
            rw [hx _ hs2]
            unfold gS
            rw [if_pos rfl]
          have hh := hH (s - 2 ^ p)
          rw [chkI_nI hs2 (by omega), chkI_nI (show s - 2 ^ p < 256 by omega) (by omega), chkI_nI k (by omega), chkI_nI hs2 (by omega), nI_nat (show s < 2 ^ 31 by omega), nI_nat (show s - 2 ^ p < 2 ^ 31 by omega), e1, e2, lN_add]
          have ev : (if lN (H (s - 2 ^ p) + w p) < lN (ofr H w s p) then lN (ofr H w s p) else lN (H (s - 2 ^ p) + w p)) = lN (ofr H w s (p + 1)) := by
            have e3 := ofr_s H w s p
            rw [if_pos (show s.testBit p = true ∧ 0 < w p from ⟨b, by omega⟩)] at e3
            by_cases c : H (s - 2 ^ p) + w p < ofr H w s p
            · rw [if_pos c] at e3
              rw [e3, if_pos ((pk_lLT (by omega) (by omega)).mpr c)]
            · rw [if_neg c] at e3
              rw [e3, if_neg (fun z => c ((pk_lLT (by omega) (by omega)).mp z))]
          rw [ev]
          refine ih (p + 1) _ (by omega) (by omega) (ET_uL hT (by decide) _ _) (fun x hx' => ?_)
          by_cases y : x = s
          · rw [y, tL_e]
            unfold gS
            rw [if_pos rfl]
          · rw [tL_i _ _ _ _ _ y, hx x hx']
            unfold gS
            rw [if_neg y, if_neg y]
      · rw [if_neg b, if_pos rfl]
        exact same (fun z => b z.1)
    · have : p = 8 := by omega
      subst this
      rw [if_pos (show nI 8 ≤ nI 8 by decide)]
      exact ⟨t, _, rfl, hT, hx⟩
theorem of_12 {K : List (Nat × Nat)} {t0 : TH} {H w : Nat → Nat} {all : Nat} (l0 : tN t0 14 0 = 256) (l1 : tN t0 14 1 = 8) (hw : ∀ p, p < 8 → tL t0 14 1 p = lN (w p)) (hH : ∀ x, H x ≤ 4000000000000) (hwl : ∀ p, w p ≤ 300000000000) (hall : all < 256) (x1 : Int32) :
    ∀ (f s : Nat) (t : TH), s ≤ all → s < f → ET [] [] [(14, 0)] t0 t → (∀ x, x < 256 → tL t 14 0 x = lN (if s < x ∧ x ≤ all then ofr H w x 8 else H x)) →
      ∃ t' x, C_Auction_offer_L12 f K t (nI s) x1 = some (t', x) ∧ ET [] [] [(14, 0)] t0 t' ∧ ∀ x, x < 256 → tL t' 14 0 x = lN (if 0 < x ∧ x ≤ all then ofr H w x 8 else H x) := by
  intro f
  induction f with
  | zero =>
    intro s t _ h
    exact absurd h (by omega)
  | succ f ih =>
    intro s t hs hf hT hx
    unfold C_Auction_offer_L12
    rcases Nat.eq_zero_or_pos s with k | k
    · subst k
      rw [if_pos (show nI 0 ≤ 0 by decide)]
      exact ⟨t, _, rfl, hT, hx⟩
    · rw [if_neg (nI_nle k (by omega))]
      have hTr : tN t = tN t0 := hT.2.2.2
      have hTw : ∀ p, p < 8 → tL t 14 1 p = lN (w p) := fun p hp => by rw [hT.2.2.1 14 1 (by decide)]; exact hw p hp
      obtain ⟨t', x, e, hT', hx'⟩ := of_18 (K := K) (t0 := t) (all := all) (s := s) (by rw [hTr]; exact l0) (by rw [hTr]; exact l1) hTw hH hwl k (by omega) x1 100000 0 t (by omega) (by omega) (ET_rf _ _ _ _) (fun x hx' => by
        rw [hx x hx']
        unfold gS
        by_cases y : x = s
        · rw [if_pos y, y, if_neg (fun z => by have := z.1; omega)]
          rfl
        · rw [if_neg y])
      rw [show C_Auction_offer_L18 100000 K t 0 (nI s) x1 = some (t', x) from e, bnd_some, nm2_eq, nm_eq]
      obtain ⟨s, rfl⟩ : ∃ s', s = s' + 1 := ⟨s - 1, by omega⟩
      rw [pk_m1]
      refine ih s t' (by omega) (by omega) (ET_tr hT hT') (fun y hy => ?_)
      rw [hx' y hy]
      unfold gS
      by_cases z : y = s + 1
      · rw [if_pos z, if_pos ⟨by omega, by omega⟩, z]
      · rw [if_neg z]
        exact congrArg lN (ifc ⟨fun q => ⟨by omega, q.2⟩, fun q => ⟨by omega, q.2⟩⟩)
theorem of_eq {K : List (Nat × Nat)} {t : TH} {H w : Nat → Nat} {all : Nat} (l0 : tN t 14 0 = 256) (l1 : tN t 14 1 = 8) (hw : ∀ p, p < 8 → tL t 14 1 p = lN (w p)) (hH : ∀ x, H x ≤ 4000000000000) (hwl : ∀ p, w p ≤ 300000000000) (hall : all < 256) (hx : ∀ x, x < 256 → tL t 14 0 x = lN (H x)) :
    ∃ t', C_Auction_offer K t (nI all) = some t' ∧ ET [] [] [(14, 0)] t t' ∧ ∀ x, x < 256 → tL t' 14 0 x = lN (if 0 < x ∧ x ≤ all then ofr H w x 8 else H x) := by
  unfold C_Auction_offer
  rw [l0, show nI 256 - 1 = nI 255 from rfl, if_neg (nI_nlt (show all ≤ 255 by omega) (by omega)), nm_eq]
  obtain ⟨t', x, e, e1, e2⟩ := of_12 (K := K) l0 l1 hw hH hwl hall (nI all) 100000 all t (Nat.le_refl _) (by omega) (ET_rf _ _ _ _) (fun x hx' => by rw [hx x hx', if_neg (fun z => by omega)])
  rw [e, bnd_some, nm2_eq]
  exact ⟨t', rfl, e1, e2⟩
theorem se_19 {K : List (Nat × Nat)} {t0 : TH} (l0 : tN t0 14 0 = 256) (x1 : Int32) : ∀ (f s : Nat) (t : TH), s ≤ 256 → 256 < f + s → ET [] [] [(14, 0)] t0 t → (∀ x, x < s → tL t 14 0 x = lN 0) → ∃ t' x, C_Auction_settle_L19 f K t (nI s) x1 = some (t', x) ∧ ET [] [] [(14, 0)] t0 t' ∧ ∀ x, x < 256 → tL t' 14 0 x = lN 0 := by
  intro f
  induction f with
  | zero =>
    intro s t _ h
    exact absurd h (by omega)
  | succ f ih =>
    intro s t hs hf hT hx
    unfold C_Auction_settle_L19
    rw [hT.2.2.2, l0]
    rcases Nat.lt_or_ge s 256 with k | k
    · rw [if_neg (nI_ge k (by omega)), chkI_nI k (by omega), nm_eq, nm_eq, nI_nat (show s < 2 ^ 31 by omega), nI_1]
      refine ih (s + 1) _ (by omega) (by omega) (ET_uL hT (by decide) _ _) (fun x hx' => ?_)
      by_cases y : x = s
      · rw [y, tL_e]
        rfl
      · rw [tL_i _ _ _ _ _ y]
        exact hx x (by omega)
    · have : s = 256 := by omega
      subst this
      rw [if_pos (show nI 256 ≤ nI 256 by decide)]
      exact ⟨t, _, rfl, hT, hx⟩
theorem ofr_0 {H w : Nat → Nat} {s : Nat} : ∀ n, (∀ p, p < n → w p = 0) → ofr H w s n = H s := by
  intro n
  induction n with
  | zero => intro _; rfl
  | succ n ih =>
    intro h
    rw [ofr_s, if_neg (fun z => by have := z.2; have := h n (by omega); omega)]
    exact ih (fun p hp => h p (by omega))
theorem WW_le {w : Nat → Nat → Nat} (hwl : ∀ p q, w p q ≤ 300000000000) (m : Nat → Nat) : WW w m ≤ 8 * 300000000000 := smN_le 8 (fun p _ => by
  show (if m p < 64 then w p (m p) else 0) ≤ 300000000000
  split
  · exact hwl _ _
  · omega)
theorem se_43 {K : List (Nat × Nat)} {t0 : TH} {n : Nat} {kn : Nat → Nat} {Q Bd : Nat → Nat → Nat} {all : Nat} (h0 : CV K t0 n kn Q Bd) (hall : all < 256) :
    ∀ (f q : Nat) (t : TH) (H : Nat → Nat), q ≤ 64 → 64 < f + q → ET [] [] [(14, 0), (14, 1)] t0 t → DPI (wgt n kn Q Bd) q H all → (∀ x, all < x → H x = 0) → (∀ x, x < 256 → tL t 14 0 x = lN (H x)) →
      ∃ t' x H', C_Auction_settle_L43 f K t (nI q) (nI all) = some (t', x) ∧ ET [] [] [(14, 0), (14, 1)] t0 t' ∧ DPI (wgt n kn Q Bd) 64 H' all ∧ ∀ x, x < 256 → tL t' 14 0 x = lN (H' x) := by
  intro f
  induction f with
  | zero =>
    intro q t H _ h
    exact absurd h (by omega)
  | succ f ih =>
    intro q t H hq hf hT hD hz hx
    unfold C_Auction_settle_L43
    rcases Nat.lt_or_ge q 64 with k | k
    · rw [if_neg (show ¬ (64 : Int32) ≤ nI q from fun z => by have := (nI_leI (a := 64) (by omega) (by omega)).mp z; omega)]
      have h := CV_E h0 (ET_mono hT (by decide) (by decide) (by decide))
      obtain ⟨t1, a, e1, T1, a0, w1⟩ := we_eq h k
      rw [e1, bnd2_some]
      have hH : ∀ x, H x ≤ 4000000000000 := fun x => by
        rcases Nat.lt_or_ge all x with y | y
        · rw [hz x y]
          omega
        · obtain ⟨m, _, e⟩ := (hD x y).1
          rw [← e]
          have := WW_le (wgt_le h0) m
          omega
      have T01 : ET [] [] [(14, 0), (14, 1)] t0 t1 := ET_tr hT (ET_mono T1 (by decide) (by decide) (by decide))
      have hx1 : ∀ x, x < 256 → tL t1 14 0 x = lN (H x) := fun x hx' => by rw [T1.2.2.1 14 0 (by decide)]; exact hx x hx'
      have D1 := dp_step k hall hD
      simp only [nm_eq, nI_1]
      by_cases az : a = 0
      · rw [if_pos az]
        refine ih (q + 1) t1 H (by omega) (by omega) T01 (fun s hs => ?_) hz hx1
        have := D1 s hs
        simp only [ofr_0 (H := H) (w := fun p => wgt n kn Q Bd p q) (s := s) 8 (a0 az)] at this
        exact this
      · rw [if_neg az]
        have h1 := CV_E h (ET_mono T1 (by decide) (by decide) (by decide))
        obtain ⟨t2, e2, T2, x2⟩ := of_eq (K := K) (t := t1) (H := H) (w := fun p => wgt n kn Q Bd p q) h1.2.2.2.1 h1.2.2.2.2.1 w1 hH (fun p => wgt_le h0 p q) hall hx1
        rw [e2, bnd_some]
        refine ih (q + 1) t2 (fun x => if 0 < x ∧ x ≤ all then ofr H (fun p => wgt n kn Q Bd p q) x 8 else H x) (by omega) (by omega) (ET_tr T01 (ET_mono T2 (by decide) (by decide) (by decide))) (fun s hs => ?_) (fun x hx' => ?_) x2
        · have := D1 s hs
          rcases Nat.eq_zero_or_pos s with y | y
          · subst y
            have e0 : ofr H (fun p => wgt n kn Q Bd p q) 0 8 = H 0 := by
              rcases ofr_or H (fun p => wgt n kn Q Bd p q) 0 8 with e | ⟨p, _, e, _⟩
              · exact e
              · rw [Nat.zero_testBit] at e
                cases e
            simp only [e0] at this
            simpa using this
          · simp only [y, hs, and_self, if_true]
            exact this
        · show (if 0 < x ∧ x ≤ all then ofr H (fun p => wgt n kn Q Bd p q) x 8 else H x) = 0
          rw [if_neg (fun z => by omega)]
          exact hz x hx'
    · have : q = 64 := by omega
      subst this
      rw [if_pos (show (64 : Int32) ≤ nI 64 by decide)]
      exact ⟨t, _, H, rfl, hT, hD, hx⟩
