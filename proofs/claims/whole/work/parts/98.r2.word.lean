def FL (σ σ' : St) : Prop := (∀ x, x ∉ [4, 26, 28] → σ'.1 x = σ.1 x) ∧ ∀ x, x ≠ 33 → σ'.2 x = σ.2 x
theorem FL_rf (σ : St) : FL σ σ := ⟨fun _ _ => rfl, fun _ _ => rfl⟩
theorem FL_tr {σ σ' σ'' : St} (h : FL σ σ') (h' : FL σ' σ'') : FL σ σ'' := ⟨fun x hx => (h'.1 x hx).trans (h.1 x hx), fun x hx => (h'.2 x hx).trans (h.2 x hx)⟩
theorem FL_s1 {σ σ' : St} (h : FL σ σ') {k : Nat} (hk : k ∈ [4, 26, 28]) (i : Nat) (v : Int32) : FL σ (s1 σ' k i v) := ⟨fun x hx => by
  rw [s1_oth _ _ _ _ (fun z => hx (by rw [z]; exact hk))]
  exact h.1 x hx, fun x hx => by rw [x12]; exact h.2 x hx⟩
theorem FL_s2 {σ σ' : St} (h : FL σ σ') (i : Nat) (v : Int64) : FL σ (s2 σ' 33 i v) := ⟨fun x hx => by rw [x21]; exact h.1 x hx, fun x hx => by rw [s2_o _ _ _ _ hx]; exact h.2 x hx⟩
theorem FL_4 {σ σ' : St} (h : Fx [4] σ σ') : FL σ σ' := ⟨fun x hx => h.1 x (fun z => hx ((by decide : ∀ y, y ∈ [4] → y ∈ [4, 26, 28]) x z)), fun x _ => by rw [h.2]⟩
def aln (b : Nat) : Prop := isL b ∨ isD b
def mi (n k : Nat) : Nat := if n < k then n else k
/-- where the reference stands in a word or number -/
def WM (σ0 σ : St) (B : Nat → Nat) (P0 n : Nat) (sm x3 : Int32) : Prop := FL σ0 σ ∧ σ.1 4 0 = nI (P0 + n) ∧ σ.2 33 0 = lN (pk8 B P0 (mi n 7)) ∧ σ.1 28 0 = nuI B P0 (mi n 3) ∧ ((x3 = 1 ∧ ((sm = 1 ∧ cnL B P0 n = n) ∨ (sm = 0 ∧ cnL B P0 n = 0))) ∨ (x3 = 0 ∧ ((sm = 1 ∧ cnL B P0 n ≠ n) ∨ (sm = 0 ∧ cnL B P0 n ≠ 0))))
theorem not_LD {b : Nat} : ¬ (isL b ∧ isD b) := fun h => by
  have := h.1.1
  have := h.2.2
  omega
theorem wl_M {t : TH} {σ0 : St} {z : Nat} {B : Nat → Nat} (h0 : TB t σ0 z B) {P0 : Nat} {sm : Int32} (x1 : Int32) :
    ∀ (f n : Nat) (σ : St) (x3 : Int32), P0 + n ≤ z → z < f + (P0 + n) → WM σ0 σ B P0 n sm x3 → (∀ j, j < n → aln (B (P0 + j))) →
      ∃ σ' len x3', M_next_L114 f σ (nI n) x3 sm x1 = some (σ', nI len, x3') ∧ WM σ0 σ' B P0 len sm x3' ∧ n ≤ len ∧ P0 + len ≤ z ∧ (∀ j, j < len → aln (B (P0 + j))) ∧ (P0 + len < z → ¬ aln (B (P0 + len))) := by
  have hz := h0.1
  have hB : ∀ j, j < z → B j < 256 := fun j hj => (h0.2.2.2.2 j (by omega)).2.2
  intro f
  induction f with
  | zero =>
    intro n σ x3 _ hf
    exact absurd hf (by omega)
  | succ f ih =>
    intro n σ x3 hP hf hW hA
    obtain ⟨w1, w2, w3, w4, w5⟩ := hW
    have h : TB t σ z B := TB_E h0 (ET_rf [] [] [] t) (w1.1 3 (by decide)) (w1.1 1 (by decide))
    have pk := at_M h (show P0 + n ≤ 200 by omega) w2
    unfold M_next_L114
    rw [pk, bnd_some]
    by_cases lt : P0 + n < z
    · have eb : pkv z B (P0 + n) = nI (B (P0 + n)) := if_pos lt
      have b256 := hB (P0 + n) lt
      rw [eb] at pk ⊢
      have body : ∀ (lf : Int32), M_isSmall (nI (B (P0 + n))) = some lf → (lf = 1 ∧ isL (B (P0 + n))) ∨ (lf = 0 ∧ ¬ isL (B (P0 + n))) → aln (B (P0 + n)) →
          ∃ σ' len x3', bnd (M_next_B134 σ (nI n) x3 sm x1) (fun v75 => bnd (M_next_B155 σ v75 (nI n) sm x1) (fun σ76 => bnd (M_next_B179 σ76 v75 (nI n) sm x1) (fun σ77 => nm (nI n + 1) (fun v78 => nm (s1 σ77 4 0 ((σ77.1 4 0) + 1)) (fun σ79 => M_next_L114 f σ79 v78 v75 sm x1))))) = some (σ', nI len, x3') ∧ WM σ0 σ' B P0 len sm x3' ∧ n ≤ len ∧ P0 + len ≤ z ∧ (∀ j, j < len → aln (B (P0 + j))) ∧ (P0 + len < z → ¬ aln (B (P0 + len))) := fun lf e1 e2 al => by
        obtain ⟨v, hv⟩ : ∃ v : Int32, v = if x3 = 0 then 0 else if lf = sm then 1 else 0 := ⟨_, rfl⟩
        have eB1 : M_next_B134 σ (nI n) x3 sm x1 = some v := by
          unfold M_next_B134
          rw [pk, bnd_some, e1, bnd_some, hv]
          by_cases a : x3 = 0
          · rw [if_pos a, if_pos a]
          · rw [if_neg a, if_neg a]
            split <;> rfl
        -- the word
        obtain ⟨σa, ea, fa, wa, na, pa, ta⟩ : ∃ σa, M_next_B155 σ v (nI n) sm x1 = some σa ∧ FL σ0 σa ∧ σa.2 33 0 = lN (pk8 B P0 (mi (n + 1) 7)) ∧ σa.1 28 0 = nuI B P0 (mi n 3) ∧ σa.1 4 0 = nI (P0 + n) ∧ TB t σa z B := by
          unfold M_next_B155
          by_cases c : n < 7
          · rw [if_neg (show ¬ (7 : Int32) ≤ nI n from fun q => by have := (nI_leI (a := 7) (by omega) (by omega)).mp q; omega), pk, bnd_some, nm_eq, w3, show mi n 7 = n from if_pos c]
            have pl : pk8 B P0 n < 256 ^ 6 := Nat.lt_of_lt_of_le (pk8_lt n (fun i hi => hB _ (by omega))) (Nat.pow_le_pow_right (by omega) (by omega))
            rw [shl8 pl b256]
            refine ⟨_, rfl, FL_s2 w1 _ _, ?_, by rw [x21]; exact w4, by rw [x21]; exact w2, TB_E h (ET_rf [] [] [] t) (by rw [x21]) (by rw [x21])⟩
            have em : mi (n + 1) 7 = n + 1 := by unfold mi; split <;> omega
            rw [s2_e, em, pk8_s]
          · rw [if_pos (show (7 : Int32) ≤ nI n from (nI_leI (a := 7) (by omega) (by omega)).mpr (by omega))]
            refine ⟨σ, rfl, w1, ?_, w4, w2, h⟩
            rw [w3, show mi n 7 = 7 from if_neg (by omega), show mi (n + 1) 7 = 7 from if_neg (by omega)]
        have pk2 := at_M ta (show P0 + n ≤ 200 by omega) pa
        rw [eb] at pk2
        obtain ⟨σb, ebb, fb, wb, nb, pb⟩ : ∃ σb, M_next_B179 σa v (nI n) sm x1 = some σb ∧ FL σ0 σb ∧ σb.2 33 0 = lN (pk8 B P0 (mi (n + 1) 7)) ∧ σb.1 28 0 = nuI B P0 (mi (n + 1) 3) ∧ σb.1 4 0 = nI (P0 + n) := by
          unfold M_next_B179
          by_cases c : n < 3
          · rw [if_neg (show ¬ (3 : Int32) ≤ nI n from fun q => by have := (nI_leI (a := 3) (by omega) (by omega)).mp q; omega), pk2, bnd_some, nm_eq, na, show mi n 3 = n from if_pos c]
            have em : mi (n + 1) 3 = n + 1 := by unfold mi; split <;> omega
            refine ⟨_, rfl, FL_s1 fa (by decide) _ _, by rw [x12]; exact wa, ?_, by rw [s1_oth _ _ _ _ (by decide)]; exact pa⟩
            rw [s1_e, em, nuI_s]
          · rw [if_pos (show (3 : Int32) ≤ nI n from (nI_leI (a := 3) (by omega) (by omega)).mpr (by omega))]
            refine ⟨σa, rfl, fa, wa, ?_, pa⟩
            rw [na, show mi n 3 = 3 from if_neg (by omega), show mi (n + 1) 3 = 3 from if_neg (by omega)]
        rw [eB1, bnd_some, ea, bnd_some, ebb, bnd_some, nm_eq, nm_eq, pb, nI_1, nI_1]
        have cs := cnL_s B P0 n
        have cl := cnL_le B P0 n
        obtain ⟨σ', len, x3', r1, r2, r3, r4, r5, r6⟩ := ih (n + 1) (s1 σb 4 0 (nI (P0 + n + 1))) v (by omega) (by omega) ⟨FL_s1 fb (by decide) _ _, by rw [s1_e]; rfl, by rw [x12]; exact wb, by rw [s1_oth _ _ _ _ (by decide)]; exact nb, by
          rw [hv]
          rcases e2 with ⟨rfl, il⟩ | ⟨rfl, il⟩
          · rw [if_pos (show 97 ≤ B (P0 + n) ∧ B (P0 + n) ≤ 122 from il)] at cs
            rcases w5 with ⟨rfl, q⟩ | ⟨rfl, q⟩
            · rw [if_neg (show ¬ (1 : Int32) = 0 by decide)]
              rcases q with ⟨rfl, q⟩ | ⟨rfl, q⟩
              · rw [if_pos rfl]
                exact Or.inl ⟨rfl, Or.inl ⟨rfl, by omega⟩⟩
              · rw [if_neg (show ¬ (1 : Int32) = 0 by decide)]
                exact Or.inr ⟨rfl, Or.inr ⟨rfl, by omega⟩⟩
            · rw [if_pos rfl]
              rcases q with ⟨rfl, q⟩ | ⟨rfl, q⟩
              · exact Or.inr ⟨rfl, Or.inl ⟨rfl, by omega⟩⟩
              · exact Or.inr ⟨rfl, Or.inr ⟨rfl, by omega⟩⟩
          · rw [if_neg (show ¬ (97 ≤ B (P0 + n) ∧ B (P0 + n) ≤ 122) from il)] at cs
            rcases w5 with ⟨rfl, q⟩ | ⟨rfl, q⟩
            · rw [if_neg (show ¬ (1 : Int32) = 0 by decide)]
              rcases q with ⟨rfl, q⟩ | ⟨rfl, q⟩
              · rw [if_neg (show ¬ (0 : Int32) = 1 by decide)]
                exact Or.inr ⟨rfl, Or.inl ⟨rfl, by omega⟩⟩
              · rw [if_pos rfl]
                exact Or.inl ⟨rfl, Or.inr ⟨rfl, by omega⟩⟩
            · rw [if_pos rfl]
              rcases q with ⟨rfl, q⟩ | ⟨rfl, q⟩
              · exact Or.inr ⟨rfl, Or.inl ⟨rfl, by omega⟩⟩
              · exact Or.inr ⟨rfl, Or.inr ⟨rfl, by omega⟩⟩⟩ (fun j hj => by
          rcases Nat.lt_or_ge j n with y | y
          · exact hA j y
          · rw [show j = n by omega]
            exact al)
        exact ⟨σ', len, x3', r1, r2, by omega, r4, r5, r6⟩
      rcases let_n b256 with ⟨e1, il⟩ | ⟨e1, il⟩
      · rw [e1, bnd_some, if_neg (show ¬ (1 : Int32) = 0 by decide)]
        exact body 1 e1 (Or.inl ⟨rfl, il⟩) (Or.inl il)
      · rw [e1, bnd_some, if_pos rfl, bnd_some]
        rcases dig_n b256 with ⟨e2, id⟩ | ⟨e2, id⟩
        · rw [e2, bnd_some, if_neg (show ¬ (1 : Int32) = 0 by decide)]
          exact body 0 e1 (Or.inr ⟨rfl, il⟩) (Or.inr id)
        · rw [e2, bnd_some, if_pos rfl]
          exact ⟨σ, n, x3, rfl, ⟨w1, w2, w3, w4, w5⟩, Nat.le_refl _, hP, hA, fun _ q => q.elim il id⟩
    · have eb : pkv z B (P0 + n) = -1 := if_neg lt
      rw [eb, show M_isSmall (-1) = some 0 from by decide, bnd_some, if_pos rfl, bnd_some, show M_isDigit (-1) = some 0 from by decide, bnd_some, if_pos rfl]
      exact ⟨σ, n, x3, rfl, ⟨w1, w2, w3, w4, w5⟩, Nat.le_refl _, hP, hA, fun q => absurd q lt⟩
theorem wl_C {K : List (Nat × Nat)} {t0 : TH} {σ : St} {z : Nat} {B : Nat → Nat} (h0 : TB t0 σ z B) {P0 : Nat} :
    ∀ (f n : Nat) (t : TH), P0 + n ≤ z → z < f + (P0 + n) → ET [(5, 3)] [] [] t0 t → tS t 5 3 0 = nI (P0 + n) → (∀ j, j < n → aln (B (P0 + j))) →
      ∃ t' len, C_Reader_wordOrNumber_L4 f K t (nI (n - cnL B P0 n)) (nI (cnL B P0 n)) = some (t', nI (len - cnL B P0 len), nI (cnL B P0 len)) ∧ ET [(5, 3)] [] [] t0 t' ∧ tS t' 5 3 0 = nI (P0 + len) ∧ n ≤ len ∧ P0 + len ≤ z ∧ (∀ j, j < len → aln (B (P0 + j))) ∧ (P0 + len < z → ¬ aln (B (P0 + len))) := by
  have hz := h0.1
  have hB : ∀ j, j < z → B j < 256 := fun j hj => (h0.2.2.2.2 j (by omega)).2.2
  intro f
  induction f with
  | zero =>
    intro n t _ hf
    exact absurd hf (by omega)
  | succ f ih =>
    intro n t hP hf hT e3 hA
    have h : TB t σ z B := TB_E h0 hT rfl rfl
    have cs := cnL_s B P0 n
    have cl := cnL_le B P0 n
    unfold C_Reader_wordOrNumber_L4
    rw [h.2.1, e3]
    by_cases lt : P0 + n < z
    · have b256 := hB (P0 + n) lt
      rw [if_neg (nI_ge lt (by omega)), at_C h (by omega), show pkv z B (P0 + n) = nI (B (P0 + n)) from if_pos lt]
      simp only [bnd_some, C_let, C_dig, nm_eq, nI_1]
      have nxt' := fun (al : aln (B (P0 + n))) => ih (n + 1) (uS t 5 3 0 (nI (P0 + n + 1))) (by omega) (by omega) (ET_uS hT (by decide) _ _) (tS_e _ _ _ _ _) (fun j hj => by
        rcases Nat.lt_or_ge j n with y | y
        · exact hA j y
        · rw [show j = n by omega]
          exact al)
      rcases let_n b256 with ⟨e1, il⟩ | ⟨e1, il⟩
      · rcases dig_n b256 with ⟨e2, id⟩ | ⟨e2, id⟩
        · exact absurd ⟨il, id⟩ not_LD
        · rw [e1, bnd_some, if_neg (show ¬ (1 : Int32) = 0 by decide), e2, bnd_some, if_pos rfl]
          obtain ⟨t', len, r1, r2, r3, r4, r5, r6, r7⟩ := nxt' (Or.inl il)
          rw [if_pos (show 97 ≤ B (P0 + n) ∧ B (P0 + n) ≤ 122 from il)] at cs
          rw [cs, show n + 1 - (cnL B P0 n + 1) = n - cnL B P0 n by omega] at r1
          exact ⟨t', len, r1, r2, r3, by omega, r5, r6, r7⟩
      · rcases dig_n b256 with ⟨e2, id⟩ | ⟨e2, id⟩
        · rw [e1, bnd_some, if_pos rfl, e2, bnd_some, if_neg (show ¬ (1 : Int32) = 0 by decide), bnd_some, if_neg (show ¬ (1 : Int32) = 0 by decide)]
          obtain ⟨t', len, r1, r2, r3, r4, r5, r6, r7⟩ := nxt' (Or.inr id)
          rw [if_neg (show ¬ (97 ≤ B (P0 + n) ∧ B (P0 + n) ≤ 122) from il)] at cs
          rw [cs, show n + 1 - (cnL B P0 n + 0) = n - cnL B P0 n + 1 by omega, Nat.add_zero] at r1
          exact ⟨t', len, r1, r2, r3, by omega, r5, r6, r7⟩
        · rw [e1, bnd_some, if_pos rfl, e2, bnd_some, if_pos rfl]
          exact ⟨t, n, rfl, hT, e3, Nat.le_refl _, hP, hA, fun _ q => q.elim il id⟩
    · rw [if_pos (nI_le (by omega) (by omega))]
      exact ⟨t, n, rfl, hT, e3, Nat.le_refl _, hP, hA, fun q => absurd q lt⟩
theorem wl_uni {z P0 a b : Nat} {B : Nat → Nat} (a2 : P0 + a ≤ z) (a3 : ∀ j, j < a → aln (B (P0 + j))) (a4 : P0 + a < z → ¬ aln (B (P0 + a))) (b2 : P0 + b ≤ z) (b3 : ∀ j, j < b → aln (B (P0 + j))) (b4 : P0 + b < z → ¬ aln (B (P0 + b))) : a = b := by
  rcases Nat.lt_trichotomy a b with k | k | k
  · exact absurd (b3 a k) (a4 (by omega))
  · exact k
  · exact absurd (a3 b k) (b4 (by omega))
