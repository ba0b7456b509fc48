def Sl : List (Nat × Nat) := [(5, 2), (5, 3), (5, 4), (5, 5), (5, 6), (5, 7), (5, 8), (4, 0), (4, 1), (4, 2), (4, 3), (4, 4), (4, 5)]
def LC (t t' : TH) : Prop := ET Sl [] [] t t' ∧ ∀ f, tS t' 4 f 0 = tS t 4 f 0
def LM (σ σ' : St) : Prop := (∀ x, x ∉ [4, 24, 25, 26, 27, 28, 29, 30] → σ'.1 x = σ.1 x) ∧ ∀ x, x ≠ 33 → σ'.2 x = σ.2 x
theorem LC_tr {t t' t'' : TH} (h : LC t t') (h' : LC t' t'') : LC t t'' := ⟨ET_tr h.1 h'.1, fun f => (h'.2 f).trans (h.2 f)⟩
theorem LC_rf (t : TH) : LC t t := ⟨ET_rf _ _ _ _, fun _ => rfl⟩
theorem LC_5 {t t' : TH} (h : LC t t') {f : Nat} (hf : (5, f) ∈ Sl) (v : Int32) : LC t (uS t' 5 f 0 v) := ⟨ET_uS h.1 hf _ _, fun g => by rw [tS_c _ _ _ _ _ (by decide)]; exact h.2 g⟩
theorem LC_4 {t t' : TH} (h : LC t t') {f : Nat} (hf : (4, f) ∈ Sl) (v : Int32) : LC t (uS t' 4 f 1 v) := ⟨ET_uS h.1 hf _ _, fun g => by rw [tS_uS, if_neg (fun z => absurd z.2.2 (by decide))]; exact h.2 g⟩
theorem LC_n {t t' : TH} (h : ET [(5, 3), (5, 4), (5, 5)] [] [] t t') : LC t t' := ⟨ET_mono h (by decide) (by decide) (by decide), fun f => by rw [h.1 4 f (nin (by decide) f)]⟩
theorem LM_rf (σ : St) : LM σ σ := ⟨fun _ _ => rfl, fun _ _ => rfl⟩
theorem LM_tr {σ σ' σ'' : St} (h : LM σ σ') (h' : LM σ' σ'') : LM σ σ'' := ⟨fun x hx => (h'.1 x hx).trans (h.1 x hx), fun x hx => (h'.2 x hx).trans (h.2 x hx)⟩
theorem LM_s1 {σ σ' : St} (h : LM σ σ') {k : Nat} (hk : k ∈ [4, 24, 25, 26, 27, 28, 29, 30]) (i : Nat) (v : Int32) : LM σ (s1 σ' k i v) := ⟨fun x hx => by
  rw [s1_oth _ _ _ _ (fun z => hx (by rw [z]; exact hk))]
  exact h.1 x hx, fun x hx => by rw [x12]; exact h.2 x hx⟩
theorem LM_N {σ σ' : St} (h : FN σ σ') : LM σ σ' := ⟨fun x hx => h.1 x (fun z => hx ((by decide : ∀ y, y ∈ [4, 26, 27, 28] → y ∈ [4, 24, 25, 26, 27, 28, 29, 30]) x z)), h.2⟩
theorem LM_T {σ σ' : St} (h : FT σ σ') : LM σ σ' := ⟨fun x hx => h.1 x (fun z => hx ((by decide : ∀ y, y ∈ [29, 30] → y ∈ [4, 24, 25, 26, 27, 28, 29, 30]) x z)), fun x _ => by rw [h.2]⟩
theorem TB_L {t t' : TH} {σ σ' : St} {z : Nat} {B : Nat → Nat} (h : TB t σ z B) (hC : LC t t') (hM : LM σ σ') : TB t' σ' z B := TB_E h hC.1 (hM.1 3 (by decide)) (hM.1 1 (by decide))
theorem DR_L {t t' : TH} {σ σ' : St} {n W : Nat} (h : DR t σ n W) (e4 : ∀ f, tS t' 4 f 1 = tS t 4 f 1) (e58 : tS t' 5 8 0 = tS t 5 8 0) (s24 : σ'.1 24 = σ.1 24) (s25 : σ'.1 25 = σ.1 25) : DR t' σ' n W := by
  unfold DR at *
  rw [e4, e4, e4, e4, e4, e4, e58, s24, s25]
  exact h
theorem bit5' : ∀ W : Fin 32, ∀ r : Fin 5, (((((nI W.val).toUInt32 >>> ((nI r.val).toUInt32 &&& Int32.toUInt32 31)).toInt32) &&& 1) = if W.val.testBit r.val then 1 else 0) ∧ (nI W.val ||| ((1 : Int32) <<< (nI r.val &&& 31))) = nI (W.val ||| 2 ^ r.val) ∧ (W.val ||| 2 ^ r.val) < 32 := by decide +kernel
theorem bit5 {W r : Nat} (hW : W < 32) (hr : r < 5) : (((((nI W).toUInt32 >>> ((nI r).toUInt32 &&& Int32.toUInt32 31)).toInt32) &&& 1) = if W.testBit r then 1 else 0) ∧ (nI W ||| ((1 : Int32) <<< (nI r &&& 31))) = nI (W ||| 2 ^ r) ∧ (W ||| 2 ^ r) < 32 := bit5' ⟨W, hW⟩ ⟨r, hr⟩
/-- how a text ends, on both sides: with a fault, or with all its rules -/
def EndF (t : TH) (σ : St) (c : Option (Nat × TH × Int32 × Int32)) (m : Option (Nat × St × Int32 × Int32)) : Prop := ∃ t' σ' x y v, c = some (0, t', x, v) ∧ m = some (0, σ', y, v) ∧ LC t t' ∧ LM σ σ' ∧ tS t' 5 2 0 = σ'.1 29 0 ∧ tS t' 5 2 0 ≠ 0
def EndK (t : TH) (σ : St) (c : Option (Nat × TH × Int32 × Int32)) (m : Option (Nat × St × Int32 × Int32)) : Prop := ∃ t' σ' x n W, c = some (1, t', x, 0) ∧ m = some (1, σ', nI n, 0) ∧ LC t t' ∧ LM σ σ' ∧ tS t' 5 2 0 = 0 ∧ σ'.1 29 0 = σ.1 29 0 ∧ DR t' σ' n W
theorem st_C {K : List (Nat × Nat)} {t t1 : TH} {f i : Nat} {z tk0 : Nat} (hz : tS t 9 1 0 = nI z) (z200 : z ≤ 200) (hi : i ≤ z) (e5 : tS t 5 5 0 = nI tk0) (h3 : tk0 ≤ 3) (eN : C_Reader_nextToken K t = some t1) {v : Int32} {t2 : TH} (eT : C_Reader_takeToken K t1 = some (v, t2)) : C_Reader_read_L34 (f + 1) K t (nI i) = if v = 0 then C_Reader_read_L34 f K (uS t2 5 2 0 v) (nI (i + 1)) else some (0, uS t2 5 2 0 v, nI i, (-1) - tS (uS t2 5 2 0 v) 5 4 0) := by
  have e0 : C_Reader_read_L34 (f + 1) K t (nI i) = (if (tS t 9 1 0) < nI i then some (1, t, nI i, 0) else if (tS t 5 5 0) = 4 then some (1, t, nI i, 0) else bnd (C_Reader_nextToken K t) (fun t17 => bnd2 (C_Reader_takeToken K t17) (fun v19 t18 => nm (uS t18 5 2 0 v19) (fun t20 => if (tS t20 5 2 0) = 0 then nm (nI i + 1) (fun v22 => C_Reader_read_L34 f K t20 v22) else some (0, t20, nI i, ((-1) - (tS t20 5 4 0))))))) := rfl
  rw [e0, hz, if_neg (nI_nlt hi (by omega)), e5, if_neg (show ¬ nI tk0 = 4 from fun y => by have := (nI_eq (b := 4) (by omega) (by omega)).mp y; omega), eN, bnd_some, eT, bnd2_some, nm_eq, tS_e, nm_eq, nI_1]
