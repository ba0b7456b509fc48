def upA (ad : AD) (c n q : Nat) : AD := fun c' => if c' = c then va_up (ad c) n q else ad c'
theorem upA_self {ad : AD} {c n q : Nat} : upA ad c n q c n = q := by simp [upA, va_up]
theorem upA_ni {ad : AD} {c n q i : Nat} (h : ¬ i = n) : upA ad c n q c i = ad c i := by simp [upA, va_up, h]
theorem upA_nc {ad : AD} {c n q c' : Nat} (h : ¬ c' = c) : upA ad c n q c' = ad c' := by simp [upA, h]
theorem upA_ne {ad : AD} {c n q : Nat} {k : Nat × Nat} (h : ¬ k = (c, n)) : upA ad c n q k.1 k.2 = ad k.1 k.2 := by
  by_cases hc : k.1 = c
  · rw [hc]; exact upA_ni (fun z => h (Prod.ext hc z))
  · rw [upA_nc hc]
theorem re_up {g g' : Nat → Nat} {o : Option Nat} {n : Nat} (h : o ≠ some n) (hg : ∀ i, ¬ i = n → g' i = g i) : va_re g' o = va_re g o := by
  cases o with
  | none => rfl
  | some i => show Value.ref (g' i) = Value.ref (g i); rw [hg i (fun z => h (by rw [z]))]
theorem map_up {g g' : Nat → Nat} {o : Option Nat} {n : Nat} (h : o ≠ some n) (hg : ∀ i, ¬ i = n → g' i = g i) : o.map g' = o.map g := by
  cases o with
  | none => rfl
  | some i => show some (g' i) = some (g i); rw [hg i (fun z => h (by rw [z]))]
/-- a new address is seen by nobody, where nobody refers to its number -/
theorem ad_1 {cs : Nat → ClassId} {ad : AD} {t : TH} {n q c i : Nat} (h : ∀ j e, tP t 16 j e ≠ some n) : cellC cs (upA ad 1 n q) t c i = cellC cs ad t c i := by
  unfold cellC
  split
  all_goals first | rfl | skip
  simp only [map_up (h i _) (fun m hm => upA_ni (ad := ad) (q := q) hm)]
theorem ad_10 {cs : Nat → ClassId} {ad : AD} {t : TH} {n q c i : Nat} (h1 : ∀ j, tP t 1 5 j ≠ some n) (h2 : ∀ j, tP t 10 3 j ≠ some n) : cellC cs (upA ad 10 n q) t c i = cellC cs ad t c i := by
  unfold cellC
  split
  all_goals first | rfl | skip
  · simp only [fC1, re_up (h1 i) (fun m hm => upA_ni (ad := ad) (q := q) hm)]; rfl
  · simp only [fC10, re_up (h2 i) (fun m hm => upA_ni (ad := ad) (q := q) hm)]
theorem ad_7 {cs : Nat → ClassId} {ad : AD} {t : TH} {n q c i : Nat} (h1 : ∀ j, tP t 1 1 j ≠ some n) (h2 : ∀ j e, tP t 15 j e ≠ some n) : cellC cs (upA ad 7 n q) t c i = cellC cs ad t c i := by
  unfold cellC
  split
  all_goals first | rfl | skip
  · simp only [fC1, re_up (h1 i) (fun m hm => upA_ni (ad := ad) (q := q) hm)]; rfl
  · simp only [map_up (h2 i _) (fun m hm => upA_ni (ad := ad) (q := q) hm)]
theorem ad_17 {cs : Nat → ClassId} {ad : AD} {t : TH} {n q c i : Nat} (h : c = 7 → ¬ i = n) : cellC cs (upA ad 17 n q) t c i = cellC cs ad t c i := by
  unfold cellC
  split
  all_goals first | rfl | skip
  simp only [fC7, upA_ni (ad := ad) (c := 17) (q := q) (h rfl)]; rfl
theorem ad_18 {cs : Nat → ClassId} {ad : AD} {t : TH} {n q c i : Nat} (h : c = 7 → ¬ i = n) : cellC cs (upA ad 18 n q) t c i = cellC cs ad t c i := by
  unfold cellC
  split
  all_goals first | rfl | skip
  simp only [fC7, upA_ni (ad := ad) (c := 18) (q := q) (h rfl)]; rfl
/-- the world with one object more -/
theorem wC_new {cs : Nat → ClassId} {ad ad' : AD} {K : List (Nat × Nat)} {t t' : TH} {c n q : Nat} {e : va_E} (h0 : ad' c n = q) (hcell : cellC cs ad' t' c n = e) (ha : ∀ k ∈ K, ad' k.1 k.2 = ad k.1 k.2) (ho : ∀ k ∈ K, cellC cs ad' t' k.1 k.2 = cellC cs ad t k.1 k.2) : (q, e) :: wC cs ad K t = wC cs ad' ((c, n) :: K) t' := by
  show (q, e) :: K.map _ = (ad' c n, cellC cs ad' t' c n) :: K.map _
  rw [h0, hcell]
  congr 1
  exact List.map_congr_left (fun k hk => by rw [ha k hk, ho k hk])
abbrev AL : Type := AD × List (Nat × Nat) × TH
def wA (cs : Nat → ClassId) (σ : AL) : va_W := wC cs σ.1 σ.2.1 σ.2.2
def extA (ad ad' : AD) (K : List (Nat × Nat)) : Prop := ∀ k ∈ K, ad' k.1 k.2 = ad k.1 k.2
theorem extA_rf (ad : AD) (K : List (Nat × Nat)) : extA ad ad K := fun _ _ => rfl
theorem KS_cons {K : List (Nat × Nat)} {c n : Nat} (h : KS K) (hc : ¬ c = 7) : KS ((c, n) :: K) := ⟨fun k hk => List.mem_cons_of_mem _ (h.1 k hk), fun j hj => by
  rcases List.mem_cons.mp hj with q | q
  · cases q; exact absurd rfl hc
  · exact ⟨List.mem_cons_of_mem _ (h.2 j q).1, List.mem_cons_of_mem _ (h.2 j q).2⟩⟩
section AR
variable {S : Type} {Ev : EvT} {s : State} {D : va_G} {tys : List (ClassId × FieldType)} {A : Nat → Prop} {H : Heap} {locs : List Loc} {x : Nat × va_E} {ws : va_W}
theorem GX_tail (h : GW Ev D tys idw A s (x :: ws) H locs) : GW Ev D tys idw A s ws H locs := by
  have h1 : GW Ev D tys idw A s (ws ++ [x]) H locs := GX_comm (a := [x]) (b := ws) h
  exact ⟨h1.1, va_P_left h1.2.1, va_D_left h1.2.2.1, h1.2.2.2⟩
end AR
/-- what a new claim, a new witness is -/
def mkClaim (t : TH) (n : Nat) (number : Int32) (by_ : Nat) (quarter day late : Int32) : TH := uS (uS (uS (uS (uP (uS (uS (uS (uP (uS t 1 0 n number) 1 1 n (some by_)) 1 2 n quarter) 1 3 n day) 1 4 n late) 1 5 n none) 1 6 n 0) 1 7 n 0) 1 8 n 9999) 1 9 n 0
def mkWitness (t : TH) (n : Nat) (day from_ to_ : Int32) (earlier : Option Nat) : TH := uP (uS (uS (uS t 10 0 n day) 10 1 n from_) 10 2 n to_) 10 3 n earlier
theorem mkClaim_o {cs : Nat → ClassId} {ad : AD} {t : TH} {n : Nat} {a : Int32} {b : Nat} {c d e : Int32} : ∀ c' i', ¬ (c' = 1 ∧ i' = n) → cellC cs ad (mkClaim t n a b c d e) c' i' = cellC cs ad t c' i' := fun c' i' h => by
  unfold mkClaim
  rw [ho_S (by decide) c' i' h, ho_S (by decide) c' i' h, ho_S (by decide) c' i' h, ho_S (by decide) c' i' h, ho_P (by decide) c' i' h, ho_S (by decide) c' i' h, ho_S (by decide) c' i' h, ho_S (by decide) c' i' h, ho_P (by decide) c' i' h, ho_S (by decide) c' i' h]
theorem mkWitness_o {cs : Nat → ClassId} {ad : AD} {t : TH} {n : Nat} {a b c : Int32} {d : Option Nat} : ∀ c' i', ¬ (c' = 10 ∧ i' = n) → cellC cs ad (mkWitness t n a b c d) c' i' = cellC cs ad t c' i' := fun c' i' h => by
  unfold mkWitness
  rw [ho_P (by decide) c' i' h, ho_S (by decide) c' i' h, ho_S (by decide) c' i' h, ho_S (by decide) c' i' h]
theorem mkClaim_c {cs : Nat → ClassId} {ad : AD} {t : TH} {n : Nat} {a : Int32} {b : Nat} {c d e : Int32} : cellC cs ad (mkClaim t n a b c d e) 1 n = .inr (1, [.int a, .ref (ad 7 b), .int c, .int d, .int e, .null, .int 0, .int 0, .int 9999, .int 0]) := by
  show Sum.inr (1, _) = _
  simp [fC1, mkClaim, uS, uP, tS, tL, tP, up3, va_up, va_re, va_rf]
theorem mkWitness_c {cs : Nat → ClassId} {ad : AD} {t : TH} {n : Nat} {a b c : Int32} {d : Option Nat} : cellC cs ad (mkWitness t n a b c d) 10 n = .inr (10, [.int a, .int b, .int c, va_re (ad 10) d]) := by
  show Sum.inr (10, _) = _
  simp [fC10, mkWitness, uS, uP, tS, tL, tP, up3, va_up]
theorem mkClaim_P {t : TH} {n : Nat} {a : Int32} {b : Nat} {c d e : Int32} {c' : Nat} (h : ¬ c' = 1) : tP (mkClaim t n a b c d e) c' = tP t c' := by
  simp [mkClaim, uS, uP, tP, up3, h]
theorem mkWitness_P {t : TH} {n : Nat} {a b c : Int32} {d : Option Nat} {c' : Nat} (h : ¬ c' = 10) : tP (mkWitness t n a b c d) c' = tP t c' := by
  simp [mkWitness, uS, uP, tP, up3, h]
theorem fold_claim {Ev : EvT} {s : State} {D : va_G} {tys : List (ClassId × FieldType)} {A : Nat → Prop} {H : Heap} {locs : List Loc} {cs : Nat → ClassId} {ad : AD} {K : List (Nat × Nat)} {t : TH} {n q : Nat} {a : Int32} {b : Nat} {c d e : Int32} (hK : (1, n) ∉ K) (hf : ∀ j e, tP t 16 j e ≠ some n) (h : GW Ev D tys idw A s ((q, .inr (1, [.int a, .ref (ad 7 b), .int c, .int d, .int e, .null, .int 0, .int 0, .int 9999, .int 0])) :: wC cs ad K t) H locs) : GW Ev D tys (wC cs (upA ad 1 n q) ((1, n) :: K)) A s (mkClaim t n a b c d e) H locs := by
  have e1 := wC_new (cs := cs) (ad := ad) (ad' := upA ad 1 n q) (K := K) (t := t) (t' := mkClaim t n a b c d e) (c := 1) (n := n) (q := q) upA_self mkClaim_c (fun k hk => upA_ne (fun z => hK (z ▸ hk))) (fun k hk => by
    rw [mkClaim_o k.1 k.2 (fun z => hK (by rw [← z.1, ← z.2]; exact hk)), ad_1 hf])
  have h2 : GW Ev D tys idw A s (wC cs (upA ad 1 n q) ((1, n) :: K) (mkClaim t n a b c d e)) H locs := by rw [← e1]; exact h
  exact h2
theorem fold_witness {Ev : EvT} {s : State} {D : va_G} {tys : List (ClassId × FieldType)} {A : Nat → Prop} {H : Heap} {locs : List Loc} {cs : Nat → ClassId} {ad : AD} {K : List (Nat × Nat)} {t : TH} {n q : Nat} {a b c : Int32} {d : Option Nat} (hK : (10, n) ∉ K) (hf1 : ∀ j, tP t 1 5 j ≠ some n) (hf2 : ∀ j, tP t 10 3 j ≠ some n) (hd : d ≠ some n) (h : GW Ev D tys idw A s ((q, .inr (10, [.int a, .int b, .int c, va_re (ad 10) d])) :: wC cs ad K t) H locs) : GW Ev D tys (wC cs (upA ad 10 n q) ((10, n) :: K)) A s (mkWitness t n a b c d) H locs := by
  have e1 := wC_new (cs := cs) (ad := ad) (ad' := upA ad 10 n q) (K := K) (t := t) (t' := mkWitness t n a b c d) (c := 10) (n := n) (q := q) upA_self (mkWitness_c.trans (by rw [re_up (g := ad 10) hd (fun m hm => upA_ni hm)])) (fun k hk => upA_ne (fun z => hK (z ▸ hk))) (fun k hk => by
    rw [mkWitness_o k.1 k.2 (fun z => hK (by rw [← z.1, ← z.2]; exact hk)), ad_10 hf1 hf2])
  have h2 : GW Ev D tys idw A s (wC cs (upA ad 10 n q) ((10, n) :: K) (mkWitness t n a b c d)) H locs := by rw [← e1]; exact h
  exact h2
abbrev rm_N_X1_init : Room := { frames := 1, cells := 0, slots := 0, locals := 14 }
set_option maxHeartbeats 8000000 in
set_option maxRecDepth 100000 in
theorem c_N_X1_init {Ev : EvT} (l : Launch) (D : va_G) (cs : Nat → ClassId) (h : Nat) (x1 : Int32) (a2 : Nat) (x3 : Int32) (x4 : Int32) (x5 : Int32)   : cGv Ev l D (tyM cs) idw yX1_init wsX1_init rm_N_X1_init 0 0 [.ref h, .int x1, .ref a2, .int x3, .int x4, .int x5] [(h, .inr (1, [.int 0, .null, .int 0, .int 0, .int 0, .null, .int 0, .int 0, .int 0, .int 0]))] (fun u => u = [(h, .inr (1, [.int x1, .ref a2, .int x3, .int x4, .int x5, .null, .int (0), .int (0), .int (9999), .int (0)]))]) := by
  refine G_inv (cc := cX1_init) (maxL := 6) (ret := none) (by decide) rfl (Nat.le_of_ble_eq_true rfl) ?_
  intro p e s m below meth c A ls C hr hlk hini hA hW hl
  have C : Cx p s m _ c cX1_init 6 wsX1_init RX1 := C
  have hl : lv_has ls 6 [(0, .ref h), (1, .int x1), (2, .ref a2), (3, .int x3), (4, .int x4), (5, .int x5)] := hl
  have hin1 : ∀ w ∈ wsX10, w ∈ wsX1_init := fun w hw => List.mem_cons_of_mem _ (List.mem_append_right _ hw)
  have f1_0 : (Cond.fieldLink RX1 28 (TX1 0).1 (TX1 0).2.1 (TX1 0).2.2.1).before _ s = true := C.2.2.2.2 _ (List.mem_of_getElem? (i := 9) rfl)
  have f1_1 : (Cond.fieldLink RX1 31 (TX1 1).1 (TX1 1).2.1 (TX1 1).2.2.1).before _ s = true := C.2.2.2.2 _ (List.mem_of_getElem? (i := 10) rfl)
  have f1_2 : (Cond.fieldLink RX1 35 (TX1 2).1 (TX1 2).2.1 (TX1 2).2.2.1).before _ s = true := C.2.2.2.2 _ (List.mem_of_getElem? (i := 11) rfl)
  have f1_3 : (Cond.fieldLink RX1 38 (TX1 3).1 (TX1 3).2.1 (TX1 3).2.2.1).before _ s = true := C.2.2.2.2 _ (List.mem_of_getElem? (i := 12) rfl)
  have f1_4 : (Cond.fieldLink RX1 41 (TX1 4).1 (TX1 4).2.1 (TX1 4).2.2.1).before _ s = true := C.2.2.2.2 _ (List.mem_of_getElem? (i := 13) rfl)
  have f1_5 : (Cond.fieldLink RX1 9 (TX1 5).1 (TX1 5).2.1 (TX1 5).2.2.1).before _ s = true := C.2.2.2.2 _ (List.mem_of_getElem? (i := 4) rfl)
  have f1_6 : (Cond.fieldLink RX1 15 (TX1 6).1 (TX1 6).2.1 (TX1 6).2.2.1).before _ s = true := C.2.2.2.2 _ (List.mem_of_getElem? (i := 5) rfl)
  have f1_7 : (Cond.fieldLink RX1 19 (TX1 7).1 (TX1 7).2.1 (TX1 7).2.2.1).before _ s = true := C.2.2.2.2 _ (List.mem_of_getElem? (i := 6) rfl)
  have f1_8 : (Cond.fieldLink RX1 22 (TX1 8).1 (TX1 8).2.1 (TX1 8).2.2.1).before _ s = true := C.2.2.2.2 _ (List.mem_of_getElem? (i := 7) rfl)
  have f1_9 : (Cond.fieldLink RX1 25 (TX1 9).1 (TX1 9).2.1 (TX1 9).2.2.1).before _ s = true := C.2.2.2.2 _ (List.mem_of_getElem? (i := 8) rfl)
  obtain ⟨H, hH⟩ : ∃ H, H = s.heap := ⟨_, rfl⟩
  obtain ⟨locs, hlo⟩ : ∃ z : List Loc, z = [] := ⟨_, rfl⟩
  have hW : GW Ev D (tyM cs) idw A s [(h, .inr (1, [.int 0, .null, .int 0, .int 0, .int 0, .null, .int 0, .int 0, .int 0, .int 0]))] H locs := by rw [hH, hlo]; exact hW
  rw [show W p l e rm_N_X1_init s m _ below meth c s.heap [] = W p l e rm_N_X1_init s m _ below meth c H locs from by rw [hH, hlo]]
  refine lv_aload_n C.1 C.2.1 dX1_init_0 rfl (lv_at hl 0 rfl) ?_
  refine W.objInit C.1 C.2.1 C.2.2.2.1 (C.2.2.2.2 _ (List.mem_of_getElem? (i := 1) rfl)) (C.2.2.2.2 _ (List.mem_of_getElem? (i := 2) rfl)) (C.2.2.2.2 _ (List.mem_of_getElem? (i := 3) rfl)) rfl (hl.1.trans C.2.2.1.symm) rfl dX1_init_1 (Nat.le_of_ble_eq_true rfl) (Nat.le_of_ble_eq_true rfl) ?_
  refine W.eq (g2 := F0 m 4 ls []) rfl ?_
  refine lv_aload_n C.1 C.2.1 dX1_init_4 rfl (lv_at hl 0 rfl) ?_
  refine lv_null C.1 C.2.1 dX1_init_5 ?_
  refine X_put C hW 0 1 rfl hin1 tyX1 tyX1_ok nmX1 rfl 5 (by decide) rfl rfl rfl  (Nat.le_of_ble_eq_true rfl) f1_5 dX1_init_6 (fun H locs hW => ?_)
  have hW : GW Ev D (tyM cs) idw A s [(h, .inr (1, [.int 0, .null, .int 0, .int 0, .int 0, .null, .int 0, .int 0, .int 0, .int 0]))] H locs := hW
  refine lv_aload_n C.1 C.2.1 dX1_init_9 rfl (lv_at hl 0 rfl) ?_
  refine lv_iconst (v := 0) C.1 C.2.1 dX1_init_10 (by decide) ?_
  refine X_put C hW 0 1 rfl hin1 tyX1 tyX1_ok nmX1 rfl 6 (by decide) rfl rfl rfl  (Nat.le_of_ble_eq_true rfl) f1_6 dX1_init_11 (fun H locs hW => ?_)
  have hW : GW Ev D (tyM cs) idw A s [(h, .inr (1, [.int 0, .null, .int 0, .int 0, .int 0, .null, .int (0), .int 0, .int 0, .int 0]))] H locs := hW
  refine lv_aload_n C.1 C.2.1 dX1_init_14 rfl (lv_at hl 0 rfl) ?_
  refine lv_iconst (v := 0) C.1 C.2.1 dX1_init_15 (by decide) ?_
  refine X_put C hW 0 1 rfl hin1 tyX1 tyX1_ok nmX1 rfl 7 (by decide) rfl rfl rfl  (Nat.le_of_ble_eq_true rfl) f1_7 dX1_init_16 (fun H locs hW => ?_)
  have hW : GW Ev D (tyM cs) idw A s [(h, .inr (1, [.int 0, .null, .int 0, .int 0, .int 0, .null, .int (0), .int (0), .int 0, .int 0]))] H locs := hW
  refine lv_aload_n C.1 C.2.1 dX1_init_19 rfl (lv_at hl 0 rfl) ?_
  refine lv_sipush (v := 9999) C.1 C.2.1 dX1_init_20 (by decide) ?_
  refine X_put C hW 0 1 rfl hin1 tyX1 tyX1_ok nmX1 rfl 8 (by decide) rfl rfl rfl  (Nat.le_of_ble_eq_true rfl) f1_8 dX1_init_23 (fun H locs hW => ?_)
  have hW : GW Ev D (tyM cs) idw A s [(h, .inr (1, [.int 0, .null, .int 0, .int 0, .int 0, .null, .int (0), .int (0), .int (9999), .int 0]))] H locs := hW
  refine lv_aload_n C.1 C.2.1 dX1_init_26 rfl (lv_at hl 0 rfl) ?_
  refine lv_iconst (v := 0) C.1 C.2.1 dX1_init_27 (by decide) ?_
  refine X_put C hW 0 1 rfl hin1 tyX1 tyX1_ok nmX1 rfl 9 (by decide) rfl rfl rfl  (Nat.le_of_ble_eq_true rfl) f1_9 dX1_init_28 (fun H locs hW => ?_)
  have hW : GW Ev D (tyM cs) idw A s [(h, .inr (1, [.int 0, .null, .int 0, .int 0, .int 0, .null, .int (0), .int (0), .int (9999), .int (0)]))] H locs := hW
  refine lv_aload_n C.1 C.2.1 dX1_init_31 rfl (lv_at hl 0 rfl) ?_
  refine lv_iload_n C.1 C.2.1 dX1_init_32 rfl (lv_at hl 1 rfl) ?_
  refine X_putF C (hini rfl) hW 0 1 rfl hin1 tyX1 tyX1_ok nmX1 rfl 0 (by decide) rfl rfl rfl rfl  (Nat.le_of_ble_eq_true rfl) f1_0 dX1_init_33 (fun H locs hW => ?_)
  have hW : GW Ev D (tyM cs) idw A s [(h, .inr (1, [.int x1, .null, .int 0, .int 0, .int 0, .null, .int (0), .int (0), .int (9999), .int (0)]))] H locs := hW
  refine lv_aload_n C.1 C.2.1 dX1_init_36 rfl (lv_at hl 0 rfl) ?_
  refine lv_aload_n C.1 C.2.1 dX1_init_37 rfl (lv_at hl 2 rfl) ?_
  refine X_putF C (hini rfl) hW 0 1 rfl hin1 tyX1 tyX1_ok nmX1 rfl 1 (by decide) rfl rfl rfl rfl  (Nat.le_of_ble_eq_true rfl) f1_1 dX1_init_38 (fun H locs hW => ?_)
  have hW : GW Ev D (tyM cs) idw A s [(h, .inr (1, [.int x1, .ref a2, .int 0, .int 0, .int 0, .null, .int (0), .int (0), .int (9999), .int (0)]))] H locs := hW
  refine lv_aload_n C.1 C.2.1 dX1_init_41 rfl (lv_at hl 0 rfl) ?_
  refine lv_iload_n C.1 C.2.1 dX1_init_42 rfl (lv_at hl 3 rfl) ?_
  refine X_putF C (hini rfl) hW 0 1 rfl hin1 tyX1 tyX1_ok nmX1 rfl 2 (by decide) rfl rfl rfl rfl  (Nat.le_of_ble_eq_true rfl) f1_2 dX1_init_43 (fun H locs hW => ?_)
  have hW : GW Ev D (tyM cs) idw A s [(h, .inr (1, [.int x1, .ref a2, .int x3, .int 0, .int 0, .null, .int (0), .int (0), .int (9999), .int (0)]))] H locs := hW
  refine lv_aload_n C.1 C.2.1 dX1_init_46 rfl (lv_at hl 0 rfl) ?_
  refine lv_iload C.1 C.2.1 dX1_init_47 (lv_at hl 4 rfl) ?_
  refine X_putF C (hini rfl) hW 0 1 rfl hin1 tyX1 tyX1_ok nmX1 rfl 3 (by decide) rfl rfl rfl rfl  (Nat.le_of_ble_eq_true rfl) f1_3 dX1_init_49 (fun H locs hW => ?_)
  have hW : GW Ev D (tyM cs) idw A s [(h, .inr (1, [.int x1, .ref a2, .int x3, .int x4, .int 0, .null, .int (0), .int (0), .int (9999), .int (0)]))] H locs := hW
  refine lv_aload_n C.1 C.2.1 dX1_init_52 rfl (lv_at hl 0 rfl) ?_
  refine lv_iload C.1 C.2.1 dX1_init_53 (lv_at hl 5 rfl) ?_
  refine X_putF C (hini rfl) hW 0 1 rfl hin1 tyX1 tyX1_ok nmX1 rfl 4 (by decide) rfl rfl rfl rfl  (Nat.le_of_ble_eq_true rfl) f1_4 dX1_init_55 (fun H locs hW => ?_)
  have hW : GW Ev D (tyM cs) idw A s [(h, .inr (1, [.int x1, .ref a2, .int x3, .int x4, .int x5, .null, .int (0), .int (0), .int (9999), .int (0)]))] H locs := hW
  exact G_retv C hr hlk hA hW rfl dX1_init_58
abbrev rm_N_X10_init_r : Room := { frames := 1, cells := 0, slots := 0, locals := 14 }
set_option maxHeartbeats 8000000 in
set_option maxRecDepth 100000 in
theorem c_N_X10_init_r {Ev : EvT} (l : Launch) (D : va_G) (cs : Nat → ClassId) (h : Nat) (x1 : Int32) (x2 : Int32) (x3 : Int32) (a4 : Nat)   : cGv Ev l D (tyM cs) idw yX10_init wsX10_init rm_N_X10_init_r 0 0 [.ref h, .int x1, .int x2, .int x3, .ref a4] [(h, .inr (10, [.int 0, .int 0, .int 0, .null]))] (fun u => u = [(h, .inr (10, [.int x1, .int x2, .int x3, .ref a4]))]) := by
  refine G_inv (cc := cX10_init) (maxL := 5) (ret := none) (by decide) rfl (Nat.le_of_ble_eq_true rfl) ?_
  intro p e s m below meth c A ls C hr hlk hini hA hW hl
  have C : Cx p s m _ c cX10_init 5 wsX10_init RX10 := C
  have hl : lv_has ls 5 [(0, .ref h), (1, .int x1), (2, .int x2), (3, .int x3), (4, .ref a4)] := hl
  have hin10 : ∀ w ∈ wsX100, w ∈ wsX10_init := fun w hw => List.mem_cons_of_mem _ (List.mem_append_right _ hw)
  have f10_0 : (Cond.fieldLink RX10 7 (TX10 0).1 (TX10 0).2.1 (TX10 0).2.2.1).before _ s = true := C.2.2.2.2 _ (List.mem_of_getElem? (i := 4) rfl)
  have f10_1 : (Cond.fieldLink RX10 13 (TX10 1).1 (TX10 1).2.1 (TX10 1).2.2.1).before _ s = true := C.2.2.2.2 _ (List.mem_of_getElem? (i := 5) rfl)
  have f10_2 : (Cond.fieldLink RX10 16 (TX10 2).1 (TX10 2).2.1 (TX10 2).2.2.1).before _ s = true := C.2.2.2.2 _ (List.mem_of_getElem? (i := 6) rfl)
  have f10_3 : (Cond.fieldLink RX10 19 (TX10 3).1 (TX10 3).2.1 (TX10 3).2.2.1).before _ s = true := C.2.2.2.2 _ (List.mem_of_getElem? (i := 7) rfl)
  obtain ⟨H, hH⟩ : ∃ H, H = s.heap := ⟨_, rfl⟩
  obtain ⟨locs, hlo⟩ : ∃ z : List Loc, z = [] := ⟨_, rfl⟩
  have hW : GW Ev D (tyM cs) idw A s [(h, .inr (10, [.int 0, .int 0, .int 0, .null]))] H locs := by rw [hH, hlo]; exact hW
  rw [show W p l e rm_N_X10_init_r s m _ below meth c s.heap [] = W p l e rm_N_X10_init_r s m _ below meth c H locs from by rw [hH, hlo]]
  refine lv_aload_n C.1 C.2.1 dX10_init_0 rfl (lv_at hl 0 rfl) ?_
  refine W.objInit C.1 C.2.1 C.2.2.2.1 (C.2.2.2.2 _ (List.mem_of_getElem? (i := 1) rfl)) (C.2.2.2.2 _ (List.mem_of_getElem? (i := 2) rfl)) (C.2.2.2.2 _ (List.mem_of_getElem? (i := 3) rfl)) rfl (hl.1.trans C.2.2.1.symm) rfl dX10_init_1 (Nat.le_of_ble_eq_true rfl) (Nat.le_of_ble_eq_true rfl) ?_
  refine W.eq (g2 := F0 m 4 ls []) rfl ?_
  refine lv_aload_n C.1 C.2.1 dX10_init_4 rfl (lv_at hl 0 rfl) ?_
  refine lv_iload_n C.1 C.2.1 dX10_init_5 rfl (lv_at hl 1 rfl) ?_
  refine X_putF C (hini rfl) hW 0 10 rfl hin10 tyX10 tyX10_ok nmX10 rfl 0 (by decide) rfl rfl rfl rfl  (Nat.le_of_ble_eq_true rfl) f10_0 dX10_init_6 (fun H locs hW => ?_)
  have hW : GW Ev D (tyM cs) idw A s [(h, .inr (10, [.int x1, .int 0, .int 0, .null]))] H locs := hW
  refine lv_aload_n C.1 C.2.1 dX10_init_9 rfl (lv_at hl 0 rfl) ?_
  refine lv_iload_n C.1 C.2.1 dX10_init_10 rfl (lv_at hl 2 rfl) ?_
  refine X_putF C (hini rfl) hW 0 10 rfl hin10 tyX10 tyX10_ok nmX10 rfl 1 (by decide) rfl rfl rfl rfl  (Nat.le_of_ble_eq_true rfl) f10_1 dX10_init_11 (fun H locs hW => ?_)
  have hW : GW Ev D (tyM cs) idw A s [(h, .inr (10, [.int x1, .int x2, .int 0, .null]))] H locs := hW
  refine lv_aload_n C.1 C.2.1 dX10_init_14 rfl (lv_at hl 0 rfl) ?_
  refine lv_iload_n C.1 C.2.1 dX10_init_15 rfl (lv_at hl 3 rfl) ?_
  refine X_putF C (hini rfl) hW 0 10 rfl hin10 tyX10 tyX10_ok nmX10 rfl 2 (by decide) rfl rfl rfl rfl  (Nat.le_of_ble_eq_true rfl) f10_2 dX10_init_16 (fun H locs hW => ?_)
  have hW : GW Ev D (tyM cs) idw A s [(h, .inr (10, [.int x1, .int x2, .int x3, .null]))] H locs := hW
  refine lv_aload_n C.1 C.2.1 dX10_init_19 rfl (lv_at hl 0 rfl) ?_
  refine lv_aload C.1 C.2.1 dX10_init_20 (lv_at hl 4 rfl) ?_
  refine X_putF C (hini rfl) hW 0 10 rfl hin10 tyX10 tyX10_ok nmX10 rfl 3 (by decide) rfl rfl rfl rfl  (Nat.le_of_ble_eq_true rfl) f10_3 dX10_init_22 (fun H locs hW => ?_)
  have hW : GW Ev D (tyM cs) idw A s [(h, .inr (10, [.int x1, .int x2, .int x3, .ref a4]))] H locs := hW
  exact G_retv C hr hlk hA hW rfl dX10_init_25
abbrev rm_N_X10_init_n : Room := { frames := 1, cells := 0, slots := 0, locals := 14 }
set_option maxHeartbeats 8000000 in
set_option maxRecDepth 100000 in
theorem c_N_X10_init_n {Ev : EvT} (l : Launch) (D : va_G) (cs : Nat → ClassId) (h : Nat) (x1 : Int32) (x2 : Int32) (x3 : Int32)   : cGv Ev l D (tyM cs) idw yX10_init wsX10_init rm_N_X10_init_n 0 0 [.ref h, .int x1, .int x2, .int x3, .null] [(h, .inr (10, [.int 0, .int 0, .int 0, .null]))] (fun u => u = [(h, .inr (10, [.int x1, .int x2, .int x3, .null]))]) := by
  refine G_inv (cc := cX10_init) (maxL := 5) (ret := none) (by decide) rfl (Nat.le_of_ble_eq_true rfl) ?_
  intro p e s m below meth c A ls C hr hlk hini hA hW hl
  have C : Cx p s m _ c cX10_init 5 wsX10_init RX10 := C
  have hl : lv_has ls 5 [(0, .ref h), (1, .int x1), (2, .int x2), (3, .int x3), (4, .null)] := hl
  have hin10 : ∀ w ∈ wsX100, w ∈ wsX10_init := fun w hw => List.mem_cons_of_mem _ (List.mem_append_right _ hw)
  have f10_0 : (Cond.fieldLink RX10 7 (TX10 0).1 (TX10 0).2.1 (TX10 0).2.2.1).before _ s = true := C.2.2.2.2 _ (List.mem_of_getElem? (i := 4) rfl)
  have f10_1 : (Cond.fieldLink RX10 13 (TX10 1).1 (TX10 1).2.1 (TX10 1).2.2.1).before _ s = true := C.2.2.2.2 _ (List.mem_of_getElem? (i := 5) rfl)
  have f10_2 : (Cond.fieldLink RX10 16 (TX10 2).1 (TX10 2).2.1 (TX10 2).2.2.1).before _ s = true := C.2.2.2.2 _ (List.mem_of_getElem? (i := 6) rfl)
  have f10_3 : (Cond.fieldLink RX10 19 (TX10 3).1 (TX10 3).2.1 (TX10 3).2.2.1).before _ s = true := C.2.2.2.2 _ (List.mem_of_getElem? (i := 7) rfl)
  obtain ⟨H, hH⟩ : ∃ H, H = s.heap := ⟨_, rfl⟩
  obtain ⟨locs, hlo⟩ : ∃ z : List Loc, z = [] := ⟨_, rfl⟩
  have hW : GW Ev D (tyM cs) idw A s [(h, .inr (10, [.int 0, .int 0, .int 0, .null]))] H locs := by rw [hH, hlo]; exact hW
  rw [show W p l e rm_N_X10_init_n s m _ below meth c s.heap [] = W p l e rm_N_X10_init_n s m _ below meth c H locs from by rw [hH, hlo]]
  refine lv_aload_n C.1 C.2.1 dX10_init_0 rfl (lv_at hl 0 rfl) ?_
  refine W.objInit C.1 C.2.1 C.2.2.2.1 (C.2.2.2.2 _ (List.mem_of_getElem? (i := 1) rfl)) (C.2.2.2.2 _ (List.mem_of_getElem? (i := 2) rfl)) (C.2.2.2.2 _ (List.mem_of_getElem? (i := 3) rfl)) rfl (hl.1.trans C.2.2.1.symm) rfl dX10_init_1 (Nat.le_of_ble_eq_true rfl) (Nat.le_of_ble_eq_true rfl) ?_
  refine W.eq (g2 := F0 m 4 ls []) rfl ?_
  refine lv_aload_n C.1 C.2.1 dX10_init_4 rfl (lv_at hl 0 rfl) ?_
  refine lv_iload_n C.1 C.2.1 dX10_init_5 rfl (lv_at hl 1 rfl) ?_
  refine X_putF C (hini rfl) hW 0 10 rfl hin10 tyX10 tyX10_ok nmX10 rfl 0 (by decide) rfl rfl rfl rfl  (Nat.le_of_ble_eq_true rfl) f10_0 dX10_init_6 (fun H locs hW => ?_)
  have hW : GW Ev D (tyM cs) idw A s [(h, .inr (10, [.int x1, .int 0, .int 0, .null]))] H locs := hW
  refine lv_aload_n C.1 C.2.1 dX10_init_9 rfl (lv_at hl 0 rfl) ?_
  refine lv_iload_n C.1 C.2.1 dX10_init_10 rfl (lv_at hl 2 rfl) ?_
  refine X_putF C (hini rfl) hW 0 10 rfl hin10 tyX10 tyX10_ok nmX10 rfl 1 (by decide) rfl rfl rfl rfl  (Nat.le_of_ble_eq_true rfl) f10_1 dX10_init_11 (fun H locs hW => ?_)
  have hW : GW Ev D (tyM cs) idw A s [(h, .inr (10, [.int x1, .int x2, .int 0, .null]))] H locs := hW
  refine lv_aload_n C.1 C.2.1 dX10_init_14 rfl (lv_at hl 0 rfl) ?_
  refine lv_iload_n C.1 C.2.1 dX10_init_15 rfl (lv_at hl 3 rfl) ?_
  refine X_putF C (hini rfl) hW 0 10 rfl hin10 tyX10 tyX10_ok nmX10 rfl 2 (by decide) rfl rfl rfl rfl  (Nat.le_of_ble_eq_true rfl) f10_2 dX10_init_16 (fun H locs hW => ?_)
  have hW : GW Ev D (tyM cs) idw A s [(h, .inr (10, [.int x1, .int x2, .int x3, .null]))] H locs := hW
  refine lv_aload_n C.1 C.2.1 dX10_init_19 rfl (lv_at hl 0 rfl) ?_
  refine lv_aloadN C.1 C.2.1 dX10_init_20 (lv_at hl 4 rfl) ?_
  refine X_putF C (hini rfl) hW 0 10 rfl hin10 tyX10 tyX10_ok nmX10 rfl 3 (by decide) rfl rfl rfl rfl  (Nat.le_of_ble_eq_true rfl) f10_3 dX10_init_22 (fun H locs hW => ?_)
  have hW : GW Ev D (tyM cs) idw A s [(h, .inr (10, [.int x1, .int x2, .int x3, .null]))] H locs := hW
  exact G_retv C hr hlk hA hW rfl dX10_init_25
