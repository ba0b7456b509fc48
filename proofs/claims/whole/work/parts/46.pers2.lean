def uRow (t : TH) (c j : Nat) (f : Nat → Int32) (n : Nat) : TH := (fun c' => if c' = c then va_up (tS t c) j f else tS t c', t.2.1, t.2.2.1, fun c' => if c' = c then va_up (tN t c) j n else tN t c')
theorem hr_row {cs : Nat → ClassId} {ad : AD} {t : TH} {c j n : Nat} {f : Nat → Int32} (hc : 13 ≤ c) : ∀ c' i', ¬ (c' = c ∧ i' = j) → cellC cs ad (uRow t c j f n) c' i' = cellC cs ad t c' i' := fun c' i' h => by
  by_cases q : c' = c
  · subst q
    exact cell_r hc (by show (if c' = c' then va_up (tS t c') j f else tS t c') i' = _; rw [if_pos rfl, va_up_ne _ _ (fun z => h ⟨rfl, z⟩)]) rfl rfl (by show (if c' = c' then va_up (tN t c') j n else tN t c') i' = _; rw [if_pos rfl, va_up_ne _ _ (fun z => h ⟨rfl, z⟩)])
  · exact cell_c (by show (if c' = c then va_up (tS t c) j f else tS t c') = _; rw [if_neg q]) rfl rfl (by show (if c' = c then va_up (tN t c) j n else tN t c') = _; rw [if_neg q])
def mkPers0 (t : TH) (n : Nat) (x2 x3 x4 rw cl : Int32) : TH := uS (uS (uL (uS (uS (uS (uS (uS (uS (uS (uS (uS (uS t 7 0 n (-1)) 7 1 n x2) 7 2 n x3) 7 3 n x4) 7 6 n rw) 7 7 n cl) 7 8 n (-1)) 7 9 n 0) 7 10 n (-1)) 7 11 n (-1)) 7 12 n 0) 7 13 n (-1)) 7 14 n (-1)
def mkPers (t : TH) (n : Nat) (x2 x3 x4 rw cl : Int32) (kn : Nat) (kf : Nat → Int32) : TH := uRow (uRow (mkPers0 t n x2 x3 x4 rw cl) 17 n kf kn) 18 n (fun _ => 0) kn
theorem mkPers0_o {cs : Nat → ClassId} {ad : AD} {t : TH} {n : Nat} {a b c d e : Int32} : ∀ c' i', ¬ (c' = 7 ∧ i' = n) → cellC cs ad (mkPers0 t n a b c d e) c' i' = cellC cs ad t c' i' := fun c' i' h => by
  unfold mkPers0
  rw [ho_S (by decide) c' i' h, ho_S (by decide) c' i' h, ho_L (by decide) c' i' h, ho_S (by decide) c' i' h, ho_S (by decide) c' i' h, ho_S (by decide) c' i' h, ho_S (by decide) c' i' h, ho_S (by decide) c' i' h, ho_S (by decide) c' i' h, ho_S (by decide) c' i' h, ho_S (by decide) c' i' h, ho_S (by decide) c' i' h, ho_S (by decide) c' i' h]
abbrev ad3 (ad : AD) (n q7 q17 q18 : Nat) : AD := upA (upA (upA ad 7 n q7) 17 n q17) 18 n q18
abbrev K3 (K : List (Nat × Nat)) (n : Nat) : List (Nat × Nat) := (18, n) :: (17, n) :: (7, n) :: K
theorem KS_3 {K : List (Nat × Nat)} {n : Nat} (h : KS K) : KS (K3 K n) := ⟨fun k hk => List.mem_cons_of_mem _ (List.mem_cons_of_mem _ (List.mem_cons_of_mem _ (h.1 k hk))), fun j hj => by
  simp only [List.mem_cons, Prod.mk.injEq] at hj ⊢
  rcases hj with q | q | q | q
  · exact absurd q.1 (by decide)
  · exact absurd q.1 (by decide)
  · obtain ⟨-, rfl⟩ := q; simp
  · obtain ⟨h1, h2⟩ := h.2 j q; simp [h1, h2]⟩
theorem mkPers0_c {cs : Nat → ClassId} {ad : AD} {t : TH} {n : Nat} {x2 x3 x4 rw cl : Int32} : cellC cs ad (mkPers0 t n x2 x3 x4 rw cl) 7 n = .inr (7, [.int (-1), .int x2, .int x3, .int x4, .ref (ad 17 n), .ref (ad 18 n), .int rw, .int cl, .int (-1), .int 0, .int (-1), .int (-1), .long 0, .int (-1), .int (-1)]) := by
  show Sum.inr (7, _) = _
  simp [fC7, mkPers0, uS, uL, tS, tL, tP, up3, va_up]
theorem uRow_c {cs : Nat → ClassId} {ad : AD} {t : TH} {j n : Nat} {f : Nat → Int32} : cellC cs ad (uRow t 17 j f n) 17 j = .inl (cs 1, n, .inl f) := by
  show Sum.inl (cs 1, (va_up (tN t 17) j n) j, Sum.inl ((va_up (tS t 17) j f) j)) = _
  rw [va_up_self, va_up_self]
theorem uRow_c8 {cs : Nat → ClassId} {ad : AD} {t : TH} {j n : Nat} {f : Nat → Int32} : cellC cs ad (uRow t 18 j f n) 18 j = .inl (cs 1, n, .inl f) := by
  show Sum.inl (cs 1, (va_up (tN t 18) j n) j, Sum.inl ((va_up (tS t 18) j f) j)) = _
  rw [va_up_self, va_up_self]
theorem ad3_18 {ad : AD} {n q7 q17 q18 : Nat} : ad3 ad n q7 q17 q18 18 n = q18 := upA_self
theorem ad3_17 {ad : AD} {n q7 q17 q18 : Nat} : ad3 ad n q7 q17 q18 17 n = q17 := (congrFun (upA_nc (by decide)) n).trans upA_self
theorem ad3_7 {ad : AD} {n q7 q17 q18 : Nat} : ad3 ad n q7 q17 q18 7 n = q7 := (congrFun (upA_nc (by decide)) n).trans ((congrFun (upA_nc (by decide)) n).trans upA_self)
theorem mkPers_18 {cs : Nat → ClassId} {ad : AD} {t : TH} {n : Nat} {x2 x3 x4 rw cl : Int32} {kn : Nat} {kf : Nat → Int32} : cellC cs ad (mkPers t n x2 x3 x4 rw cl kn kf) 18 n = .inl (cs 1, kn, .inl (fun _ => 0)) := uRow_c8
theorem mkPers_17 {cs : Nat → ClassId} {ad : AD} {t : TH} {n : Nat} {x2 x3 x4 rw cl : Int32} {kn : Nat} {kf : Nat → Int32} : cellC cs ad (mkPers t n x2 x3 x4 rw cl kn kf) 17 n = .inl (cs 1, kn, .inl kf) := (hr_row (c := 18) (j := n) (by decide) 17 n (fun z => absurd z.1 (by decide))).trans uRow_c
theorem mkPers_7 {cs : Nat → ClassId} {ad : AD} {t : TH} {n : Nat} {x2 x3 x4 rw cl : Int32} {kn : Nat} {kf : Nat → Int32} : cellC cs ad (mkPers t n x2 x3 x4 rw cl kn kf) 7 n = .inr (7, [.int (-1), .int x2, .int x3, .int x4, .ref (ad 17 n), .ref (ad 18 n), .int rw, .int cl, .int (-1), .int 0, .int (-1), .int (-1), .long 0, .int (-1), .int (-1)]) := (hr_row (c := 18) (j := n) (by decide) 7 n (fun z => absurd z.1 (by decide))).trans ((hr_row (c := 17) (j := n) (by decide) 7 n (fun z => absurd z.1 (by decide))).trans mkPers0_c)
theorem mkPers_o {cs : Nat → ClassId} {ad : AD} {t : TH} {n : Nat} {x2 x3 x4 rw cl : Int32} {kn : Nat} {kf : Nat → Int32} {k : Nat × Nat} (h18 : ¬ k = (18, n)) (h17 : ¬ k = (17, n)) (h7 : ¬ k = (7, n)) : cellC cs ad (mkPers t n x2 x3 x4 rw cl kn kf) k.1 k.2 = cellC cs ad t k.1 k.2 := (hr_row (c := 18) (j := n) (by decide) k.1 k.2 (fun z => h18 (Prod.ext z.1 z.2))).trans ((hr_row (c := 17) (j := n) (by decide) k.1 k.2 (fun z => h17 (Prod.ext z.1 z.2))).trans (mkPers0_o k.1 k.2 (fun z => h7 (Prod.ext z.1 z.2))))
theorem fold_person {Ev : EvT} {s : State} {D : va_G} {tys : List (ClassId × FieldType)} {A : Nat → Prop} {H : Heap} {locs : List Loc} {cs : Nat → ClassId} {ad : AD} {K : List (Nat × Nat)} {t : TH} {n q7 q17 q18 : Nat} {x2 x3 x4 rw cl : Int32} {kn : Nat} {kf : Nat → Int32} (hK : (7, n) ∉ K ∧ (17, n) ∉ K ∧ (18, n) ∉ K) (hf1 : ∀ j, tP t 1 1 j ≠ some n) (hf2 : ∀ j e, tP t 15 j e ≠ some n) (h : GW Ev D tys idw A s ((q18, .inl (cs 1, kn, .inl (fun _ => 0))) :: (q17, .inl (cs 1, kn, .inl kf)) :: (q7, .inr (7, [.int (-1), .int x2, .int x3, .int x4, .ref q17, .ref q18, .int rw, .int cl, .int (-1), .int 0, .int (-1), .int (-1), .long 0, .int (-1), .int (-1)])) :: wC cs ad K t) H locs) : GW Ev D tys (wC cs (ad3 ad n q7 q17 q18) (K3 K n)) A s (mkPers t n x2 x3 x4 rw cl kn kf) H locs := by
  have ew : (q18, Sum.inl (cs 1, kn, Sum.inl (fun _ => 0))) :: (q17, Sum.inl (cs 1, kn, Sum.inl kf)) :: (q7, Sum.inr (7, [.int (-1), .int x2, .int x3, .int x4, .ref q17, .ref q18, .int rw, .int cl, .int (-1), .int 0, .int (-1), .int (-1), .long 0, .int (-1), .int (-1)])) :: wC cs ad K t = wC cs (ad3 ad n q7 q17 q18) (K3 K n) (mkPers t n x2 x3 x4 rw cl kn kf) := by
    generalize ht3 : mkPers t n x2 x3 x4 rw cl kn kf = t3
    have c18 : cellC cs (ad3 ad n q7 q17 q18) t3 18 n = .inl (cs 1, kn, .inl (fun _ => 0)) := by rw [← ht3]; exact mkPers_18
    have c17 : cellC cs (ad3 ad n q7 q17 q18) t3 17 n = .inl (cs 1, kn, .inl kf) := by rw [← ht3]; exact mkPers_17
    have c7 : cellC cs (ad3 ad n q7 q17 q18) t3 7 n = .inr (7, [.int (-1), .int x2, .int x3, .int x4, .ref q17, .ref q18, .int rw, .int cl, .int (-1), .int 0, .int (-1), .int (-1), .long 0, .int (-1), .int (-1)]) := by rw [← ht3, mkPers_7, ad3_17, ad3_18]
    have co : ∀ k ∈ K, (ad k.1 k.2, cellC cs ad t k.1 k.2) = (ad3 ad n q7 q17 q18 k.1 k.2, cellC cs (ad3 ad n q7 q17 q18) t3 k.1 k.2) := fun k hk => by
      have h18 : ¬ k = (18, n) := fun z => hK.2.2 (z ▸ hk)
      have h17 : ¬ k = (17, n) := fun z => hK.2.1 (z ▸ hk)
      have h7 : ¬ k = (7, n) := fun z => hK.1 (z ▸ hk)
      have hi : k.1 = 7 → ¬ k.2 = n := fun a b => h7 (Prod.ext a b)
      rw [← ht3, mkPers_o h18 h17 h7, ad3, upA_ne h18, upA_ne h17, upA_ne h7, ad_18 hi, ad_17 hi, ad_7 hf1 hf2]
    rw [wC, wC, List.map_cons, List.map_cons, List.map_cons, List.map_congr_left co, c18, c17, c7, ad3_18, ad3_17, ad3_7]
  have h2 : GW Ev D tys idw A s (wC cs (ad3 ad n q7 q17 q18) (K3 K n) (mkPers t n x2 x3 x4 rw cl kn kf)) H locs := by rw [← ew]; exact h
  exact h2
abbrev rm_C_People_welcome : Room := { frames := 0, cells := 0, slots := 0, locals := 0 }
def C_People_welcome (K : List (Nat × Nat)) (t : TH) (x1 : Nat) : Option (Int32 × TH) := if (tS t 6 1 0) < 0 then some ((-1), t) else if (tS t 6 1 0) < (nI (tN t 15 1)) then chkP ((7, x1) ∈ K) (nm (uS t 7 0 x1 (tS t 6 1 0)) (fun t4 => chkI (tS t4 6 1 0) (tN t4 15 1) (nm (uP t4 15 1 (tS t4 6 1 0).toNatClampNeg (some x1)) (fun t5 => nm (uS t5 6 1 0 ((tS t5 6 1 0) + 1)) (fun t6 => some (tS t6 7 0 x1, t6)))))) else some ((-1), t)
set_option maxHeartbeats 4000000 in
set_option maxRecDepth 100000 in
theorem c_C_People_welcome {Ev : EvT} {ek ev : Nat → Nat} {tp : Nat} (l : Launch) (D : va_G) (cs : Nat → ClassId) (ad : AD) (K : List (Nat × Nat)) (hKS : KS K) (hEv : EvC Ev ek ev tp) (t : TH) (x1 : Nat) (X : Int32 × TH) (hX : some X = C_People_welcome K t x1) : cGi Ev l D (tyC cs) (wC cs ad K) yX6_welcome wsX6_welcome rm_C_People_welcome 0 0 [.ref (ad 6 0), .ref (ad 7 x1)] t (fun r u => (r, u) = X) := by
  refine G_ini (cc := cX6_welcome) (maxL := 2) (ret := some .int) (by decide) rfl (Nat.le_of_ble_eq_true rfl) ?_
  intro p e s m below meth c A ls C hr hlk hini hA hW hl
  have C : Cx p s m _ c cX6_welcome 2 wsX6_welcome RX6 := C
  have hl : lv_has ls 2 [(0, .ref (ad 6 0)), (1, .ref (ad 7 x1))] := hl
  have hin6 : ∀ w ∈ wsX60, w ∈ wsX6_welcome := fun w hw => List.mem_cons_of_mem _ (List.mem_append_left _ (List.mem_append_right _ hw))
  have hin7 : ∀ w ∈ wsX70, w ∈ wsX6_welcome := fun w hw => List.mem_cons_of_mem _ (List.mem_append_right _ hw)
  have f6_0 : (Cond.fieldLink RX6 11 (TX6 0).1 (TX6 0).2.1 (TX6 0).2.2.1).before _ s = true := C.2.2.2.2 _ (List.mem_of_getElem? (i := 2) rfl)
  have f6_1 : (Cond.fieldLink RX6 17 (TX6 1).1 (TX6 1).2.1 (TX6 1).2.2.1).before _ s = true := C.2.2.2.2 _ (List.mem_of_getElem? (i := 1) rfl)
  have f7_0 : (Cond.fieldLink RX6 21 (TX7 0).1 (TX7 0).2.1 (TX7 0).2.2.1).before _ s = true := C.2.2.2.2 _ (List.mem_of_getElem? (i := 3) rfl)
  obtain ⟨H, hH⟩ : ∃ H, H = s.heap := ⟨_, rfl⟩
  obtain ⟨locs, hlo⟩ : ∃ z : List Loc, z = [] := ⟨_, rfl⟩
  have hW : GW Ev D (tyC cs) (wC cs ad K) A s t H locs := by rw [hH, hlo]; exact hW
  rw [show W p l e rm_C_People_welcome s m _ below meth c s.heap [] = W p l e rm_C_People_welcome s m _ below meth c H locs from by rw [hH, hlo]]
  unfold C_People_welcome at hX
  refine lv_aload_n C.1 C.2.1 dX6_welcome_0 rfl (lv_at hl 0 rfl) ?_
  refine C_get C hW 6 rfl hin6 hKS.k6_0 rfl 1 (by decide) rfl f6_1 dX6_welcome_1 ?_
  refine lv_if_lt (tgt := 19) C.1 C.2.1 dX6_welcome_4 (by decide) (fun c1 => ?_) (fun c1 => ?_)
  · have hX := br_p hX c1
    refine lv_iconst (v := -1) C.1 C.2.1 dX6_welcome_19 (by decide) ?_
    exact G_reti C hr hlk hA hW (Option.some.inj hX).symm dX6_welcome_20
  have hX := br_n hX c1
  refine lv_aload_n C.1 C.2.1 dX6_welcome_7 rfl (lv_at hl 0 rfl) ?_
  refine C_get C hW 6 rfl hin6 hKS.k6_0 rfl 1 (by decide) rfl f6_1 dX6_welcome_8 ?_
  refine lv_aload_n C.1 C.2.1 dX6_welcome_11 rfl (lv_at hl 0 rfl) ?_
  refine C_get C hW 6 rfl hin6 hKS.k6_0 rfl 0 (by decide) rfl f6_0 dX6_welcome_12 ?_
  refine C_alen C hW hKS.k15_1 rfl 4 rfl dX6_welcome_15 ?_
  refine lv_icmp_lt (tgt := 21) C.1 C.2.1 dX6_welcome_16 (by decide) (fun c2 => ?_) (fun c2 => ?_)
  · have hX := br_p hX c2
    refine lv_aload_n C.1 C.2.1 dX6_welcome_21 rfl (lv_at hl 1 rfl) ?_
    refine lv_aload_n C.1 C.2.1 dX6_welcome_22 rfl (lv_at hl 0 rfl) ?_
    refine C_get C hW 6 rfl hin6 hKS.k6_0 rfl 1 (by decide) rfl f6_1 dX6_welcome_23 ?_
    obtain ⟨hk3, hX⟩ := chkP_st hX
    obtain ⟨t4, et4⟩ : ∃ z, z = uS t 7 0 x1 (tS t 6 1 0) := ⟨_, rfl⟩
    refine C_put C hW 7 rfl hin7 tyX7 tyX7_ok nmX7 hk3 rfl 0 (by decide) rfl rfl rfl (Nat.le_of_ble_eq_true rfl) f7_0 dX6_welcome_26 (t' := t4) (by rw [et4]; exact wr7_0) (by rw [et4]; exact ho_S (by decide)) (fun H locs hW => ?_)
    have hX := nm_st hX et4
    refine lv_aload_n C.1 C.2.1 dX6_welcome_29 rfl (lv_at hl 0 rfl) ?_
    refine C_get C hW 6 rfl hin6 hKS.k6_0 rfl 0 (by decide) rfl f6_0 dX6_welcome_30 ?_
    refine lv_aload_n C.1 C.2.1 dX6_welcome_33 rfl (lv_at hl 0 rfl) ?_
    refine C_get C hW 6 rfl hin6 hKS.k6_0 rfl 1 (by decide) rfl f6_1 dX6_welcome_34 ?_
    refine lv_aload_n C.1 C.2.1 dX6_welcome_37 rfl (lv_at hl 1 rfl) ?_
    obtain ⟨hi, hX⟩ := chkI_st hX
    obtain ⟨t5, et5⟩ : ∃ z, z = uP t4 15 1 (tS t4 6 1 0).toNatClampNeg (some x1) := ⟨_, rfl⟩
    refine C_stQ (k3 := 7) (f := tP t4 15 1) C hW hKS.k15_1 rfl 4 rfl rfl hk3 rfl hi dX6_welcome_38 (t' := t5) (by rw [et5]; exact wr15) (by rw [et5]; exact hr_P (by decide)) (fun H locs hW => ?_)
    have hX := nm_st hX et5
    refine lv_aload_n C.1 C.2.1 dX6_welcome_39 rfl (lv_at hl 0 rfl) ?_
    refine lv_dup C.1 C.2.1 dX6_welcome_40 rfl ?_
    refine C_get C hW 6 rfl hin6 hKS.k6_0 rfl 1 (by decide) rfl f6_1 dX6_welcome_41 ?_
    refine lv_iconst (v := 1) C.1 C.2.1 dX6_welcome_44 (by decide) ?_
    refine lv_iadd C.1 C.2.1 dX6_welcome_45 ?_
    obtain ⟨t6, et6⟩ : ∃ z, z = uS t5 6 1 0 ((tS t5 6 1 0) + 1) := ⟨_, rfl⟩
    refine C_put C hW 6 rfl hin6 tyX6 tyX6_ok nmX6 hKS.k6_0 rfl 1 (by decide) rfl rfl rfl (Nat.le_of_ble_eq_true rfl) f6_1 dX6_welcome_46 (t' := t6) (by rw [et6]; exact wr6_1) (by rw [et6]; exact ho_S (by decide)) (fun H locs hW => ?_)
    have hX := nm_st hX et6
    refine lv_aload_n C.1 C.2.1 dX6_welcome_49 rfl (lv_at hl 1 rfl) ?_
    refine C_get C hW 7 rfl hin7 hk3 rfl 0 (by decide) rfl f7_0 dX6_welcome_50 ?_
    exact G_reti C hr hlk hA hW (Option.some.inj hX).symm dX6_welcome_53
  have hX := br_n hX c2
  refine lv_iconst (v := -1) C.1 C.2.1 dX6_welcome_19 (by decide) ?_
  exact G_reti C hr hlk hA hW (Option.some.inj hX).symm dX6_welcome_20
abbrev rm_C_Run_person : Room := { frames := 3, cells := 3, slots := 39, locals := 83 }
def C_Run_person_B0 (K : List (Nat × Nat)) (t : TH) (x1 : Int32) (x2 : Int32) (x3 : Int32) (x4 : Int32) : Option (Int32) := if (tS t 8 2 0) = 0 then if 30 ≤ (tS t 6 1 0) then some 0 else some 1 else some 0
set_option maxHeartbeats 4000000 in
set_option maxRecDepth 100000 in
theorem r_C_Run_person_B0 {p : Program} {l : Launch} {e : Env} {s : State} {m : MethodId} {args : Array Value} {below : List Frame} {meth : Method} {c : Code} {Q : State → Prop} {Ev : EvT} {D : va_G} {cs : Nat → ClassId} {ad : AD} {A : Nat → Prop} {ek ev : Nat → Nat} {tp : Nat} (C : Cx p s m args c cX11_person 8 wsX11_person RX11) {K : List (Nat × Nat)} (hKS : KS K) (hEv : EvC Ev ek ev tp) : ∀ (t : TH) (x1 : Int32) (x2 : Int32) (x3 : Int32) (x4 : Int32) (H : Heap) (locs : List Loc) (ls : Array Slot) (X : Int32), some X = C_Run_person_B0 K t x1 x2 x3 x4 → GW Ev D (tyC cs) (wC cs ad K) A s t H locs → lv_has ls 8 [(0, .ref (ad 11 0)), (1, .int x1), (2, .int x2), (3, .int x3), (4, .int x4)] → (∀ (w0 : Int32) (H : Heap) (locs : List Loc) (ls : Array Slot), X = w0 → GW Ev D (tyC cs) (wC cs ad K) A s t H locs → lv_has ls 8 [(0, .ref (ad 11 0)), (1, .int x1), (2, .int x2), (3, .int x3), (4, .int x4)] → W p l e rm_C_Run_person s m args below meth c H locs 0 0 Q (F0 m 27 ls [.int w0])) → W p l e rm_C_Run_person s m args below meth c H locs 0 0 Q (F0 m 0 ls []) := by
  have hin6 : ∀ w ∈ wsX60, w ∈ wsX11_person := fun w hw => List.mem_cons_of_mem _ (List.mem_append_left _ (List.mem_append_left _ (List.mem_append_right _ hw)))
  have hin8 : ∀ w ∈ wsX80, w ∈ wsX11_person := fun w hw => List.mem_cons_of_mem _ (List.mem_append_left _ (List.mem_append_left _ (List.mem_append_left _ (List.mem_append_right _ hw))))
  have hin11 : ∀ w ∈ wsX110, w ∈ wsX11_person := fun w hw => List.mem_cons_of_mem _ (List.mem_append_left _ (List.mem_append_left _ (List.mem_append_left _ (List.mem_append_left _ (List.mem_append_right _ hw)))))
  have f6_1 : (Cond.fieldLink RX11 100 (TX6 1).1 (TX6 1).2.1 (TX6 1).2.2.1).before _ s = true := C.2.2.2.2 _ (List.mem_of_getElem? (i := 4) rfl)
  have f8_2 : (Cond.fieldLink RX11 84 (TX8 2).1 (TX8 2).2.1 (TX8 2).2.2.1).before _ s = true := C.2.2.2.2 _ (List.mem_of_getElem? (i := 2) rfl)
  have f11_2 : (Cond.fieldLink RX11 26 (TX11 2).1 (TX11 2).2.1 (TX11 2).2.2.1).before _ s = true := C.2.2.2.2 _ (List.mem_of_getElem? (i := 3) rfl)
  have f11_3 : (Cond.fieldLink RX11 35 (TX11 3).1 (TX11 3).2.1 (TX11 3).2.2.1).before _ s = true := C.2.2.2.2 _ (List.mem_of_getElem? (i := 1) rfl)
  intro t x1 x2 x3 x4 H locs ls X hX hW hl K0
  unfold C_Run_person_B0 at hX
  refine lv_aload_n C.1 C.2.1 dX11_person_0 rfl (lv_at hl 0 rfl) ?_
  refine C_get C hW 11 rfl hin11 hKS.k11_0 rfl 3 (by decide) rfl f11_3 dX11_person_1 ?_
  refine C_get C hW 8 rfl hin8 hKS.k8_0 rfl 2 (by decide) rfl f8_2 dX11_person_4 ?_
  refine lv_if_ne (tgt := 26) C.1 C.2.1 dX11_person_7 (by decide) (fun c3 => ?_) (fun c3 => ?_)
  · have hX := br_n hX c3
    refine lv_iconst (v := 0) C.1 C.2.1 dX11_person_26 (by decide) ?_
    exact K0 0 H locs ls (Option.some.inj hX) hW (lv_sub hl [0, 1, 2, 3, 4] rfl)
  have hX := br_p hX c3
  refine lv_aload_n C.1 C.2.1 dX11_person_10 rfl (lv_at hl 0 rfl) ?_
  refine C_get C hW 11 rfl hin11 hKS.k11_0 rfl 2 (by decide) rfl f11_2 dX11_person_11 ?_
  refine C_get C hW 6 rfl hin6 hKS.k6_0 rfl 1 (by decide) rfl f6_1 dX11_person_14 ?_
  refine lv_bipush (v := 30) C.1 C.2.1 dX11_person_17 (by decide) ?_
  refine lv_icmp_ge (tgt := 26) C.1 C.2.1 dX11_person_19 (by decide) (fun c4 => ?_) (fun c4 => ?_)
  · have hX := br_p hX c4
    refine lv_iconst (v := 0) C.1 C.2.1 dX11_person_26 (by decide) ?_
    exact K0 0 H locs ls (Option.some.inj hX) hW (lv_sub hl [0, 1, 2, 3, 4] rfl)
  have hX := br_n hX c4
  refine lv_iconst (v := 1) C.1 C.2.1 dX11_person_22 (by decide) ?_
  refine lv_goto (tgt := 27) C.1 C.2.1 dX11_person_23 (by decide) ?_
  exact K0 1 H locs ls (Option.some.inj hX) hW (lv_sub hl [0, 1, 2, 3, 4] rfl)
def C_Run_person_B31 (K : List (Nat × Nat)) (t : TH) (x5 : Int32) (x1 : Int32) (x2 : Int32) (x3 : Int32) (x4 : Int32) (y0 : Int32) (y1 : Int32) : Option (Int32) := if x2 = 0 then some 7 else some 63
set_option maxHeartbeats 4000000 in
set_option maxRecDepth 100000 in
theorem r_C_Run_person_B31 {p : Program} {l : Launch} {e : Env} {s : State} {m : MethodId} {args : Array Value} {below : List Frame} {meth : Method} {c : Code} {Q : State → Prop} {Ev : EvT} {D : va_G} {cs : Nat → ClassId} {ad : AD} {A : Nat → Prop} {ek ev : Nat → Nat} {tp : Nat} (C : Cx p s m args c cX11_person 8 wsX11_person RX11) {K : List (Nat × Nat)} (hKS : KS K) (hEv : EvC Ev ek ev tp) : ∀ (t : TH) (x5 : Int32) (x1 : Int32) (x2 : Int32) (x3 : Int32) (x4 : Int32) (y0 : Int32) (y1 : Int32) (H : Heap) (locs : List Loc) (ls : Array Slot) (X : Int32), some X = C_Run_person_B31 K t x5 x1 x2 x3 x4 y0 y1 → GW Ev D (tyC cs) (wC cs ad K) A s t H locs → lv_has ls 8 [(5, .int x5), (0, .ref (ad 11 0)), (1, .int x1), (2, .int x2), (3, .int x3), (4, .int x4)] → (∀ (w0 : Int32) (H : Heap) (locs : List Loc) (ls : Array Slot), X = w0 → GW Ev D (tyC cs) (wC cs ad K) A s t H locs → lv_has ls 8 [(5, .int x5), (0, .ref (ad 11 0)), (1, .int x1), (2, .int x2), (3, .int x3), (4, .int x4)] → W p l e rm_C_Run_person s m args below meth c H locs 0 0 Q (F0 m 42 ls [.int w0, .int y0, .int y1])) → W p l e rm_C_Run_person s m args below meth c H locs 0 0 Q (F0 m 31 ls [.int y0, .int y1]) := by
  have hin6 : ∀ w ∈ wsX60, w ∈ wsX11_person := fun w hw => List.mem_cons_of_mem _ (List.mem_append_left _ (List.mem_append_left _ (List.mem_append_right _ hw)))
  have hin8 : ∀ w ∈ wsX80, w ∈ wsX11_person := fun w hw => List.mem_cons_of_mem _ (List.mem_append_left _ (List.mem_append_left _ (List.mem_append_left _ (List.mem_append_right _ hw))))
  have hin11 : ∀ w ∈ wsX110, w ∈ wsX11_person := fun w hw => List.mem_cons_of_mem _ (List.mem_append_left _ (List.mem_append_left _ (List.mem_append_left _ (List.mem_append_left _ (List.mem_append_right _ hw)))))
  have f6_1 : (Cond.fieldLink RX11 100 (TX6 1).1 (TX6 1).2.1 (TX6 1).2.2.1).before _ s = true := C.2.2.2.2 _ (List.mem_of_getElem? (i := 4) rfl)
  have f8_2 : (Cond.fieldLink RX11 84 (TX8 2).1 (TX8 2).2.1 (TX8 2).2.2.1).before _ s = true := C.2.2.2.2 _ (List.mem_of_getElem? (i := 2) rfl)
  have f11_2 : (Cond.fieldLink RX11 26 (TX11 2).1 (TX11 2).2.1 (TX11 2).2.2.1).before _ s = true := C.2.2.2.2 _ (List.mem_of_getElem? (i := 3) rfl)
  have f11_3 : (Cond.fieldLink RX11 35 (TX11 3).1 (TX11 3).2.1 (TX11 3).2.2.1).before _ s = true := C.2.2.2.2 _ (List.mem_of_getElem? (i := 1) rfl)
  intro t x5 x1 x2 x3 x4 y0 y1 H locs ls X hX hW hl K0
  unfold C_Run_person_B31 at hX
  refine lv_iload_n C.1 C.2.1 dX11_person_31 rfl (lv_at hl 3 rfl) ?_
  refine lv_if_eq (tgt := 40) C.1 C.2.1 dX11_person_32 (by decide) (fun c7 => ?_) (fun c7 => ?_)
  · have hX := br_p hX c7
    refine lv_bipush (v := 7) C.1 C.2.1 dX11_person_40 (by decide) ?_
    exact K0 7 H locs ls (Option.some.inj hX) hW (lv_sub hl [0, 1, 2, 3, 4, 5] rfl)
  have hX := br_n hX c7
  refine lv_bipush (v := 63) C.1 C.2.1 dX11_person_35 (by decide) ?_
  refine lv_goto (tgt := 42) C.1 C.2.1 dX11_person_37 (by decide) ?_
  exact K0 63 H locs ls (Option.some.inj hX) hW (lv_sub hl [0, 1, 2, 3, 4, 5] rfl)
def C_Run_person_B29 (K : List (Nat × Nat)) (t : TH) (x5 : Int32) (x1 : Int32) (x2 : Int32) (x3 : Int32) (x4 : Int32) : Option (Int32) := bnd (C_Run_person_B31 K t x5 x1 x2 x3 x4 0 x1) (fun v17 => bnd (C_Run_isWithin x1 0 v17) (fun v18 => if v18 = 0 then some 0 else bnd (C_Run_isWithin x3 1 9) (fun v20 => if v20 = 0 then some 0 else bnd (C_Run_isWithin x4 0 120) (fun v22 => if v22 = 0 then some 0 else bnd (C_Run_tapeTellsQuarters K t) (fun v24 => if v24 = 0 then some 0 else some 1)))))
set_option maxHeartbeats 4000000 in
set_option maxRecDepth 100000 in
theorem r_C_Run_person_B29 {p : Program} {l : Launch} {e : Env} {s : State} {m : MethodId} {args : Array Value} {below : List Frame} {meth : Method} {c : Code} {Q : State → Prop} {Ev : EvT} {D : va_G} {cs : Nat → ClassId} {ad : AD} {A : Nat → Prop} {ek ev : Nat → Nat} {tp : Nat} (C : Cx p s m args c cX11_person 8 wsX11_person RX11) {K : List (Nat × Nat)} (hKS : KS K) (hEv : EvC Ev ek ev tp) : ∀ (t : TH) (x5 : Int32) (x1 : Int32) (x2 : Int32) (x3 : Int32) (x4 : Int32) (H : Heap) (locs : List Loc) (ls : Array Slot) (X : Int32), some X = C_Run_person_B29 K t x5 x1 x2 x3 x4 → GW Ev D (tyC cs) (wC cs ad K) A s t H locs → lv_has ls 8 [(5, .int x5), (0, .ref (ad 11 0)), (1, .int x1), (2, .int x2), (3, .int x3), (4, .int x4)] → (∀ (w0 : Int32) (H : Heap) (locs : List Loc) (ls : Array Slot), X = w0 → GW Ev D (tyC cs) (wC cs ad K) A s t H locs → lv_has ls 8 [(5, .int x5), (0, .ref (ad 11 0)), (1, .int x1), (2, .int x2), (3, .int x3), (4, .int x4)] → W p l e rm_C_Run_person s m args below meth c H locs 0 0 Q (F0 m 81 ls [.int w0])) → W p l e rm_C_Run_person s m args below meth c H locs 0 0 Q (F0 m 29 ls []) := by
  have hin6 : ∀ w ∈ wsX60, w ∈ wsX11_person := fun w hw => List.mem_cons_of_mem _ (List.mem_append_left _ (List.mem_append_left _ (List.mem_append_right _ hw)))
  have hin8 : ∀ w ∈ wsX80, w ∈ wsX11_person := fun w hw => List.mem_cons_of_mem _ (List.mem_append_left _ (List.mem_append_left _ (List.mem_append_left _ (List.mem_append_right _ hw))))
  have hin11 : ∀ w ∈ wsX110, w ∈ wsX11_person := fun w hw => List.mem_cons_of_mem _ (List.mem_append_left _ (List.mem_append_left _ (List.mem_append_left _ (List.mem_append_left _ (List.mem_append_right _ hw)))))
  have f6_1 : (Cond.fieldLink RX11 100 (TX6 1).1 (TX6 1).2.1 (TX6 1).2.2.1).before _ s = true := C.2.2.2.2 _ (List.mem_of_getElem? (i := 4) rfl)
  have f8_2 : (Cond.fieldLink RX11 84 (TX8 2).1 (TX8 2).2.1 (TX8 2).2.2.1).before _ s = true := C.2.2.2.2 _ (List.mem_of_getElem? (i := 2) rfl)
  have f11_2 : (Cond.fieldLink RX11 26 (TX11 2).1 (TX11 2).2.1 (TX11 2).2.2.1).before _ s = true := C.2.2.2.2 _ (List.mem_of_getElem? (i := 3) rfl)
  have f11_3 : (Cond.fieldLink RX11 35 (TX11 3).1 (TX11 3).2.1 (TX11 3).2.2.1).before _ s = true := C.2.2.2.2 _ (List.mem_of_getElem? (i := 1) rfl)
  intro t x5 x1 x2 x3 x4 H locs ls X hX hW hl K0
  unfold C_Run_person_B29 at hX
  refine lv_iload_n C.1 C.2.1 dX11_person_29 rfl (lv_at hl 2 rfl) ?_
  refine lv_iconst (v := 0) C.1 C.2.1 dX11_person_30 (by decide) ?_
  obtain ⟨v17, hq, hX⟩ := bnd_st hX
  refine r_C_Run_person_B31 C hKS hEv t x5 x1 x2 x3 x4 0 x1 H locs ls v17 hq.symm hW (lv_sub hl [0, 1, 2, 3, 4, 5] rfl) ?_
  intro z0 H locs ls hq hW hl
  subst hq
  obtain ⟨v18, hq, hX⟩ := bnd_st hX
  refine G_S0s (As := [.int x1, .int 0, .int v17]) (rest := []) C hW (c_C_Run_isWithin l D (tyC cs) (wC cs ad K) t x1 0 v17 v18 hq.symm) (va_cwS 3 C.2.2.2.2 gX11_person_X11_isWithin rfl rfl rfl (by decide +kernel) ⟨Nat.le_of_ble_eq_true rfl, Nat.le_of_ble_eq_true rfl⟩) rfl hl.1 rfl (Nat.le_of_ble_eq_true rfl) dX11_person_42 (fun H locs hW => ?_)
  refine lv_if_eq (tgt := 80) C.1 C.2.1 dX11_person_45 (by decide) (fun c19 => ?_) (fun c19 => ?_)
  · have hX := br_p hX c19
    refine lv_iconst (v := 0) C.1 C.2.1 dX11_person_80 (by decide) ?_
    exact K0 0 H locs ls (Option.some.inj hX) hW (lv_sub hl [0, 1, 2, 3, 4, 5] rfl)
  have hX := br_n hX c19
  refine lv_iload_n C.1 C.2.1 dX11_person_48 rfl (lv_at hl 4 rfl) ?_
  refine lv_iconst (v := 1) C.1 C.2.1 dX11_person_49 (by decide) ?_
  refine lv_bipush (v := 9) C.1 C.2.1 dX11_person_50 (by decide) ?_
  obtain ⟨v20, hq, hX⟩ := bnd_st hX
  refine G_S0s (As := [.int x3, .int 1, .int 9]) (rest := []) C hW (c_C_Run_isWithin l D (tyC cs) (wC cs ad K) t x3 1 9 v20 hq.symm) (va_cwS 3 C.2.2.2.2 gX11_person_X11_isWithin rfl rfl rfl (by decide +kernel) ⟨Nat.le_of_ble_eq_true rfl, Nat.le_of_ble_eq_true rfl⟩) rfl hl.1 rfl (Nat.le_of_ble_eq_true rfl) dX11_person_52 (fun H locs hW => ?_)
  refine lv_if_eq (tgt := 80) C.1 C.2.1 dX11_person_55 (by decide) (fun c21 => ?_) (fun c21 => ?_)
  · have hX := br_p hX c21
    refine lv_iconst (v := 0) C.1 C.2.1 dX11_person_80 (by decide) ?_
    exact K0 0 H locs ls (Option.some.inj hX) hW (lv_sub hl [0, 1, 2, 3, 4, 5] rfl)
  have hX := br_n hX c21
  refine lv_iload C.1 C.2.1 dX11_person_58 (lv_at hl 5 rfl) ?_
  refine lv_iconst (v := 0) C.1 C.2.1 dX11_person_60 (by decide) ?_
  refine lv_bipush (v := 120) C.1 C.2.1 dX11_person_61 (by decide) ?_
  obtain ⟨v22, hq, hX⟩ := bnd_st hX
  refine G_S0s (As := [.int x4, .int 0, .int 120]) (rest := []) C hW (c_C_Run_isWithin l D (tyC cs) (wC cs ad K) t x4 0 120 v22 hq.symm) (va_cwS 3 C.2.2.2.2 gX11_person_X11_isWithin rfl rfl rfl (by decide +kernel) ⟨Nat.le_of_ble_eq_true rfl, Nat.le_of_ble_eq_true rfl⟩) rfl hl.1 rfl (Nat.le_of_ble_eq_true rfl) dX11_person_63 (fun H locs hW => ?_)
  refine lv_if_eq (tgt := 80) C.1 C.2.1 dX11_person_66 (by decide) (fun c23 => ?_) (fun c23 => ?_)
  · have hX := br_p hX c23
    refine lv_iconst (v := 0) C.1 C.2.1 dX11_person_80 (by decide) ?_
    exact K0 0 H locs ls (Option.some.inj hX) hW (lv_sub hl [0, 1, 2, 3, 4, 5] rfl)
  have hX := br_n hX c23
  refine lv_aload_n C.1 C.2.1 dX11_person_69 rfl (lv_at hl 1 rfl) ?_
  obtain ⟨v24, hq, hX⟩ := bnd_st hX
  refine G_V0p (As := []) (rest := []) C hW (c_C_Run_tapeTellsQuarters l D cs ad K hKS hEv t v24 hq.symm) (cwV 0 C.2.2.2.2 gX11_person_X11_tapeTellsQuarters rfl rfl rfl (by decide +kernel) ⟨Nat.le_of_ble_eq_true rfl, Nat.le_of_ble_eq_true rfl⟩) (C_recv hW 11 hKS.k11_0 rfl rfl) rfl hl.1 rfl (Nat.le_of_ble_eq_true rfl) dX11_person_70 (fun H locs hW => ?_)
  refine lv_if_eq (tgt := 80) C.1 C.2.1 dX11_person_73 (by decide) (fun c25 => ?_) (fun c25 => ?_)
  · have hX := br_p hX c25
    refine lv_iconst (v := 0) C.1 C.2.1 dX11_person_80 (by decide) ?_
    exact K0 0 H locs ls (Option.some.inj hX) hW (lv_sub hl [0, 1, 2, 3, 4, 5] rfl)
  have hX := br_n hX c25
  refine lv_iconst (v := 1) C.1 C.2.1 dX11_person_76 (by decide) ?_
  refine lv_goto (tgt := 81) C.1 C.2.1 dX11_person_77 (by decide) ?_
  exact K0 1 H locs ls (Option.some.inj hX) hW (lv_sub hl [0, 1, 2, 3, 4, 5] rfl)
def C_Run_person (K : List (Nat × Nat)) (t : TH) (x1 : Int32) (x2 : Int32) (x3 : Int32) (x4 : Int32) : Option (Int32 × List (Nat × Nat) × TH) := bnd (C_Run_person_B0 K t x1 x2 x3 x4) (fun v5 => bnd (C_Run_person_B29 K t v5 x1 x2 x3 x4) (fun v26 => if v5 = 0 then nm (uS t 9 1 0 0) (fun t28 => some ((-1), K, t28)) else if v26 = 0 then nm (uS t 9 1 0 0) (fun t30 => some ((-1), K, t30)) else bnd (C_Tape_copied t 12) (fun N => chkP (N ≤ 12) (chkZ x2 (bnd2 (C_rowcol x1 x2) (fun rw cl => nm (mkPers t (tS t 6 1 0).toNatClampNeg x2 x3 x4 rw cl N (va_cpy (tS t 13 0) (fun _ => 0) 0 0 N)) (fun t1 => bnd2 (C_People_welcome (K3 K (tS t 6 1 0).toNatClampNeg) t1 (tS t 6 1 0).toNatClampNeg) (fun v t2 => nm (uS t2 9 1 0 0) (fun t3 => some (v, K3 K (tS t 6 1 0).toNatClampNeg, t3))))))))))
set_option maxHeartbeats 4000000 in
set_option maxRecDepth 100000 in
theorem c_C_Run_person {Ev : EvT} {ek ev : Nat → Nat} {tp : Nat} (l : Launch) (D : va_G) (cs : Nat → ClassId) (ad : AD) (K : List (Nat × Nat)) (hKS : KS K) (hEv : EvC Ev ek ev tp) (t : TH) (x1 : Int32) (x2 : Int32) (x3 : Int32) (x4 : Int32) (X : Int32 × List (Nat × Nat) × TH) (hfr : ∀ n, n = (tS t 6 1 0).toNatClampNeg → (7, n) ∉ K ∧ (17, n) ∉ K ∧ (18, n) ∉ K ∧ (∀ j, tP t 1 1 j ≠ some n) ∧ ∀ j e, tP t 15 j e ≠ some n) (hX : some X = C_Run_person K t x1 x2 x3 x4) : cGi Ev l D (tyC cs) (wA cs) yX11_person wsX11_person rm_C_Run_person 3 39 [.ref (ad 11 0), .int x1, .int x2, .int x3, .int x4] (ad, K, t) (fun r u => extA ad u.1 K ∧ (r, u.2) = X) := by
  refine G_ini (cc := cX11_person) (maxL := 8) (ret := some .int) (by decide) rfl (Nat.le_of_ble_eq_true rfl) ?_
  intro p e s m below meth c A ls C hr hlk hini hA hW hl
  have C : Cx p s m _ c cX11_person 8 wsX11_person RX11 := C
  have hl : lv_has ls 8 [(0, .ref (ad 11 0)), (1, .int x1), (2, .int x2), (3, .int x3), (4, .int x4)] := hl
  have hin6 : ∀ w ∈ wsX60, w ∈ wsX11_person := fun w hw => List.mem_cons_of_mem _ (List.mem_append_left _ (List.mem_append_left _ (List.mem_append_right _ hw)))
  have hin7 : ∀ w ∈ wsX70, w ∈ wsX11_person := fun w hw => List.mem_cons_of_mem _ (List.mem_append_left _ (List.mem_append_right _ hw))
  have hin8 : ∀ w ∈ wsX80, w ∈ wsX11_person := fun w hw => List.mem_cons_of_mem _ (List.mem_append_left _ (List.mem_append_left _ (List.mem_append_left _ (List.mem_append_right _ hw))))
  have hin9 : ∀ w ∈ wsX90, w ∈ wsX11_person := fun w hw => List.mem_cons_of_mem _ (List.mem_append_right _ hw)
  have hin11 : ∀ w ∈ wsX110, w ∈ wsX11_person := fun w hw => List.mem_cons_of_mem _ (List.mem_append_left _ (List.mem_append_left _ (List.mem_append_left _ (List.mem_append_left _ (List.mem_append_right _ hw)))))
  have f6_1 : (Cond.fieldLink RX11 100 (TX6 1).1 (TX6 1).2.1 (TX6 1).2.2.1).before _ s = true := C.2.2.2.2 _ (List.mem_of_getElem? (i := 4) rfl)
  have f8_2 : (Cond.fieldLink RX11 84 (TX8 2).1 (TX8 2).2.1 (TX8 2).2.2.1).before _ s = true := C.2.2.2.2 _ (List.mem_of_getElem? (i := 2) rfl)
  have f9_1 : (Cond.fieldLink RX11 77 (TX9 1).1 (TX9 1).2.1 (TX9 1).2.2.1).before _ s = true := C.2.2.2.2 _ (List.mem_of_getElem? (i := 9) rfl)
  have f11_0 : (Cond.fieldLink RX11 10 (TX11 0).1 (TX11 0).2.1 (TX11 0).2.2.1).before _ s = true := C.2.2.2.2 _ (List.mem_of_getElem? (i := 8) rfl)
  have f11_2 : (Cond.fieldLink RX11 26 (TX11 2).1 (TX11 2).2.1 (TX11 2).2.2.1).before _ s = true := C.2.2.2.2 _ (List.mem_of_getElem? (i := 3) rfl)
  have f11_3 : (Cond.fieldLink RX11 35 (TX11 3).1 (TX11 3).2.1 (TX11 3).2.2.1).before _ s = true := C.2.2.2.2 _ (List.mem_of_getElem? (i := 1) rfl)
  obtain ⟨H, hH⟩ : ∃ H, H = s.heap := ⟨_, rfl⟩
  obtain ⟨locs, hlo⟩ : ∃ z : List Loc, z = [] := ⟨_, rfl⟩
  have hW : GW Ev D (tyC cs) (wC cs ad K) A s t H locs := by rw [hH, hlo]; exact hW
  rw [show W p l e rm_C_Run_person s m _ below meth c s.heap [] = W p l e rm_C_Run_person s m _ below meth c H locs from by rw [hH, hlo]]
  unfold C_Run_person at hX
  obtain ⟨v5, hq, hX⟩ := bnd_st hX
  refine r_C_Run_person_B0 C hKS hEv t x1 x2 x3 x4 H locs ls v5 hq.symm hW (lv_sub hl [0, 1, 2, 3, 4] rfl) ?_
  intro z0 H locs ls hq hW hl
  subst hq
  refine lv_istore (i := 5) (lv' := [(5, .int v5), (0, .ref (ad 11 0)), (1, .int x1), (2, .int x2), (3, .int x3), (4, .int x4)]) C.1 C.2.1 dX11_person_27 hl (by decide) rfl (fun ls hl => ?_)
  obtain ⟨v26, hq, hX⟩ := bnd_st hX
  refine r_C_Run_person_B29 C hKS hEv t v5 x1 x2 x3 x4 H locs ls v26 hq.symm hW (lv_sub hl [0, 1, 2, 3, 4, 5] rfl) ?_
  intro z0 H locs ls hq hW hl
  subst hq
  refine lv_istore (i := 6) (lv' := [(6, .int v26), (5, .int v5), (0, .ref (ad 11 0)), (1, .int x1), (2, .int x2), (3, .int x3), (4, .int x4)]) C.1 C.2.1 dX11_person_81 hl (by decide) rfl (fun ls hl => ?_)
  refine lv_iconst (v := -1) C.1 C.2.1 dX11_person_83 (by decide) ?_
  refine lv_istore (i := 7) (lv' := [(7, .int (-1)), (6, .int v26), (5, .int v5), (0, .ref (ad 11 0)), (1, .int x1), (2, .int x2), (3, .int x3), (4, .int x4)]) C.1 C.2.1 dX11_person_84 hl (by decide) rfl (fun ls hl => ?_)
  refine lv_iload C.1 C.2.1 dX11_person_86 (lv_at hl 2 rfl) ?_
  refine lv_if_eq (tgt := 126) C.1 C.2.1 dX11_person_88 (by decide) (fun c27 => ?_) (fun c27 => ?_)
  · have hX := br_p hX c27
    refine lv_aload_n C.1 C.2.1 dX11_person_126 rfl (lv_at hl 3 rfl) ?_
    refine C_get C hW 11 rfl hin11 hKS.k11_0 rfl 0 (by decide) rfl f11_0 dX11_person_127 ?_
    refine lv_iconst (v := 0) C.1 C.2.1 dX11_person_130 (by decide) ?_
    obtain ⟨t28, et28⟩ : ∃ z, z = uS t 9 1 0 0 := ⟨_, rfl⟩
    refine C_put C hW 9 rfl hin9 tyX9 tyX9_ok nmX9 hKS.k9_0 rfl 1 (by decide) rfl rfl rfl (Nat.le_of_ble_eq_true rfl) f9_1 dX11_person_131 (t' := t28) (by rw [et28]; exact wr9_1) (by rw [et28]; exact ho_S (by decide)) (fun H locs hW => ?_)
    have hX := nm_st hX et28
    refine lv_iload C.1 C.2.1 dX11_person_134 (lv_at hl 0 rfl) ?_
    refine W.widen (k := 3) (n := 39) (Nat.zero_le _) (Nat.zero_le _) ?_
    exact G_reti C hr hlk hA (show GW Ev D (tyC cs) (wA cs) A s (ad, K, t28) H locs from hW) ⟨extA_rf _ _, (Option.some.inj hX).symm⟩ dX11_person_136
  have hX := br_n hX c27
  refine lv_iload C.1 C.2.1 dX11_person_91 (lv_at hl 1 rfl) ?_
  refine lv_if_eq (tgt := 126) C.1 C.2.1 dX11_person_93 (by decide) (fun c29 => ?_) (fun c29 => ?_)
  · have hX := br_p hX c29
    refine lv_aload_n C.1 C.2.1 dX11_person_126 rfl (lv_at hl 3 rfl) ?_
    refine C_get C hW 11 rfl hin11 hKS.k11_0 rfl 0 (by decide) rfl f11_0 dX11_person_127 ?_
    refine lv_iconst (v := 0) C.1 C.2.1 dX11_person_130 (by decide) ?_
    obtain ⟨t30, et30⟩ : ∃ z, z = uS t 9 1 0 0 := ⟨_, rfl⟩
    refine C_put C hW 9 rfl hin9 tyX9 tyX9_ok nmX9 hKS.k9_0 rfl 1 (by decide) rfl rfl rfl (Nat.le_of_ble_eq_true rfl) f9_1 dX11_person_131 (t' := t30) (by rw [et30]; exact wr9_1) (by rw [et30]; exact ho_S (by decide)) (fun H locs hW => ?_)
    have hX := nm_st hX et30
    refine lv_iload C.1 C.2.1 dX11_person_134 (lv_at hl 0 rfl) ?_
    refine W.widen (k := 3) (n := 39) (Nat.zero_le _) (Nat.zero_le _) ?_
    exact G_reti C hr hlk hA (show GW Ev D (tyC cs) (wA cs) A s (ad, K, t30) H locs from hW) ⟨extA_rf _ _, (Option.some.inj hX).symm⟩ dX11_person_136
  have hX := br_n hX c29
  refine lv_aload_n C.1 C.2.1 dX11_person_96 rfl (lv_at hl 3 rfl) ?_
  refine C_get C hW 11 rfl hin11 hKS.k11_0 rfl 2 (by decide) rfl f11_2 dX11_person_97 ?_
  obtain ⟨n, hn⟩ : ∃ z, z = (tS t 6 1 0).toNatClampNeg := ⟨_, rfl⟩
  obtain ⟨hK7, hK17, hK18, hf1, hf2⟩ := hfr n hn
  rw [← hn] at hX
  obtain ⟨N, hqN, hX⟩ := bnd_st hX
  obtain ⟨hN12, hX⟩ := chkP_st hX
  obtain ⟨hz, hX⟩ := chkZ_st hX
  obtain ⟨rw, cl, hrc, hX⟩ := bnd2_st hX
  refine X_new (fs := [.int 0, .int 0, .int 0, .int 0, .null, .null, .int 0, .int 0, .int 0, .int 0, .int 0, .int 0, .long 0, .int 0, .int 0]) C (GX_of hW) 7 rfl hin7 tyX7 tyX7_ok (C.2.2.2.2 _ (List.mem_of_getElem? (i := 5) rfl)) (C.2.2.2.2 _ (List.mem_of_getElem? (i := 6) rfl)) (C.2.2.2.2 _ (List.mem_of_getElem? (i := 7) rfl)) (fun j hj => by rcases (show j = 0 ∨ j = 1 ∨ j = 2 ∨ j = 3 ∨ j = 4 ∨ j = 5 ∨ j = 6 ∨ j = 7 ∨ j = 8 ∨ j = 9 ∨ j = 10 ∨ j = 11 ∨ j = 12 ∨ j = 13 ∨ j = 14 by omega) with rfl | rfl | rfl | rfl | rfl | rfl | rfl | rfl | rfl | rfl | rfl | rfl | rfl | rfl | rfl <;> rfl) (Nat.le_of_ble_eq_true rfl) (Nat.le_of_ble_eq_true rfl) dX11_person_100 (fun q7 H hW2 => ?_)
  have hW : GW Ev D (tyC cs) (wC cs ad K) A s t H locs := GX_to (GX_tail hW2)
  refine W.widen (k := 1) (n := 15) (Nat.le_of_ble_eq_true rfl) (Nat.le_of_ble_eq_true rfl) ?_
  refine lv_dup C.1 C.2.1 dX11_person_103 rfl ?_
  refine lv_iload_n C.1 C.2.1 dX11_person_104 rfl (lv_at hl 4 rfl) ?_
  refine lv_iload_n C.1 C.2.1 dX11_person_105 rfl (lv_at hl 5 rfl) ?_
  refine lv_iload_n C.1 C.2.1 dX11_person_106 rfl (lv_at hl 6 rfl) ?_
  refine lv_iload C.1 C.2.1 dX11_person_107 (lv_at hl 7 rfl) ?_
  refine lv_aload_n C.1 C.2.1 dX11_person_109 rfl (lv_at hl 3 rfl) ?_
  refine C_get C hW 11 rfl hin11 hKS.k11_0 rfl 0 (by decide) rfl f11_0 dX11_person_110 ?_
  refine lv_bipush (v := 12) C.1 C.2.1 dX11_person_113 (by decide) ?_
  refine G_Vr (w := idw) (σ := [(q7, .inr (7, [.int 0, .int 0, .int 0, .int 0, .null, .null, .int 0, .int 0, .int 0, .int 0, .int 0, .int 0, .long 0, .int 0, .int 0]))] ++ wC cs ad K t) (As := [.int 12]) (rest := [.int x4, .int x3, .int x2, .int x1, .ref q7, .ref q7, .ref (ad 6 0)]) C hW2 (c_C_Tape_copied l D cs ad K hKS [(q7, .inr (7, [.int 0, .int 0, .int 0, .int 0, .null, .null, .int 0, .int 0, .int 0, .int 0, .int 0, .int 0, .long 0, .int 0, .int 0]))] t 12 N hqN.symm) (cwV 1 C.2.2.2.2 gX11_person_X9_copied rfl rfl rfl (by decide +kernel) ⟨(Nat.le_of_ble_eq_true rfl), (Nat.le_of_ble_eq_true rfl)⟩) (C_recv hW 9 hKS.k9_0 rfl rfl) rfl hl.1 rfl (Nat.le_of_ble_eq_true rfl) dX11_person_115 ⟨(Nat.le_of_ble_eq_true rfl), (Nat.le_of_ble_eq_true rfl)⟩ (fun a5 u H locs hu hW2 => ?_)
  subst hu
  refine W.widen (k := 2) (n := 27) (Nat.le_of_ble_eq_true rfl) (Nat.le_of_ble_eq_true rfl) ?_
  refine X_I (w := idw) (σ := [(a5, .inl (cs 1, N, .inl (va_cpy (tS t 13 0) (fun _ => 0) 0 0 N))), (q7, .inr (7, [.int 0, .int 0, .int 0, .int 0, .null, .null, .int 0, .int 0, .int 0, .int 0, .int 0, .int 0, .long 0, .int 0, .int 0]))]) (wr := wC cs ad K t) (As := [.int x1, .int x2, .int x3, .int x4, .ref a5]) (rest := [.ref q7, .ref (ad 6 0)]) C hW2 (c_N_X7_init l D cs q7 x1 x2 x3 x4 a5 N _ hN12 hz rw cl hrc.symm) (cwI 5 C.2.2.2.2 gX11_person_X7_init rfl rfl rfl (C.2.2.2.2 _ (List.mem_of_getElem? (i := 7) rfl)) (C.2.2.2.2 _ (List.mem_of_getElem? (i := 56) rfl)) (C.2.2.2.2 _ (List.mem_of_getElem? (i := 57) rfl)) rfl (by decide +kernel) ⟨(Nat.le_of_ble_eq_true rfl), (Nat.le_of_ble_eq_true rfl)⟩) rfl hl.1 rfl (Nat.le_of_ble_eq_true rfl) dX11_person_118 ⟨(Nat.le_of_ble_eq_true rfl), (Nat.le_of_ble_eq_true rfl)⟩ (fun u H locs hu hW2 => ?_)
  obtain ⟨q18, hu⟩ := hu
  subst hu
  refine W.widen (k := 3) (n := 39) (Nat.le_of_ble_eq_true rfl) (Nat.le_of_ble_eq_true rfl) ?_
  have hW := fold_person ⟨hK7, hK17, hK18⟩ hf1 hf2 hW2
  obtain ⟨t1, et1⟩ : ∃ z, z = mkPers t n x2 x3 x4 rw cl N (va_cpy (tS t 13 0) (fun _ => 0) 0 0 N) := ⟨_, rfl⟩
  rw [← et1] at hW
  have hX := nm_st hX et1
  have hKS2 : KS (K3 K n) := KS_3 hKS
  obtain ⟨adN, hadN⟩ : ∃ z, z = ad3 ad n q7 a5 q18 := ⟨_, rfl⟩
  rw [← hadN] at hW
  have e7 : q7 = adN 7 n := by rw [hadN]; exact ((congrFun (upA_nc (by decide)) n).trans ((congrFun (upA_nc (by decide)) n).trans upA_self)).symm
  have e6 : ad 6 0 = adN 6 0 := by rw [hadN]; rfl
  have e11 : ad 11 0 = adN 11 0 := by rw [hadN]; rfl
  have hext : extA ad adN K := fun k hk => by rw [hadN]; exact (upA_ne (fun z => hK18 (z ▸ hk))).trans ((upA_ne (fun z => hK17 (z ▸ hk))).trans (upA_ne (fun z => hK7 (z ▸ hk))))
  refine W.eq (g2 := F0 m 121 ls [.ref (adN 7 n), .ref (adN 6 0)]) (by rw [← e7, ← e6]) ?_
  obtain ⟨v, t2, hqv, hX⟩ := bnd2_st hX
  refine G_Vi (w := wC cs adN (K3 K n)) (σ := t1) (As := [.ref (adN 7 n)]) (rest := []) C hW (c_C_People_welcome l D cs adN (K3 K n) hKS2 hEv t1 n (v, t2) hqv.symm) (cwV 1 C.2.2.2.2 gX11_person_X6_welcome rfl rfl rfl (by decide +kernel) ⟨(Nat.le_of_ble_eq_true rfl), (Nat.le_of_ble_eq_true rfl)⟩) (C_recv hW 6 hKS2.k6_0 rfl rfl) rfl hl.1 rfl (Nat.le_of_ble_eq_true rfl) dX11_person_121 ⟨(Nat.le_of_ble_eq_true rfl), (Nat.le_of_ble_eq_true rfl)⟩ (fun r u H locs hu hW => ?_)
  obtain ⟨h2, h3⟩ := Prod.mk.inj hu
  rw [h3] at hW
  rw [h2]
  refine W.widen (k := 3) (n := 39) (Nat.le_of_ble_eq_true rfl) (Nat.le_of_ble_eq_true rfl) ?_
  refine lv_istore (i := 7) (lv' := [(7, .int v), (6, .int v26), (5, .int v5), (0, .ref (ad 11 0)), (1, .int x1), (2, .int x2), (3, .int x3), (4, .int x4)]) C.1 C.2.1 dX11_person_124 hl (by decide) rfl (fun ls hl => ?_)
  refine lv_aload_n C.1 C.2.1 dX11_person_126 rfl (lv_at hl 3 rfl) ?_
  refine W.eq (g2 := F0 m 127 ls [.ref (adN 11 0)]) (by rw [← e11]) ?_
  refine C_get C hW 11 rfl hin11 hKS2.k11_0 rfl 0 (by decide) rfl f11_0 dX11_person_127 ?_
  refine lv_iconst (v := 0) C.1 C.2.1 dX11_person_130 (by decide) ?_
  obtain ⟨t3, et3⟩ : ∃ z, z = uS t2 9 1 0 0 := ⟨_, rfl⟩
  refine C_put C hW 9 rfl hin9 tyX9 tyX9_ok nmX9 hKS2.k9_0 rfl 1 (by decide) rfl rfl rfl (Nat.le_of_ble_eq_true rfl) f9_1 dX11_person_131 (t' := t3) (by rw [et3]; exact wr9_1) (by rw [et3]; exact ho_S (by decide)) (fun H locs hW => ?_)
  have hX := nm_st hX et3
  refine lv_iload C.1 C.2.1 dX11_person_134 (lv_at hl 0 rfl) ?_
  exact G_reti C hr hlk hA (show GW Ev D (tyC cs) (wA cs) A s (adN, K3 K n, t3) H locs from hW) ⟨hext, (Option.some.inj hX).symm⟩ dX11_person_136
