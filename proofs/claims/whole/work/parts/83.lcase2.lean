def L_law (K : List (Nat × Nat)) (t : TH) (σ : St) : Option (List (Nat × Nat) × TH × St) := bnd2 (C_Run_law K t) (fun r t1 => bnd2 (M_law σ) (fun b σ1 => if r = b then some (K, t1, σ1) else none))
set_option maxHeartbeats 4000000 in
set_option maxRecDepth 100000 in
theorem l_law {p : Program} {l : Launch} (hst : l.stackTraces = false) {e : Env} {s : State} {m : MethodId} {below : List Frame} {meth : Method} {c : Code} {D : va_G} {cs : Nat → ClassId} {ek ev : Nat → Nat} {tp b L : Nat} {xs : Nat → Int32} {A : Nat → Prop} {Q : State → Prop} (C : Cx p s m #[Value.ref b] c code 7 wsL_law RL) (hXs : va_X b L xs s s.heap) (hbl : b < s.heap.size) (hbA : ¬ A b) {ad : AD} {K : List (Nat × Nat)} (hKS : KS K) {t : TH} {σ : St} {h : Nat} {a : Nat → Nat} {ao : Nat} {f : Nat → Int64} {x4 : Int32} {H : Heap} {locs : List Loc} {ls : Array Slot} {cells slots : Nat} (hc : cells + 3 ≤ 601024) (hs : slots + 40 ≤ 7293034) (hW : GW (EvA ek ev tp) D (tyC cs) idw A s (oW cs ao f :: (wC cs ad K t ++ wM h a cs σ)) H locs) (hl : lv_has ls 7 [(0, .ref b), (1, .ref (ad 11 0)), (2, .ref h), (3, .ref ao), (4, .int x4)]) {Y : List (Nat × Nat) × TH × St} (hX : some Y = L_law K t σ)
    (kk : ∀ (ad' : AD) (f' : Nat → Int64) (H : Heap) (locs : List Loc) (ls : Array Slot), ad' 11 0 = ad 11 0 → GW (EvA ek ev tp) D (tyC cs) idw A s (oW cs ao f' :: (wC cs ad' Y.1 Y.2.1 ++ wM h a cs Y.2.2)) H locs → lv_has ls 7 [(0, .ref b), (1, .ref (ad 11 0)), (2, .ref h), (3, .ref ao), (4, .int x4)] → W p l e room_1 s m #[Value.ref b] below meth c H locs (cells + 3) (slots + 40) Q (F0 m 868 ls [])) : W p l e room_1 s m #[Value.ref b] below meth c H locs cells slots Q (F0 m 482 ls []) := by
  have hEv : EvC (EvA ek ev tp) ek ev tp := EvA_c ek ev tp
  unfold L_law at hX
  refine lv_aload_n C.1 C.2.1 dL_law_482 rfl (lv_at hl 1 rfl) ?_
  have hW := LW_c hW
  obtain ⟨r, t1, hq, hX⟩ := bnd2_st hX
  refine X_Vi (w := wC cs ad K) (σ := t) (As := []) (rest := []) C hW (c_C_Run_law l D cs ad K hKS hEv t (r, t1) hq.symm) (cwV 0 C.2.2.2.2 gL_law_X11_law rfl rfl rfl (by decide +kernel) ⟨(Nat.le_of_ble_eq_true rfl), (Nat.le_of_ble_eq_true rfl)⟩) (C_recv (GX_left hW) 11 hKS.k11_0 rfl rfl) rfl hl.1 rfl (Nat.le_of_ble_eq_true rfl) dL_law_483 ⟨by show cells + 0 ≤ 601024; omega, by show slots + 0 ≤ 7293034; omega⟩ (fun r' u H locs hu hW => ?_)
  obtain ⟨hu1, hu2⟩ := Prod.mk.inj hu
  cases hu1
  cases hu2
  have hW := LW_m hW
  refine lv_aload_n C.1 C.2.1 dL_law_486 rfl (lv_at hl 2 rfl) ?_
  obtain ⟨b1, σ1, hq, hX⟩ := bnd2_st hX
  refine X_Vi (w := wM h a cs) (σ := σ) (As := []) (rest := [.int r]) C hW (c_M_law l D cs h a σ (b1, σ1) hq.symm) (cwV 0 C.2.2.2.2 gL_law_X12_law rfl rfl rfl (by decide +kernel) ⟨(Nat.le_of_ble_eq_true rfl), (Nat.le_of_ble_eq_true rfl)⟩) (M_recv (GX_left hW)) rfl hl.1 rfl (Nat.le_of_ble_eq_true rfl) dL_law_487 ⟨by show cells + 0 + 0 ≤ 601024; omega, by show slots + 0 + 0 ≤ 7293034; omega⟩ (fun r'' u H locs hu hW => ?_)
  obtain ⟨hu1, hu2⟩ := Prod.mk.inj hu
  cases hu1
  cases hu2
  have hW := LW_b hW
  refine lv_icmp_eq (tgt := 868) C.1 C.2.1 dL_law_490 (by decide) (fun cc => ?_) (fun cc => ?_)
  · have hX := br_p hX cc
    cases hX
    refine W.widen (k := cells + 3) (n := slots + 40) (by omega) (by omega) ?_
    exact kk ad _ _ _ _ rfl hW (lv_sub hl [0, 1, 2, 3, 4] rfl)
  have hX := br_n hX cc
  cases hX

def L_fault (K : List (Nat × Nat)) (t : TH) (σ : St) : Option (List (Nat × Nat) × TH × St) := bnd (C_Run_fault K t) (fun r => bnd2 (M_fault σ) (fun b σ1 => if r = b then some (K, t, σ1) else none))
set_option maxHeartbeats 4000000 in
set_option maxRecDepth 100000 in
theorem l_fault {p : Program} {l : Launch} (hst : l.stackTraces = false) {e : Env} {s : State} {m : MethodId} {below : List Frame} {meth : Method} {c : Code} {D : va_G} {cs : Nat → ClassId} {ek ev : Nat → Nat} {tp b L : Nat} {xs : Nat → Int32} {A : Nat → Prop} {Q : State → Prop} (C : Cx p s m #[Value.ref b] c code 7 wsL_law RL) (hXs : va_X b L xs s s.heap) (hbl : b < s.heap.size) (hbA : ¬ A b) {ad : AD} {K : List (Nat × Nat)} (hKS : KS K) {t : TH} {σ : St} {h : Nat} {a : Nat → Nat} {ao : Nat} {f : Nat → Int64} {x4 : Int32} {H : Heap} {locs : List Loc} {ls : Array Slot} {cells slots : Nat} (hc : cells + 3 ≤ 601024) (hs : slots + 40 ≤ 7293034) (hW : GW (EvA ek ev tp) D (tyC cs) idw A s (oW cs ao f :: (wC cs ad K t ++ wM h a cs σ)) H locs) (hl : lv_has ls 7 [(0, .ref b), (1, .ref (ad 11 0)), (2, .ref h), (3, .ref ao), (4, .int x4)]) {Y : List (Nat × Nat) × TH × St} (hX : some Y = L_fault K t σ)
    (kk : ∀ (ad' : AD) (f' : Nat → Int64) (H : Heap) (locs : List Loc) (ls : Array Slot), ad' 11 0 = ad 11 0 → GW (EvA ek ev tp) D (tyC cs) idw A s (oW cs ao f' :: (wC cs ad' Y.1 Y.2.1 ++ wM h a cs Y.2.2)) H locs → lv_has ls 7 [(0, .ref b), (1, .ref (ad 11 0)), (2, .ref h), (3, .ref ao), (4, .int x4)] → W p l e room_1 s m #[Value.ref b] below meth c H locs (cells + 3) (slots + 40) Q (F0 m 868 ls [])) : W p l e room_1 s m #[Value.ref b] below meth c H locs cells slots Q (F0 m 495 ls []) := by
  have hEv : EvC (EvA ek ev tp) ek ev tp := EvA_c ek ev tp
  unfold L_fault at hX
  refine lv_aload_n C.1 C.2.1 dL_law_495 rfl (lv_at hl 1 rfl) ?_
  have hW := LW_c hW
  obtain ⟨r, hq, hX⟩ := bnd_st hX
  refine X_Vi (w := wC cs ad K) (σ := t) (As := []) (rest := []) C hW (c_C_Run_fault l D cs ad K hKS hEv t r hq.symm) (cwV 0 C.2.2.2.2 gL_law_X11_fault rfl rfl rfl (by decide +kernel) ⟨(Nat.le_of_ble_eq_true rfl), (Nat.le_of_ble_eq_true rfl)⟩) (C_recv (GX_left hW) 11 hKS.k11_0 rfl rfl) rfl hl.1 rfl (Nat.le_of_ble_eq_true rfl) dL_law_496 ⟨by show cells + 0 ≤ 601024; omega, by show slots + 0 ≤ 7293034; omega⟩ (fun r' u H locs hu hW => ?_)
  obtain ⟨eu1, eu2⟩ := hu
  rw [eu2] at hW
  rw [eu1]
  have hW := LW_m hW
  refine lv_aload_n C.1 C.2.1 dL_law_499 rfl (lv_at hl 2 rfl) ?_
  obtain ⟨b1, σ1, hq, hX⟩ := bnd2_st hX
  refine X_Vi (w := wM h a cs) (σ := σ) (As := []) (rest := [.int r]) C hW (c_M_fault l D cs h a σ (b1, σ1) hq.symm) (cwV 0 C.2.2.2.2 gL_law_X12_fault rfl rfl rfl (by decide +kernel) ⟨(Nat.le_of_ble_eq_true rfl), (Nat.le_of_ble_eq_true rfl)⟩) (M_recv (GX_left hW)) rfl hl.1 rfl (Nat.le_of_ble_eq_true rfl) dL_law_500 ⟨by show cells + 0 + 0 ≤ 601024; omega, by show slots + 0 + 0 ≤ 7293034; omega⟩ (fun r'' u H locs hu hW => ?_)
  obtain ⟨hu1, hu2⟩ := Prod.mk.inj hu
  cases hu1
  cases hu2
  have hW := LW_b hW
  refine lv_icmp_eq (tgt := 868) C.1 C.2.1 dL_law_503 (by decide) (fun cc => ?_) (fun cc => ?_)
  · have hX := br_p hX cc
    cases hX
    refine W.widen (k := cells + 3) (n := slots + 40) (by omega) (by omega) ?_
    exact kk ad _ _ _ _ rfl hW (lv_sub hl [0, 1, 2, 3, 4] rfl)
  have hX := br_n hX cc
  cases hX

def L_wait (K : List (Nat × Nat)) (t : TH) (σ : St) (a1 : Int32) : Option (List (Nat × Nat) × TH × St) := bnd2 (C_Run_wait K t a1) (fun r t1 => bnd2 (M_wait σ a1) (fun b σ1 => if r = b then some (K, t1, σ1) else none))
set_option maxHeartbeats 4000000 in
set_option maxRecDepth 100000 in
theorem l_wait {p : Program} {l : Launch} (hst : l.stackTraces = false) {e : Env} {s : State} {m : MethodId} {below : List Frame} {meth : Method} {c : Code} {D : va_G} {cs : Nat → ClassId} {ek ev : Nat → Nat} {tp b L : Nat} {xs : Nat → Int32} {A : Nat → Prop} {Q : State → Prop} (C : Cx p s m #[Value.ref b] c code 7 wsL_law RL) (hXs : va_X b L xs s s.heap) (hbl : b < s.heap.size) (hbA : ¬ A b) {ad : AD} {K : List (Nat × Nat)} (hKS : KS K) {t : TH} {σ : St} {h : Nat} {a : Nat → Nat} {ao : Nat} {f : Nat → Int64} {x4 : Int32} {H : Heap} {locs : List Loc} {ls : Array Slot} {cells slots : Nat} (hc : cells + 3 ≤ 601024) (hs : slots + 40 ≤ 7293034) (h1 : vp_in (x4 + 1) L) (hW : GW (EvA ek ev tp) D (tyC cs) idw A s (oW cs ao f :: (wC cs ad K t ++ wM h a cs σ)) H locs) (hl : lv_has ls 7 [(0, .ref b), (1, .ref (ad 11 0)), (2, .ref h), (3, .ref ao), (4, .int x4)]) {Y : List (Nat × Nat) × TH × St} (hX : some Y = L_wait K t σ (xs (x4 + 1).toNatClampNeg))
    (kk : ∀ (ad' : AD) (f' : Nat → Int64) (H : Heap) (locs : List Loc) (ls : Array Slot), ad' 11 0 = ad 11 0 → GW (EvA ek ev tp) D (tyC cs) idw A s (oW cs ao f' :: (wC cs ad' Y.1 Y.2.1 ++ wM h a cs Y.2.2)) H locs → lv_has ls 7 [(0, .ref b), (1, .ref (ad 11 0)), (2, .ref h), (3, .ref ao), (4, .int x4)] → W p l e room_1 s m #[Value.ref b] below meth c H locs (cells + 3) (slots + 40) Q (F0 m 868 ls [])) : W p l e room_1 s m #[Value.ref b] below meth c H locs cells slots Q (F0 m 508 ls []) := by
  have hEv : EvC (EvA ek ev tp) ek ev tp := EvA_c ek ev tp
  unfold L_wait at hX
  refine lv_aload_n C.1 C.2.1 dL_law_508 rfl (lv_at hl 1 rfl) ?_
  refine lv_aload_n C.1 C.2.1 dL_law_509 rfl (lv_at hl 0 rfl) ?_
  refine lv_iload C.1 C.2.1 dL_law_510 (lv_at hl 4 rfl) ?_
  refine lv_iconst (v := 1) C.1 C.2.1 dL_law_512 (by decide) ?_
  refine lv_iadd C.1 C.2.1 dL_law_513 ?_
  refine va_sld C.1 C.2.1 hXs hbl hbA hW.2.2.2.1 h1 dL_law_514 ?_
  have hW := LW_c hW
  obtain ⟨r, t1, hq, hX⟩ := bnd2_st hX
  refine X_Vi (w := wC cs ad K) (σ := t) (As := [.int (xs (x4 + 1).toNatClampNeg)]) (rest := []) C hW (c_C_Run_wait l D cs ad K hKS hEv t (xs (x4 + 1).toNatClampNeg) (r, t1) hq.symm) (cwV 1 C.2.2.2.2 gL_law_X11_wait rfl rfl rfl (by decide +kernel) ⟨(Nat.le_of_ble_eq_true rfl), (Nat.le_of_ble_eq_true rfl)⟩) (C_recv (GX_left hW) 11 hKS.k11_0 rfl rfl) rfl hl.1 rfl (Nat.le_of_ble_eq_true rfl) dL_law_515 ⟨by show cells + 0 ≤ 601024; omega, by show slots + 0 ≤ 7293034; omega⟩ (fun r' u H locs hu hW => ?_)
  obtain ⟨hu1, hu2⟩ := Prod.mk.inj hu
  cases hu1
  cases hu2
  have hW := LW_m hW
  refine lv_aload_n C.1 C.2.1 dL_law_518 rfl (lv_at hl 2 rfl) ?_
  refine lv_aload_n C.1 C.2.1 dL_law_519 rfl (lv_at hl 0 rfl) ?_
  refine lv_iload C.1 C.2.1 dL_law_520 (lv_at hl 4 rfl) ?_
  refine lv_iconst (v := 1) C.1 C.2.1 dL_law_522 (by decide) ?_
  refine lv_iadd C.1 C.2.1 dL_law_523 ?_
  refine va_sld C.1 C.2.1 hXs hbl hbA hW.2.2.2.1 h1 dL_law_524 ?_
  obtain ⟨b1, σ1, hq, hX⟩ := bnd2_st hX
  refine X_Vi (w := wM h a cs) (σ := σ) (As := [.int (xs (x4 + 1).toNatClampNeg)]) (rest := [.int r]) C hW (c_M_wait l D cs h a σ (xs (x4 + 1).toNatClampNeg) (b1, σ1) hq.symm) (cwV 1 C.2.2.2.2 gL_law_X12_wait rfl rfl rfl (by decide +kernel) ⟨(Nat.le_of_ble_eq_true rfl), (Nat.le_of_ble_eq_true rfl)⟩) (M_recv (GX_left hW)) rfl hl.1 rfl (Nat.le_of_ble_eq_true rfl) dL_law_525 ⟨by show cells + 0 + 0 ≤ 601024; omega, by show slots + 0 + 0 ≤ 7293034; omega⟩ (fun r'' u H locs hu hW => ?_)
  obtain ⟨hu1, hu2⟩ := Prod.mk.inj hu
  cases hu1
  cases hu2
  have hW := LW_b hW
  refine lv_icmp_eq (tgt := 868) C.1 C.2.1 dL_law_528 (by decide) (fun cc => ?_) (fun cc => ?_)
  · have hX := br_p hX cc
    cases hX
    refine W.widen (k := cells + 3) (n := slots + 40) (by omega) (by omega) ?_
    exact kk ad _ _ _ _ rfl hW (lv_sub hl [0, 1, 2, 3, 4] rfl)
  have hX := br_n hX cc
  cases hX

def L_file (K : List (Nat × Nat)) (t : TH) (σ : St) (a1 : Int32) (a2 : Int32) : Option (List (Nat × Nat) × TH × St) := bnd2 (C_Run_file K t a1 a2) (fun r u => bnd2 (M_file σ a1 a2) (fun b σ1 => if r = b then some (u.1, u.2, σ1) else none))
set_option maxHeartbeats 4000000 in
set_option maxRecDepth 100000 in
theorem l_file {p : Program} {l : Launch} (hst : l.stackTraces = false) {e : Env} {s : State} {m : MethodId} {below : List Frame} {meth : Method} {c : Code} {D : va_G} {cs : Nat → ClassId} {ek ev : Nat → Nat} {tp b L : Nat} {xs : Nat → Int32} {A : Nat → Prop} {Q : State → Prop} (C : Cx p s m #[Value.ref b] c code 7 wsL_law RL) (hXs : va_X b L xs s s.heap) (hbl : b < s.heap.size) (hbA : ¬ A b) {ad : AD} {K : List (Nat × Nat)} (hKS : KS K) {t : TH} {σ : St} {h : Nat} {a : Nat → Nat} {ao : Nat} {f : Nat → Int64} {x4 : Int32} {H : Heap} {locs : List Loc} {ls : Array Slot} {cells slots : Nat} (hc : cells + 3 ≤ 601024) (hs : slots + 40 ≤ 7293034) (h1 : vp_in (x4 + 1) L) (h2 : vp_in (x4 + 2) L) (hW : GW (EvA ek ev tp) D (tyC cs) idw A s (oW cs ao f :: (wC cs ad K t ++ wM h a cs σ)) H locs) (hl : lv_has ls 7 [(0, .ref b), (1, .ref (ad 11 0)), (2, .ref h), (3, .ref ao), (4, .int x4)]) {Y : List (Nat × Nat) × TH × St} (hfr : ∀ n, n = (tS t 2 3 0).toNatClampNeg → (1, n) ∉ K ∧ ∀ j e, tP t 16 j e ≠ some n) (hX : some Y = L_file K t σ (xs (x4 + 1).toNatClampNeg) (xs (x4 + 2).toNatClampNeg))
    (kk : ∀ (ad' : AD) (f' : Nat → Int64) (H : Heap) (locs : List Loc) (ls : Array Slot), ad' 11 0 = ad 11 0 → GW (EvA ek ev tp) D (tyC cs) idw A s (oW cs ao f' :: (wC cs ad' Y.1 Y.2.1 ++ wM h a cs Y.2.2)) H locs → lv_has ls 7 [(0, .ref b), (1, .ref (ad 11 0)), (2, .ref h), (3, .ref ao), (4, .int x4)] → W p l e room_1 s m #[Value.ref b] below meth c H locs (cells + 3) (slots + 40) Q (F0 m 868 ls [])) : W p l e room_1 s m #[Value.ref b] below meth c H locs cells slots Q (F0 m 533 ls []) := by
  have hEv : EvC (EvA ek ev tp) ek ev tp := EvA_c ek ev tp
  unfold L_file at hX
  refine lv_aload_n C.1 C.2.1 dL_law_533 rfl (lv_at hl 1 rfl) ?_
  refine lv_aload_n C.1 C.2.1 dL_law_534 rfl (lv_at hl 0 rfl) ?_
  refine lv_iload C.1 C.2.1 dL_law_535 (lv_at hl 4 rfl) ?_
  refine lv_iconst (v := 1) C.1 C.2.1 dL_law_537 (by decide) ?_
  refine lv_iadd C.1 C.2.1 dL_law_538 ?_
  refine va_sld C.1 C.2.1 hXs hbl hbA hW.2.2.2.1 h1 dL_law_539 ?_
  refine lv_aload_n C.1 C.2.1 dL_law_540 rfl (lv_at hl 0 rfl) ?_
  refine lv_iload C.1 C.2.1 dL_law_541 (lv_at hl 4 rfl) ?_
  refine lv_iconst (v := 2) C.1 C.2.1 dL_law_543 (by decide) ?_
  refine lv_iadd C.1 C.2.1 dL_law_544 ?_
  refine va_sld C.1 C.2.1 hXs hbl hbA hW.2.2.2.1 h2 dL_law_545 ?_
  have hW := LW_c hW
  obtain ⟨r, K1t1, hq, hX⟩ := bnd2_st hX
  refine X_Vi (w := wA cs) (σ := (ad, K, t)) (As := [.int (xs (x4 + 1).toNatClampNeg), .int (xs (x4 + 2).toNatClampNeg)]) (rest := []) C hW (c_C_Run_file l D cs ad K hKS hEv t (xs (x4 + 1).toNatClampNeg) (xs (x4 + 2).toNatClampNeg) (r, K1t1) hfr hq.symm) (cwV 2 C.2.2.2.2 gL_law_X11_file rfl rfl rfl (by decide +kernel) ⟨(Nat.le_of_ble_eq_true rfl), (Nat.le_of_ble_eq_true rfl)⟩) (C_recv (GX_left (w := wC cs ad K) hW) 11 hKS.k11_0 rfl rfl) rfl hl.1 rfl (Nat.le_of_ble_eq_true rfl) dL_law_546 ⟨by show cells + 1 ≤ 601024; omega, by show slots + 10 ≤ 7293034; omega⟩ (fun r' u H locs hu hW => ?_)
  obtain ⟨hext, hu⟩ := hu
  obtain ⟨ad1, K1, t1⟩ := u
  obtain ⟨hu1, hu2⟩ := Prod.mk.inj hu
  cases hu1
  cases hu2
  have had : ad1 11 0 = ad 11 0 := hext (11, 0) hKS.k11_0
  have hW := LW_m (a := wC cs ad1 K1 t1) hW
  refine lv_aload_n C.1 C.2.1 dL_law_549 rfl (lv_at hl 2 rfl) ?_
  refine lv_aload_n C.1 C.2.1 dL_law_550 rfl (lv_at hl 0 rfl) ?_
  refine lv_iload C.1 C.2.1 dL_law_551 (lv_at hl 4 rfl) ?_
  refine lv_iconst (v := 1) C.1 C.2.1 dL_law_553 (by decide) ?_
  refine lv_iadd C.1 C.2.1 dL_law_554 ?_
  refine va_sld C.1 C.2.1 hXs hbl hbA hW.2.2.2.1 h1 dL_law_555 ?_
  refine lv_aload_n C.1 C.2.1 dL_law_556 rfl (lv_at hl 0 rfl) ?_
  refine lv_iload C.1 C.2.1 dL_law_557 (lv_at hl 4 rfl) ?_
  refine lv_iconst (v := 2) C.1 C.2.1 dL_law_559 (by decide) ?_
  refine lv_iadd C.1 C.2.1 dL_law_560 ?_
  refine va_sld C.1 C.2.1 hXs hbl hbA hW.2.2.2.1 h2 dL_law_561 ?_
  obtain ⟨b1, σ1, hq, hX⟩ := bnd2_st hX
  refine X_Vi (w := wM h a cs) (σ := σ) (As := [.int (xs (x4 + 1).toNatClampNeg), .int (xs (x4 + 2).toNatClampNeg)]) (rest := [.int r]) C hW (c_M_file l D cs h a σ (xs (x4 + 1).toNatClampNeg) (xs (x4 + 2).toNatClampNeg) (b1, σ1) hq.symm) (cwV 2 C.2.2.2.2 gL_law_X12_file rfl rfl rfl (by decide +kernel) ⟨(Nat.le_of_ble_eq_true rfl), (Nat.le_of_ble_eq_true rfl)⟩) (M_recv (GX_left hW)) rfl hl.1 rfl (Nat.le_of_ble_eq_true rfl) dL_law_562 ⟨by show cells + 1 + 0 ≤ 601024; omega, by show slots + 10 + 0 ≤ 7293034; omega⟩ (fun r'' u H locs hu hW => ?_)
  obtain ⟨hu1, hu2⟩ := Prod.mk.inj hu
  cases hu1
  cases hu2
  have hW := LW_b hW
  refine lv_icmp_eq (tgt := 868) C.1 C.2.1 dL_law_565 (by decide) (fun cc => ?_) (fun cc => ?_)
  · have hX := br_p hX cc
    cases hX
    refine W.widen (k := cells + 3) (n := slots + 40) (by omega) (by omega) ?_
    exact kk ad1 _ _ _ _ had hW (lv_sub hl [0, 1, 2, 3, 4] rfl)
  have hX := br_n hX cc
  cases hX

def L_witness (K : List (Nat × Nat)) (t : TH) (σ : St) (a1 : Int32) (a2 : Int32) (a3 : Int32) : Option (List (Nat × Nat) × TH × St) := bnd2 (C_Run_witness K t a1 a2 a3) (fun r u => bnd2 (M_witness σ a1 a2 a3) (fun b σ1 => if r = b then some (u.1, u.2, σ1) else none))
set_option maxHeartbeats 4000000 in
set_option maxRecDepth 100000 in
theorem l_witness {p : Program} {l : Launch} (hst : l.stackTraces = false) {e : Env} {s : State} {m : MethodId} {below : List Frame} {meth : Method} {c : Code} {D : va_G} {cs : Nat → ClassId} {ek ev : Nat → Nat} {tp b L : Nat} {xs : Nat → Int32} {A : Nat → Prop} {Q : State → Prop} (C : Cx p s m #[Value.ref b] c code 7 wsL_law RL) (hXs : va_X b L xs s s.heap) (hbl : b < s.heap.size) (hbA : ¬ A b) {ad : AD} {K : List (Nat × Nat)} (hKS : KS K) {t : TH} {σ : St} {h : Nat} {a : Nat → Nat} {ao : Nat} {f : Nat → Int64} {x4 : Int32} {H : Heap} {locs : List Loc} {ls : Array Slot} {cells slots : Nat} (hc : cells + 3 ≤ 601024) (hs : slots + 40 ≤ 7293034) (h1 : vp_in (x4 + 1) L) (h2 : vp_in (x4 + 2) L) (h3 : vp_in (x4 + 3) L) (hW : GW (EvA ek ev tp) D (tyC cs) idw A s (oW cs ao f :: (wC cs ad K t ++ wM h a cs σ)) H locs) (hl : lv_has ls 7 [(0, .ref b), (1, .ref (ad 11 0)), (2, .ref h), (3, .ref ao), (4, .int x4)]) {Y : List (Nat × Nat) × TH × St} (hfr : ∀ n, n = (tS t 2 4 0).toNatClampNeg → (10, n) ∉ K ∧ (∀ j, tP t 1 5 j ≠ some n) ∧ ∀ j, tP t 10 3 j ≠ some n) (hX : some Y = L_witness K t σ (xs (x4 + 1).toNatClampNeg) (xs (x4 + 2).toNatClampNeg) (xs (x4 + 3).toNatClampNeg))
    (kk : ∀ (ad' : AD) (f' : Nat → Int64) (H : Heap) (locs : List Loc) (ls : Array Slot), ad' 11 0 = ad 11 0 → GW (EvA ek ev tp) D (tyC cs) idw A s (oW cs ao f' :: (wC cs ad' Y.1 Y.2.1 ++ wM h a cs Y.2.2)) H locs → lv_has ls 7 [(0, .ref b), (1, .ref (ad 11 0)), (2, .ref h), (3, .ref ao), (4, .int x4)] → W p l e room_1 s m #[Value.ref b] below meth c H locs (cells + 3) (slots + 40) Q (F0 m 868 ls [])) : W p l e room_1 s m #[Value.ref b] below meth c H locs cells slots Q (F0 m 570 ls []) := by
  have hEv : EvC (EvA ek ev tp) ek ev tp := EvA_c ek ev tp
  unfold L_witness at hX
  refine lv_aload_n C.1 C.2.1 dL_law_570 rfl (lv_at hl 1 rfl) ?_
  refine lv_aload_n C.1 C.2.1 dL_law_571 rfl (lv_at hl 0 rfl) ?_
  refine lv_iload C.1 C.2.1 dL_law_572 (lv_at hl 4 rfl) ?_
  refine lv_iconst (v := 1) C.1 C.2.1 dL_law_574 (by decide) ?_
  refine lv_iadd C.1 C.2.1 dL_law_575 ?_
  refine va_sld C.1 C.2.1 hXs hbl hbA hW.2.2.2.1 h1 dL_law_576 ?_
  refine lv_aload_n C.1 C.2.1 dL_law_577 rfl (lv_at hl 0 rfl) ?_
  refine lv_iload C.1 C.2.1 dL_law_578 (lv_at hl 4 rfl) ?_
  refine lv_iconst (v := 2) C.1 C.2.1 dL_law_580 (by decide) ?_
  refine lv_iadd C.1 C.2.1 dL_law_581 ?_
  refine va_sld C.1 C.2.1 hXs hbl hbA hW.2.2.2.1 h2 dL_law_582 ?_
  refine lv_aload_n C.1 C.2.1 dL_law_583 rfl (lv_at hl 0 rfl) ?_
  refine lv_iload C.1 C.2.1 dL_law_584 (lv_at hl 4 rfl) ?_
  refine lv_iconst (v := 3) C.1 C.2.1 dL_law_586 (by decide) ?_
  refine lv_iadd C.1 C.2.1 dL_law_587 ?_
  refine va_sld C.1 C.2.1 hXs hbl hbA hW.2.2.2.1 h3 dL_law_588 ?_
  have hW := LW_c hW
  obtain ⟨r, K1t1, hq, hX⟩ := bnd2_st hX
  refine X_Vi (w := wA cs) (σ := (ad, K, t)) (As := [.int (xs (x4 + 1).toNatClampNeg), .int (xs (x4 + 2).toNatClampNeg), .int (xs (x4 + 3).toNatClampNeg)]) (rest := []) C hW (c_C_Run_witness l D cs ad K hKS hEv t (xs (x4 + 1).toNatClampNeg) (xs (x4 + 2).toNatClampNeg) (xs (x4 + 3).toNatClampNeg) (r, K1t1) hfr hq.symm) (cwV 3 C.2.2.2.2 gL_law_X11_witness rfl rfl rfl (by decide +kernel) ⟨(Nat.le_of_ble_eq_true rfl), (Nat.le_of_ble_eq_true rfl)⟩) (C_recv (GX_left (w := wC cs ad K) hW) 11 hKS.k11_0 rfl rfl) rfl hl.1 rfl (Nat.le_of_ble_eq_true rfl) dL_law_589 ⟨by show cells + 1 ≤ 601024; omega, by show slots + 4 ≤ 7293034; omega⟩ (fun r' u H locs hu hW => ?_)
  obtain ⟨hext, hu⟩ := hu
  obtain ⟨ad1, K1, t1⟩ := u
  obtain ⟨hu1, hu2⟩ := Prod.mk.inj hu
  cases hu1
  cases hu2
  have had : ad1 11 0 = ad 11 0 := hext (11, 0) hKS.k11_0
  have hW := LW_m (a := wC cs ad1 K1 t1) hW
  refine lv_aload_n C.1 C.2.1 dL_law_592 rfl (lv_at hl 2 rfl) ?_
  refine lv_aload_n C.1 C.2.1 dL_law_593 rfl (lv_at hl 0 rfl) ?_
  refine lv_iload C.1 C.2.1 dL_law_594 (lv_at hl 4 rfl) ?_
  refine lv_iconst (v := 1) C.1 C.2.1 dL_law_596 (by decide) ?_
  refine lv_iadd C.1 C.2.1 dL_law_597 ?_
  refine va_sld C.1 C.2.1 hXs hbl hbA hW.2.2.2.1 h1 dL_law_598 ?_
  refine lv_aload_n C.1 C.2.1 dL_law_599 rfl (lv_at hl 0 rfl) ?_
  refine lv_iload C.1 C.2.1 dL_law_600 (lv_at hl 4 rfl) ?_
  refine lv_iconst (v := 2) C.1 C.2.1 dL_law_602 (by decide) ?_
  refine lv_iadd C.1 C.2.1 dL_law_603 ?_
  refine va_sld C.1 C.2.1 hXs hbl hbA hW.2.2.2.1 h2 dL_law_604 ?_
  refine lv_aload_n C.1 C.2.1 dL_law_605 rfl (lv_at hl 0 rfl) ?_
  refine lv_iload C.1 C.2.1 dL_law_606 (lv_at hl 4 rfl) ?_
  refine lv_iconst (v := 3) C.1 C.2.1 dL_law_608 (by decide) ?_
  refine lv_iadd C.1 C.2.1 dL_law_609 ?_
  refine va_sld C.1 C.2.1 hXs hbl hbA hW.2.2.2.1 h3 dL_law_610 ?_
  obtain ⟨b1, σ1, hq, hX⟩ := bnd2_st hX
  refine X_Vi (w := wM h a cs) (σ := σ) (As := [.int (xs (x4 + 1).toNatClampNeg), .int (xs (x4 + 2).toNatClampNeg), .int (xs (x4 + 3).toNatClampNeg)]) (rest := [.int r]) C hW (c_M_witness l D cs h a σ (xs (x4 + 1).toNatClampNeg) (xs (x4 + 2).toNatClampNeg) (xs (x4 + 3).toNatClampNeg) (b1, σ1) hq.symm) (cwV 3 C.2.2.2.2 gL_law_X12_witness rfl rfl rfl (by decide +kernel) ⟨(Nat.le_of_ble_eq_true rfl), (Nat.le_of_ble_eq_true rfl)⟩) (M_recv (GX_left hW)) rfl hl.1 rfl (Nat.le_of_ble_eq_true rfl) dL_law_611 ⟨by show cells + 1 + 0 ≤ 601024; omega, by show slots + 4 + 0 ≤ 7293034; omega⟩ (fun r'' u H locs hu hW => ?_)
  obtain ⟨hu1, hu2⟩ := Prod.mk.inj hu
  cases hu1
  cases hu2
  have hW := LW_b hW
  refine lv_icmp_eq (tgt := 868) C.1 C.2.1 dL_law_614 (by decide) (fun cc => ?_) (fun cc => ?_)
  · have hX := br_p hX cc
    cases hX
    refine W.widen (k := cells + 3) (n := slots + 40) (by omega) (by omega) ?_
    exact kk ad1 _ _ _ _ had hW (lv_sub hl [0, 1, 2, 3, 4] rfl)
  have hX := br_n hX cc
  cases hX

def L_span (K : List (Nat × Nat)) (t : TH) (σ : St) (a1 : Int32) (a2 : Int32) (a3 : Int32) : Option (List (Nat × Nat) × TH × St) := bnd2 (C_Run_span K t a1 a2 a3) (fun r t1 => bnd2 (M_span σ a1 a2 a3) (fun b σ1 => if r = b then some (K, t1, σ1) else none))
set_option maxHeartbeats 4000000 in
set_option maxRecDepth 100000 in
theorem l_span {p : Program} {l : Launch} (hst : l.stackTraces = false) {e : Env} {s : State} {m : MethodId} {below : List Frame} {meth : Method} {c : Code} {D : va_G} {cs : Nat → ClassId} {ek ev : Nat → Nat} {tp b L : Nat} {xs : Nat → Int32} {A : Nat → Prop} {Q : State → Prop} (C : Cx p s m #[Value.ref b] c code 7 wsL_law RL) (hXs : va_X b L xs s s.heap) (hbl : b < s.heap.size) (hbA : ¬ A b) {ad : AD} {K : List (Nat × Nat)} (hKS : KS K) {t : TH} {σ : St} {h : Nat} {a : Nat → Nat} {ao : Nat} {f : Nat → Int64} {x4 : Int32} {H : Heap} {locs : List Loc} {ls : Array Slot} {cells slots : Nat} (hc : cells + 3 ≤ 601024) (hs : slots + 40 ≤ 7293034) (h1 : vp_in (x4 + 1) L) (h2 : vp_in (x4 + 2) L) (h3 : vp_in (x4 + 3) L) (hW : GW (EvA ek ev tp) D (tyC cs) idw A s (oW cs ao f :: (wC cs ad K t ++ wM h a cs σ)) H locs) (hl : lv_has ls 7 [(0, .ref b), (1, .ref (ad 11 0)), (2, .ref h), (3, .ref ao), (4, .int x4)]) {Y : List (Nat × Nat) × TH × St} (hX : some Y = L_span K t σ (xs (x4 + 1).toNatClampNeg) (xs (x4 + 2).toNatClampNeg) (xs (x4 + 3).toNatClampNeg))
    (kk : ∀ (ad' : AD) (f' : Nat → Int64) (H : Heap) (locs : List Loc) (ls : Array Slot), ad' 11 0 = ad 11 0 → GW (EvA ek ev tp) D (tyC cs) idw A s (oW cs ao f' :: (wC cs ad' Y.1 Y.2.1 ++ wM h a cs Y.2.2)) H locs → lv_has ls 7 [(0, .ref b), (1, .ref (ad 11 0)), (2, .ref h), (3, .ref ao), (4, .int x4)] → W p l e room_1 s m #[Value.ref b] below meth c H locs (cells + 3) (slots + 40) Q (F0 m 868 ls [])) : W p l e room_1 s m #[Value.ref b] below meth c H locs cells slots Q (F0 m 619 ls []) := by
  have hEv : EvC (EvA ek ev tp) ek ev tp := EvA_c ek ev tp
  unfold L_span at hX
  refine lv_aload_n C.1 C.2.1 dL_law_619 rfl (lv_at hl 1 rfl) ?_
  refine lv_aload_n C.1 C.2.1 dL_law_620 rfl (lv_at hl 0 rfl) ?_
  refine lv_iload C.1 C.2.1 dL_law_621 (lv_at hl 4 rfl) ?_
  refine lv_iconst (v := 1) C.1 C.2.1 dL_law_623 (by decide) ?_
  refine lv_iadd C.1 C.2.1 dL_law_624 ?_
  refine va_sld C.1 C.2.1 hXs hbl hbA hW.2.2.2.1 h1 dL_law_625 ?_
  refine lv_aload_n C.1 C.2.1 dL_law_626 rfl (lv_at hl 0 rfl) ?_
  refine lv_iload C.1 C.2.1 dL_law_627 (lv_at hl 4 rfl) ?_
  refine lv_iconst (v := 2) C.1 C.2.1 dL_law_629 (by decide) ?_
  refine lv_iadd C.1 C.2.1 dL_law_630 ?_
  refine va_sld C.1 C.2.1 hXs hbl hbA hW.2.2.2.1 h2 dL_law_631 ?_
  refine lv_aload_n C.1 C.2.1 dL_law_632 rfl (lv_at hl 0 rfl) ?_
  refine lv_iload C.1 C.2.1 dL_law_633 (lv_at hl 4 rfl) ?_
  refine lv_iconst (v := 3) C.1 C.2.1 dL_law_635 (by decide) ?_
  refine lv_iadd C.1 C.2.1 dL_law_636 ?_
  refine va_sld C.1 C.2.1 hXs hbl hbA hW.2.2.2.1 h3 dL_law_637 ?_
  have hW := LW_c hW
  obtain ⟨r, t1, hq, hX⟩ := bnd2_st hX
  refine X_Vi (w := wC cs ad K) (σ := t) (As := [.int (xs (x4 + 1).toNatClampNeg), .int (xs (x4 + 2).toNatClampNeg), .int (xs (x4 + 3).toNatClampNeg)]) (rest := []) C hW (c_C_Run_span l D cs ad K hKS hEv t (xs (x4 + 1).toNatClampNeg) (xs (x4 + 2).toNatClampNeg) (xs (x4 + 3).toNatClampNeg) (r, t1) hq.symm) (cwV 3 C.2.2.2.2 gL_law_X11_span rfl rfl rfl (by decide +kernel) ⟨(Nat.le_of_ble_eq_true rfl), (Nat.le_of_ble_eq_true rfl)⟩) (C_recv (GX_left hW) 11 hKS.k11_0 rfl rfl) rfl hl.1 rfl (Nat.le_of_ble_eq_true rfl) dL_law_638 ⟨by show cells + 0 ≤ 601024; omega, by show slots + 0 ≤ 7293034; omega⟩ (fun r' u H locs hu hW => ?_)
  obtain ⟨hu1, hu2⟩ := Prod.mk.inj hu
  cases hu1
  cases hu2
  have hW := LW_m hW
  refine lv_aload_n C.1 C.2.1 dL_law_641 rfl (lv_at hl 2 rfl) ?_
  refine lv_aload_n C.1 C.2.1 dL_law_642 rfl (lv_at hl 0 rfl) ?_
  refine lv_iload C.1 C.2.1 dL_law_643 (lv_at hl 4 rfl) ?_
  refine lv_iconst (v := 1) C.1 C.2.1 dL_law_645 (by decide) ?_
  refine lv_iadd C.1 C.2.1 dL_law_646 ?_
  refine va_sld C.1 C.2.1 hXs hbl hbA hW.2.2.2.1 h1 dL_law_647 ?_
  refine lv_aload_n C.1 C.2.1 dL_law_648 rfl (lv_at hl 0 rfl) ?_
  refine lv_iload C.1 C.2.1 dL_law_649 (lv_at hl 4 rfl) ?_
  refine lv_iconst (v := 2) C.1 C.2.1 dL_law_651 (by decide) ?_
  refine lv_iadd C.1 C.2.1 dL_law_652 ?_
  refine va_sld C.1 C.2.1 hXs hbl hbA hW.2.2.2.1 h2 dL_law_653 ?_
  refine lv_aload_n C.1 C.2.1 dL_law_654 rfl (lv_at hl 0 rfl) ?_
  refine lv_iload C.1 C.2.1 dL_law_655 (lv_at hl 4 rfl) ?_
  refine lv_iconst (v := 3) C.1 C.2.1 dL_law_657 (by decide) ?_
  refine lv_iadd C.1 C.2.1 dL_law_658 ?_
  refine va_sld C.1 C.2.1 hXs hbl hbA hW.2.2.2.1 h3 dL_law_659 ?_
  obtain ⟨b1, σ1, hq, hX⟩ := bnd2_st hX
  refine X_Vi (w := wM h a cs) (σ := σ) (As := [.int (xs (x4 + 1).toNatClampNeg), .int (xs (x4 + 2).toNatClampNeg), .int (xs (x4 + 3).toNatClampNeg)]) (rest := [.int r]) C hW (c_M_span l D cs h a σ (xs (x4 + 1).toNatClampNeg) (xs (x4 + 2).toNatClampNeg) (xs (x4 + 3).toNatClampNeg) (b1, σ1) hq.symm) (cwV 3 C.2.2.2.2 gL_law_X12_span rfl rfl rfl (by decide +kernel) ⟨(Nat.le_of_ble_eq_true rfl), (Nat.le_of_ble_eq_true rfl)⟩) (M_recv (GX_left hW)) rfl hl.1 rfl (Nat.le_of_ble_eq_true rfl) dL_law_660 ⟨by show cells + 0 + 0 ≤ 601024; omega, by show slots + 0 + 0 ≤ 7293034; omega⟩ (fun r'' u H locs hu hW => ?_)
  obtain ⟨hu1, hu2⟩ := Prod.mk.inj hu
  cases hu1
  cases hu2
  have hW := LW_b hW
  refine lv_icmp_eq (tgt := 868) C.1 C.2.1 dL_law_663 (by decide) (fun cc => ?_) (fun cc => ?_)
  · have hX := br_p hX cc
    cases hX
    refine W.widen (k := cells + 3) (n := slots + 40) (by omega) (by omega) ?_
    exact kk ad _ _ _ _ rfl hW (lv_sub hl [0, 1, 2, 3, 4] rfl)
  have hX := br_n hX cc
  cases hX

def L_judge (K : List (Nat × Nat)) (t : TH) (σ : St) (a1 : Int32) (a2 : Int32) : Option (List (Nat × Nat) × TH × St) := bnd2 (C_Run_judge K t a1 a2) (fun r t1 => bnd2 (M_judge σ a1 a2) (fun b σ1 => if r = b then some (K, t1, σ1) else none))
set_option maxHeartbeats 4000000 in
set_option maxRecDepth 100000 in
theorem l_judge {p : Program} {l : Launch} (hst : l.stackTraces = false) {e : Env} {s : State} {m : MethodId} {below : List Frame} {meth : Method} {c : Code} {D : va_G} {cs : Nat → ClassId} {ek ev : Nat → Nat} {tp b L : Nat} {xs : Nat → Int32} {A : Nat → Prop} {Q : State → Prop} (C : Cx p s m #[Value.ref b] c code 7 wsL_law RL) (hXs : va_X b L xs s s.heap) (hbl : b < s.heap.size) (hbA : ¬ A b) {ad : AD} {K : List (Nat × Nat)} (hKS : KS K) {t : TH} {σ : St} {h : Nat} {a : Nat → Nat} {ao : Nat} {f : Nat → Int64} {x4 : Int32} {H : Heap} {locs : List Loc} {ls : Array Slot} {cells slots : Nat} (hc : cells + 3 ≤ 601024) (hs : slots + 40 ≤ 7293034) (h1 : vp_in (x4 + 1) L) (h2 : vp_in (x4 + 2) L) (hW : GW (EvA ek ev tp) D (tyC cs) idw A s (oW cs ao f :: (wC cs ad K t ++ wM h a cs σ)) H locs) (hl : lv_has ls 7 [(0, .ref b), (1, .ref (ad 11 0)), (2, .ref h), (3, .ref ao), (4, .int x4)]) {Y : List (Nat × Nat) × TH × St} (hX : some Y = L_judge K t σ (xs (x4 + 1).toNatClampNeg) (xs (x4 + 2).toNatClampNeg))
    (kk : ∀ (ad' : AD) (f' : Nat → Int64) (H : Heap) (locs : List Loc) (ls : Array Slot), ad' 11 0 = ad 11 0 → GW (EvA ek ev tp) D (tyC cs) idw A s (oW cs ao f' :: (wC cs ad' Y.1 Y.2.1 ++ wM h a cs Y.2.2)) H locs → lv_has ls 7 [(0, .ref b), (1, .ref (ad 11 0)), (2, .ref h), (3, .ref ao), (4, .int x4)] → W p l e room_1 s m #[Value.ref b] below meth c H locs (cells + 3) (slots + 40) Q (F0 m 868 ls [])) : W p l e room_1 s m #[Value.ref b] below meth c H locs cells slots Q (F0 m 668 ls []) := by
  have hEv : EvC (EvA ek ev tp) ek ev tp := EvA_c ek ev tp
  unfold L_judge at hX
  refine lv_aload_n C.1 C.2.1 dL_law_668 rfl (lv_at hl 1 rfl) ?_
  refine lv_aload_n C.1 C.2.1 dL_law_669 rfl (lv_at hl 0 rfl) ?_
  refine lv_iload C.1 C.2.1 dL_law_670 (lv_at hl 4 rfl) ?_
  refine lv_iconst (v := 1) C.1 C.2.1 dL_law_672 (by decide) ?_
  refine lv_iadd C.1 C.2.1 dL_law_673 ?_
  refine va_sld C.1 C.2.1 hXs hbl hbA hW.2.2.2.1 h1 dL_law_674 ?_
  refine lv_aload_n C.1 C.2.1 dL_law_675 rfl (lv_at hl 0 rfl) ?_
  refine lv_iload C.1 C.2.1 dL_law_676 (lv_at hl 4 rfl) ?_
  refine lv_iconst (v := 2) C.1 C.2.1 dL_law_678 (by decide) ?_
  refine lv_iadd C.1 C.2.1 dL_law_679 ?_
  refine va_sld C.1 C.2.1 hXs hbl hbA hW.2.2.2.1 h2 dL_law_680 ?_
  have hW := LW_c hW
  obtain ⟨r, t1, hq, hX⟩ := bnd2_st hX
  refine X_Vi (w := wC cs ad K) (σ := t) (As := [.int (xs (x4 + 1).toNatClampNeg), .int (xs (x4 + 2).toNatClampNeg)]) (rest := []) C hW (c_C_Run_judge l D cs ad K hKS hEv t (xs (x4 + 1).toNatClampNeg) (xs (x4 + 2).toNatClampNeg) (r, t1) hq.symm) (cwV 2 C.2.2.2.2 gL_law_X11_judge rfl rfl rfl (by decide +kernel) ⟨(Nat.le_of_ble_eq_true rfl), (Nat.le_of_ble_eq_true rfl)⟩) (C_recv (GX_left hW) 11 hKS.k11_0 rfl rfl) rfl hl.1 rfl (Nat.le_of_ble_eq_true rfl) dL_law_681 ⟨by show cells + 0 ≤ 601024; omega, by show slots + 0 ≤ 7293034; omega⟩ (fun r' u H locs hu hW => ?_)
  obtain ⟨hu1, hu2⟩ := Prod.mk.inj hu
  cases hu1
  cases hu2
  have hW := LW_m hW
  refine lv_aload_n C.1 C.2.1 dL_law_684 rfl (lv_at hl 2 rfl) ?_
  refine lv_aload_n C.1 C.2.1 dL_law_685 rfl (lv_at hl 0 rfl) ?_
  refine lv_iload C.1 C.2.1 dL_law_686 (lv_at hl 4 rfl) ?_
  refine lv_iconst (v := 1) C.1 C.2.1 dL_law_688 (by decide) ?_
  refine lv_iadd C.1 C.2.1 dL_law_689 ?_
  refine va_sld C.1 C.2.1 hXs hbl hbA hW.2.2.2.1 h1 dL_law_690 ?_
  refine lv_aload_n C.1 C.2.1 dL_law_691 rfl (lv_at hl 0 rfl) ?_
  refine lv_iload C.1 C.2.1 dL_law_692 (lv_at hl 4 rfl) ?_
  refine lv_iconst (v := 2) C.1 C.2.1 dL_law_694 (by decide) ?_
  refine lv_iadd C.1 C.2.1 dL_law_695 ?_
  refine va_sld C.1 C.2.1 hXs hbl hbA hW.2.2.2.1 h2 dL_law_696 ?_
  obtain ⟨b1, σ1, hq, hX⟩ := bnd2_st hX
  refine X_Vi (w := wM h a cs) (σ := σ) (As := [.int (xs (x4 + 1).toNatClampNeg), .int (xs (x4 + 2).toNatClampNeg)]) (rest := [.int r]) C hW (c_M_judge l D cs h a σ (xs (x4 + 1).toNatClampNeg) (xs (x4 + 2).toNatClampNeg) (b1, σ1) hq.symm) (cwV 2 C.2.2.2.2 gL_law_X12_judge rfl rfl rfl (by decide +kernel) ⟨(Nat.le_of_ble_eq_true rfl), (Nat.le_of_ble_eq_true rfl)⟩) (M_recv (GX_left hW)) rfl hl.1 rfl (Nat.le_of_ble_eq_true rfl) dL_law_697 ⟨by show cells + 0 + 0 ≤ 601024; omega, by show slots + 0 + 0 ≤ 7293034; omega⟩ (fun r'' u H locs hu hW => ?_)
  obtain ⟨hu1, hu2⟩ := Prod.mk.inj hu
  cases hu1
  cases hu2
  have hW := LW_b hW
  refine lv_icmp_eq (tgt := 868) C.1 C.2.1 dL_law_700 (by decide) (fun cc => ?_) (fun cc => ?_)
  · have hX := br_p hX cc
    cases hX
    refine W.widen (k := cells + 3) (n := slots + 40) (by omega) (by omega) ?_
    exact kk ad _ _ _ _ rfl hW (lv_sub hl [0, 1, 2, 3, 4] rfl)
  have hX := br_n hX cc
  cases hX
