def L_doubt (K : List (Nat × Nat)) (t : TH) (σ : St) (a1 : Int32) (a2 : Int32) : Option (List (Nat × Nat) × TH × St) := bnd2 (C_Run_doubt K t a1 a2) (fun r t1 => bnd2 (M_doubt σ a1 a2) (fun b σ1 => if r = b then some (K, t1, σ1) else none))
set_option maxHeartbeats 4000000 in
set_option maxRecDepth 100000 in
theorem l_doubt {p : Program} {l : Launch} (hst : l.stackTraces = false) {e : Env} {s : State} {m : MethodId} {below : List Frame} {meth : Method} {c : Code} {D : va_G} {cs : Nat → ClassId} {ek ev : Nat → Nat} {tp b L : Nat} {xs : Nat → Int32} {A : Nat → Prop} {Q : State → Prop} (C : Cx p s m #[Value.ref b] c code 7 wsL_law RL) (hXs : va_X b L xs s s.heap) (hbl : b < s.heap.size) (hbA : ¬ A b) {ad : AD} {K : List (Nat × Nat)} (hKS : KS K) {t : TH} {σ : St} {h : Nat} {a : Nat → Nat} {ao : Nat} {f : Nat → Int64} {x4 : Int32} {H : Heap} {locs : List Loc} {ls : Array Slot} {cells slots : Nat} (hc : cells + 3 ≤ 601024) (hs : slots + 40 ≤ 7293034) (h1 : vp_in (x4 + 1) L) (h2 : vp_in (x4 + 2) L) (hW : GW (EvA ek ev tp) D (tyC cs) idw A s (oW cs ao f :: (wC cs ad K t ++ wM h a cs σ)) H locs) (hl : lv_has ls 7 [(0, .ref b), (1, .ref (ad 11 0)), (2, .ref h), (3, .ref ao), (4, .int x4)]) {Y : List (Nat × Nat) × TH × St} (hX : some Y = L_doubt K t σ (xs (x4 + 1).toNatClampNeg) (xs (x4 + 2).toNatClampNeg))
    (kk : ∀ (ad' : AD) (f' : Nat → Int64) (H : Heap) (locs : List Loc) (ls : Array Slot), ad' 11 0 = ad 11 0 → GW (EvA ek ev tp) D (tyC cs) idw A s (oW cs ao f' :: (wC cs ad' Y.1 Y.2.1 ++ wM h a cs Y.2.2)) H locs → lv_has ls 7 [(0, .ref b), (1, .ref (ad 11 0)), (2, .ref h), (3, .ref ao), (4, .int x4)] → W p l e room_1 s m #[Value.ref b] below meth c H locs (cells + 3) (slots + 40) Q (F0 m 868 ls [])) : W p l e room_1 s m #[Value.ref b] below meth c H locs cells slots Q (F0 m 705 ls []) := by
  have hEv : EvC (EvA ek ev tp) ek ev tp := EvA_c ek ev tp
  unfold L_doubt at hX
  refine lv_aload_n C.1 C.2.1 dL_law_705 rfl (lv_at hl 1 rfl) ?_
  refine lv_aload_n C.1 C.2.1 dL_law_706 rfl (lv_at hl 0 rfl) ?_
  refine lv_iload C.1 C.2.1 dL_law_707 (lv_at hl 4 rfl) ?_
  refine lv_iconst (v := 1) C.1 C.2.1 dL_law_709 (by decide) ?_
  refine lv_iadd C.1 C.2.1 dL_law_710 ?_
  refine va_sld C.1 C.2.1 hXs hbl hbA hW.2.2.2.1 h1 dL_law_711 ?_
  refine lv_aload_n C.1 C.2.1 dL_law_712 rfl (lv_at hl 0 rfl) ?_
  refine lv_iload C.1 C.2.1 dL_law_713 (lv_at hl 4 rfl) ?_
  refine lv_iconst (v := 2) C.1 C.2.1 dL_law_715 (by decide) ?_
  refine lv_iadd C.1 C.2.1 dL_law_716 ?_
  refine va_sld C.1 C.2.1 hXs hbl hbA hW.2.2.2.1 h2 dL_law_717 ?_
  have hW := LW_c hW
  obtain ⟨r, t1, hq, hX⟩ := bnd2_st hX
  refine X_Vi (w := wC cs ad K) (σ := t) (As := [.int (xs (x4 + 1).toNatClampNeg), .int (xs (x4 + 2).toNatClampNeg)]) (rest := []) C hW (c_C_Run_doubt l D cs ad K hKS hEv t (xs (x4 + 1).toNatClampNeg) (xs (x4 + 2).toNatClampNeg) (r, t1) hq.symm) (cwV 2 C.2.2.2.2 gL_law_X11_doubt rfl rfl rfl (by decide +kernel) ⟨(Nat.le_of_ble_eq_true rfl), (Nat.le_of_ble_eq_true rfl)⟩) (C_recv (GX_left hW) 11 hKS.k11_0 rfl rfl) rfl hl.1 rfl (Nat.le_of_ble_eq_true rfl) dL_law_718 ⟨by show cells + 0 ≤ 601024; omega, by show slots + 0 ≤ 7293034; omega⟩ (fun r' u H locs hu hW => ?_)
  obtain ⟨hu1, hu2⟩ := Prod.mk.inj hu
  cases hu1
  cases hu2
  have hW := LW_m hW
  refine lv_aload_n C.1 C.2.1 dL_law_721 rfl (lv_at hl 2 rfl) ?_
  refine lv_aload_n C.1 C.2.1 dL_law_722 rfl (lv_at hl 0 rfl) ?_
  refine lv_iload C.1 C.2.1 dL_law_723 (lv_at hl 4 rfl) ?_
  refine lv_iconst (v := 1) C.1 C.2.1 dL_law_725 (by decide) ?_
  refine lv_iadd C.1 C.2.1 dL_law_726 ?_
  refine va_sld C.1 C.2.1 hXs hbl hbA hW.2.2.2.1 h1 dL_law_727 ?_
  refine lv_aload_n C.1 C.2.1 dL_law_728 rfl (lv_at hl 0 rfl) ?_
  refine lv_iload C.1 C.2.1 dL_law_729 (lv_at hl 4 rfl) ?_
  refine lv_iconst (v := 2) C.1 C.2.1 dL_law_731 (by decide) ?_
  refine lv_iadd C.1 C.2.1 dL_law_732 ?_
  refine va_sld C.1 C.2.1 hXs hbl hbA hW.2.2.2.1 h2 dL_law_733 ?_
  obtain ⟨b1, σ1, hq, hX⟩ := bnd2_st hX
  refine X_Vi (w := wM h a cs) (σ := σ) (As := [.int (xs (x4 + 1).toNatClampNeg), .int (xs (x4 + 2).toNatClampNeg)]) (rest := [.int r]) C hW (c_M_doubt l D cs h a σ (xs (x4 + 1).toNatClampNeg) (xs (x4 + 2).toNatClampNeg) (b1, σ1) hq.symm) (cwV 2 C.2.2.2.2 gL_law_X12_doubt rfl rfl rfl (by decide +kernel) ⟨(Nat.le_of_ble_eq_true rfl), (Nat.le_of_ble_eq_true rfl)⟩) (M_recv (GX_left hW)) rfl hl.1 rfl (Nat.le_of_ble_eq_true rfl) dL_law_734 ⟨by show cells + 0 + 0 ≤ 601024; omega, by show slots + 0 + 0 ≤ 7293034; omega⟩ (fun r'' u H locs hu hW => ?_)
  obtain ⟨hu1, hu2⟩ := Prod.mk.inj hu
  cases hu1
  cases hu2
  have hW := LW_b hW
  refine lv_icmp_eq (tgt := 868) C.1 C.2.1 dL_law_737 (by decide) (fun cc => ?_) (fun cc => ?_)
  · have hX := br_p hX cc
    cases hX
    refine W.widen (k := cells + 3) (n := slots + 40) (by omega) (by omega) ?_
    exact kk ad _ _ _ _ rfl hW (lv_sub hl [0, 1, 2, 3, 4] rfl)
  have hX := br_n hX cc
  cases hX

def L_lots (K : List (Nat × Nat)) (t : TH) (σ : St) : Option (List (Nat × Nat) × TH × St) := bnd2 (C_Run_lots K t) (fun r t1 => bnd2 (M_lots σ) (fun b σ1 => if r = b then some (K, t1, σ1) else none))
set_option maxHeartbeats 4000000 in
set_option maxRecDepth 100000 in
theorem l_lots {p : Program} {l : Launch} (hst : l.stackTraces = false) {e : Env} {s : State} {m : MethodId} {below : List Frame} {meth : Method} {c : Code} {D : va_G} {cs : Nat → ClassId} {ek ev : Nat → Nat} {tp b L : Nat} {xs : Nat → Int32} {A : Nat → Prop} {Q : State → Prop} (C : Cx p s m #[Value.ref b] c code 7 wsL_law RL) (hXs : va_X b L xs s s.heap) (hbl : b < s.heap.size) (hbA : ¬ A b) {ad : AD} {K : List (Nat × Nat)} (hKS : KS K) {t : TH} {σ : St} {h : Nat} {a : Nat → Nat} {ao : Nat} {f : Nat → Int64} {x4 : Int32} {H : Heap} {locs : List Loc} {ls : Array Slot} {cells slots : Nat} (hc : cells + 3 ≤ 601024) (hs : slots + 40 ≤ 7293034) (hW : GW (EvA ek ev tp) D (tyC cs) idw A s (oW cs ao f :: (wC cs ad K t ++ wM h a cs σ)) H locs) (hl : lv_has ls 7 [(0, .ref b), (1, .ref (ad 11 0)), (2, .ref h), (3, .ref ao), (4, .int x4)]) {Y : List (Nat × Nat) × TH × St} (hX : some Y = L_lots K t σ)
    (kk : ∀ (ad' : AD) (f' : Nat → Int64) (H : Heap) (locs : List Loc) (ls : Array Slot), ad' 11 0 = ad 11 0 → GW (EvA ek ev tp) D (tyC cs) idw A s (oW cs ao f' :: (wC cs ad' Y.1 Y.2.1 ++ wM h a cs Y.2.2)) H locs → lv_has ls 7 [(0, .ref b), (1, .ref (ad 11 0)), (2, .ref h), (3, .ref ao), (4, .int x4)] → W p l e room_1 s m #[Value.ref b] below meth c H locs (cells + 3) (slots + 40) Q (F0 m 868 ls [])) : W p l e room_1 s m #[Value.ref b] below meth c H locs cells slots Q (F0 m 742 ls []) := by
  have hEv : EvC (EvA ek ev tp) ek ev tp := EvA_c ek ev tp
  unfold L_lots at hX
  refine lv_aload_n C.1 C.2.1 dL_law_742 rfl (lv_at hl 1 rfl) ?_
  have hW := LW_c hW
  obtain ⟨r, t1, hq, hX⟩ := bnd2_st hX
  refine X_Vi (w := wC cs ad K) (σ := t) (As := []) (rest := []) C hW (c_C_Run_lots l D cs ad K hKS hEv t (r, t1) hq.symm) (cwV 0 C.2.2.2.2 gL_law_X11_lots rfl rfl rfl (by decide +kernel) ⟨(Nat.le_of_ble_eq_true rfl), (Nat.le_of_ble_eq_true rfl)⟩) (C_recv (GX_left hW) 11 hKS.k11_0 rfl rfl) rfl hl.1 rfl (Nat.le_of_ble_eq_true rfl) dL_law_743 ⟨by show cells + 0 ≤ 601024; omega, by show slots + 0 ≤ 7293034; omega⟩ (fun r' u H locs hu hW => ?_)
  obtain ⟨hu1, hu2⟩ := Prod.mk.inj hu
  cases hu1
  cases hu2
  have hW := LW_m hW
  refine lv_aload_n C.1 C.2.1 dL_law_746 rfl (lv_at hl 2 rfl) ?_
  obtain ⟨b1, σ1, hq, hX⟩ := bnd2_st hX
  refine X_Vi (w := wM h a cs) (σ := σ) (As := []) (rest := [.int r]) C hW (c_M_lots l D cs h a σ (b1, σ1) hq.symm) (cwV 0 C.2.2.2.2 gL_law_X12_lots rfl rfl rfl (by decide +kernel) ⟨(Nat.le_of_ble_eq_true rfl), (Nat.le_of_ble_eq_true rfl)⟩) (M_recv (GX_left hW)) rfl hl.1 rfl (Nat.le_of_ble_eq_true rfl) dL_law_747 ⟨by show cells + 0 + 0 ≤ 601024; omega, by show slots + 0 + 0 ≤ 7293034; omega⟩ (fun r'' u H locs hu hW => ?_)
  obtain ⟨hu1, hu2⟩ := Prod.mk.inj hu
  cases hu1
  cases hu2
  have hW := LW_b hW
  refine lv_icmp_eq (tgt := 868) C.1 C.2.1 dL_law_750 (by decide) (fun cc => ?_) (fun cc => ?_)
  · have hX := br_p hX cc
    cases hX
    refine W.widen (k := cells + 3) (n := slots + 40) (by omega) (by omega) ?_
    exact kk ad _ _ _ _ rfl hW (lv_sub hl [0, 1, 2, 3, 4] rfl)
  have hX := br_n hX cc
  cases hX

def L_drawn (K : List (Nat × Nat)) (t : TH) (σ : St) (a1 : Int32) : Option (List (Nat × Nat) × TH × St) := bnd (C_Run_drawn K t a1) (fun r => bnd2 (M_drawn σ a1) (fun b σ1 => if r = b then some (K, t, σ1) else none))
set_option maxHeartbeats 4000000 in
set_option maxRecDepth 100000 in
theorem l_drawn {p : Program} {l : Launch} (hst : l.stackTraces = false) {e : Env} {s : State} {m : MethodId} {below : List Frame} {meth : Method} {c : Code} {D : va_G} {cs : Nat → ClassId} {ek ev : Nat → Nat} {tp b L : Nat} {xs : Nat → Int32} {A : Nat → Prop} {Q : State → Prop} (C : Cx p s m #[Value.ref b] c code 7 wsL_law RL) (hXs : va_X b L xs s s.heap) (hbl : b < s.heap.size) (hbA : ¬ A b) {ad : AD} {K : List (Nat × Nat)} (hKS : KS K) {t : TH} {σ : St} {h : Nat} {a : Nat → Nat} {ao : Nat} {f : Nat → Int64} {x4 : Int32} {H : Heap} {locs : List Loc} {ls : Array Slot} {cells slots : Nat} (hc : cells + 3 ≤ 601024) (hs : slots + 40 ≤ 7293034) (h1 : vp_in (x4 + 1) L) (hW : GW (EvA ek ev tp) D (tyC cs) idw A s (oW cs ao f :: (wC cs ad K t ++ wM h a cs σ)) H locs) (hl : lv_has ls 7 [(0, .ref b), (1, .ref (ad 11 0)), (2, .ref h), (3, .ref ao), (4, .int x4)]) {Y : List (Nat × Nat) × TH × St} (hX : some Y = L_drawn K t σ (xs (x4 + 1).toNatClampNeg))
    (kk : ∀ (ad' : AD) (f' : Nat → Int64) (H : Heap) (locs : List Loc) (ls : Array Slot), ad' 11 0 = ad 11 0 → GW (EvA ek ev tp) D (tyC cs) idw A s (oW cs ao f' :: (wC cs ad' Y.1 Y.2.1 ++ wM h a cs Y.2.2)) H locs → lv_has ls 7 [(0, .ref b), (1, .ref (ad 11 0)), (2, .ref h), (3, .ref ao), (4, .int x4)] → W p l e room_1 s m #[Value.ref b] below meth c H locs (cells + 3) (slots + 40) Q (F0 m 868 ls [])) : W p l e room_1 s m #[Value.ref b] below meth c H locs cells slots Q (F0 m 755 ls []) := by
  have hEv : EvC (EvA ek ev tp) ek ev tp := EvA_c ek ev tp
  unfold L_drawn at hX
  refine lv_aload_n C.1 C.2.1 dL_law_755 rfl (lv_at hl 1 rfl) ?_
  refine lv_aload_n C.1 C.2.1 dL_law_756 rfl (lv_at hl 0 rfl) ?_
  refine lv_iload C.1 C.2.1 dL_law_757 (lv_at hl 4 rfl) ?_
  refine lv_iconst (v := 1) C.1 C.2.1 dL_law_759 (by decide) ?_
  refine lv_iadd C.1 C.2.1 dL_law_760 ?_
  refine va_sld C.1 C.2.1 hXs hbl hbA hW.2.2.2.1 h1 dL_law_761 ?_
  have hW := LW_c hW
  obtain ⟨r, hq, hX⟩ := bnd_st hX
  refine X_Vi (w := wC cs ad K) (σ := t) (As := [.int (xs (x4 + 1).toNatClampNeg)]) (rest := []) C hW (c_C_Run_drawn l D cs ad K hKS hEv t (xs (x4 + 1).toNatClampNeg) r hq.symm) (cwV 1 C.2.2.2.2 gL_law_X11_drawn rfl rfl rfl (by decide +kernel) ⟨(Nat.le_of_ble_eq_true rfl), (Nat.le_of_ble_eq_true rfl)⟩) (C_recv (GX_left hW) 11 hKS.k11_0 rfl rfl) rfl hl.1 rfl (Nat.le_of_ble_eq_true rfl) dL_law_762 ⟨by show cells + 0 ≤ 601024; omega, by show slots + 0 ≤ 7293034; omega⟩ (fun r' u H locs hu hW => ?_)
  obtain ⟨eu1, eu2⟩ := hu
  rw [eu2] at hW
  rw [eu1]
  have hW := LW_m hW
  refine lv_aload_n C.1 C.2.1 dL_law_765 rfl (lv_at hl 2 rfl) ?_
  refine lv_aload_n C.1 C.2.1 dL_law_766 rfl (lv_at hl 0 rfl) ?_
  refine lv_iload C.1 C.2.1 dL_law_767 (lv_at hl 4 rfl) ?_
  refine lv_iconst (v := 1) C.1 C.2.1 dL_law_769 (by decide) ?_
  refine lv_iadd C.1 C.2.1 dL_law_770 ?_
  refine va_sld C.1 C.2.1 hXs hbl hbA hW.2.2.2.1 h1 dL_law_771 ?_
  obtain ⟨b1, σ1, hq, hX⟩ := bnd2_st hX
  refine X_Vi (w := wM h a cs) (σ := σ) (As := [.int (xs (x4 + 1).toNatClampNeg)]) (rest := [.int r]) C hW (c_M_drawn l D cs h a σ (xs (x4 + 1).toNatClampNeg) (b1, σ1) hq.symm) (cwV 1 C.2.2.2.2 gL_law_X12_drawn rfl rfl rfl (by decide +kernel) ⟨(Nat.le_of_ble_eq_true rfl), (Nat.le_of_ble_eq_true rfl)⟩) (M_recv (GX_left hW)) rfl hl.1 rfl (Nat.le_of_ble_eq_true rfl) dL_law_772 ⟨by show cells + 0 + 0 ≤ 601024; omega, by show slots + 0 + 0 ≤ 7293034; omega⟩ (fun r'' u H locs hu hW => ?_)
  obtain ⟨hu1, hu2⟩ := Prod.mk.inj hu
  cases hu1
  cases hu2
  have hW := LW_b hW
  refine lv_icmp_eq (tgt := 868) C.1 C.2.1 dL_law_775 (by decide) (fun cc => ?_) (fun cc => ?_)
  · have hX := br_p hX cc
    cases hX
    refine W.widen (k := cells + 3) (n := slots + 40) (by omega) (by omega) ?_
    exact kk ad _ _ _ _ rfl hW (lv_sub hl [0, 1, 2, 3, 4] rfl)
  have hX := br_n hX cc
  cases hX

def L_bid (K : List (Nat × Nat)) (t : TH) (σ : St) (a1 : Int32) : Option (List (Nat × Nat) × TH × St) := bnd2 (C_Run_bid K t a1) (fun r t1 => bnd2 (M_bid σ a1) (fun b σ1 => if r = b then some (K, t1, σ1) else none))
set_option maxHeartbeats 4000000 in
set_option maxRecDepth 100000 in
theorem l_bid {p : Program} {l : Launch} (hst : l.stackTraces = false) {e : Env} {s : State} {m : MethodId} {below : List Frame} {meth : Method} {c : Code} {D : va_G} {cs : Nat → ClassId} {ek ev : Nat → Nat} {tp b L : Nat} {xs : Nat → Int32} {A : Nat → Prop} {Q : State → Prop} (C : Cx p s m #[Value.ref b] c code 7 wsL_law RL) (hXs : va_X b L xs s s.heap) (hbl : b < s.heap.size) (hbA : ¬ A b) {ad : AD} {K : List (Nat × Nat)} (hKS : KS K) {t : TH} {σ : St} {h : Nat} {a : Nat → Nat} {ao : Nat} {f : Nat → Int64} {x4 : Int32} {H : Heap} {locs : List Loc} {ls : Array Slot} {cells slots : Nat} (hc : cells + 3 ≤ 601024) (hs : slots + 40 ≤ 7293034) (h1 : vp_in (x4 + 1) L) (hW : GW (EvA ek ev tp) D (tyC cs) idw A s (oW cs ao f :: (wC cs ad K t ++ wM h a cs σ)) H locs) (hl : lv_has ls 7 [(0, .ref b), (1, .ref (ad 11 0)), (2, .ref h), (3, .ref ao), (4, .int x4)]) {Y : List (Nat × Nat) × TH × St} (hX : some Y = L_bid K t σ (xs (x4 + 1).toNatClampNeg))
    (kk : ∀ (ad' : AD) (f' : Nat → Int64) (H : Heap) (locs : List Loc) (ls : Array Slot), ad' 11 0 = ad 11 0 → GW (EvA ek ev tp) D (tyC cs) idw A s (oW cs ao f' :: (wC cs ad' Y.1 Y.2.1 ++ wM h a cs Y.2.2)) H locs → lv_has ls 7 [(0, .ref b), (1, .ref (ad 11 0)), (2, .ref h), (3, .ref ao), (4, .int x4)] → W p l e room_1 s m #[Value.ref b] below meth c H locs (cells + 3) (slots + 40) Q (F0 m 868 ls [])) : W p l e room_1 s m #[Value.ref b] below meth c H locs cells slots Q (F0 m 780 ls []) := by
  have hEv : EvC (EvA ek ev tp) ek ev tp := EvA_c ek ev tp
  unfold L_bid at hX
  refine lv_aload_n C.1 C.2.1 dL_law_780 rfl (lv_at hl 1 rfl) ?_
  refine lv_aload_n C.1 C.2.1 dL_law_781 rfl (lv_at hl 0 rfl) ?_
  refine lv_iload C.1 C.2.1 dL_law_782 (lv_at hl 4 rfl) ?_
  refine lv_iconst (v := 1) C.1 C.2.1 dL_law_784 (by decide) ?_
  refine lv_iadd C.1 C.2.1 dL_law_785 ?_
  refine va_sld C.1 C.2.1 hXs hbl hbA hW.2.2.2.1 h1 dL_law_786 ?_
  have hW := LW_c hW
  obtain ⟨r, t1, hq, hX⟩ := bnd2_st hX
  refine X_Vi (w := wC cs ad K) (σ := t) (As := [.int (xs (x4 + 1).toNatClampNeg)]) (rest := []) C hW (c_C_Run_bid l D cs ad K hKS hEv t (xs (x4 + 1).toNatClampNeg) (r, t1) hq.symm) (cwV 1 C.2.2.2.2 gL_law_X11_bid rfl rfl rfl (by decide +kernel) ⟨(Nat.le_of_ble_eq_true rfl), (Nat.le_of_ble_eq_true rfl)⟩) (C_recv (GX_left hW) 11 hKS.k11_0 rfl rfl) rfl hl.1 rfl (Nat.le_of_ble_eq_true rfl) dL_law_787 ⟨by show cells + 0 ≤ 601024; omega, by show slots + 0 ≤ 7293034; omega⟩ (fun r' u H locs hu hW => ?_)
  obtain ⟨hu1, hu2⟩ := Prod.mk.inj hu
  cases hu1
  cases hu2
  have hW := LW_m hW
  refine lv_aload_n C.1 C.2.1 dL_law_790 rfl (lv_at hl 2 rfl) ?_
  refine lv_aload_n C.1 C.2.1 dL_law_791 rfl (lv_at hl 0 rfl) ?_
  refine lv_iload C.1 C.2.1 dL_law_792 (lv_at hl 4 rfl) ?_
  refine lv_iconst (v := 1) C.1 C.2.1 dL_law_794 (by decide) ?_
  refine lv_iadd C.1 C.2.1 dL_law_795 ?_
  refine va_sld C.1 C.2.1 hXs hbl hbA hW.2.2.2.1 h1 dL_law_796 ?_
  obtain ⟨b1, σ1, hq, hX⟩ := bnd2_st hX
  refine X_Vi (w := wM h a cs) (σ := σ) (As := [.int (xs (x4 + 1).toNatClampNeg)]) (rest := [.int r]) C hW (c_M_bid l D cs h a σ (xs (x4 + 1).toNatClampNeg) (b1, σ1) hq.symm) (cwV 1 C.2.2.2.2 gL_law_X12_bid rfl rfl rfl (by decide +kernel) ⟨(Nat.le_of_ble_eq_true rfl), (Nat.le_of_ble_eq_true rfl)⟩) (M_recv (GX_left hW)) rfl hl.1 rfl (Nat.le_of_ble_eq_true rfl) dL_law_797 ⟨by show cells + 0 + 0 ≤ 601024; omega, by show slots + 0 + 0 ≤ 7293034; omega⟩ (fun r'' u H locs hu hW => ?_)
  obtain ⟨hu1, hu2⟩ := Prod.mk.inj hu
  cases hu1
  cases hu2
  have hW := LW_b hW
  refine lv_icmp_eq (tgt := 868) C.1 C.2.1 dL_law_800 (by decide) (fun cc => ?_) (fun cc => ?_)
  · have hX := br_p hX cc
    cases hX
    refine W.widen (k := cells + 3) (n := slots + 40) (by omega) (by omega) ?_
    exact kk ad _ _ _ _ rfl hW (lv_sub hl [0, 1, 2, 3, 4] rfl)
  have hX := br_n hX cc
  cases hX

def L_sell (K : List (Nat × Nat)) (t : TH) (σ : St) : Option (List (Nat × Nat) × TH × St) := bnd2 (C_Run_sell K t) (fun r t1 => bnd2 (M_sell σ) (fun b σ1 => if r = b then some (K, t1, σ1) else none))
set_option maxHeartbeats 4000000 in
set_option maxRecDepth 100000 in
theorem l_sell {p : Program} {l : Launch} (hst : l.stackTraces = false) {e : Env} {s : State} {m : MethodId} {below : List Frame} {meth : Method} {c : Code} {D : va_G} {cs : Nat → ClassId} {ek ev : Nat → Nat} {tp b L : Nat} {xs : Nat → Int32} {A : Nat → Prop} {Q : State → Prop} (C : Cx p s m #[Value.ref b] c code 7 wsL_law RL) (hXs : va_X b L xs s s.heap) (hbl : b < s.heap.size) (hbA : ¬ A b) {ad : AD} {K : List (Nat × Nat)} (hKS : KS K) {t : TH} {σ : St} {h : Nat} {a : Nat → Nat} {ao : Nat} {f : Nat → Int64} {x4 : Int32} {H : Heap} {locs : List Loc} {ls : Array Slot} {cells slots : Nat} (hc : cells + 3 ≤ 601024) (hs : slots + 40 ≤ 7293034) (hW : GW (EvA ek ev tp) D (tyC cs) idw A s (oW cs ao f :: (wC cs ad K t ++ wM h a cs σ)) H locs) (hl : lv_has ls 7 [(0, .ref b), (1, .ref (ad 11 0)), (2, .ref h), (3, .ref ao), (4, .int x4)]) {Y : List (Nat × Nat) × TH × St} (hX : some Y = L_sell K t σ)
    (kk : ∀ (ad' : AD) (f' : Nat → Int64) (H : Heap) (locs : List Loc) (ls : Array Slot), ad' 11 0 = ad 11 0 → GW (EvA ek ev tp) D (tyC cs) idw A s (oW cs ao f' :: (wC cs ad' Y.1 Y.2.1 ++ wM h a cs Y.2.2)) H locs → lv_has ls 7 [(0, .ref b), (1, .ref (ad 11 0)), (2, .ref h), (3, .ref ao), (4, .int x4)] → W p l e room_1 s m #[Value.ref b] below meth c H locs (cells + 3) (slots + 40) Q (F0 m 868 ls [])) : W p l e room_1 s m #[Value.ref b] below meth c H locs cells slots Q (F0 m 805 ls []) := by
  have hEv : EvC (EvA ek ev tp) ek ev tp := EvA_c ek ev tp
  unfold L_sell at hX
  refine lv_aload_n C.1 C.2.1 dL_law_805 rfl (lv_at hl 1 rfl) ?_
  have hW := LW_c hW
  obtain ⟨r, t1, hq, hX⟩ := bnd2_st hX
  refine X_Vi (w := wC cs ad K) (σ := t) (As := []) (rest := []) C hW (c_C_Run_sell l D cs ad K hKS hEv t (r, t1) hq.symm) (cwV 0 C.2.2.2.2 gL_law_X11_sell rfl rfl rfl (by decide +kernel) ⟨(Nat.le_of_ble_eq_true rfl), (Nat.le_of_ble_eq_true rfl)⟩) (C_recv (GX_left hW) 11 hKS.k11_0 rfl rfl) rfl hl.1 rfl (Nat.le_of_ble_eq_true rfl) dL_law_806 ⟨by show cells + 0 ≤ 601024; omega, by show slots + 0 ≤ 7293034; omega⟩ (fun r' u H locs hu hW => ?_)
  obtain ⟨hu1, hu2⟩ := Prod.mk.inj hu
  cases hu1
  cases hu2
  have hW := LW_m hW
  refine lv_aload_n C.1 C.2.1 dL_law_809 rfl (lv_at hl 2 rfl) ?_
  obtain ⟨b1, σ1, hq, hX⟩ := bnd2_st hX
  refine X_Vi (w := wM h a cs) (σ := σ) (As := []) (rest := [.int r]) C hW (c_M_sell l D cs h a σ (b1, σ1) hq.symm) (cwV 0 C.2.2.2.2 gL_law_X12_sell rfl rfl rfl (by decide +kernel) ⟨(Nat.le_of_ble_eq_true rfl), (Nat.le_of_ble_eq_true rfl)⟩) (M_recv (GX_left hW)) rfl hl.1 rfl (Nat.le_of_ble_eq_true rfl) dL_law_810 ⟨by show cells + 0 + 0 ≤ 601024; omega, by show slots + 0 + 0 ≤ 7293034; omega⟩ (fun r'' u H locs hu hW => ?_)
  obtain ⟨hu1, hu2⟩ := Prod.mk.inj hu
  cases hu1
  cases hu2
  have hW := LW_b hW
  refine lv_icmp_eq (tgt := 868) C.1 C.2.1 dL_law_813 (by decide) (fun cc => ?_) (fun cc => ?_)
  · have hX := br_p hX cc
    cases hX
    refine W.widen (k := cells + 3) (n := slots + 40) (by omega) (by omega) ?_
    exact kk ad _ _ _ _ rfl hW (lv_sub hl [0, 1, 2, 3, 4] rfl)
  have hX := br_n hX cc
  cases hX

def L_bought (K : List (Nat × Nat)) (t : TH) (σ : St) (a1 : Int32) : Option (List (Nat × Nat) × TH × St) := bnd (C_Run_bought K t a1) (fun r => bnd2 (M_bought σ a1) (fun b σ1 => if r = b then some (K, t, σ1) else none))
set_option maxHeartbeats 4000000 in
set_option maxRecDepth 100000 in
theorem l_bought {p : Program} {l : Launch} (hst : l.stackTraces = false) {e : Env} {s : State} {m : MethodId} {below : List Frame} {meth : Method} {c : Code} {D : va_G} {cs : Nat → ClassId} {ek ev : Nat → Nat} {tp b L : Nat} {xs : Nat → Int32} {A : Nat → Prop} {Q : State → Prop} (C : Cx p s m #[Value.ref b] c code 7 wsL_law RL) (hXs : va_X b L xs s s.heap) (hbl : b < s.heap.size) (hbA : ¬ A b) {ad : AD} {K : List (Nat × Nat)} (hKS : KS K) {t : TH} {σ : St} {h : Nat} {a : Nat → Nat} {ao : Nat} {f : Nat → Int64} {x4 : Int32} {H : Heap} {locs : List Loc} {ls : Array Slot} {cells slots : Nat} (hc : cells + 3 ≤ 601024) (hs : slots + 40 ≤ 7293034) (h1 : vp_in (x4 + 1) L) (hW : GW (EvA ek ev tp) D (tyC cs) idw A s (oW cs ao f :: (wC cs ad K t ++ wM h a cs σ)) H locs) (hl : lv_has ls 7 [(0, .ref b), (1, .ref (ad 11 0)), (2, .ref h), (3, .ref ao), (4, .int x4)]) {Y : List (Nat × Nat) × TH × St} (hX : some Y = L_bought K t σ (xs (x4 + 1).toNatClampNeg))
    (kk : ∀ (ad' : AD) (f' : Nat → Int64) (H : Heap) (locs : List Loc) (ls : Array Slot), ad' 11 0 = ad 11 0 → GW (EvA ek ev tp) D (tyC cs) idw A s (oW cs ao f' :: (wC cs ad' Y.1 Y.2.1 ++ wM h a cs Y.2.2)) H locs → lv_has ls 7 [(0, .ref b), (1, .ref (ad 11 0)), (2, .ref h), (3, .ref ao), (4, .int x4)] → W p l e room_1 s m #[Value.ref b] below meth c H locs (cells + 3) (slots + 40) Q (F0 m 868 ls [])) : W p l e room_1 s m #[Value.ref b] below meth c H locs cells slots Q (F0 m 818 ls []) := by
  have hEv : EvC (EvA ek ev tp) ek ev tp := EvA_c ek ev tp
  unfold L_bought at hX
  refine lv_aload_n C.1 C.2.1 dL_law_818 rfl (lv_at hl 1 rfl) ?_
  refine lv_aload_n C.1 C.2.1 dL_law_819 rfl (lv_at hl 0 rfl) ?_
  refine lv_iload C.1 C.2.1 dL_law_820 (lv_at hl 4 rfl) ?_
  refine lv_iconst (v := 1) C.1 C.2.1 dL_law_822 (by decide) ?_
  refine lv_iadd C.1 C.2.1 dL_law_823 ?_
  refine va_sld C.1 C.2.1 hXs hbl hbA hW.2.2.2.1 h1 dL_law_824 ?_
  have hW := LW_c hW
  obtain ⟨r, hq, hX⟩ := bnd_st hX
  refine X_Vi (w := wC cs ad K) (σ := t) (As := [.int (xs (x4 + 1).toNatClampNeg)]) (rest := []) C hW (c_C_Run_bought l D cs ad K hKS hEv t (xs (x4 + 1).toNatClampNeg) r hq.symm) (cwV 1 C.2.2.2.2 gL_law_X11_bought rfl rfl rfl (by decide +kernel) ⟨(Nat.le_of_ble_eq_true rfl), (Nat.le_of_ble_eq_true rfl)⟩) (C_recv (GX_left hW) 11 hKS.k11_0 rfl rfl) rfl hl.1 rfl (Nat.le_of_ble_eq_true rfl) dL_law_825 ⟨by show cells + 0 ≤ 601024; omega, by show slots + 0 ≤ 7293034; omega⟩ (fun r' u H locs hu hW => ?_)
  obtain ⟨eu1, eu2⟩ := hu
  rw [eu2] at hW
  rw [eu1]
  have hW := LW_m hW
  refine lv_aload_n C.1 C.2.1 dL_law_828 rfl (lv_at hl 2 rfl) ?_
  refine lv_aload_n C.1 C.2.1 dL_law_829 rfl (lv_at hl 0 rfl) ?_
  refine lv_iload C.1 C.2.1 dL_law_830 (lv_at hl 4 rfl) ?_
  refine lv_iconst (v := 1) C.1 C.2.1 dL_law_832 (by decide) ?_
  refine lv_iadd C.1 C.2.1 dL_law_833 ?_
  refine va_sld C.1 C.2.1 hXs hbl hbA hW.2.2.2.1 h1 dL_law_834 ?_
  obtain ⟨b1, σ1, hq, hX⟩ := bnd2_st hX
  refine X_Vi (w := wM h a cs) (σ := σ) (As := [.int (xs (x4 + 1).toNatClampNeg)]) (rest := [.int r]) C hW (c_M_bought l D cs h a σ (xs (x4 + 1).toNatClampNeg) (b1, σ1) hq.symm) (cwV 1 C.2.2.2.2 gL_law_X12_bought rfl rfl rfl (by decide +kernel) ⟨(Nat.le_of_ble_eq_true rfl), (Nat.le_of_ble_eq_true rfl)⟩) (M_recv (GX_left hW)) rfl hl.1 rfl (Nat.le_of_ble_eq_true rfl) dL_law_835 ⟨by show cells + 0 + 0 ≤ 601024; omega, by show slots + 0 + 0 ≤ 7293034; omega⟩ (fun r'' u H locs hu hW => ?_)
  obtain ⟨hu1, hu2⟩ := Prod.mk.inj hu
  cases hu1
  cases hu2
  have hW := LW_b hW
  refine lv_icmp_eq (tgt := 868) C.1 C.2.1 dL_law_838 (by decide) (fun cc => ?_) (fun cc => ?_)
  · have hX := br_p hX cc
    cases hX
    refine W.widen (k := cells + 3) (n := slots + 40) (by omega) (by omega) ?_
    exact kk ad _ _ _ _ rfl hW (lv_sub hl [0, 1, 2, 3, 4] rfl)
  have hX := br_n hX cc
  cases hX

def L_count (K : List (Nat × Nat)) (t : TH) (σ : St) (a1 : Int32) : Option (List (Nat × Nat) × TH × St) := bnd (C_Run_count K t a1) (fun r => bnd2 (M_count σ a1) (fun b σ1 => if r = b then some (K, t, σ1) else none))
set_option maxHeartbeats 4000000 in
set_option maxRecDepth 100000 in
theorem l_count {p : Program} {l : Launch} (hst : l.stackTraces = false) {e : Env} {s : State} {m : MethodId} {below : List Frame} {meth : Method} {c : Code} {D : va_G} {cs : Nat → ClassId} {ek ev : Nat → Nat} {tp b L : Nat} {xs : Nat → Int32} {A : Nat → Prop} {Q : State → Prop} (C : Cx p s m #[Value.ref b] c code 7 wsL_law RL) (hXs : va_X b L xs s s.heap) (hbl : b < s.heap.size) (hbA : ¬ A b) {ad : AD} {K : List (Nat × Nat)} (hKS : KS K) {t : TH} {σ : St} {h : Nat} {a : Nat → Nat} {ao : Nat} {f : Nat → Int64} {x4 : Int32} {H : Heap} {locs : List Loc} {ls : Array Slot} {cells slots : Nat} (hc : cells + 3 ≤ 601024) (hs : slots + 40 ≤ 7293034) (h1 : vp_in (x4 + 1) L) (hW : GW (EvA ek ev tp) D (tyC cs) idw A s (oW cs ao f :: (wC cs ad K t ++ wM h a cs σ)) H locs) (hl : lv_has ls 7 [(0, .ref b), (1, .ref (ad 11 0)), (2, .ref h), (3, .ref ao), (4, .int x4)]) {Y : List (Nat × Nat) × TH × St} (hX : some Y = L_count K t σ (xs (x4 + 1).toNatClampNeg))
    (kk : ∀ (ad' : AD) (f' : Nat → Int64) (H : Heap) (locs : List Loc) (ls : Array Slot), ad' 11 0 = ad 11 0 → GW (EvA ek ev tp) D (tyC cs) idw A s (oW cs ao f' :: (wC cs ad' Y.1 Y.2.1 ++ wM h a cs Y.2.2)) H locs → lv_has ls 7 [(0, .ref b), (1, .ref (ad 11 0)), (2, .ref h), (3, .ref ao), (4, .int x4)] → W p l e room_1 s m #[Value.ref b] below meth c H locs (cells + 3) (slots + 40) Q (F0 m 868 ls [])) : W p l e room_1 s m #[Value.ref b] below meth c H locs cells slots Q (F0 m 843 ls []) := by
  have hEv : EvC (EvA ek ev tp) ek ev tp := EvA_c ek ev tp
  unfold L_count at hX
  refine lv_aload_n C.1 C.2.1 dL_law_843 rfl (lv_at hl 1 rfl) ?_
  refine lv_aload_n C.1 C.2.1 dL_law_844 rfl (lv_at hl 0 rfl) ?_
  refine lv_iload C.1 C.2.1 dL_law_845 (lv_at hl 4 rfl) ?_
  refine lv_iconst (v := 1) C.1 C.2.1 dL_law_847 (by decide) ?_
  refine lv_iadd C.1 C.2.1 dL_law_848 ?_
  refine va_sld C.1 C.2.1 hXs hbl hbA hW.2.2.2.1 h1 dL_law_849 ?_
  have hW := LW_c hW
  obtain ⟨r, hq, hX⟩ := bnd_st hX
  refine X_Vi (w := wC cs ad K) (σ := t) (As := [.int (xs (x4 + 1).toNatClampNeg)]) (rest := []) C hW (c_C_Run_count l D cs ad K hKS hEv t (xs (x4 + 1).toNatClampNeg) r hq.symm) (cwV 1 C.2.2.2.2 gL_law_X11_count rfl rfl rfl (by decide +kernel) ⟨(Nat.le_of_ble_eq_true rfl), (Nat.le_of_ble_eq_true rfl)⟩) (C_recv (GX_left hW) 11 hKS.k11_0 rfl rfl) rfl hl.1 rfl (Nat.le_of_ble_eq_true rfl) dL_law_850 ⟨by show cells + 0 ≤ 601024; omega, by show slots + 0 ≤ 7293034; omega⟩ (fun r' u H locs hu hW => ?_)
  obtain ⟨eu1, eu2⟩ := hu
  rw [eu2] at hW
  rw [eu1]
  have hW := LW_m hW
  refine lv_aload_n C.1 C.2.1 dL_law_853 rfl (lv_at hl 2 rfl) ?_
  refine lv_aload_n C.1 C.2.1 dL_law_854 rfl (lv_at hl 0 rfl) ?_
  refine lv_iload C.1 C.2.1 dL_law_855 (lv_at hl 4 rfl) ?_
  refine lv_iconst (v := 1) C.1 C.2.1 dL_law_857 (by decide) ?_
  refine lv_iadd C.1 C.2.1 dL_law_858 ?_
  refine va_sld C.1 C.2.1 hXs hbl hbA hW.2.2.2.1 h1 dL_law_859 ?_
  obtain ⟨b1, σ1, hq, hX⟩ := bnd2_st hX
  refine X_Vi (w := wM h a cs) (σ := σ) (As := [.int (xs (x4 + 1).toNatClampNeg)]) (rest := [.int r]) C hW (c_M_count l D cs h a σ (xs (x4 + 1).toNatClampNeg) (b1, σ1) hq.symm) (cwV 1 C.2.2.2.2 gL_law_X12_count rfl rfl rfl (by decide +kernel) ⟨(Nat.le_of_ble_eq_true rfl), (Nat.le_of_ble_eq_true rfl)⟩) (M_recv (GX_left hW)) rfl hl.1 rfl (Nat.le_of_ble_eq_true rfl) dL_law_860 ⟨by show cells + 0 + 0 ≤ 601024; omega, by show slots + 0 + 0 ≤ 7293034; omega⟩ (fun r'' u H locs hu hW => ?_)
  obtain ⟨hu1, hu2⟩ := Prod.mk.inj hu
  cases hu1
  cases hu2
  have hW := LW_b hW
  refine lv_icmp_eq (tgt := 868) C.1 C.2.1 dL_law_863 (by decide) (fun cc => ?_) (fun cc => ?_)
  · have hX := br_p hX cc
    cases hX
    refine W.widen (k := cells + 3) (n := slots + 40) (by omega) (by omega) ?_
    exact kk ad _ _ _ _ rfl hW (lv_sub hl [0, 1, 2, 3, 4] rfl)
  have hX := br_n hX cc
  cases hX
