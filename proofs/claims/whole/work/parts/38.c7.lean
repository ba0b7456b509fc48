abbrev rm_C_Run_feed : Room := { frames := 2, cells := 0, slots := 0, locals := 43 }
def C_Run_feed (K : List (Nat × Nat)) (t : TH) (x1 : Int32) (x2 : Int32) (x3 : Int32) (x4 : Int32) (x5 : Int32) : Option (Int32 × TH) := if ((tS t 9 1 0) + 20) ≤ 200 then bnd (C_Tape_addNumber K t x1) (fun t2 => bnd (C_Tape_addNumber K t2 x2) (fun t3 => bnd (C_Tape_addNumber K t3 x3) (fun t4 => bnd (C_Tape_addNumber K t4 x4) (fun t5 => bnd (C_Tape_addNumber K t5 x5) (fun t6 => some (tS t6 9 1 0, t6)))))) else some ((-1), t)
set_option maxHeartbeats 4000000 in
set_option maxRecDepth 100000 in
theorem c_C_Run_feed {Ev : EvT} {ek ev : Nat → Nat} {tp : Nat} (l : Launch) (D : va_G) (cs : Nat → ClassId) (ad : AD) (K : List (Nat × Nat)) (hKS : KS K) (hEv : EvC Ev ek ev tp) (t : TH) (x1 : Int32) (x2 : Int32) (x3 : Int32) (x4 : Int32) (x5 : Int32) (X : Int32 × TH) (hX : some X = C_Run_feed K t x1 x2 x3 x4 x5) : cGi Ev l D (tyC cs) (wC cs ad K) yX11_feed wsX11_feed rm_C_Run_feed 0 0 [.ref (ad 11 0), .int x1, .int x2, .int x3, .int x4, .int x5] t (fun r u => (r, u) = X) := by
  refine G_ini (cc := cX11_feed) (maxL := 6) (ret := some .int) (by decide) rfl (Nat.le_of_ble_eq_true rfl) ?_
  intro p e s m below meth c A ls C hr hlk hini hA hW hl
  have C : Cx p s m _ c cX11_feed 6 wsX11_feed RX11 := C
  have hl : lv_has ls 6 [(0, .ref (ad 11 0)), (1, .int x1), (2, .int x2), (3, .int x3), (4, .int x4), (5, .int x5)] := hl
  have hin9 : ∀ w ∈ wsX90, w ∈ wsX11_feed := fun w hw => List.mem_cons_of_mem _ (List.mem_append_right _ hw)
  have hin11 : ∀ w ∈ wsX110, w ∈ wsX11_feed := fun w hw => List.mem_cons_of_mem _ (List.mem_append_left _ (List.mem_append_right _ hw))
  have f9_1 : (Cond.fieldLink RX11 77 (TX9 1).1 (TX9 1).2.1 (TX9 1).2.2.1).before _ s = true := C.2.2.2.2 _ (List.mem_of_getElem? (i := 2) rfl)
  have f11_0 : (Cond.fieldLink RX11 10 (TX11 0).1 (TX11 0).2.1 (TX11 0).2.2.1).before _ s = true := C.2.2.2.2 _ (List.mem_of_getElem? (i := 1) rfl)
  obtain ⟨H, hH⟩ : ∃ H, H = s.heap := ⟨_, rfl⟩
  obtain ⟨locs, hlo⟩ : ∃ z : List Loc, z = [] := ⟨_, rfl⟩
  have hW : GW Ev D (tyC cs) (wC cs ad K) A s t H locs := by rw [hH, hlo]; exact hW
  rw [show W p l e rm_C_Run_feed s m _ below meth c s.heap [] = W p l e rm_C_Run_feed s m _ below meth c H locs from by rw [hH, hlo]]
  unfold C_Run_feed at hX
  refine lv_aload_n C.1 C.2.1 dX11_feed_0 rfl (lv_at hl 0 rfl) ?_
  refine C_get C hW 11 rfl hin11 hKS.k11_0 rfl 0 (by decide) rfl f11_0 dX11_feed_1 ?_
  refine C_get C hW 9 rfl hin9 hKS.k9_0 rfl 1 (by decide) rfl f9_1 dX11_feed_4 ?_
  refine lv_bipush (v := 20) C.1 C.2.1 dX11_feed_7 (by decide) ?_
  refine lv_iadd C.1 C.2.1 dX11_feed_9 ?_
  refine lv_sipush (v := 200) C.1 C.2.1 dX11_feed_10 (by decide) ?_
  refine lv_icmp_le (tgt := 18) C.1 C.2.1 dX11_feed_13 (by decide) (fun c1 => ?_) (fun c1 => ?_)
  · have hX := br_p hX c1
    refine lv_aload_n C.1 C.2.1 dX11_feed_18 rfl (lv_at hl 0 rfl) ?_
    refine C_get C hW 11 rfl hin11 hKS.k11_0 rfl 0 (by decide) rfl f11_0 dX11_feed_19 ?_
    refine lv_iload_n C.1 C.2.1 dX11_feed_22 rfl (lv_at hl 1 rfl) ?_
    obtain ⟨t2, hq, hX⟩ := bnd_st hX
    refine G_V0u (As := [.int x1]) (rest := []) C hW (c_C_Tape_addNumber l D cs ad K hKS hEv t x1 t2 hq.symm) (cwV 1 C.2.2.2.2 gX11_feed_X9_addNumber rfl rfl rfl (by decide +kernel) ⟨Nat.le_of_ble_eq_true rfl, Nat.le_of_ble_eq_true rfl⟩) (C_recv hW 9 hKS.k9_0 rfl rfl) rfl hl.1 rfl (Nat.le_of_ble_eq_true rfl) dX11_feed_23 (fun H locs hW => ?_)
    refine lv_aload_n C.1 C.2.1 dX11_feed_26 rfl (lv_at hl 0 rfl) ?_
    refine C_get C hW 11 rfl hin11 hKS.k11_0 rfl 0 (by decide) rfl f11_0 dX11_feed_27 ?_
    refine lv_iload_n C.1 C.2.1 dX11_feed_30 rfl (lv_at hl 2 rfl) ?_
    obtain ⟨t3, hq, hX⟩ := bnd_st hX
    refine G_V0u (As := [.int x2]) (rest := []) C hW (c_C_Tape_addNumber l D cs ad K hKS hEv t2 x2 t3 hq.symm) (cwV 1 C.2.2.2.2 gX11_feed_X9_addNumber rfl rfl rfl (by decide +kernel) ⟨Nat.le_of_ble_eq_true rfl, Nat.le_of_ble_eq_true rfl⟩) (C_recv hW 9 hKS.k9_0 rfl rfl) rfl hl.1 rfl (Nat.le_of_ble_eq_true rfl) dX11_feed_31 (fun H locs hW => ?_)
    refine lv_aload_n C.1 C.2.1 dX11_feed_34 rfl (lv_at hl 0 rfl) ?_
    refine C_get C hW 11 rfl hin11 hKS.k11_0 rfl 0 (by decide) rfl f11_0 dX11_feed_35 ?_
    refine lv_iload_n C.1 C.2.1 dX11_feed_38 rfl (lv_at hl 3 rfl) ?_
    obtain ⟨t4, hq, hX⟩ := bnd_st hX
    refine G_V0u (As := [.int x3]) (rest := []) C hW (c_C_Tape_addNumber l D cs ad K hKS hEv t3 x3 t4 hq.symm) (cwV 1 C.2.2.2.2 gX11_feed_X9_addNumber rfl rfl rfl (by decide +kernel) ⟨Nat.le_of_ble_eq_true rfl, Nat.le_of_ble_eq_true rfl⟩) (C_recv hW 9 hKS.k9_0 rfl rfl) rfl hl.1 rfl (Nat.le_of_ble_eq_true rfl) dX11_feed_39 (fun H locs hW => ?_)
    refine lv_aload_n C.1 C.2.1 dX11_feed_42 rfl (lv_at hl 0 rfl) ?_
    refine C_get C hW 11 rfl hin11 hKS.k11_0 rfl 0 (by decide) rfl f11_0 dX11_feed_43 ?_
    refine lv_iload C.1 C.2.1 dX11_feed_46 (lv_at hl 4 rfl) ?_
    obtain ⟨t5, hq, hX⟩ := bnd_st hX
    refine G_V0u (As := [.int x4]) (rest := []) C hW (c_C_Tape_addNumber l D cs ad K hKS hEv t4 x4 t5 hq.symm) (cwV 1 C.2.2.2.2 gX11_feed_X9_addNumber rfl rfl rfl (by decide +kernel) ⟨Nat.le_of_ble_eq_true rfl, Nat.le_of_ble_eq_true rfl⟩) (C_recv hW 9 hKS.k9_0 rfl rfl) rfl hl.1 rfl (Nat.le_of_ble_eq_true rfl) dX11_feed_48 (fun H locs hW => ?_)
    refine lv_aload_n C.1 C.2.1 dX11_feed_51 rfl (lv_at hl 0 rfl) ?_
    refine C_get C hW 11 rfl hin11 hKS.k11_0 rfl 0 (by decide) rfl f11_0 dX11_feed_52 ?_
    refine lv_iload C.1 C.2.1 dX11_feed_55 (lv_at hl 5 rfl) ?_
    obtain ⟨t6, hq, hX⟩ := bnd_st hX
    refine G_V0u (As := [.int x5]) (rest := []) C hW (c_C_Tape_addNumber l D cs ad K hKS hEv t5 x5 t6 hq.symm) (cwV 1 C.2.2.2.2 gX11_feed_X9_addNumber rfl rfl rfl (by decide +kernel) ⟨Nat.le_of_ble_eq_true rfl, Nat.le_of_ble_eq_true rfl⟩) (C_recv hW 9 hKS.k9_0 rfl rfl) rfl hl.1 rfl (Nat.le_of_ble_eq_true rfl) dX11_feed_57 (fun H locs hW => ?_)
    refine lv_aload_n C.1 C.2.1 dX11_feed_60 rfl (lv_at hl 0 rfl) ?_
    refine C_get C hW 11 rfl hin11 hKS.k11_0 rfl 0 (by decide) rfl f11_0 dX11_feed_61 ?_
    refine C_get C hW 9 rfl hin9 hKS.k9_0 rfl 1 (by decide) rfl f9_1 dX11_feed_64 ?_
    exact G_reti C hr hlk hA hW (Option.some.inj hX).symm dX11_feed_67
  have hX := br_n hX c1
  refine lv_iconst (v := -1) C.1 C.2.1 dX11_feed_16 (by decide) ?_
  exact G_reti C hr hlk hA hW (Option.some.inj hX).symm dX11_feed_17
abbrev rm_C_Run_end : Room := { frames := 0, cells := 0, slots := 0, locals := 0 }
def C_Run_end (K : List (Nat × Nat)) (t : TH) (x1 : Int32) : Option (Int32 × TH) := if x1 < 0 then some (0, t) else if x1 ≤ (tS t 9 1 0) then nm (uS t 9 1 0 x1) (fun t3 => some (1, t3)) else some (0, t)
set_option maxHeartbeats 4000000 in
set_option maxRecDepth 100000 in
theorem c_C_Run_end {Ev : EvT} {ek ev : Nat → Nat} {tp : Nat} (l : Launch) (D : va_G) (cs : Nat → ClassId) (ad : AD) (K : List (Nat × Nat)) (hKS : KS K) (hEv : EvC Ev ek ev tp) (t : TH) (x1 : Int32) (X : Int32 × TH) (hX : some X = C_Run_end K t x1) : cGi Ev l D (tyC cs) (wC cs ad K) yX11_end wsX11_end rm_C_Run_end 0 0 [.ref (ad 11 0), .int x1] t (fun r u => (r, u) = X) := by
  refine G_ini (cc := cX11_end) (maxL := 2) (ret := some .boolean) (by decide) rfl (Nat.le_of_ble_eq_true rfl) ?_
  intro p e s m below meth c A ls C hr hlk hini hA hW hl
  have C : Cx p s m _ c cX11_end 2 wsX11_end RX11 := C
  have hl : lv_has ls 2 [(0, .ref (ad 11 0)), (1, .int x1)] := hl
  have hin9 : ∀ w ∈ wsX90, w ∈ wsX11_end := fun w hw => List.mem_cons_of_mem _ (List.mem_append_right _ hw)
  have hin11 : ∀ w ∈ wsX110, w ∈ wsX11_end := fun w hw => List.mem_cons_of_mem _ (List.mem_append_left _ (List.mem_append_right _ hw))
  have f9_1 : (Cond.fieldLink RX11 77 (TX9 1).1 (TX9 1).2.1 (TX9 1).2.2.1).before _ s = true := C.2.2.2.2 _ (List.mem_of_getElem? (i := 2) rfl)
  have f11_0 : (Cond.fieldLink RX11 10 (TX11 0).1 (TX11 0).2.1 (TX11 0).2.2.1).before _ s = true := C.2.2.2.2 _ (List.mem_of_getElem? (i := 1) rfl)
  obtain ⟨H, hH⟩ : ∃ H, H = s.heap := ⟨_, rfl⟩
  obtain ⟨locs, hlo⟩ : ∃ z : List Loc, z = [] := ⟨_, rfl⟩
  have hW : GW Ev D (tyC cs) (wC cs ad K) A s t H locs := by rw [hH, hlo]; exact hW
  rw [show W p l e rm_C_Run_end s m _ below meth c s.heap [] = W p l e rm_C_Run_end s m _ below meth c H locs from by rw [hH, hlo]]
  unfold C_Run_end at hX
  refine lv_iload_n C.1 C.2.1 dX11_end_0 rfl (lv_at hl 1 rfl) ?_
  refine lv_if_lt (tgt := 15) C.1 C.2.1 dX11_end_1 (by decide) (fun c1 => ?_) (fun c1 => ?_)
  · have hX := br_p hX c1
    refine lv_iconst (v := 0) C.1 C.2.1 dX11_end_15 (by decide) ?_
    exact G_retz C hr hlk hA hW rfl (Option.some.inj hX).symm dX11_end_16
  have hX := br_n hX c1
  refine lv_iload_n C.1 C.2.1 dX11_end_4 rfl (lv_at hl 1 rfl) ?_
  refine lv_aload_n C.1 C.2.1 dX11_end_5 rfl (lv_at hl 0 rfl) ?_
  refine C_get C hW 11 rfl hin11 hKS.k11_0 rfl 0 (by decide) rfl f11_0 dX11_end_6 ?_
  refine C_get C hW 9 rfl hin9 hKS.k9_0 rfl 1 (by decide) rfl f9_1 dX11_end_9 ?_
  refine lv_icmp_le (tgt := 17) C.1 C.2.1 dX11_end_12 (by decide) (fun c2 => ?_) (fun c2 => ?_)
  · have hX := br_p hX c2
    refine lv_aload_n C.1 C.2.1 dX11_end_17 rfl (lv_at hl 0 rfl) ?_
    refine C_get C hW 11 rfl hin11 hKS.k11_0 rfl 0 (by decide) rfl f11_0 dX11_end_18 ?_
    refine lv_iload_n C.1 C.2.1 dX11_end_21 rfl (lv_at hl 1 rfl) ?_
    obtain ⟨t3, et3⟩ : ∃ z, z = uS t 9 1 0 x1 := ⟨_, rfl⟩
    refine C_put C hW 9 rfl hin9 tyX9 tyX9_ok nmX9 hKS.k9_0 rfl 1 (by decide) rfl rfl rfl (Nat.le_of_ble_eq_true rfl) f9_1 dX11_end_22 (t' := t3) (by rw [et3]; exact wr9_1) (by rw [et3]; exact ho_S (by decide)) (fun H locs hW => ?_)
    have hX := nm_st hX et3
    refine lv_iconst (v := 1) C.1 C.2.1 dX11_end_25 (by decide) ?_
    exact G_retz C hr hlk hA hW rfl (Option.some.inj hX).symm dX11_end_26
  have hX := br_n hX c2
  refine lv_iconst (v := 0) C.1 C.2.1 dX11_end_15 (by decide) ?_
  exact G_retz C hr hlk hA hW rfl (Option.some.inj hX).symm dX11_end_16
abbrev rm_C_Run_land : Room := { frames := 2, cells := 0, slots := 0, locals := 42 }
def C_Run_land (K : List (Nat × Nat)) (t : TH) (x1 : Int32) (x2 : Int32) (x3 : Int32) : Option (Int32 × TH) := if (tS t 8 2 0) = 0 then bnd (C_Run_isQuarter x1) (fun v2 => if v2 = 0 then some (0, t) else bnd (C_Run_isWithin x2 0 99) (fun v4 => if v4 = 0 then some (0, t) else bnd (C_Run_isWithin x3 0 3) (fun v6 => if v6 = 0 then some (0, t) else bnd (C_Land_shape K t x1 x2 x3) (fun t8 => some (1, t8))))) else some (0, t)
set_option maxHeartbeats 4000000 in
set_option maxRecDepth 100000 in
theorem c_C_Run_land {Ev : EvT} {ek ev : Nat → Nat} {tp : Nat} (l : Launch) (D : va_G) (cs : Nat → ClassId) (ad : AD) (K : List (Nat × Nat)) (hKS : KS K) (hEv : EvC Ev ek ev tp) (t : TH) (x1 : Int32) (x2 : Int32) (x3 : Int32) (X : Int32 × TH) (hX : some X = C_Run_land K t x1 x2 x3) : cGi Ev l D (tyC cs) (wC cs ad K) yX11_land wsX11_land rm_C_Run_land 0 0 [.ref (ad 11 0), .int x1, .int x2, .int x3] t (fun r u => (r, u) = X) := by
  refine G_ini (cc := cX11_land) (maxL := 4) (ret := some .boolean) (by decide) rfl (Nat.le_of_ble_eq_true rfl) ?_
  intro p e s m below meth c A ls C hr hlk hini hA hW hl
  have C : Cx p s m _ c cX11_land 4 wsX11_land RX11 := C
  have hl : lv_has ls 4 [(0, .ref (ad 11 0)), (1, .int x1), (2, .int x2), (3, .int x3)] := hl
  have hin8 : ∀ w ∈ wsX80, w ∈ wsX11_land := fun w hw => List.mem_cons_of_mem _ (List.mem_append_left _ (List.mem_append_right _ hw))
  have hin11 : ∀ w ∈ wsX110, w ∈ wsX11_land := fun w hw => List.mem_cons_of_mem _ (List.mem_append_left _ (List.mem_append_left _ (List.mem_append_right _ hw)))
  have f8_2 : (Cond.fieldLink RX11 84 (TX8 2).1 (TX8 2).2.1 (TX8 2).2.2.1).before _ s = true := C.2.2.2.2 _ (List.mem_of_getElem? (i := 2) rfl)
  have f11_1 : (Cond.fieldLink RX11 19 (TX11 1).1 (TX11 1).2.1 (TX11 1).2.2.1).before _ s = true := C.2.2.2.2 _ (List.mem_of_getElem? (i := 3) rfl)
  have f11_3 : (Cond.fieldLink RX11 35 (TX11 3).1 (TX11 3).2.1 (TX11 3).2.2.1).before _ s = true := C.2.2.2.2 _ (List.mem_of_getElem? (i := 1) rfl)
  obtain ⟨H, hH⟩ : ∃ H, H = s.heap := ⟨_, rfl⟩
  obtain ⟨locs, hlo⟩ : ∃ z : List Loc, z = [] := ⟨_, rfl⟩
  have hW : GW Ev D (tyC cs) (wC cs ad K) A s t H locs := by rw [hH, hlo]; exact hW
  rw [show W p l e rm_C_Run_land s m _ below meth c s.heap [] = W p l e rm_C_Run_land s m _ below meth c H locs from by rw [hH, hlo]]
  unfold C_Run_land at hX
  refine lv_aload_n C.1 C.2.1 dX11_land_0 rfl (lv_at hl 0 rfl) ?_
  refine C_get C hW 11 rfl hin11 hKS.k11_0 rfl 3 (by decide) rfl f11_3 dX11_land_1 ?_
  refine C_get C hW 8 rfl hin8 hKS.k8_0 rfl 2 (by decide) rfl f8_2 dX11_land_4 ?_
  refine lv_if_ne (tgt := 36) C.1 C.2.1 dX11_land_7 (by decide) (fun c1 => ?_) (fun c1 => ?_)
  · have hX := br_n hX c1
    refine lv_iconst (v := 0) C.1 C.2.1 dX11_land_36 (by decide) ?_
    exact G_retz C hr hlk hA hW rfl (Option.some.inj hX).symm dX11_land_37
  have hX := br_p hX c1
  refine lv_iload_n C.1 C.2.1 dX11_land_10 rfl (lv_at hl 1 rfl) ?_
  obtain ⟨v2, hq, hX⟩ := bnd_st hX
  refine G_S0s (As := [.int x1]) (rest := []) C hW (c_C_Run_isQuarter l D (tyC cs) (wC cs ad K) t x1 v2 hq.symm) (va_cwS 1 C.2.2.2.2 gX11_land_X11_isQuarter rfl rfl rfl (by decide +kernel) ⟨Nat.le_of_ble_eq_true rfl, Nat.le_of_ble_eq_true rfl⟩) rfl hl.1 rfl (Nat.le_of_ble_eq_true rfl) dX11_land_11 (fun H locs hW => ?_)
  refine lv_if_eq (tgt := 36) C.1 C.2.1 dX11_land_14 (by decide) (fun c3 => ?_) (fun c3 => ?_)
  · have hX := br_p hX c3
    refine lv_iconst (v := 0) C.1 C.2.1 dX11_land_36 (by decide) ?_
    exact G_retz C hr hlk hA hW rfl (Option.some.inj hX).symm dX11_land_37
  have hX := br_n hX c3
  refine lv_iload_n C.1 C.2.1 dX11_land_17 rfl (lv_at hl 2 rfl) ?_
  refine lv_iconst (v := 0) C.1 C.2.1 dX11_land_18 (by decide) ?_
  refine lv_bipush (v := 99) C.1 C.2.1 dX11_land_19 (by decide) ?_
  obtain ⟨v4, hq, hX⟩ := bnd_st hX
  refine G_S0s (As := [.int x2, .int 0, .int 99]) (rest := []) C hW (c_C_Run_isWithin l D (tyC cs) (wC cs ad K) t x2 0 99 v4 hq.symm) (va_cwS 3 C.2.2.2.2 gX11_land_X11_isWithin rfl rfl rfl (by decide +kernel) ⟨Nat.le_of_ble_eq_true rfl, Nat.le_of_ble_eq_true rfl⟩) rfl hl.1 rfl (Nat.le_of_ble_eq_true rfl) dX11_land_21 (fun H locs hW => ?_)
  refine lv_if_eq (tgt := 36) C.1 C.2.1 dX11_land_24 (by decide) (fun c5 => ?_) (fun c5 => ?_)
  · have hX := br_p hX c5
    refine lv_iconst (v := 0) C.1 C.2.1 dX11_land_36 (by decide) ?_
    exact G_retz C hr hlk hA hW rfl (Option.some.inj hX).symm dX11_land_37
  have hX := br_n hX c5
  refine lv_iload_n C.1 C.2.1 dX11_land_27 rfl (lv_at hl 3 rfl) ?_
  refine lv_iconst (v := 0) C.1 C.2.1 dX11_land_28 (by decide) ?_
  refine lv_iconst (v := 3) C.1 C.2.1 dX11_land_29 (by decide) ?_
  obtain ⟨v6, hq, hX⟩ := bnd_st hX
  refine G_S0s (As := [.int x3, .int 0, .int 3]) (rest := []) C hW (c_C_Run_isWithin l D (tyC cs) (wC cs ad K) t x3 0 3 v6 hq.symm) (va_cwS 3 C.2.2.2.2 gX11_land_X11_isWithin rfl rfl rfl (by decide +kernel) ⟨Nat.le_of_ble_eq_true rfl, Nat.le_of_ble_eq_true rfl⟩) rfl hl.1 rfl (Nat.le_of_ble_eq_true rfl) dX11_land_30 (fun H locs hW => ?_)
  refine lv_if_ne (tgt := 38) C.1 C.2.1 dX11_land_33 (by decide) (fun c7 => ?_) (fun c7 => ?_)
  · have hX := br_n hX c7
    refine lv_aload_n C.1 C.2.1 dX11_land_38 rfl (lv_at hl 0 rfl) ?_
    refine C_get C hW 11 rfl hin11 hKS.k11_0 rfl 1 (by decide) rfl f11_1 dX11_land_39 ?_
    refine lv_iload_n C.1 C.2.1 dX11_land_42 rfl (lv_at hl 1 rfl) ?_
    refine lv_iload_n C.1 C.2.1 dX11_land_43 rfl (lv_at hl 2 rfl) ?_
    refine lv_iload_n C.1 C.2.1 dX11_land_44 rfl (lv_at hl 3 rfl) ?_
    obtain ⟨t8, hq, hX⟩ := bnd_st hX
    refine G_V0u (As := [.int x1, .int x2, .int x3]) (rest := []) C hW (c_C_Land_shape l D cs ad K hKS hEv t x1 x2 x3 t8 hq.symm) (cwV 3 C.2.2.2.2 gX11_land_X3_shape rfl rfl rfl (by decide +kernel) ⟨Nat.le_of_ble_eq_true rfl, Nat.le_of_ble_eq_true rfl⟩) (C_recv hW 3 hKS.k3_0 rfl rfl) rfl hl.1 rfl (Nat.le_of_ble_eq_true rfl) dX11_land_45 (fun H locs hW => ?_)
    refine lv_iconst (v := 1) C.1 C.2.1 dX11_land_48 (by decide) ?_
    exact G_retz C hr hlk hA hW rfl (Option.some.inj hX).symm dX11_land_49
  have hX := br_p hX c7
  refine lv_iconst (v := 0) C.1 C.2.1 dX11_land_36 (by decide) ?_
  exact G_retz C hr hlk hA hW rfl (Option.some.inj hX).symm dX11_land_37
abbrev rm_C_Run_tapeTellsQuarters : Room := { frames := 2, cells := 0, slots := 0, locals := 47 }
def C_Run_tapeTellsQuarters (K : List (Nat × Nat)) (t : TH) : Option (Int32) := if 12 < (tS t 9 1 0) then some 0 else bnd (C_Tape_tellsEachOnce K t 64) (fun v2 => if v2 = 0 then some 0 else some 1)
set_option maxHeartbeats 4000000 in
set_option maxRecDepth 100000 in
theorem c_C_Run_tapeTellsQuarters {Ev : EvT} {ek ev : Nat → Nat} {tp : Nat} (l : Launch) (D : va_G) (cs : Nat → ClassId) (ad : AD) (K : List (Nat × Nat)) (hKS : KS K) (hEv : EvC Ev ek ev tp) (t : TH) (X : Int32) (hX : some X = C_Run_tapeTellsQuarters K t) : cGi Ev l D (tyC cs) (wC cs ad K) yX11_tapeTellsQuarters wsX11_tapeTellsQuarters rm_C_Run_tapeTellsQuarters 0 0 [.ref (ad 11 0)] t (fun r u => r = X ∧ u = t) := by
  refine G_ini (cc := cX11_tapeTellsQuarters) (maxL := 1) (ret := some .boolean) (by decide) rfl (Nat.le_of_ble_eq_true rfl) ?_
  intro p e s m below meth c A ls C hr hlk hini hA hW hl
  have C : Cx p s m _ c cX11_tapeTellsQuarters 1 wsX11_tapeTellsQuarters RX11 := C
  have hl : lv_has ls 1 [(0, .ref (ad 11 0))] := hl
  have hin9 : ∀ w ∈ wsX90, w ∈ wsX11_tapeTellsQuarters := fun w hw => List.mem_cons_of_mem _ (List.mem_append_right _ hw)
  have hin11 : ∀ w ∈ wsX110, w ∈ wsX11_tapeTellsQuarters := fun w hw => List.mem_cons_of_mem _ (List.mem_append_left _ (List.mem_append_right _ hw))
  have f9_1 : (Cond.fieldLink RX11 77 (TX9 1).1 (TX9 1).2.1 (TX9 1).2.2.1).before _ s = true := C.2.2.2.2 _ (List.mem_of_getElem? (i := 2) rfl)
  have f11_0 : (Cond.fieldLink RX11 10 (TX11 0).1 (TX11 0).2.1 (TX11 0).2.2.1).before _ s = true := C.2.2.2.2 _ (List.mem_of_getElem? (i := 1) rfl)
  obtain ⟨H, hH⟩ : ∃ H, H = s.heap := ⟨_, rfl⟩
  obtain ⟨locs, hlo⟩ : ∃ z : List Loc, z = [] := ⟨_, rfl⟩
  have hW : GW Ev D (tyC cs) (wC cs ad K) A s t H locs := by rw [hH, hlo]; exact hW
  rw [show W p l e rm_C_Run_tapeTellsQuarters s m _ below meth c s.heap [] = W p l e rm_C_Run_tapeTellsQuarters s m _ below meth c H locs from by rw [hH, hlo]]
  unfold C_Run_tapeTellsQuarters at hX
  refine lv_aload_n C.1 C.2.1 dX11_tapeTellsQuarters_0 rfl (lv_at hl 0 rfl) ?_
  refine C_get C hW 11 rfl hin11 hKS.k11_0 rfl 0 (by decide) rfl f11_0 dX11_tapeTellsQuarters_1 ?_
  refine C_get C hW 9 rfl hin9 hKS.k9_0 rfl 1 (by decide) rfl f9_1 dX11_tapeTellsQuarters_4 ?_
  refine lv_bipush (v := 12) C.1 C.2.1 dX11_tapeTellsQuarters_7 (by decide) ?_
  refine lv_icmp_gt (tgt := 28) C.1 C.2.1 dX11_tapeTellsQuarters_9 (by decide) (fun c1 => ?_) (fun c1 => ?_)
  · have hX := br_p hX c1
    refine lv_iconst (v := 0) C.1 C.2.1 dX11_tapeTellsQuarters_28 (by decide) ?_
    exact G_retz C hr hlk hA hW rfl ⟨(Option.some.inj hX).symm, rfl⟩ dX11_tapeTellsQuarters_29
  have hX := br_n hX c1
  refine lv_aload_n C.1 C.2.1 dX11_tapeTellsQuarters_12 rfl (lv_at hl 0 rfl) ?_
  refine C_get C hW 11 rfl hin11 hKS.k11_0 rfl 0 (by decide) rfl f11_0 dX11_tapeTellsQuarters_13 ?_
  refine lv_bipush (v := 64) C.1 C.2.1 dX11_tapeTellsQuarters_16 (by decide) ?_
  obtain ⟨v2, hq, hX⟩ := bnd_st hX
  refine G_V0p (As := [.int 64]) (rest := []) C hW (c_C_Tape_tellsEachOnce l D cs ad K hKS hEv t 64 v2 hq.symm) (cwV 1 C.2.2.2.2 gX11_tapeTellsQuarters_X9_tellsEachOnce rfl rfl rfl (by decide +kernel) ⟨Nat.le_of_ble_eq_true rfl, Nat.le_of_ble_eq_true rfl⟩) (C_recv hW 9 hKS.k9_0 rfl rfl) rfl hl.1 rfl (Nat.le_of_ble_eq_true rfl) dX11_tapeTellsQuarters_18 (fun H locs hW => ?_)
  refine lv_if_eq (tgt := 28) C.1 C.2.1 dX11_tapeTellsQuarters_21 (by decide) (fun c3 => ?_) (fun c3 => ?_)
  · have hX := br_p hX c3
    refine lv_iconst (v := 0) C.1 C.2.1 dX11_tapeTellsQuarters_28 (by decide) ?_
    exact G_retz C hr hlk hA hW rfl ⟨(Option.some.inj hX).symm, rfl⟩ dX11_tapeTellsQuarters_29
  have hX := br_n hX c3
  refine lv_iconst (v := 1) C.1 C.2.1 dX11_tapeTellsQuarters_24 (by decide) ?_
  refine lv_goto (tgt := 29) C.1 C.2.1 dX11_tapeTellsQuarters_25 (by decide) ?_
  exact G_retz C hr hlk hA hW rfl ⟨(Option.some.inj hX).symm, rfl⟩ dX11_tapeTellsQuarters_29
abbrev rm_C_Run_tapeTellsPeople : Room := { frames := 2, cells := 0, slots := 0, locals := 47 }
def C_Run_tapeTellsPeople (K : List (Nat × Nat)) (t : TH) : Option (Int32) := bnd (C_Tape_tellsEachOnce K t (tS t 6 1 0)) (fun v1 => chkZ v1 (some v1))
set_option maxHeartbeats 4000000 in
set_option maxRecDepth 100000 in
theorem c_C_Run_tapeTellsPeople {Ev : EvT} {ek ev : Nat → Nat} {tp : Nat} (l : Launch) (D : va_G) (cs : Nat → ClassId) (ad : AD) (K : List (Nat × Nat)) (hKS : KS K) (hEv : EvC Ev ek ev tp) (t : TH) (X : Int32) (hX : some X = C_Run_tapeTellsPeople K t) : cGi Ev l D (tyC cs) (wC cs ad K) yX11_tapeTellsPeople wsX11_tapeTellsPeople rm_C_Run_tapeTellsPeople 0 0 [.ref (ad 11 0)] t (fun r u => r = X ∧ u = t) := by
  refine G_ini (cc := cX11_tapeTellsPeople) (maxL := 1) (ret := some .boolean) (by decide) rfl (Nat.le_of_ble_eq_true rfl) ?_
  intro p e s m below meth c A ls C hr hlk hini hA hW hl
  have C : Cx p s m _ c cX11_tapeTellsPeople 1 wsX11_tapeTellsPeople RX11 := C
  have hl : lv_has ls 1 [(0, .ref (ad 11 0))] := hl
  have hin6 : ∀ w ∈ wsX60, w ∈ wsX11_tapeTellsPeople := fun w hw => List.mem_cons_of_mem _ (List.mem_append_left _ (List.mem_append_right _ hw))
  have hin11 : ∀ w ∈ wsX110, w ∈ wsX11_tapeTellsPeople := fun w hw => List.mem_cons_of_mem _ (List.mem_append_left _ (List.mem_append_left _ (List.mem_append_right _ hw)))
  have f6_1 : (Cond.fieldLink RX11 100 (TX6 1).1 (TX6 1).2.1 (TX6 1).2.2.1).before _ s = true := C.2.2.2.2 _ (List.mem_of_getElem? (i := 3) rfl)
  have f11_0 : (Cond.fieldLink RX11 10 (TX11 0).1 (TX11 0).2.1 (TX11 0).2.2.1).before _ s = true := C.2.2.2.2 _ (List.mem_of_getElem? (i := 1) rfl)
  have f11_2 : (Cond.fieldLink RX11 26 (TX11 2).1 (TX11 2).2.1 (TX11 2).2.2.1).before _ s = true := C.2.2.2.2 _ (List.mem_of_getElem? (i := 2) rfl)
  obtain ⟨H, hH⟩ : ∃ H, H = s.heap := ⟨_, rfl⟩
  obtain ⟨locs, hlo⟩ : ∃ z : List Loc, z = [] := ⟨_, rfl⟩
  have hW : GW Ev D (tyC cs) (wC cs ad K) A s t H locs := by rw [hH, hlo]; exact hW
  rw [show W p l e rm_C_Run_tapeTellsPeople s m _ below meth c s.heap [] = W p l e rm_C_Run_tapeTellsPeople s m _ below meth c H locs from by rw [hH, hlo]]
  unfold C_Run_tapeTellsPeople at hX
  refine lv_aload_n C.1 C.2.1 dX11_tapeTellsPeople_0 rfl (lv_at hl 0 rfl) ?_
  refine C_get C hW 11 rfl hin11 hKS.k11_0 rfl 0 (by decide) rfl f11_0 dX11_tapeTellsPeople_1 ?_
  refine lv_aload_n C.1 C.2.1 dX11_tapeTellsPeople_4 rfl (lv_at hl 0 rfl) ?_
  refine C_get C hW 11 rfl hin11 hKS.k11_0 rfl 2 (by decide) rfl f11_2 dX11_tapeTellsPeople_5 ?_
  refine C_get C hW 6 rfl hin6 hKS.k6_0 rfl 1 (by decide) rfl f6_1 dX11_tapeTellsPeople_8 ?_
  obtain ⟨v1, hq, hX⟩ := bnd_st hX
  refine G_V0p (As := [.int (tS t 6 1 0)]) (rest := []) C hW (c_C_Tape_tellsEachOnce l D cs ad K hKS hEv t (tS t 6 1 0) v1 hq.symm) (cwV 1 C.2.2.2.2 gX11_tapeTellsPeople_X9_tellsEachOnce rfl rfl rfl (by decide +kernel) ⟨Nat.le_of_ble_eq_true rfl, Nat.le_of_ble_eq_true rfl⟩) (C_recv hW 9 hKS.k9_0 rfl rfl) rfl hl.1 rfl (Nat.le_of_ble_eq_true rfl) dX11_tapeTellsPeople_11 (fun H locs hW => ?_)
  obtain ⟨hz, hX⟩ := chkZ_st hX
  exact G_retz C hr hlk hA hW hz.1 ⟨(Option.some.inj hX).symm, rfl⟩ dX11_tapeTellsPeople_14
abbrev rm_C_Run_run : Room := { frames := 7, cells := 0, slots := 0, locals := 160 }
def C_Run_run (K : List (Nat × Nat)) (t : TH) (x1 : Int32) : Option (Int32 × TH) := bnd (C_Run_isWithin x1 1 1000) (fun v1 => if v1 = 0 then some ((-1), t) else if (tS t 8 2 0) = 0 then bnd (C_Race_begin K t) (fun t5 => bnd (C_Race_goOn K t5 x1) (fun t6 => some (tS t6 8 3 0, t6))) else bnd (C_Race_goOn K t x1) (fun t4 => some (tS t4 8 3 0, t4)))
set_option maxHeartbeats 4000000 in
set_option maxRecDepth 100000 in
theorem c_C_Run_run {Ev : EvT} {ek ev : Nat → Nat} {tp : Nat} (l : Launch) (D : va_G) (cs : Nat → ClassId) (ad : AD) (K : List (Nat × Nat)) (hKS : KS K) (hEv : EvC Ev ek ev tp) (t : TH) (x1 : Int32) (X : Int32 × TH) (hX : some X = C_Run_run K t x1) : cGi Ev l D (tyC cs) (wC cs ad K) yX11_run wsX11_run rm_C_Run_run 0 0 [.ref (ad 11 0), .int x1] t (fun r u => (r, u) = X) := by
  refine G_ini (cc := cX11_run) (maxL := 2) (ret := some .int) (by decide) rfl (Nat.le_of_ble_eq_true rfl) ?_
  intro p e s m below meth c A ls C hr hlk hini hA hW hl
  have C : Cx p s m _ c cX11_run 2 wsX11_run RX11 := C
  have hl : lv_has ls 2 [(0, .ref (ad 11 0)), (1, .int x1)] := hl
  have hin8 : ∀ w ∈ wsX80, w ∈ wsX11_run := fun w hw => List.mem_cons_of_mem _ (List.mem_append_left _ (List.mem_append_left _ (List.mem_append_left _ (List.mem_append_right _ hw))))
  have hin11 : ∀ w ∈ wsX110, w ∈ wsX11_run := fun w hw => List.mem_cons_of_mem _ (List.mem_append_left _ (List.mem_append_left _ (List.mem_append_left _ (List.mem_append_left _ (List.mem_append_right _ hw)))))
  have f8_2 : (Cond.fieldLink RX11 84 (TX8 2).1 (TX8 2).2.1 (TX8 2).2.2.1).before _ s = true := C.2.2.2.2 _ (List.mem_of_getElem? (i := 2) rfl)
  have f8_3 : (Cond.fieldLink RX11 124 (TX8 3).1 (TX8 3).2.1 (TX8 3).2.2.1).before _ s = true := C.2.2.2.2 _ (List.mem_of_getElem? (i := 3) rfl)
  have f11_3 : (Cond.fieldLink RX11 35 (TX11 3).1 (TX11 3).2.1 (TX11 3).2.2.1).before _ s = true := C.2.2.2.2 _ (List.mem_of_getElem? (i := 1) rfl)
  obtain ⟨H, hH⟩ : ∃ H, H = s.heap := ⟨_, rfl⟩
  obtain ⟨locs, hlo⟩ : ∃ z : List Loc, z = [] := ⟨_, rfl⟩
  have hW : GW Ev D (tyC cs) (wC cs ad K) A s t H locs := by rw [hH, hlo]; exact hW
  rw [show W p l e rm_C_Run_run s m _ below meth c s.heap [] = W p l e rm_C_Run_run s m _ below meth c H locs from by rw [hH, hlo]]
  unfold C_Run_run at hX
  refine lv_iload_n C.1 C.2.1 dX11_run_0 rfl (lv_at hl 1 rfl) ?_
  refine lv_iconst (v := 1) C.1 C.2.1 dX11_run_1 (by decide) ?_
  refine lv_sipush (v := 1000) C.1 C.2.1 dX11_run_2 (by decide) ?_
  obtain ⟨v1, hq, hX⟩ := bnd_st hX
  refine G_S0s (As := [.int x1, .int 1, .int 1000]) (rest := []) C hW (c_C_Run_isWithin l D (tyC cs) (wC cs ad K) t x1 1 1000 v1 hq.symm) (va_cwS 3 C.2.2.2.2 gX11_run_X11_isWithin rfl rfl rfl (by decide +kernel) ⟨Nat.le_of_ble_eq_true rfl, Nat.le_of_ble_eq_true rfl⟩) rfl hl.1 rfl (Nat.le_of_ble_eq_true rfl) dX11_run_5 (fun H locs hW => ?_)
  refine lv_if_ne (tgt := 13) C.1 C.2.1 dX11_run_8 (by decide) (fun c2 => ?_) (fun c2 => ?_)
  · have hX := br_n hX c2
    refine lv_aload_n C.1 C.2.1 dX11_run_13 rfl (lv_at hl 0 rfl) ?_
    refine C_get C hW 11 rfl hin11 hKS.k11_0 rfl 3 (by decide) rfl f11_3 dX11_run_14 ?_
    refine C_get C hW 8 rfl hin8 hKS.k8_0 rfl 2 (by decide) rfl f8_2 dX11_run_17 ?_
    refine lv_if_ne (tgt := 30) C.1 C.2.1 dX11_run_20 (by decide) (fun c3 => ?_) (fun c3 => ?_)
    · have hX := br_n hX c3
      refine lv_aload_n C.1 C.2.1 dX11_run_30 rfl (lv_at hl 0 rfl) ?_
      refine C_get C hW 11 rfl hin11 hKS.k11_0 rfl 3 (by decide) rfl f11_3 dX11_run_31 ?_
      refine lv_iload_n C.1 C.2.1 dX11_run_34 rfl (lv_at hl 1 rfl) ?_
      obtain ⟨t4, hq, hX⟩ := bnd_st hX
      refine G_V0u (As := [.int x1]) (rest := []) C hW (c_C_Race_goOn l D cs ad K hKS hEv t x1 t4 hq.symm) (cwV 1 C.2.2.2.2 gX11_run_X8_goOn rfl rfl rfl (by decide +kernel) ⟨Nat.le_of_ble_eq_true rfl, Nat.le_of_ble_eq_true rfl⟩) (C_recv hW 8 hKS.k8_0 rfl rfl) rfl hl.1 rfl (Nat.le_of_ble_eq_true rfl) dX11_run_35 (fun H locs hW => ?_)
      refine lv_aload_n C.1 C.2.1 dX11_run_38 rfl (lv_at hl 0 rfl) ?_
      refine C_get C hW 11 rfl hin11 hKS.k11_0 rfl 3 (by decide) rfl f11_3 dX11_run_39 ?_
      refine C_get C hW 8 rfl hin8 hKS.k8_0 rfl 3 (by decide) rfl f8_3 dX11_run_42 ?_
      exact G_reti C hr hlk hA hW (Option.some.inj hX).symm dX11_run_45
    have hX := br_p hX c3
    refine lv_aload_n C.1 C.2.1 dX11_run_23 rfl (lv_at hl 0 rfl) ?_
    refine C_get C hW 11 rfl hin11 hKS.k11_0 rfl 3 (by decide) rfl f11_3 dX11_run_24 ?_
    obtain ⟨t5, hq, hX⟩ := bnd_st hX
    refine G_V0u (As := []) (rest := []) C hW (c_C_Race_begin l D cs ad K hKS hEv t t5 hq.symm) (cwV 0 C.2.2.2.2 gX11_run_X8_begin rfl rfl rfl (by decide +kernel) ⟨Nat.le_of_ble_eq_true rfl, Nat.le_of_ble_eq_true rfl⟩) (C_recv hW 8 hKS.k8_0 rfl rfl) rfl hl.1 rfl (Nat.le_of_ble_eq_true rfl) dX11_run_27 (fun H locs hW => ?_)
    refine lv_aload_n C.1 C.2.1 dX11_run_30 rfl (lv_at hl 0 rfl) ?_
    refine C_get C hW 11 rfl hin11 hKS.k11_0 rfl 3 (by decide) rfl f11_3 dX11_run_31 ?_
    refine lv_iload_n C.1 C.2.1 dX11_run_34 rfl (lv_at hl 1 rfl) ?_
    obtain ⟨t6, hq, hX⟩ := bnd_st hX
    refine G_V0u (As := [.int x1]) (rest := []) C hW (c_C_Race_goOn l D cs ad K hKS hEv t5 x1 t6 hq.symm) (cwV 1 C.2.2.2.2 gX11_run_X8_goOn rfl rfl rfl (by decide +kernel) ⟨Nat.le_of_ble_eq_true rfl, Nat.le_of_ble_eq_true rfl⟩) (C_recv hW 8 hKS.k8_0 rfl rfl) rfl hl.1 rfl (Nat.le_of_ble_eq_true rfl) dX11_run_35 (fun H locs hW => ?_)
    refine lv_aload_n C.1 C.2.1 dX11_run_38 rfl (lv_at hl 0 rfl) ?_
    refine C_get C hW 11 rfl hin11 hKS.k11_0 rfl 3 (by decide) rfl f11_3 dX11_run_39 ?_
    refine C_get C hW 8 rfl hin8 hKS.k8_0 rfl 3 (by decide) rfl f8_3 dX11_run_42 ?_
    exact G_reti C hr hlk hA hW (Option.some.inj hX).symm dX11_run_45
  have hX := br_p hX c2
  refine lv_iconst (v := -1) C.1 C.2.1 dX11_run_11 (by decide) ?_
  exact G_reti C hr hlk hA hW (Option.some.inj hX).symm dX11_run_12
abbrev rm_C_Run_staked : Room := { frames := 1, cells := 0, slots := 0, locals := 22 }
def C_Run_staked (K : List (Nat × Nat)) (t : TH) (x1 : Int32) : Option (Int32) := bnd (C_Land_stakerOf K t x1) (fun v1 => some v1)
set_option maxHeartbeats 4000000 in
set_option maxRecDepth 100000 in
theorem c_C_Run_staked {Ev : EvT} {ek ev : Nat → Nat} {tp : Nat} (l : Launch) (D : va_G) (cs : Nat → ClassId) (ad : AD) (K : List (Nat × Nat)) (hKS : KS K) (hEv : EvC Ev ek ev tp) (t : TH) (x1 : Int32) (X : Int32) (hX : some X = C_Run_staked K t x1) : cGi Ev l D (tyC cs) (wC cs ad K) yX11_staked wsX11_staked rm_C_Run_staked 0 0 [.ref (ad 11 0), .int x1] t (fun r u => r = X ∧ u = t) := by
  refine G_ini (cc := cX11_staked) (maxL := 2) (ret := some .int) (by decide) rfl (Nat.le_of_ble_eq_true rfl) ?_
  intro p e s m below meth c A ls C hr hlk hini hA hW hl
  have C : Cx p s m _ c cX11_staked 2 wsX11_staked RX11 := C
  have hl : lv_has ls 2 [(0, .ref (ad 11 0)), (1, .int x1)] := hl
  have hin11 : ∀ w ∈ wsX110, w ∈ wsX11_staked := fun w hw => List.mem_cons_of_mem _ (List.mem_append_left _ (List.mem_append_left _ (List.mem_append_right _ hw)))
  have f11_1 : (Cond.fieldLink RX11 19 (TX11 1).1 (TX11 1).2.1 (TX11 1).2.2.1).before _ s = true := C.2.2.2.2 _ (List.mem_of_getElem? (i := 1) rfl)
  obtain ⟨H, hH⟩ : ∃ H, H = s.heap := ⟨_, rfl⟩
  obtain ⟨locs, hlo⟩ : ∃ z : List Loc, z = [] := ⟨_, rfl⟩
  have hW : GW Ev D (tyC cs) (wC cs ad K) A s t H locs := by rw [hH, hlo]; exact hW
  rw [show W p l e rm_C_Run_staked s m _ below meth c s.heap [] = W p l e rm_C_Run_staked s m _ below meth c H locs from by rw [hH, hlo]]
  unfold C_Run_staked at hX
  refine lv_aload_n C.1 C.2.1 dX11_staked_0 rfl (lv_at hl 0 rfl) ?_
  refine C_get C hW 11 rfl hin11 hKS.k11_0 rfl 1 (by decide) rfl f11_1 dX11_staked_1 ?_
  refine lv_iload_n C.1 C.2.1 dX11_staked_4 rfl (lv_at hl 1 rfl) ?_
  obtain ⟨v1, hq, hX⟩ := bnd_st hX
  refine G_V0p (As := [.int x1]) (rest := []) C hW (c_C_Land_stakerOf l D cs ad K hKS hEv t x1 v1 hq.symm) (cwV 1 C.2.2.2.2 gX11_staked_X3_stakerOf rfl rfl rfl (by decide +kernel) ⟨Nat.le_of_ble_eq_true rfl, Nat.le_of_ble_eq_true rfl⟩) (C_recv hW 3 hKS.k3_0 rfl rfl) rfl hl.1 rfl (Nat.le_of_ble_eq_true rfl) dX11_staked_5 (fun H locs hW => ?_)
  exact G_reti C hr hlk hA hW ⟨(Option.some.inj hX).symm, rfl⟩ dX11_staked_8
abbrev rm_C_Run_law : Room := { frames := 9, cells := 0, slots := 0, locals := 188 }
def C_Run_law (K : List (Nat × Nat)) (t : TH) : Option (Int32 × TH) := bnd2 (C_Reader_read K t) (fun v2 t1 => if (tS t1 5 2 0) = 0 then bnd (C_Law_become K t1) (fun t5 => nm (uS t5 9 1 0 0) (fun t6 => some (v2, t6))) else nm (uS t1 9 1 0 0) (fun t4 => some (v2, t4)))
set_option maxHeartbeats 4000000 in
set_option maxRecDepth 100000 in
theorem c_C_Run_law {Ev : EvT} {ek ev : Nat → Nat} {tp : Nat} (l : Launch) (D : va_G) (cs : Nat → ClassId) (ad : AD) (K : List (Nat × Nat)) (hKS : KS K) (hEv : EvC Ev ek ev tp) (t : TH) (X : Int32 × TH) (hX : some X = C_Run_law K t) : cGi Ev l D (tyC cs) (wC cs ad K) yX11_law wsX11_law rm_C_Run_law 0 0 [.ref (ad 11 0)] t (fun r u => (r, u) = X) := by
  refine G_ini (cc := cX11_law) (maxL := 2) (ret := some .int) (by decide) rfl (Nat.le_of_ble_eq_true rfl) ?_
  intro p e s m below meth c A ls C hr hlk hini hA hW hl
  have C : Cx p s m _ c cX11_law 2 wsX11_law RX11 := C
  have hl : lv_has ls 2 [(0, .ref (ad 11 0))] := hl
  have hin5 : ∀ w ∈ wsX50, w ∈ wsX11_law := fun w hw => List.mem_cons_of_mem _ (List.mem_append_left _ (List.mem_append_left _ (List.mem_append_right _ hw)))
  have hin9 : ∀ w ∈ wsX90, w ∈ wsX11_law := fun w hw => List.mem_cons_of_mem _ (List.mem_append_left _ (List.mem_append_right _ hw))
  have hin11 : ∀ w ∈ wsX110, w ∈ wsX11_law := fun w hw => List.mem_cons_of_mem _ (List.mem_append_left _ (List.mem_append_left _ (List.mem_append_left _ (List.mem_append_right _ hw))))
  have f5_1 : (Cond.fieldLink RX11 176 (TX5 1).1 (TX5 1).2.1 (TX5 1).2.2.1).before _ s = true := C.2.2.2.2 _ (List.mem_of_getElem? (i := 4) rfl)
  have f5_2 : (Cond.fieldLink RX11 173 (TX5 2).1 (TX5 2).2.1 (TX5 2).2.2.1).before _ s = true := C.2.2.2.2 _ (List.mem_of_getElem? (i := 2) rfl)
  have f9_1 : (Cond.fieldLink RX11 77 (TX9 1).1 (TX9 1).2.1 (TX9 1).2.2.1).before _ s = true := C.2.2.2.2 _ (List.mem_of_getElem? (i := 6) rfl)
  have f11_0 : (Cond.fieldLink RX11 10 (TX11 0).1 (TX11 0).2.1 (TX11 0).2.2.1).before _ s = true := C.2.2.2.2 _ (List.mem_of_getElem? (i := 5) rfl)
  have f11_4 : (Cond.fieldLink RX11 42 (TX11 4).1 (TX11 4).2.1 (TX11 4).2.2.1).before _ s = true := C.2.2.2.2 _ (List.mem_of_getElem? (i := 3) rfl)
  have f11_5 : (Cond.fieldLink RX11 51 (TX11 5).1 (TX11 5).2.1 (TX11 5).2.2.1).before _ s = true := C.2.2.2.2 _ (List.mem_of_getElem? (i := 1) rfl)
  obtain ⟨H, hH⟩ : ∃ H, H = s.heap := ⟨_, rfl⟩
  obtain ⟨locs, hlo⟩ : ∃ z : List Loc, z = [] := ⟨_, rfl⟩
  have hW : GW Ev D (tyC cs) (wC cs ad K) A s t H locs := by rw [hH, hlo]; exact hW
  rw [show W p l e rm_C_Run_law s m _ below meth c s.heap [] = W p l e rm_C_Run_law s m _ below meth c H locs from by rw [hH, hlo]]
  unfold C_Run_law at hX
  refine lv_aload_n C.1 C.2.1 dX11_law_0 rfl (lv_at hl 0 rfl) ?_
  refine C_get C hW 11 rfl hin11 hKS.k11_0 rfl 5 (by decide) rfl f11_5 dX11_law_1 ?_
  obtain ⟨v2, t1, hq, hX⟩ := bnd2_st hX
  refine G_V0e (As := []) (rest := []) C hW (c_C_Reader_read l D cs ad K hKS hEv t (v2, t1) hq.symm) (cwV 0 C.2.2.2.2 gX11_law_X5_read rfl rfl rfl (by decide +kernel) ⟨Nat.le_of_ble_eq_true rfl, Nat.le_of_ble_eq_true rfl⟩) (C_recv hW 5 hKS.k5_0 rfl rfl) rfl hl.1 rfl (Nat.le_of_ble_eq_true rfl) dX11_law_4 (fun H locs hW => ?_)
  refine lv_istore_n (i := 1) (lv' := [(1, .int v2), (0, .ref (ad 11 0))]) C.1 C.2.1 dX11_law_7 rfl hl (by decide) rfl (fun ls hl => ?_)
  refine lv_aload_n C.1 C.2.1 dX11_law_8 rfl (lv_at hl 1 rfl) ?_
  refine C_get C hW 11 rfl hin11 hKS.k11_0 rfl 5 (by decide) rfl f11_5 dX11_law_9 ?_
  refine C_get C hW 5 rfl hin5 hKS.k5_0 rfl 2 (by decide) rfl f5_2 dX11_law_12 ?_
  refine lv_if_ne (tgt := 32) C.1 C.2.1 dX11_law_15 (by decide) (fun c3 => ?_) (fun c3 => ?_)
  · have hX := br_n hX c3
    refine lv_aload_n C.1 C.2.1 dX11_law_32 rfl (lv_at hl 1 rfl) ?_
    refine C_get C hW 11 rfl hin11 hKS.k11_0 rfl 0 (by decide) rfl f11_0 dX11_law_33 ?_
    refine lv_iconst (v := 0) C.1 C.2.1 dX11_law_36 (by decide) ?_
    obtain ⟨t4, et4⟩ : ∃ z, z = uS t1 9 1 0 0 := ⟨_, rfl⟩
    refine C_put C hW 9 rfl hin9 tyX9 tyX9_ok nmX9 hKS.k9_0 rfl 1 (by decide) rfl rfl rfl (Nat.le_of_ble_eq_true rfl) f9_1 dX11_law_37 (t' := t4) (by rw [et4]; exact wr9_1) (by rw [et4]; exact ho_S (by decide)) (fun H locs hW => ?_)
    have hX := nm_st hX et4
    refine lv_iload_n C.1 C.2.1 dX11_law_40 rfl (lv_at hl 0 rfl) ?_
    exact G_reti C hr hlk hA hW (Option.some.inj hX).symm dX11_law_41
  have hX := br_p hX c3
  refine lv_aload_n C.1 C.2.1 dX11_law_18 rfl (lv_at hl 1 rfl) ?_
  refine C_get C hW 11 rfl hin11 hKS.k11_0 rfl 4 (by decide) rfl f11_4 dX11_law_19 ?_
  refine lv_aload_n C.1 C.2.1 dX11_law_22 rfl (lv_at hl 1 rfl) ?_
  refine C_get C hW 11 rfl hin11 hKS.k11_0 rfl 5 (by decide) rfl f11_5 dX11_law_23 ?_
  refine C_get C hW 5 rfl hin5 hKS.k5_0 rfl 1 (by decide) rfl f5_1 dX11_law_26 ?_
  obtain ⟨t5, hq, hX⟩ := bnd_st hX
  refine G_V0u (As := [.ref (ad 4 1)]) (rest := []) C hW (c_C_Law_become l D cs ad K hKS hEv t1 t5 hq.symm) (cwV 1 C.2.2.2.2 gX11_law_X4_become rfl rfl rfl (by decide +kernel) ⟨Nat.le_of_ble_eq_true rfl, Nat.le_of_ble_eq_true rfl⟩) (C_recv hW 4 hKS.k4_0 rfl rfl) rfl hl.1 rfl (Nat.le_of_ble_eq_true rfl) dX11_law_29 (fun H locs hW => ?_)
  refine lv_aload_n C.1 C.2.1 dX11_law_32 rfl (lv_at hl 1 rfl) ?_
  refine C_get C hW 11 rfl hin11 hKS.k11_0 rfl 0 (by decide) rfl f11_0 dX11_law_33 ?_
  refine lv_iconst (v := 0) C.1 C.2.1 dX11_law_36 (by decide) ?_
  obtain ⟨t6, et6⟩ : ∃ z, z = uS t5 9 1 0 0 := ⟨_, rfl⟩
  refine C_put C hW 9 rfl hin9 tyX9 tyX9_ok nmX9 hKS.k9_0 rfl 1 (by decide) rfl rfl rfl (Nat.le_of_ble_eq_true rfl) f9_1 dX11_law_37 (t' := t6) (by rw [et6]; exact wr9_1) (by rw [et6]; exact ho_S (by decide)) (fun H locs hW => ?_)
  have hX := nm_st hX et6
  refine lv_iload_n C.1 C.2.1 dX11_law_40 rfl (lv_at hl 0 rfl) ?_
  exact G_reti C hr hlk hA hW (Option.some.inj hX).symm dX11_law_41
abbrev rm_C_Run_fault : Room := { frames := 0, cells := 0, slots := 0, locals := 0 }
def C_Run_fault (K : List (Nat × Nat)) (t : TH) : Option (Int32) := some (tS t 5 2 0)
set_option maxHeartbeats 4000000 in
set_option maxRecDepth 100000 in
theorem c_C_Run_fault {Ev : EvT} {ek ev : Nat → Nat} {tp : Nat} (l : Launch) (D : va_G) (cs : Nat → ClassId) (ad : AD) (K : List (Nat × Nat)) (hKS : KS K) (hEv : EvC Ev ek ev tp) (t : TH) (X : Int32) (hX : some X = C_Run_fault K t) : cGi Ev l D (tyC cs) (wC cs ad K) yX11_fault wsX11_fault rm_C_Run_fault 0 0 [.ref (ad 11 0)] t (fun r u => r = X ∧ u = t) := by
  refine G_ini (cc := cX11_fault) (maxL := 1) (ret := some .int) (by decide) rfl (Nat.le_of_ble_eq_true rfl) ?_
  intro p e s m below meth c A ls C hr hlk hini hA hW hl
  have C : Cx p s m _ c cX11_fault 1 wsX11_fault RX11 := C
  have hl : lv_has ls 1 [(0, .ref (ad 11 0))] := hl
  have hin5 : ∀ w ∈ wsX50, w ∈ wsX11_fault := fun w hw => List.mem_cons_of_mem _ (List.mem_append_right _ hw)
  have hin11 : ∀ w ∈ wsX110, w ∈ wsX11_fault := fun w hw => List.mem_cons_of_mem _ (List.mem_append_left _ (List.mem_append_right _ hw))
  have f5_2 : (Cond.fieldLink RX11 173 (TX5 2).1 (TX5 2).2.1 (TX5 2).2.2.1).before _ s = true := C.2.2.2.2 _ (List.mem_of_getElem? (i := 2) rfl)
  have f11_5 : (Cond.fieldLink RX11 51 (TX11 5).1 (TX11 5).2.1 (TX11 5).2.2.1).before _ s = true := C.2.2.2.2 _ (List.mem_of_getElem? (i := 1) rfl)
  obtain ⟨H, hH⟩ : ∃ H, H = s.heap := ⟨_, rfl⟩
  obtain ⟨locs, hlo⟩ : ∃ z : List Loc, z = [] := ⟨_, rfl⟩
  have hW : GW Ev D (tyC cs) (wC cs ad K) A s t H locs := by rw [hH, hlo]; exact hW
  rw [show W p l e rm_C_Run_fault s m _ below meth c s.heap [] = W p l e rm_C_Run_fault s m _ below meth c H locs from by rw [hH, hlo]]
  unfold C_Run_fault at hX
  refine lv_aload_n C.1 C.2.1 dX11_fault_0 rfl (lv_at hl 0 rfl) ?_
  refine C_get C hW 11 rfl hin11 hKS.k11_0 rfl 5 (by decide) rfl f11_5 dX11_fault_1 ?_
  refine C_get C hW 5 rfl hin5 hKS.k5_0 rfl 2 (by decide) rfl f5_2 dX11_fault_4 ?_
  exact G_reti C hr hlk hA hW ⟨(Option.some.inj hX).symm, rfl⟩ dX11_fault_7
abbrev rm_C_Run_wait : Room := { frames := 1, cells := 0, slots := 0, locals := 22 }
def C_Run_wait (K : List (Nat × Nat)) (t : TH) (x1 : Int32) : Option (Int32 × TH) := bnd (C_Run_isWithin x1 0 999) (fun v1 => if v1 = 0 then some (0, t) else if ((tS t 11 8 0) + x1) ≤ 999 then nm (uS t 11 8 0 ((tS t 11 8 0) + x1)) (fun t4 => some (1, t4)) else some (0, t))
set_option maxHeartbeats 4000000 in
set_option maxRecDepth 100000 in
theorem c_C_Run_wait {Ev : EvT} {ek ev : Nat → Nat} {tp : Nat} (l : Launch) (D : va_G) (cs : Nat → ClassId) (ad : AD) (K : List (Nat × Nat)) (hKS : KS K) (hEv : EvC Ev ek ev tp) (t : TH) (x1 : Int32) (X : Int32 × TH) (hX : some X = C_Run_wait K t x1) : cGi Ev l D (tyC cs) (wC cs ad K) yX11_wait wsX11_wait rm_C_Run_wait 0 0 [.ref (ad 11 0), .int x1] t (fun r u => (r, u) = X) := by
  refine G_ini (cc := cX11_wait) (maxL := 2) (ret := some .boolean) (by decide) rfl (Nat.le_of_ble_eq_true rfl) ?_
  intro p e s m below meth c A ls C hr hlk hini hA hW hl
  have C : Cx p s m _ c cX11_wait 2 wsX11_wait RX11 := C
  have hl : lv_has ls 2 [(0, .ref (ad 11 0)), (1, .int x1)] := hl
  have hin11 : ∀ w ∈ wsX110, w ∈ wsX11_wait := fun w hw => List.mem_cons_of_mem _ (List.mem_append_right _ hw)
  have f11_8 : (Cond.fieldLink RX11 73 (TX11 8).1 (TX11 8).2.1 (TX11 8).2.2.1).before _ s = true := C.2.2.2.2 _ (List.mem_of_getElem? (i := 1) rfl)
  obtain ⟨H, hH⟩ : ∃ H, H = s.heap := ⟨_, rfl⟩
  obtain ⟨locs, hlo⟩ : ∃ z : List Loc, z = [] := ⟨_, rfl⟩
  have hW : GW Ev D (tyC cs) (wC cs ad K) A s t H locs := by rw [hH, hlo]; exact hW
  rw [show W p l e rm_C_Run_wait s m _ below meth c s.heap [] = W p l e rm_C_Run_wait s m _ below meth c H locs from by rw [hH, hlo]]
  unfold C_Run_wait at hX
  refine lv_iload_n C.1 C.2.1 dX11_wait_0 rfl (lv_at hl 1 rfl) ?_
  refine lv_iconst (v := 0) C.1 C.2.1 dX11_wait_1 (by decide) ?_
  refine lv_sipush (v := 999) C.1 C.2.1 dX11_wait_2 (by decide) ?_
  obtain ⟨v1, hq, hX⟩ := bnd_st hX
  refine G_S0s (As := [.int x1, .int 0, .int 999]) (rest := []) C hW (c_C_Run_isWithin l D (tyC cs) (wC cs ad K) t x1 0 999 v1 hq.symm) (va_cwS 3 C.2.2.2.2 gX11_wait_X11_isWithin rfl rfl rfl (by decide +kernel) ⟨Nat.le_of_ble_eq_true rfl, Nat.le_of_ble_eq_true rfl⟩) rfl hl.1 rfl (Nat.le_of_ble_eq_true rfl) dX11_wait_5 (fun H locs hW => ?_)
  refine lv_if_eq (tgt := 23) C.1 C.2.1 dX11_wait_8 (by decide) (fun c2 => ?_) (fun c2 => ?_)
  · have hX := br_p hX c2
    refine lv_iconst (v := 0) C.1 C.2.1 dX11_wait_23 (by decide) ?_
    exact G_retz C hr hlk hA hW rfl (Option.some.inj hX).symm dX11_wait_24
  have hX := br_n hX c2
  refine lv_aload_n C.1 C.2.1 dX11_wait_11 rfl (lv_at hl 0 rfl) ?_
  refine C_get C hW 11 rfl hin11 hKS.k11_0 rfl 8 (by decide) rfl f11_8 dX11_wait_12 ?_
  refine lv_iload_n C.1 C.2.1 dX11_wait_15 rfl (lv_at hl 1 rfl) ?_
  refine lv_iadd C.1 C.2.1 dX11_wait_16 ?_
  refine lv_sipush (v := 999) C.1 C.2.1 dX11_wait_17 (by decide) ?_
  refine lv_icmp_le (tgt := 25) C.1 C.2.1 dX11_wait_20 (by decide) (fun c3 => ?_) (fun c3 => ?_)
  · have hX := br_p hX c3
    refine lv_aload_n C.1 C.2.1 dX11_wait_25 rfl (lv_at hl 0 rfl) ?_
    refine lv_dup C.1 C.2.1 dX11_wait_26 rfl ?_
    refine C_get C hW 11 rfl hin11 hKS.k11_0 rfl 8 (by decide) rfl f11_8 dX11_wait_27 ?_
    refine lv_iload_n C.1 C.2.1 dX11_wait_30 rfl (lv_at hl 1 rfl) ?_
    refine lv_iadd C.1 C.2.1 dX11_wait_31 ?_
    obtain ⟨t4, et4⟩ : ∃ z, z = uS t 11 8 0 ((tS t 11 8 0) + x1) := ⟨_, rfl⟩
    refine C_put C hW 11 rfl hin11 tyX11 tyX11_ok nmX11 hKS.k11_0 rfl 8 (by decide) rfl rfl rfl (Nat.le_of_ble_eq_true rfl) f11_8 dX11_wait_32 (t' := t4) (by rw [et4]; exact wr11_8) (by rw [et4]; exact ho_S (by decide)) (fun H locs hW => ?_)
    have hX := nm_st hX et4
    refine lv_iconst (v := 1) C.1 C.2.1 dX11_wait_35 (by decide) ?_
    exact G_retz C hr hlk hA hW rfl (Option.some.inj hX).symm dX11_wait_36
  have hX := br_n hX c3
  refine lv_iconst (v := 0) C.1 C.2.1 dX11_wait_23 (by decide) ?_
  exact G_retz C hr hlk hA hW rfl (Option.some.inj hX).symm dX11_wait_24
abbrev rm_C_Run_span : Room := { frames := 3, cells := 0, slots := 0, locals := 69 }
def C_Run_span (K : List (Nat × Nat)) (t : TH) (x1 : Int32) (x2 : Int32) (x3 : Int32) : Option (Int32 × TH) := bnd (C_Court_claimAt K t x1) (fun v1 => opt v1 (some ((-1), t)) (fun j2 => chkP ((1, j2) ∈ K) (if (tS t 1 3 j2) ≤ x2 then bnd (C_Claim_reckon K t j2 x2) (fun t5 => if x3 = 0 then some (tS t5 1 7 j2, t5) else if x3 = 1 then some (tS t5 1 8 j2, t5) else if x3 = 2 then some (tS t5 1 9 j2, t5) else if x3 = 3 then bnd (C_Law_allows K t5 j2) (fun v10 => if v10 = 0 then some (0, t5) else some (1, t5)) else some ((-1), t5)) else some ((-1), t))))
set_option maxHeartbeats 4000000 in
set_option maxRecDepth 100000 in
theorem c_C_Run_span {Ev : EvT} {ek ev : Nat → Nat} {tp : Nat} (l : Launch) (D : va_G) (cs : Nat → ClassId) (ad : AD) (K : List (Nat × Nat)) (hKS : KS K) (hEv : EvC Ev ek ev tp) (t : TH) (x1 : Int32) (x2 : Int32) (x3 : Int32) (X : Int32 × TH) (hX : some X = C_Run_span K t x1 x2 x3) : cGi Ev l D (tyC cs) (wC cs ad K) yX11_span wsX11_span rm_C_Run_span 0 0 [.ref (ad 11 0), .int x1, .int x2, .int x3] t (fun r u => (r, u) = X) := by
  refine G_ini (cc := cX11_span) (maxL := 5) (ret := some .int) (by decide) rfl (Nat.le_of_ble_eq_true rfl) ?_
  intro p e s m below meth c A ls C hr hlk hini hA hW hl
  have C : Cx p s m _ c cX11_span 5 wsX11_span RX11 := C
  have hl : lv_has ls 5 [(0, .ref (ad 11 0)), (1, .int x1), (2, .int x2), (3, .int x3)] := hl
  have hin1 : ∀ w ∈ wsX10, w ∈ wsX11_span := fun w hw => List.mem_cons_of_mem _ (List.mem_append_left _ (List.mem_append_left _ (List.mem_append_left _ (List.mem_append_left _ (List.mem_append_right _ hw)))))
  have hin11 : ∀ w ∈ wsX110, w ∈ wsX11_span := fun w hw => List.mem_cons_of_mem _ (List.mem_append_left _ (List.mem_append_left _ (List.mem_append_left _ (List.mem_append_left _ (List.mem_append_left _ (List.mem_append_right _ hw))))))
  have f1_3 : (Cond.fieldLink RX11 194 (TX1 3).1 (TX1 3).2.1 (TX1 3).2.2.1).before _ s = true := C.2.2.2.2 _ (List.mem_of_getElem? (i := 2) rfl)
  have f1_7 : (Cond.fieldLink RX11 202 (TX1 7).1 (TX1 7).2.1 (TX1 7).2.2.1).before _ s = true := C.2.2.2.2 _ (List.mem_of_getElem? (i := 3) rfl)
  have f1_8 : (Cond.fieldLink RX11 204 (TX1 8).1 (TX1 8).2.1 (TX1 8).2.2.1).before _ s = true := C.2.2.2.2 _ (List.mem_of_getElem? (i := 4) rfl)
  have f1_9 : (Cond.fieldLink RX11 207 (TX1 9).1 (TX1 9).2.1 (TX1 9).2.2.1).before _ s = true := C.2.2.2.2 _ (List.mem_of_getElem? (i := 5) rfl)
  have f11_4 : (Cond.fieldLink RX11 42 (TX11 4).1 (TX11 4).2.1 (TX11 4).2.2.1).before _ s = true := C.2.2.2.2 _ (List.mem_of_getElem? (i := 6) rfl)
  have f11_6 : (Cond.fieldLink RX11 60 (TX11 6).1 (TX11 6).2.1 (TX11 6).2.2.1).before _ s = true := C.2.2.2.2 _ (List.mem_of_getElem? (i := 1) rfl)
  obtain ⟨H, hH⟩ : ∃ H, H = s.heap := ⟨_, rfl⟩
  obtain ⟨locs, hlo⟩ : ∃ z : List Loc, z = [] := ⟨_, rfl⟩
  have hW : GW Ev D (tyC cs) (wC cs ad K) A s t H locs := by rw [hH, hlo]; exact hW
  rw [show W p l e rm_C_Run_span s m _ below meth c s.heap [] = W p l e rm_C_Run_span s m _ below meth c H locs from by rw [hH, hlo]]
  unfold C_Run_span at hX
  refine lv_aload_n C.1 C.2.1 dX11_span_0 rfl (lv_at hl 0 rfl) ?_
  refine C_get C hW 11 rfl hin11 hKS.k11_0 rfl 6 (by decide) rfl f11_6 dX11_span_1 ?_
  refine lv_iload_n C.1 C.2.1 dX11_span_4 rfl (lv_at hl 1 rfl) ?_
  obtain ⟨v1, hq, hX⟩ := bnd_st hX
  refine G_V0r (As := [.int x1]) (rest := []) C hW (c_C_Court_claimAt l D cs ad K hKS hEv t x1 v1 hq.symm) (cwV 1 C.2.2.2.2 gX11_span_X2_claimAt rfl rfl rfl (by decide +kernel) ⟨Nat.le_of_ble_eq_true rfl, Nat.le_of_ble_eq_true rfl⟩) (C_recv hW 2 hKS.k2_0 rfl rfl) rfl hl.1 rfl (Nat.le_of_ble_eq_true rfl) dX11_span_5 (fun H locs hW => ?_)
  refine lv_astoreQ (i := 4) (lv' := [(4, va_re (ad 1) v1), (0, .ref (ad 11 0)), (1, .int x1), (2, .int x2), (3, .int x3)]) C.1 C.2.1 dX11_span_8 hl (by decide) rfl (fun ls hl => ?_)
  refine lv_aloadQ C.1 C.2.1 dX11_span_10 (lv_at hl 0 rfl) ?_
  refine lv_ifnullQ (tgt := 24) C.1 C.2.1 dX11_span_12 (by decide) (fun hj2 => ?_) (fun j2 hj2 => ?_)
  · have hX := opt_n hX hj2
    refine lv_iconst (v := -1) C.1 C.2.1 dX11_span_24 (by decide) ?_
    exact G_reti C hr hlk hA hW (Option.some.inj hX).symm dX11_span_25
  have hX := opt_s hX hj2
  refine lv_aloadQ C.1 C.2.1 dX11_span_15 (lv_at hl 0 rfl) ?_
  refine lv_topq hj2 ?_
  obtain ⟨hk3, hX⟩ := chkP_st hX
  refine C_get C hW 1 rfl hin1 hk3 rfl 3 (by decide) rfl f1_3 dX11_span_17 ?_
  refine lv_iload_n C.1 C.2.1 dX11_span_20 rfl (lv_at hl 3 rfl) ?_
  refine lv_icmp_le (tgt := 26) C.1 C.2.1 dX11_span_21 (by decide) (fun c4 => ?_) (fun c4 => ?_)
  · have hX := br_p hX c4
    refine lv_aloadQ C.1 C.2.1 dX11_span_26 (lv_at hl 0 rfl) ?_
    refine lv_iload_n C.1 C.2.1 dX11_span_28 rfl (lv_at hl 3 rfl) ?_
    rw [show va_re (ad 1) v1 = .ref (ad 1 j2) from by rw [hj2]; rfl]
    obtain ⟨t5, hq, hX⟩ := bnd_st hX
    refine G_V0u (As := [.int x2]) (rest := []) C hW (c_C_Claim_reckon l D cs ad K hKS hEv t j2 x2 t5 hq.symm) (cwV 1 C.2.2.2.2 gX11_span_X1_reckon rfl rfl rfl (by decide +kernel) ⟨Nat.le_of_ble_eq_true rfl, Nat.le_of_ble_eq_true rfl⟩) (C_recv hW 1 hk3 rfl rfl) rfl hl.1 rfl (Nat.le_of_ble_eq_true rfl) dX11_span_29 (fun H locs hW => ?_)
    refine lv_iload_n C.1 C.2.1 dX11_span_32 rfl (lv_at hl 4 rfl) ?_
    by_cases c6 : x3 = 0
    · have hX := br_p hX c6
      refine lv_tableIn (tgt := 64) C.1 C.2.1 dX11_span_33 (by rw [c6]; decide) (by rw [c6]; decide) (by rw [c6]; rfl) (by decide) ?_
      refine lv_aloadQ C.1 C.2.1 dX11_span_64 (lv_at hl 0 rfl) ?_
      refine lv_topq hj2 ?_
      refine C_get C hW 1 rfl hin1 hk3 rfl 7 (by decide) rfl f1_7 dX11_span_66 ?_
      exact G_reti C hr hlk hA hW (Option.some.inj hX).symm dX11_span_69
    have hX := br_n hX c6
    by_cases c7 : x3 = 1
    · have hX := br_p hX c7
      refine lv_tableIn (tgt := 70) C.1 C.2.1 dX11_span_33 (by rw [c7]; decide) (by rw [c7]; decide) (by rw [c7]; rfl) (by decide) ?_
      refine lv_aloadQ C.1 C.2.1 dX11_span_70 (lv_at hl 0 rfl) ?_
      refine lv_topq hj2 ?_
      refine C_get C hW 1 rfl hin1 hk3 rfl 8 (by decide) rfl f1_8 dX11_span_72 ?_
      exact G_reti C hr hlk hA hW (Option.some.inj hX).symm dX11_span_75
    have hX := br_n hX c7
    by_cases c8 : x3 = 2
    · have hX := br_p hX c8
      refine lv_tableIn (tgt := 76) C.1 C.2.1 dX11_span_33 (by rw [c8]; decide) (by rw [c8]; decide) (by rw [c8]; rfl) (by decide) ?_
      refine lv_aloadQ C.1 C.2.1 dX11_span_76 (lv_at hl 0 rfl) ?_
      refine lv_topq hj2 ?_
      refine C_get C hW 1 rfl hin1 hk3 rfl 9 (by decide) rfl f1_9 dX11_span_78 ?_
      exact G_reti C hr hlk hA hW (Option.some.inj hX).symm dX11_span_81
    have hX := br_n hX c8
    by_cases c9 : x3 = 3
    · have hX := br_p hX c9
      refine lv_tableIn (tgt := 82) C.1 C.2.1 dX11_span_33 (by rw [c9]; decide) (by rw [c9]; decide) (by rw [c9]; rfl) (by decide) ?_
      refine lv_aload_n C.1 C.2.1 dX11_span_82 rfl (lv_at hl 1 rfl) ?_
      refine C_get C hW 11 rfl hin11 hKS.k11_0 rfl 4 (by decide) rfl f11_4 dX11_span_83 ?_
      refine lv_aloadQ C.1 C.2.1 dX11_span_86 (lv_at hl 0 rfl) ?_
      rw [show va_re (ad 1) v1 = .ref (ad 1 j2) from by rw [hj2]; rfl]
      obtain ⟨v10, hq, hX⟩ := bnd_st hX
      refine G_V0p (As := [.ref (ad 1 j2)]) (rest := []) C hW (c_C_Law_allows l D cs ad K hKS hEv t5 j2 v10 hq.symm) (cwV 1 C.2.2.2.2 gX11_span_X4_allows rfl rfl rfl (by decide +kernel) ⟨Nat.le_of_ble_eq_true rfl, Nat.le_of_ble_eq_true rfl⟩) (C_recv hW 4 hKS.k4_0 rfl rfl) rfl hl.1 rfl (Nat.le_of_ble_eq_true rfl) dX11_span_88 (fun H locs hW => ?_)
      refine lv_if_eq (tgt := 98) C.1 C.2.1 dX11_span_91 (by decide) (fun c11 => ?_) (fun c11 => ?_)
      · have hX := br_p hX c11
        refine lv_iconst (v := 0) C.1 C.2.1 dX11_span_98 (by decide) ?_
        exact G_reti C hr hlk hA hW (Option.some.inj hX).symm dX11_span_99
      have hX := br_n hX c11
      refine lv_iconst (v := 1) C.1 C.2.1 dX11_span_94 (by decide) ?_
      refine lv_goto (tgt := 99) C.1 C.2.1 dX11_span_95 (by decide) ?_
      exact G_reti C hr hlk hA hW (Option.some.inj hX).symm dX11_span_99
    have hX := br_n hX c9
    refine lv_tableOut (tgt := 100) C.1 C.2.1 dX11_span_33 (by have g0 := ts_n (z := 0) (by decide) c6; have g1 := ts_n (z := 1) (by decide) c7; have g2 := ts_n (z := 2) (by decide) c8; have g3 := ts_n (z := 3) (by decide) c9; omega) (by decide) ?_
    refine lv_iconst (v := -1) C.1 C.2.1 dX11_span_100 (by decide) ?_
    exact G_reti C hr hlk hA hW (Option.some.inj hX).symm dX11_span_101
  have hX := br_n hX c4
  refine lv_iconst (v := -1) C.1 C.2.1 dX11_span_24 (by decide) ?_
  exact G_reti C hr hlk hA hW (Option.some.inj hX).symm dX11_span_25
abbrev rm_C_Run_judge : Room := { frames := 4, cells := 0, slots := 0, locals := 93 }
def C_Run_judge (K : List (Nat × Nat)) (t : TH) (x1 : Int32) (x2 : Int32) : Option (Int32 × TH) := bnd (C_Court_gather K t x1 x2) (fun t1 => bnd (C_Court_winnerBySpans K t1) (fun v2 => opt v2 (bnd (C_Court_winnerByDoubt K t1) (fun v4 => opt v4 (some ((-1), t1)) (fun j5 => chkP ((1, j5) ∈ K) (some (tS t1 1 0 j5, t1))))) (fun j3 => chkP ((1, j3) ∈ K) (some (tS t1 1 0 j3, t1)))))
set_option maxHeartbeats 4000000 in
set_option maxRecDepth 100000 in
theorem c_C_Run_judge {Ev : EvT} {ek ev : Nat → Nat} {tp : Nat} (l : Launch) (D : va_G) (cs : Nat → ClassId) (ad : AD) (K : List (Nat × Nat)) (hKS : KS K) (hEv : EvC Ev ek ev tp) (t : TH) (x1 : Int32) (x2 : Int32) (X : Int32 × TH) (hX : some X = C_Run_judge K t x1 x2) : cGi Ev l D (tyC cs) (wC cs ad K) yX11_judge wsX11_judge rm_C_Run_judge 0 0 [.ref (ad 11 0), .int x1, .int x2] t (fun r u => (r, u) = X) := by
  refine G_ini (cc := cX11_judge) (maxL := 4) (ret := some .int) (by decide) rfl (Nat.le_of_ble_eq_true rfl) ?_
  intro p e s m below meth c A ls C hr hlk hini hA hW hl
  have C : Cx p s m _ c cX11_judge 4 wsX11_judge RX11 := C
  have hl : lv_has ls 4 [(0, .ref (ad 11 0)), (1, .int x1), (2, .int x2)] := hl
  have hin1 : ∀ w ∈ wsX10, w ∈ wsX11_judge := fun w hw => List.mem_cons_of_mem _ (List.mem_append_left _ (List.mem_append_left _ (List.mem_append_left _ (List.mem_append_left _ (List.mem_append_right _ hw)))))
  have hin11 : ∀ w ∈ wsX110, w ∈ wsX11_judge := fun w hw => List.mem_cons_of_mem _ (List.mem_append_left _ (List.mem_append_left _ (List.mem_append_left _ (List.mem_append_left _ (List.mem_append_left _ (List.mem_append_right _ hw))))))
  have f1_0 : (Cond.fieldLink RX11 225 (TX1 0).1 (TX1 0).2.1 (TX1 0).2.2.1).before _ s = true := C.2.2.2.2 _ (List.mem_of_getElem? (i := 2) rfl)
  have f11_6 : (Cond.fieldLink RX11 60 (TX11 6).1 (TX11 6).2.1 (TX11 6).2.2.1).before _ s = true := C.2.2.2.2 _ (List.mem_of_getElem? (i := 1) rfl)
  obtain ⟨H, hH⟩ : ∃ H, H = s.heap := ⟨_, rfl⟩
  obtain ⟨locs, hlo⟩ : ∃ z : List Loc, z = [] := ⟨_, rfl⟩
  have hW : GW Ev D (tyC cs) (wC cs ad K) A s t H locs := by rw [hH, hlo]; exact hW
  rw [show W p l e rm_C_Run_judge s m _ below meth c s.heap [] = W p l e rm_C_Run_judge s m _ below meth c H locs from by rw [hH, hlo]]
  unfold C_Run_judge at hX
  refine lv_aload_n C.1 C.2.1 dX11_judge_0 rfl (lv_at hl 0 rfl) ?_
  refine C_get C hW 11 rfl hin11 hKS.k11_0 rfl 6 (by decide) rfl f11_6 dX11_judge_1 ?_
  refine lv_iload_n C.1 C.2.1 dX11_judge_4 rfl (lv_at hl 1 rfl) ?_
  refine lv_iload_n C.1 C.2.1 dX11_judge_5 rfl (lv_at hl 2 rfl) ?_
  obtain ⟨t1, hq, hX⟩ := bnd_st hX
  refine G_V0u (As := [.int x1, .int x2]) (rest := []) C hW (c_C_Court_gather l D cs ad K hKS hEv t x1 x2 t1 hq.symm) (cwV 2 C.2.2.2.2 gX11_judge_X2_gather rfl rfl rfl (by decide +kernel) ⟨Nat.le_of_ble_eq_true rfl, Nat.le_of_ble_eq_true rfl⟩) (C_recv hW 2 hKS.k2_0 rfl rfl) rfl hl.1 rfl (Nat.le_of_ble_eq_true rfl) dX11_judge_6 (fun H locs hW => ?_)
  refine lv_aload_n C.1 C.2.1 dX11_judge_9 rfl (lv_at hl 0 rfl) ?_
  refine C_get C hW 11 rfl hin11 hKS.k11_0 rfl 6 (by decide) rfl f11_6 dX11_judge_10 ?_
  obtain ⟨v2, hq, hX⟩ := bnd_st hX
  refine G_V0r (As := []) (rest := []) C hW (c_C_Court_winnerBySpans l D cs ad K hKS hEv t1 v2 hq.symm) (cwV 0 C.2.2.2.2 gX11_judge_X2_winnerBySpans rfl rfl rfl (by decide +kernel) ⟨Nat.le_of_ble_eq_true rfl, Nat.le_of_ble_eq_true rfl⟩) (C_recv hW 2 hKS.k2_0 rfl rfl) rfl hl.1 rfl (Nat.le_of_ble_eq_true rfl) dX11_judge_13 (fun H locs hW => ?_)
  refine lv_astore_nQ (i := 3) (lv' := [(3, va_re (ad 1) v2), (0, .ref (ad 11 0)), (1, .int x1), (2, .int x2)]) C.1 C.2.1 dX11_judge_16 rfl hl (by decide) rfl (fun ls hl => ?_)
  refine lv_aload_nQ C.1 C.2.1 dX11_judge_17 rfl (lv_at hl 0 rfl) ?_
  refine lv_ifnonnullQ (tgt := 29) C.1 C.2.1 dX11_judge_18 (by decide) (fun j3 hj3 => ?_) (fun hj3 => ?_)
  · have hX := opt_s hX hj3
    refine lv_aload_nQ C.1 C.2.1 dX11_judge_29 rfl (lv_at hl 0 rfl) ?_
    refine lv_topq hj3 ?_
    refine lv_ifnonnull (tgt := 37) C.1 C.2.1 dX11_judge_30 (by decide) ?_
    refine lv_aload_nQ C.1 C.2.1 dX11_judge_37 rfl (lv_at hl 0 rfl) ?_
    refine lv_topq hj3 ?_
    obtain ⟨hk7, hX⟩ := chkP_st hX
    refine C_get C hW 1 rfl hin1 hk7 rfl 0 (by decide) rfl f1_0 dX11_judge_38 ?_
    exact G_reti C hr hlk hA hW (Option.some.inj hX).symm dX11_judge_41
  have hX := opt_n hX hj3
  refine lv_aload_n C.1 C.2.1 dX11_judge_21 rfl (lv_at hl 1 rfl) ?_
  refine C_get C hW 11 rfl hin11 hKS.k11_0 rfl 6 (by decide) rfl f11_6 dX11_judge_22 ?_
  obtain ⟨v4, hq, hX⟩ := bnd_st hX
  refine G_V0r (As := []) (rest := []) C hW (c_C_Court_winnerByDoubt l D cs ad K hKS hEv t1 v4 hq.symm) (cwV 0 C.2.2.2.2 gX11_judge_X2_winnerByDoubt rfl rfl rfl (by decide +kernel) ⟨Nat.le_of_ble_eq_true rfl, Nat.le_of_ble_eq_true rfl⟩) (C_recv hW 2 hKS.k2_0 rfl rfl) rfl hl.1 rfl (Nat.le_of_ble_eq_true rfl) dX11_judge_25 (fun H locs hW => ?_)
  refine lv_astore_nQ (i := 3) (lv' := [(3, va_re (ad 1) v4), (0, .ref (ad 11 0)), (1, .int x1), (2, .int x2)]) C.1 C.2.1 dX11_judge_28 rfl hl (by decide) rfl (fun ls hl => ?_)
  refine lv_aload_nQ C.1 C.2.1 dX11_judge_29 rfl (lv_at hl 0 rfl) ?_
  refine lv_ifnonnullQ (tgt := 37) C.1 C.2.1 dX11_judge_30 (by decide) (fun j5 hj5 => ?_) (fun hj5 => ?_)
  · have hX := opt_s hX hj5
    refine lv_aload_nQ C.1 C.2.1 dX11_judge_37 rfl (lv_at hl 0 rfl) ?_
    refine lv_topq hj5 ?_
    obtain ⟨hk6, hX⟩ := chkP_st hX
    refine C_get C hW 1 rfl hin1 hk6 rfl 0 (by decide) rfl f1_0 dX11_judge_38 ?_
    exact G_reti C hr hlk hA hW (Option.some.inj hX).symm dX11_judge_41
  have hX := opt_n hX hj5
  refine lv_iconst (v := -1) C.1 C.2.1 dX11_judge_33 (by decide) ?_
  refine lv_goto (tgt := 41) C.1 C.2.1 dX11_judge_34 (by decide) ?_
  exact G_reti C hr hlk hA hW (Option.some.inj hX).symm dX11_judge_41
abbrev rm_C_Run_doubt : Room := { frames := 4, cells := 0, slots := 0, locals := 93 }
def C_Run_doubt (K : List (Nat × Nat)) (t : TH) (x1 : Int32) (x2 : Int32) : Option (Int32 × TH) := bnd (C_Court_gather K t x1 x2) (fun t1 => if (tS t1 2 5 0) = 0 then some ((-1), t1) else bnd (C_Court_winnerBySpans K t1) (fun v3 => opt v3 (some (1, t1)) (fun j4 => some (0, t1))))
set_option maxHeartbeats 4000000 in
set_option maxRecDepth 100000 in
theorem c_C_Run_doubt {Ev : EvT} {ek ev : Nat → Nat} {tp : Nat} (l : Launch) (D : va_G) (cs : Nat → ClassId) (ad : AD) (K : List (Nat × Nat)) (hKS : KS K) (hEv : EvC Ev ek ev tp) (t : TH) (x1 : Int32) (x2 : Int32) (X : Int32 × TH) (hX : some X = C_Run_doubt K t x1 x2) : cGi Ev l D (tyC cs) (wC cs ad K) yX11_doubt wsX11_doubt rm_C_Run_doubt 0 0 [.ref (ad 11 0), .int x1, .int x2] t (fun r u => (r, u) = X) := by
  refine G_ini (cc := cX11_doubt) (maxL := 3) (ret := some .int) (by decide) rfl (Nat.le_of_ble_eq_true rfl) ?_
  intro p e s m below meth c A ls C hr hlk hini hA hW hl
  have C : Cx p s m _ c cX11_doubt 3 wsX11_doubt RX11 := C
  have hl : lv_has ls 3 [(0, .ref (ad 11 0)), (1, .int x1), (2, .int x2)] := hl
  have hin2 : ∀ w ∈ wsX20, w ∈ wsX11_doubt := fun w hw => List.mem_cons_of_mem _ (List.mem_append_left _ (List.mem_append_left _ (List.mem_append_left _ (List.mem_append_left _ (List.mem_append_right _ hw)))))
  have hin11 : ∀ w ∈ wsX110, w ∈ wsX11_doubt := fun w hw => List.mem_cons_of_mem _ (List.mem_append_left _ (List.mem_append_left _ (List.mem_append_left _ (List.mem_append_left _ (List.mem_append_left _ (List.mem_append_right _ hw))))))
  have f2_5 : (Cond.fieldLink RX11 228 (TX2 5).1 (TX2 5).2.1 (TX2 5).2.2.1).before _ s = true := C.2.2.2.2 _ (List.mem_of_getElem? (i := 2) rfl)
  have f11_6 : (Cond.fieldLink RX11 60 (TX11 6).1 (TX11 6).2.1 (TX11 6).2.2.1).before _ s = true := C.2.2.2.2 _ (List.mem_of_getElem? (i := 1) rfl)
  obtain ⟨H, hH⟩ : ∃ H, H = s.heap := ⟨_, rfl⟩
  obtain ⟨locs, hlo⟩ : ∃ z : List Loc, z = [] := ⟨_, rfl⟩
  have hW : GW Ev D (tyC cs) (wC cs ad K) A s t H locs := by rw [hH, hlo]; exact hW
  rw [show W p l e rm_C_Run_doubt s m _ below meth c s.heap [] = W p l e rm_C_Run_doubt s m _ below meth c H locs from by rw [hH, hlo]]
  unfold C_Run_doubt at hX
  refine lv_aload_n C.1 C.2.1 dX11_doubt_0 rfl (lv_at hl 0 rfl) ?_
  refine C_get C hW 11 rfl hin11 hKS.k11_0 rfl 6 (by decide) rfl f11_6 dX11_doubt_1 ?_
  refine lv_iload_n C.1 C.2.1 dX11_doubt_4 rfl (lv_at hl 1 rfl) ?_
  refine lv_iload_n C.1 C.2.1 dX11_doubt_5 rfl (lv_at hl 2 rfl) ?_
  obtain ⟨t1, hq, hX⟩ := bnd_st hX
  refine G_V0u (As := [.int x1, .int x2]) (rest := []) C hW (c_C_Court_gather l D cs ad K hKS hEv t x1 x2 t1 hq.symm) (cwV 2 C.2.2.2.2 gX11_doubt_X2_gather rfl rfl rfl (by decide +kernel) ⟨Nat.le_of_ble_eq_true rfl, Nat.le_of_ble_eq_true rfl⟩) (C_recv hW 2 hKS.k2_0 rfl rfl) rfl hl.1 rfl (Nat.le_of_ble_eq_true rfl) dX11_doubt_6 (fun H locs hW => ?_)
  refine lv_aload_n C.1 C.2.1 dX11_doubt_9 rfl (lv_at hl 0 rfl) ?_
  refine C_get C hW 11 rfl hin11 hKS.k11_0 rfl 6 (by decide) rfl f11_6 dX11_doubt_10 ?_
  refine C_get C hW 2 rfl hin2 hKS.k2_0 rfl 5 (by decide) rfl f2_5 dX11_doubt_13 ?_
  refine lv_if_ne (tgt := 21) C.1 C.2.1 dX11_doubt_16 (by decide) (fun c2 => ?_) (fun c2 => ?_)
  · have hX := br_n hX c2
    refine lv_aload_n C.1 C.2.1 dX11_doubt_21 rfl (lv_at hl 0 rfl) ?_
    refine C_get C hW 11 rfl hin11 hKS.k11_0 rfl 6 (by decide) rfl f11_6 dX11_doubt_22 ?_
    obtain ⟨v3, hq, hX⟩ := bnd_st hX
    refine G_V0r (As := []) (rest := []) C hW (c_C_Court_winnerBySpans l D cs ad K hKS hEv t1 v3 hq.symm) (cwV 0 C.2.2.2.2 gX11_doubt_X2_winnerBySpans rfl rfl rfl (by decide +kernel) ⟨Nat.le_of_ble_eq_true rfl, Nat.le_of_ble_eq_true rfl⟩) (C_recv hW 2 hKS.k2_0 rfl rfl) rfl hl.1 rfl (Nat.le_of_ble_eq_true rfl) dX11_doubt_25 (fun H locs hW => ?_)
    refine lv_ifnonnullQ (tgt := 35) C.1 C.2.1 dX11_doubt_28 (by decide) (fun j4 hj4 => ?_) (fun hj4 => ?_)
    · have hX := opt_s hX hj4
      refine lv_iconst (v := 0) C.1 C.2.1 dX11_doubt_35 (by decide) ?_
      exact G_reti C hr hlk hA hW (Option.some.inj hX).symm dX11_doubt_36
    have hX := opt_n hX hj4
    refine lv_iconst (v := 1) C.1 C.2.1 dX11_doubt_31 (by decide) ?_
    refine lv_goto (tgt := 36) C.1 C.2.1 dX11_doubt_32 (by decide) ?_
    exact G_reti C hr hlk hA hW (Option.some.inj hX).symm dX11_doubt_36
  have hX := br_p hX c2
  refine lv_iconst (v := -1) C.1 C.2.1 dX11_doubt_19 (by decide) ?_
  exact G_reti C hr hlk hA hW (Option.some.inj hX).symm dX11_doubt_20
abbrev rm_C_Run_lots : Room := { frames := 3, cells := 0, slots := 0, locals := 75 }
def C_Run_lots (K : List (Nat × Nat)) (t : TH) : Option (Int32 × TH) := bnd (C_Run_tapeTellsPeople K t) (fun v1 => if v1 = 0 then nm (uS t 9 1 0 0) (fun t3 => some ((-1), t3)) else bnd2 (C_People_drawLots K t) (fun v5 t4 => nm (uS t4 9 1 0 0) (fun t6 => some (v5, t6))))
set_option maxHeartbeats 4000000 in
set_option maxRecDepth 100000 in
theorem c_C_Run_lots {Ev : EvT} {ek ev : Nat → Nat} {tp : Nat} (l : Launch) (D : va_G) (cs : Nat → ClassId) (ad : AD) (K : List (Nat × Nat)) (hKS : KS K) (hEv : EvC Ev ek ev tp) (t : TH) (X : Int32 × TH) (hX : some X = C_Run_lots K t) : cGi Ev l D (tyC cs) (wC cs ad K) yX11_lots wsX11_lots rm_C_Run_lots 0 0 [.ref (ad 11 0)] t (fun r u => (r, u) = X) := by
  refine G_ini (cc := cX11_lots) (maxL := 2) (ret := some .int) (by decide) rfl (Nat.le_of_ble_eq_true rfl) ?_
  intro p e s m below meth c A ls C hr hlk hini hA hW hl
  have C : Cx p s m _ c cX11_lots 2 wsX11_lots RX11 := C
  have hl : lv_has ls 2 [(0, .ref (ad 11 0))] := hl
  have hin9 : ∀ w ∈ wsX90, w ∈ wsX11_lots := fun w hw => List.mem_cons_of_mem _ (List.mem_append_left _ (List.mem_append_left _ (List.mem_append_left _ (List.mem_append_right _ hw))))
  have hin11 : ∀ w ∈ wsX110, w ∈ wsX11_lots := fun w hw => List.mem_cons_of_mem _ (List.mem_append_left _ (List.mem_append_left _ (List.mem_append_left _ (List.mem_append_left _ (List.mem_append_right _ hw)))))
  have f9_1 : (Cond.fieldLink RX11 77 (TX9 1).1 (TX9 1).2.1 (TX9 1).2.2.1).before _ s = true := C.2.2.2.2 _ (List.mem_of_getElem? (i := 4) rfl)
  have f11_0 : (Cond.fieldLink RX11 10 (TX11 0).1 (TX11 0).2.1 (TX11 0).2.2.1).before _ s = true := C.2.2.2.2 _ (List.mem_of_getElem? (i := 2) rfl)
  have f11_1 : (Cond.fieldLink RX11 19 (TX11 1).1 (TX11 1).2.1 (TX11 1).2.2.1).before _ s = true := C.2.2.2.2 _ (List.mem_of_getElem? (i := 3) rfl)
  have f11_2 : (Cond.fieldLink RX11 26 (TX11 2).1 (TX11 2).2.1 (TX11 2).2.2.1).before _ s = true := C.2.2.2.2 _ (List.mem_of_getElem? (i := 1) rfl)
  obtain ⟨H, hH⟩ : ∃ H, H = s.heap := ⟨_, rfl⟩
  obtain ⟨locs, hlo⟩ : ∃ z : List Loc, z = [] := ⟨_, rfl⟩
  have hW : GW Ev D (tyC cs) (wC cs ad K) A s t H locs := by rw [hH, hlo]; exact hW
  rw [show W p l e rm_C_Run_lots s m _ below meth c s.heap [] = W p l e rm_C_Run_lots s m _ below meth c H locs from by rw [hH, hlo]]
  unfold C_Run_lots at hX
  refine lv_iconst (v := -1) C.1 C.2.1 dX11_lots_0 (by decide) ?_
  refine lv_istore_n (i := 1) (lv' := [(1, .int (-1)), (0, .ref (ad 11 0))]) C.1 C.2.1 dX11_lots_1 rfl hl (by decide) rfl (fun ls hl => ?_)
  refine lv_aload_n C.1 C.2.1 dX11_lots_2 rfl (lv_at hl 1 rfl) ?_
  obtain ⟨v1, hq, hX⟩ := bnd_st hX
  refine G_V0p (As := []) (rest := []) C hW (c_C_Run_tapeTellsPeople l D cs ad K hKS hEv t v1 hq.symm) (cwV 0 C.2.2.2.2 gX11_lots_X11_tapeTellsPeople rfl rfl rfl (by decide +kernel) ⟨Nat.le_of_ble_eq_true rfl, Nat.le_of_ble_eq_true rfl⟩) (C_recv hW 11 hKS.k11_0 rfl rfl) rfl hl.1 rfl (Nat.le_of_ble_eq_true rfl) dX11_lots_3 (fun H locs hW => ?_)
  refine lv_if_eq (tgt := 25) C.1 C.2.1 dX11_lots_6 (by decide) (fun c2 => ?_) (fun c2 => ?_)
  · have hX := br_p hX c2
    refine lv_aload_n C.1 C.2.1 dX11_lots_25 rfl (lv_at hl 1 rfl) ?_
    refine C_get C hW 11 rfl hin11 hKS.k11_0 rfl 0 (by decide) rfl f11_0 dX11_lots_26 ?_
    refine lv_iconst (v := 0) C.1 C.2.1 dX11_lots_29 (by decide) ?_
    obtain ⟨t3, et3⟩ : ∃ z, z = uS t 9 1 0 0 := ⟨_, rfl⟩
    refine C_put C hW 9 rfl hin9 tyX9 tyX9_ok nmX9 hKS.k9_0 rfl 1 (by decide) rfl rfl rfl (Nat.le_of_ble_eq_true rfl) f9_1 dX11_lots_30 (t' := t3) (by rw [et3]; exact wr9_1) (by rw [et3]; exact ho_S (by decide)) (fun H locs hW => ?_)
    have hX := nm_st hX et3
    refine lv_iload_n C.1 C.2.1 dX11_lots_33 rfl (lv_at hl 0 rfl) ?_
    exact G_reti C hr hlk hA hW (Option.some.inj hX).symm dX11_lots_34
  have hX := br_n hX c2
  refine lv_aload_n C.1 C.2.1 dX11_lots_9 rfl (lv_at hl 1 rfl) ?_
  refine C_get C hW 11 rfl hin11 hKS.k11_0 rfl 2 (by decide) rfl f11_2 dX11_lots_10 ?_
  refine lv_aload_n C.1 C.2.1 dX11_lots_13 rfl (lv_at hl 1 rfl) ?_
  refine C_get C hW 11 rfl hin11 hKS.k11_0 rfl 0 (by decide) rfl f11_0 dX11_lots_14 ?_
  refine lv_aload_n C.1 C.2.1 dX11_lots_17 rfl (lv_at hl 1 rfl) ?_
  refine C_get C hW 11 rfl hin11 hKS.k11_0 rfl 1 (by decide) rfl f11_1 dX11_lots_18 ?_
  obtain ⟨v5, t4, hq, hX⟩ := bnd2_st hX
  refine G_V0e (As := [.ref (ad 9 0), .ref (ad 3 0)]) (rest := []) C hW (c_C_People_drawLots l D cs ad K hKS hEv t (v5, t4) hq.symm) (cwV 2 C.2.2.2.2 gX11_lots_X6_drawLots rfl rfl rfl (by decide +kernel) ⟨Nat.le_of_ble_eq_true rfl, Nat.le_of_ble_eq_true rfl⟩) (C_recv hW 6 hKS.k6_0 rfl rfl) rfl hl.1 rfl (Nat.le_of_ble_eq_true rfl) dX11_lots_21 (fun H locs hW => ?_)
  refine lv_istore_n (i := 1) (lv' := [(1, .int v5), (0, .ref (ad 11 0))]) C.1 C.2.1 dX11_lots_24 rfl hl (by decide) rfl (fun ls hl => ?_)
  refine lv_aload_n C.1 C.2.1 dX11_lots_25 rfl (lv_at hl 1 rfl) ?_
  refine C_get C hW 11 rfl hin11 hKS.k11_0 rfl 0 (by decide) rfl f11_0 dX11_lots_26 ?_
  refine lv_iconst (v := 0) C.1 C.2.1 dX11_lots_29 (by decide) ?_
  obtain ⟨t6, et6⟩ : ∃ z, z = uS t4 9 1 0 0 := ⟨_, rfl⟩
  refine C_put C hW 9 rfl hin9 tyX9 tyX9_ok nmX9 hKS.k9_0 rfl 1 (by decide) rfl rfl rfl (Nat.le_of_ble_eq_true rfl) f9_1 dX11_lots_30 (t' := t6) (by rw [et6]; exact wr9_1) (by rw [et6]; exact ho_S (by decide)) (fun H locs hW => ?_)
  have hX := nm_st hX et6
  refine lv_iload_n C.1 C.2.1 dX11_lots_33 rfl (lv_at hl 0 rfl) ?_
  exact G_reti C hr hlk hA hW (Option.some.inj hX).symm dX11_lots_34
abbrev rm_C_Run_drawn : Room := { frames := 1, cells := 0, slots := 0, locals := 21 }
def C_Run_drawn (K : List (Nat × Nat)) (t : TH) (x1 : Int32) : Option (Int32) := bnd (C_People_at K t x1) (fun v1 => opt v1 (some (-1)) (fun j2 => chkP ((7, j2) ∈ K) (some (tS t 7 13 j2))))
set_option maxHeartbeats 4000000 in
set_option maxRecDepth 100000 in
theorem c_C_Run_drawn {Ev : EvT} {ek ev : Nat → Nat} {tp : Nat} (l : Launch) (D : va_G) (cs : Nat → ClassId) (ad : AD) (K : List (Nat × Nat)) (hKS : KS K) (hEv : EvC Ev ek ev tp) (t : TH) (x1 : Int32) (X : Int32) (hX : some X = C_Run_drawn K t x1) : cGi Ev l D (tyC cs) (wC cs ad K) yX11_drawn wsX11_drawn rm_C_Run_drawn 0 0 [.ref (ad 11 0), .int x1] t (fun r u => r = X ∧ u = t) := by
  refine G_ini (cc := cX11_drawn) (maxL := 3) (ret := some .int) (by decide) rfl (Nat.le_of_ble_eq_true rfl) ?_
  intro p e s m below meth c A ls C hr hlk hini hA hW hl
  have C : Cx p s m _ c cX11_drawn 3 wsX11_drawn RX11 := C
  have hl : lv_has ls 3 [(0, .ref (ad 11 0)), (1, .int x1)] := hl
  have hin7 : ∀ w ∈ wsX70, w ∈ wsX11_drawn := fun w hw => List.mem_cons_of_mem _ (List.mem_append_left _ (List.mem_append_right _ hw))
  have hin11 : ∀ w ∈ wsX110, w ∈ wsX11_drawn := fun w hw => List.mem_cons_of_mem _ (List.mem_append_left _ (List.mem_append_left _ (List.mem_append_right _ hw)))
  have f7_13 : (Cond.fieldLink RX11 238 (TX7 13).1 (TX7 13).2.1 (TX7 13).2.2.1).before _ s = true := C.2.2.2.2 _ (List.mem_of_getElem? (i := 2) rfl)
  have f11_2 : (Cond.fieldLink RX11 26 (TX11 2).1 (TX11 2).2.1 (TX11 2).2.2.1).before _ s = true := C.2.2.2.2 _ (List.mem_of_getElem? (i := 1) rfl)
  obtain ⟨H, hH⟩ : ∃ H, H = s.heap := ⟨_, rfl⟩
  obtain ⟨locs, hlo⟩ : ∃ z : List Loc, z = [] := ⟨_, rfl⟩
  have hW : GW Ev D (tyC cs) (wC cs ad K) A s t H locs := by rw [hH, hlo]; exact hW
  rw [show W p l e rm_C_Run_drawn s m _ below meth c s.heap [] = W p l e rm_C_Run_drawn s m _ below meth c H locs from by rw [hH, hlo]]
  unfold C_Run_drawn at hX
  refine lv_aload_n C.1 C.2.1 dX11_drawn_0 rfl (lv_at hl 0 rfl) ?_
  refine C_get C hW 11 rfl hin11 hKS.k11_0 rfl 2 (by decide) rfl f11_2 dX11_drawn_1 ?_
  refine lv_iload_n C.1 C.2.1 dX11_drawn_4 rfl (lv_at hl 1 rfl) ?_
  obtain ⟨v1, hq, hX⟩ := bnd_st hX
  refine G_V0r (As := [.int x1]) (rest := []) C hW (c_C_People_at l D cs ad K hKS hEv t x1 v1 hq.symm) (cwV 1 C.2.2.2.2 gX11_drawn_X6_at rfl rfl rfl (by decide +kernel) ⟨Nat.le_of_ble_eq_true rfl, Nat.le_of_ble_eq_true rfl⟩) (C_recv hW 6 hKS.k6_0 rfl rfl) rfl hl.1 rfl (Nat.le_of_ble_eq_true rfl) dX11_drawn_5 (fun H locs hW => ?_)
  refine lv_astore_nQ (i := 2) (lv' := [(2, va_re (ad 7) v1), (0, .ref (ad 11 0)), (1, .int x1)]) C.1 C.2.1 dX11_drawn_8 rfl hl (by decide) rfl (fun ls hl => ?_)
  refine lv_aload_nQ C.1 C.2.1 dX11_drawn_9 rfl (lv_at hl 0 rfl) ?_
  refine lv_ifnonnullQ (tgt := 17) C.1 C.2.1 dX11_drawn_10 (by decide) (fun j2 hj2 => ?_) (fun hj2 => ?_)
  · have hX := opt_s hX hj2
    refine lv_aload_nQ C.1 C.2.1 dX11_drawn_17 rfl (lv_at hl 0 rfl) ?_
    refine lv_topq hj2 ?_
    obtain ⟨hk3, hX⟩ := chkP_st hX
    refine C_get C hW 7 rfl hin7 hk3 rfl 13 (by decide) rfl f7_13 dX11_drawn_18 ?_
    exact G_reti C hr hlk hA hW ⟨(Option.some.inj hX).symm, rfl⟩ dX11_drawn_21
  have hX := opt_n hX hj2
  refine lv_iconst (v := -1) C.1 C.2.1 dX11_drawn_13 (by decide) ?_
  refine lv_goto (tgt := 21) C.1 C.2.1 dX11_drawn_14 (by decide) ?_
  exact G_reti C hr hlk hA hW ⟨(Option.some.inj hX).symm, rfl⟩ dX11_drawn_21
abbrev rm_C_Run_bid : Room := { frames := 2, cells := 0, slots := 0, locals := 43 }
def C_Run_bid (K : List (Nat × Nat)) (t : TH) (x1 : Int32) : Option (Int32 × TH) := bnd (C_People_at K t x1) (fun v1 => opt v1 (if (0 : Int32) = 0 then nm (uS t 9 1 0 0) (fun t4 => some (0, t4)) else opt v1 none (fun j5 => chkP ((7, j5) ∈ K) (bnd (C_Tape_copyInto K t j5) (fun t7 => nm (uS t7 9 1 0 0) (fun t8 => some (0, t8)))))) (fun j2 => chkP ((7, j2) ∈ K) (if (nI (tN t 17 j2)) = (tS t 9 1 0) then if (1 : Int32) = 0 then nm (uS t 9 1 0 0) (fun t16 => some (1, t16)) else bnd (C_Tape_copyInto K t j2) (fun t17 => nm (uS t17 9 1 0 0) (fun t18 => some (1, t18))) else if (0 : Int32) = 0 then nm (uS t 9 1 0 0) (fun t12 => some (0, t12)) else bnd (C_Tape_copyInto K t j2) (fun t13 => nm (uS t13 9 1 0 0) (fun t14 => some (0, t14))))))
set_option maxHeartbeats 4000000 in
set_option maxRecDepth 100000 in
theorem c_C_Run_bid {Ev : EvT} {ek ev : Nat → Nat} {tp : Nat} (l : Launch) (D : va_G) (cs : Nat → ClassId) (ad : AD) (K : List (Nat × Nat)) (hKS : KS K) (hEv : EvC Ev ek ev tp) (t : TH) (x1 : Int32) (X : Int32 × TH) (hX : some X = C_Run_bid K t x1) : cGi Ev l D (tyC cs) (wC cs ad K) yX11_bid wsX11_bid rm_C_Run_bid 0 0 [.ref (ad 11 0), .int x1] t (fun r u => (r, u) = X) := by
  refine G_ini (cc := cX11_bid) (maxL := 4) (ret := some .boolean) (by decide) rfl (Nat.le_of_ble_eq_true rfl) ?_
  intro p e s m below meth c A ls C hr hlk hini hA hW hl
  have C : Cx p s m _ c cX11_bid 4 wsX11_bid RX11 := C
  have hl : lv_has ls 4 [(0, .ref (ad 11 0)), (1, .int x1)] := hl
  have hin7 : ∀ w ∈ wsX70, w ∈ wsX11_bid := fun w hw => List.mem_cons_of_mem _ (List.mem_append_left _ (List.mem_append_left _ (List.mem_append_right _ hw)))
  have hin9 : ∀ w ∈ wsX90, w ∈ wsX11_bid := fun w hw => List.mem_cons_of_mem _ (List.mem_append_left _ (List.mem_append_right _ hw))
  have hin11 : ∀ w ∈ wsX110, w ∈ wsX11_bid := fun w hw => List.mem_cons_of_mem _ (List.mem_append_left _ (List.mem_append_left _ (List.mem_append_left _ (List.mem_append_right _ hw))))
  have f7_4 : (Cond.fieldLink RX11 241 (TX7 4).1 (TX7 4).2.1 (TX7 4).2.2.1).before _ s = true := C.2.2.2.2 _ (List.mem_of_getElem? (i := 2) rfl)
  have f7_5 : (Cond.fieldLink RX11 245 (TX7 5).1 (TX7 5).2.1 (TX7 5).2.2.1).before _ s = true := C.2.2.2.2 _ (List.mem_of_getElem? (i := 5) rfl)
  have f9_1 : (Cond.fieldLink RX11 77 (TX9 1).1 (TX9 1).2.1 (TX9 1).2.2.1).before _ s = true := C.2.2.2.2 _ (List.mem_of_getElem? (i := 4) rfl)
  have f11_0 : (Cond.fieldLink RX11 10 (TX11 0).1 (TX11 0).2.1 (TX11 0).2.2.1).before _ s = true := C.2.2.2.2 _ (List.mem_of_getElem? (i := 3) rfl)
  have f11_2 : (Cond.fieldLink RX11 26 (TX11 2).1 (TX11 2).2.1 (TX11 2).2.2.1).before _ s = true := C.2.2.2.2 _ (List.mem_of_getElem? (i := 1) rfl)
  obtain ⟨H, hH⟩ : ∃ H, H = s.heap := ⟨_, rfl⟩
  obtain ⟨locs, hlo⟩ : ∃ z : List Loc, z = [] := ⟨_, rfl⟩
  have hW : GW Ev D (tyC cs) (wC cs ad K) A s t H locs := by rw [hH, hlo]; exact hW
  rw [show W p l e rm_C_Run_bid s m _ below meth c s.heap [] = W p l e rm_C_Run_bid s m _ below meth c H locs from by rw [hH, hlo]]
  unfold C_Run_bid at hX
  refine lv_aload_n C.1 C.2.1 dX11_bid_0 rfl (lv_at hl 0 rfl) ?_
  refine C_get C hW 11 rfl hin11 hKS.k11_0 rfl 2 (by decide) rfl f11_2 dX11_bid_1 ?_
  refine lv_iload_n C.1 C.2.1 dX11_bid_4 rfl (lv_at hl 1 rfl) ?_
  obtain ⟨v1, hq, hX⟩ := bnd_st hX
  refine G_V0r (As := [.int x1]) (rest := []) C hW (c_C_People_at l D cs ad K hKS hEv t x1 v1 hq.symm) (cwV 1 C.2.2.2.2 gX11_bid_X6_at rfl rfl rfl (by decide +kernel) ⟨Nat.le_of_ble_eq_true rfl, Nat.le_of_ble_eq_true rfl⟩) (C_recv hW 6 hKS.k6_0 rfl rfl) rfl hl.1 rfl (Nat.le_of_ble_eq_true rfl) dX11_bid_5 (fun H locs hW => ?_)
  refine lv_astore_nQ (i := 2) (lv' := [(2, va_re (ad 7) v1), (0, .ref (ad 11 0)), (1, .int x1)]) C.1 C.2.1 dX11_bid_8 rfl hl (by decide) rfl (fun ls hl => ?_)
  refine lv_aload_nQ C.1 C.2.1 dX11_bid_9 rfl (lv_at hl 0 rfl) ?_
  refine lv_ifnullQ (tgt := 32) C.1 C.2.1 dX11_bid_10 (by decide) (fun hj2 => ?_) (fun j2 hj2 => ?_)
  · have hX := opt_n hX hj2
    refine lv_iconst (v := 0) C.1 C.2.1 dX11_bid_32 (by decide) ?_
    refine lv_istore_n (i := 3) (lv' := [(3, .int 0), (2, va_re (ad 7) v1), (0, .ref (ad 11 0)), (1, .int x1)]) C.1 C.2.1 dX11_bid_33 rfl hl (by decide) (by simp [re_cat]) (fun ls hl => ?_)
    refine lv_iload_n C.1 C.2.1 dX11_bid_34 rfl (lv_at hl 0 rfl) ?_
    refine lv_if_eq (tgt := 49) C.1 C.2.1 dX11_bid_35 (by decide) (fun c3 => ?_) (fun c3 => ?_)
    · have hX := br_p hX c3
      refine lv_aload_n C.1 C.2.1 dX11_bid_49 rfl (lv_at hl 2 rfl) ?_
      refine C_get C hW 11 rfl hin11 hKS.k11_0 rfl 0 (by decide) rfl f11_0 dX11_bid_50 ?_
      refine lv_iconst (v := 0) C.1 C.2.1 dX11_bid_53 (by decide) ?_
      obtain ⟨t4, et4⟩ : ∃ z, z = uS t 9 1 0 0 := ⟨_, rfl⟩
      refine C_put C hW 9 rfl hin9 tyX9 tyX9_ok nmX9 hKS.k9_0 rfl 1 (by decide) rfl rfl rfl (Nat.le_of_ble_eq_true rfl) f9_1 dX11_bid_54 (t' := t4) (by rw [et4]; exact wr9_1) (by rw [et4]; exact ho_S (by decide)) (fun H locs hW => ?_)
      have hX := nm_st hX et4
      refine lv_iload_n C.1 C.2.1 dX11_bid_57 rfl (lv_at hl 0 rfl) ?_
      exact G_retz C hr hlk hA hW rfl (Option.some.inj hX).symm dX11_bid_58
    have hX := br_n hX c3
    refine lv_aload_n C.1 C.2.1 dX11_bid_38 rfl (lv_at hl 2 rfl) ?_
    refine C_get C hW 11 rfl hin11 hKS.k11_0 rfl 0 (by decide) rfl f11_0 dX11_bid_39 ?_
    refine lv_aload_nQ C.1 C.2.1 dX11_bid_42 rfl (lv_at hl 1 rfl) ?_
    obtain ⟨j5, hj5, hX⟩ := nn_st hX
    refine lv_topq hj5 ?_
    obtain ⟨hk6, hX⟩ := chkP_st hX
    refine C_get C hW 7 rfl hin7 hk6 rfl 5 (by decide) rfl f7_5 dX11_bid_43 ?_
    obtain ⟨t7, hq, hX⟩ := bnd_st hX
    refine G_V0u (As := [.ref (ad 18 j5)]) (rest := []) C hW (c_C_Tape_copyInto l D cs ad K hKS hEv t j5 t7 hq.symm) (cwV 1 C.2.2.2.2 gX11_bid_X9_copyInto rfl rfl rfl (by decide +kernel) ⟨Nat.le_of_ble_eq_true rfl, Nat.le_of_ble_eq_true rfl⟩) (C_recv hW 9 hKS.k9_0 rfl rfl) rfl hl.1 rfl (Nat.le_of_ble_eq_true rfl) dX11_bid_46 (fun H locs hW => ?_)
    refine lv_aload_n C.1 C.2.1 dX11_bid_49 rfl (lv_at hl 2 rfl) ?_
    refine C_get C hW 11 rfl hin11 hKS.k11_0 rfl 0 (by decide) rfl f11_0 dX11_bid_50 ?_
    refine lv_iconst (v := 0) C.1 C.2.1 dX11_bid_53 (by decide) ?_
    obtain ⟨t8, et8⟩ : ∃ z, z = uS t7 9 1 0 0 := ⟨_, rfl⟩
    refine C_put C hW 9 rfl hin9 tyX9 tyX9_ok nmX9 hKS.k9_0 rfl 1 (by decide) rfl rfl rfl (Nat.le_of_ble_eq_true rfl) f9_1 dX11_bid_54 (t' := t8) (by rw [et8]; exact wr9_1) (by rw [et8]; exact ho_S (by decide)) (fun H locs hW => ?_)
    have hX := nm_st hX et8
    refine lv_iload_n C.1 C.2.1 dX11_bid_57 rfl (lv_at hl 0 rfl) ?_
    exact G_retz C hr hlk hA hW rfl (Option.some.inj hX).symm dX11_bid_58
  have hX := opt_s hX hj2
  refine lv_aload_nQ C.1 C.2.1 dX11_bid_13 rfl (lv_at hl 0 rfl) ?_
  refine lv_topq hj2 ?_
  obtain ⟨hk9, hX⟩ := chkP_st hX
  refine C_get C hW 7 rfl hin7 hk9 rfl 4 (by decide) rfl f7_4 dX11_bid_14 ?_
  refine C_alen C hW (hKS.2 _ hk9).1 rfl 1 rfl dX11_bid_17 ?_
  refine lv_aload_n C.1 C.2.1 dX11_bid_18 rfl (lv_at hl 1 rfl) ?_
  refine C_get C hW 11 rfl hin11 hKS.k11_0 rfl 0 (by decide) rfl f11_0 dX11_bid_19 ?_
  refine C_get C hW 9 rfl hin9 hKS.k9_0 rfl 1 (by decide) rfl f9_1 dX11_bid_22 ?_
  refine lv_icmp_ne (tgt := 32) C.1 C.2.1 dX11_bid_25 (by decide) (fun c10 => ?_) (fun c10 => ?_)
  · have hX := br_n hX c10
    refine lv_iconst (v := 0) C.1 C.2.1 dX11_bid_32 (by decide) ?_
    refine lv_istore_n (i := 3) (lv' := [(3, .int 0), (2, va_re (ad 7) v1), (0, .ref (ad 11 0)), (1, .int x1)]) C.1 C.2.1 dX11_bid_33 rfl hl (by decide) (by simp [re_cat]) (fun ls hl => ?_)
    refine lv_iload_n C.1 C.2.1 dX11_bid_34 rfl (lv_at hl 0 rfl) ?_
    refine lv_if_eq (tgt := 49) C.1 C.2.1 dX11_bid_35 (by decide) (fun c11 => ?_) (fun c11 => ?_)
    · have hX := br_p hX c11
      refine lv_aload_n C.1 C.2.1 dX11_bid_49 rfl (lv_at hl 2 rfl) ?_
      refine C_get C hW 11 rfl hin11 hKS.k11_0 rfl 0 (by decide) rfl f11_0 dX11_bid_50 ?_
      refine lv_iconst (v := 0) C.1 C.2.1 dX11_bid_53 (by decide) ?_
      obtain ⟨t12, et12⟩ : ∃ z, z = uS t 9 1 0 0 := ⟨_, rfl⟩
      refine C_put C hW 9 rfl hin9 tyX9 tyX9_ok nmX9 hKS.k9_0 rfl 1 (by decide) rfl rfl rfl (Nat.le_of_ble_eq_true rfl) f9_1 dX11_bid_54 (t' := t12) (by rw [et12]; exact wr9_1) (by rw [et12]; exact ho_S (by decide)) (fun H locs hW => ?_)
      have hX := nm_st hX et12
      refine lv_iload_n C.1 C.2.1 dX11_bid_57 rfl (lv_at hl 0 rfl) ?_
      exact G_retz C hr hlk hA hW rfl (Option.some.inj hX).symm dX11_bid_58
    have hX := br_n hX c11
    refine lv_aload_n C.1 C.2.1 dX11_bid_38 rfl (lv_at hl 2 rfl) ?_
    refine C_get C hW 11 rfl hin11 hKS.k11_0 rfl 0 (by decide) rfl f11_0 dX11_bid_39 ?_
    refine lv_aload_nQ C.1 C.2.1 dX11_bid_42 rfl (lv_at hl 1 rfl) ?_
    refine lv_topq hj2 ?_
    refine C_get C hW 7 rfl hin7 hk9 rfl 5 (by decide) rfl f7_5 dX11_bid_43 ?_
    obtain ⟨t13, hq, hX⟩ := bnd_st hX
    refine G_V0u (As := [.ref (ad 18 j2)]) (rest := []) C hW (c_C_Tape_copyInto l D cs ad K hKS hEv t j2 t13 hq.symm) (cwV 1 C.2.2.2.2 gX11_bid_X9_copyInto rfl rfl rfl (by decide +kernel) ⟨Nat.le_of_ble_eq_true rfl, Nat.le_of_ble_eq_true rfl⟩) (C_recv hW 9 hKS.k9_0 rfl rfl) rfl hl.1 rfl (Nat.le_of_ble_eq_true rfl) dX11_bid_46 (fun H locs hW => ?_)
    refine lv_aload_n C.1 C.2.1 dX11_bid_49 rfl (lv_at hl 2 rfl) ?_
    refine C_get C hW 11 rfl hin11 hKS.k11_0 rfl 0 (by decide) rfl f11_0 dX11_bid_50 ?_
    refine lv_iconst (v := 0) C.1 C.2.1 dX11_bid_53 (by decide) ?_
    obtain ⟨t14, et14⟩ : ∃ z, z = uS t13 9 1 0 0 := ⟨_, rfl⟩
    refine C_put C hW 9 rfl hin9 tyX9 tyX9_ok nmX9 hKS.k9_0 rfl 1 (by decide) rfl rfl rfl (Nat.le_of_ble_eq_true rfl) f9_1 dX11_bid_54 (t' := t14) (by rw [et14]; exact wr9_1) (by rw [et14]; exact ho_S (by decide)) (fun H locs hW => ?_)
    have hX := nm_st hX et14
    refine lv_iload_n C.1 C.2.1 dX11_bid_57 rfl (lv_at hl 0 rfl) ?_
    exact G_retz C hr hlk hA hW rfl (Option.some.inj hX).symm dX11_bid_58
  have hX := br_p hX c10
  refine lv_iconst (v := 1) C.1 C.2.1 dX11_bid_28 (by decide) ?_
  refine lv_goto (tgt := 33) C.1 C.2.1 dX11_bid_29 (by decide) ?_
  refine lv_istore_n (i := 3) (lv' := [(3, .int 1), (2, va_re (ad 7) v1), (0, .ref (ad 11 0)), (1, .int x1)]) C.1 C.2.1 dX11_bid_33 rfl hl (by decide) (by simp [re_cat]) (fun ls hl => ?_)
  refine lv_iload_n C.1 C.2.1 dX11_bid_34 rfl (lv_at hl 0 rfl) ?_
  refine lv_if_eq (tgt := 49) C.1 C.2.1 dX11_bid_35 (by decide) (fun c15 => ?_) (fun c15 => ?_)
  · have hX := br_p hX c15
    refine lv_aload_n C.1 C.2.1 dX11_bid_49 rfl (lv_at hl 2 rfl) ?_
    refine C_get C hW 11 rfl hin11 hKS.k11_0 rfl 0 (by decide) rfl f11_0 dX11_bid_50 ?_
    refine lv_iconst (v := 0) C.1 C.2.1 dX11_bid_53 (by decide) ?_
    obtain ⟨t16, et16⟩ : ∃ z, z = uS t 9 1 0 0 := ⟨_, rfl⟩
    refine C_put C hW 9 rfl hin9 tyX9 tyX9_ok nmX9 hKS.k9_0 rfl 1 (by decide) rfl rfl rfl (Nat.le_of_ble_eq_true rfl) f9_1 dX11_bid_54 (t' := t16) (by rw [et16]; exact wr9_1) (by rw [et16]; exact ho_S (by decide)) (fun H locs hW => ?_)
    have hX := nm_st hX et16
    refine lv_iload_n C.1 C.2.1 dX11_bid_57 rfl (lv_at hl 0 rfl) ?_
    exact G_retz C hr hlk hA hW rfl (Option.some.inj hX).symm dX11_bid_58
  have hX := br_n hX c15
  refine lv_aload_n C.1 C.2.1 dX11_bid_38 rfl (lv_at hl 2 rfl) ?_
  refine C_get C hW 11 rfl hin11 hKS.k11_0 rfl 0 (by decide) rfl f11_0 dX11_bid_39 ?_
  refine lv_aload_nQ C.1 C.2.1 dX11_bid_42 rfl (lv_at hl 1 rfl) ?_
  refine lv_topq hj2 ?_
  refine C_get C hW 7 rfl hin7 hk9 rfl 5 (by decide) rfl f7_5 dX11_bid_43 ?_
  obtain ⟨t17, hq, hX⟩ := bnd_st hX
  refine G_V0u (As := [.ref (ad 18 j2)]) (rest := []) C hW (c_C_Tape_copyInto l D cs ad K hKS hEv t j2 t17 hq.symm) (cwV 1 C.2.2.2.2 gX11_bid_X9_copyInto rfl rfl rfl (by decide +kernel) ⟨Nat.le_of_ble_eq_true rfl, Nat.le_of_ble_eq_true rfl⟩) (C_recv hW 9 hKS.k9_0 rfl rfl) rfl hl.1 rfl (Nat.le_of_ble_eq_true rfl) dX11_bid_46 (fun H locs hW => ?_)
  refine lv_aload_n C.1 C.2.1 dX11_bid_49 rfl (lv_at hl 2 rfl) ?_
  refine C_get C hW 11 rfl hin11 hKS.k11_0 rfl 0 (by decide) rfl f11_0 dX11_bid_50 ?_
  refine lv_iconst (v := 0) C.1 C.2.1 dX11_bid_53 (by decide) ?_
  obtain ⟨t18, et18⟩ : ∃ z, z = uS t17 9 1 0 0 := ⟨_, rfl⟩
  refine C_put C hW 9 rfl hin9 tyX9 tyX9_ok nmX9 hKS.k9_0 rfl 1 (by decide) rfl rfl rfl (Nat.le_of_ble_eq_true rfl) f9_1 dX11_bid_54 (t' := t18) (by rw [et18]; exact wr9_1) (by rw [et18]; exact ho_S (by decide)) (fun H locs hW => ?_)
  have hX := nm_st hX et18
  refine lv_iload_n C.1 C.2.1 dX11_bid_57 rfl (lv_at hl 0 rfl) ?_
  exact G_retz C hr hlk hA hW rfl (Option.some.inj hX).symm dX11_bid_58
abbrev rm_C_Run_sell : Room := { frames := 4, cells := 0, slots := 0, locals := 95 }
def C_Run_sell (K : List (Nat × Nat)) (t : TH) : Option (Int32 × TH) := bnd2 (C_Auction_settle K t) (fun v2 t1 => some (v2, t1))
set_option maxHeartbeats 4000000 in
set_option maxRecDepth 100000 in
theorem c_C_Run_sell {Ev : EvT} {ek ev : Nat → Nat} {tp : Nat} (l : Launch) (D : va_G) (cs : Nat → ClassId) (ad : AD) (K : List (Nat × Nat)) (hKS : KS K) (hEv : EvC Ev ek ev tp) (t : TH) (X : Int32 × TH) (hX : some X = C_Run_sell K t) : cGi Ev l D (tyC cs) (wC cs ad K) yX11_sell wsX11_sell rm_C_Run_sell 0 0 [.ref (ad 11 0)] t (fun r u => (r, u) = X) := by
  refine G_ini (cc := cX11_sell) (maxL := 1) (ret := some .int) (by decide) rfl (Nat.le_of_ble_eq_true rfl) ?_
  intro p e s m below meth c A ls C hr hlk hini hA hW hl
  have C : Cx p s m _ c cX11_sell 1 wsX11_sell RX11 := C
  have hl : lv_has ls 1 [(0, .ref (ad 11 0))] := hl
  have hin11 : ∀ w ∈ wsX110, w ∈ wsX11_sell := fun w hw => List.mem_cons_of_mem _ (List.mem_append_left _ (List.mem_append_left _ (List.mem_append_left _ (List.mem_append_right _ hw))))
  have f11_7 : (Cond.fieldLink RX11 69 (TX11 7).1 (TX11 7).2.1 (TX11 7).2.2.1).before _ s = true := C.2.2.2.2 _ (List.mem_of_getElem? (i := 1) rfl)
  obtain ⟨H, hH⟩ : ∃ H, H = s.heap := ⟨_, rfl⟩
  obtain ⟨locs, hlo⟩ : ∃ z : List Loc, z = [] := ⟨_, rfl⟩
  have hW : GW Ev D (tyC cs) (wC cs ad K) A s t H locs := by rw [hH, hlo]; exact hW
  rw [show W p l e rm_C_Run_sell s m _ below meth c s.heap [] = W p l e rm_C_Run_sell s m _ below meth c H locs from by rw [hH, hlo]]
  unfold C_Run_sell at hX
  refine lv_aload_n C.1 C.2.1 dX11_sell_0 rfl (lv_at hl 0 rfl) ?_
  refine C_get C hW 11 rfl hin11 hKS.k11_0 rfl 7 (by decide) rfl f11_7 dX11_sell_1 ?_
  obtain ⟨v2, t1, hq, hX⟩ := bnd2_st hX
  refine G_V0e (As := []) (rest := []) C hW (c_C_Auction_settle l D cs ad K hKS hEv t (v2, t1) hq.symm) (cwV 0 C.2.2.2.2 gX11_sell_X0_settle rfl rfl rfl (by decide +kernel) ⟨Nat.le_of_ble_eq_true rfl, Nat.le_of_ble_eq_true rfl⟩) (C_recv hW 0 hKS.k0_0 rfl rfl) rfl hl.1 rfl (Nat.le_of_ble_eq_true rfl) dX11_sell_4 (fun H locs hW => ?_)
  exact G_reti C hr hlk hA hW (Option.some.inj hX).symm dX11_sell_7
abbrev rm_C_Run_bought : Room := { frames := 1, cells := 0, slots := 0, locals := 21 }
def C_Run_bought (K : List (Nat × Nat)) (t : TH) (x1 : Int32) : Option (Int32) := bnd (C_People_at K t x1) (fun v1 => opt v1 (some (-1)) (fun j2 => chkP ((7, j2) ∈ K) (some (tS t 7 14 j2))))
set_option maxHeartbeats 4000000 in
set_option maxRecDepth 100000 in
theorem c_C_Run_bought {Ev : EvT} {ek ev : Nat → Nat} {tp : Nat} (l : Launch) (D : va_G) (cs : Nat → ClassId) (ad : AD) (K : List (Nat × Nat)) (hKS : KS K) (hEv : EvC Ev ek ev tp) (t : TH) (x1 : Int32) (X : Int32) (hX : some X = C_Run_bought K t x1) : cGi Ev l D (tyC cs) (wC cs ad K) yX11_bought wsX11_bought rm_C_Run_bought 0 0 [.ref (ad 11 0), .int x1] t (fun r u => r = X ∧ u = t) := by
  refine G_ini (cc := cX11_bought) (maxL := 3) (ret := some .int) (by decide) rfl (Nat.le_of_ble_eq_true rfl) ?_
  intro p e s m below meth c A ls C hr hlk hini hA hW hl
  have C : Cx p s m _ c cX11_bought 3 wsX11_bought RX11 := C
  have hl : lv_has ls 3 [(0, .ref (ad 11 0)), (1, .int x1)] := hl
  have hin7 : ∀ w ∈ wsX70, w ∈ wsX11_bought := fun w hw => List.mem_cons_of_mem _ (List.mem_append_left _ (List.mem_append_right _ hw))
  have hin11 : ∀ w ∈ wsX110, w ∈ wsX11_bought := fun w hw => List.mem_cons_of_mem _ (List.mem_append_left _ (List.mem_append_left _ (List.mem_append_right _ hw)))
  have f7_14 : (Cond.fieldLink RX11 255 (TX7 14).1 (TX7 14).2.1 (TX7 14).2.2.1).before _ s = true := C.2.2.2.2 _ (List.mem_of_getElem? (i := 2) rfl)
  have f11_2 : (Cond.fieldLink RX11 26 (TX11 2).1 (TX11 2).2.1 (TX11 2).2.2.1).before _ s = true := C.2.2.2.2 _ (List.mem_of_getElem? (i := 1) rfl)
  obtain ⟨H, hH⟩ : ∃ H, H = s.heap := ⟨_, rfl⟩
  obtain ⟨locs, hlo⟩ : ∃ z : List Loc, z = [] := ⟨_, rfl⟩
  have hW : GW Ev D (tyC cs) (wC cs ad K) A s t H locs := by rw [hH, hlo]; exact hW
  rw [show W p l e rm_C_Run_bought s m _ below meth c s.heap [] = W p l e rm_C_Run_bought s m _ below meth c H locs from by rw [hH, hlo]]
  unfold C_Run_bought at hX
  refine lv_aload_n C.1 C.2.1 dX11_bought_0 rfl (lv_at hl 0 rfl) ?_
  refine C_get C hW 11 rfl hin11 hKS.k11_0 rfl 2 (by decide) rfl f11_2 dX11_bought_1 ?_
  refine lv_iload_n C.1 C.2.1 dX11_bought_4 rfl (lv_at hl 1 rfl) ?_
  obtain ⟨v1, hq, hX⟩ := bnd_st hX
  refine G_V0r (As := [.int x1]) (rest := []) C hW (c_C_People_at l D cs ad K hKS hEv t x1 v1 hq.symm) (cwV 1 C.2.2.2.2 gX11_bought_X6_at rfl rfl rfl (by decide +kernel) ⟨Nat.le_of_ble_eq_true rfl, Nat.le_of_ble_eq_true rfl⟩) (C_recv hW 6 hKS.k6_0 rfl rfl) rfl hl.1 rfl (Nat.le_of_ble_eq_true rfl) dX11_bought_5 (fun H locs hW => ?_)
  refine lv_astore_nQ (i := 2) (lv' := [(2, va_re (ad 7) v1), (0, .ref (ad 11 0)), (1, .int x1)]) C.1 C.2.1 dX11_bought_8 rfl hl (by decide) rfl (fun ls hl => ?_)
  refine lv_aload_nQ C.1 C.2.1 dX11_bought_9 rfl (lv_at hl 0 rfl) ?_
  refine lv_ifnonnullQ (tgt := 17) C.1 C.2.1 dX11_bought_10 (by decide) (fun j2 hj2 => ?_) (fun hj2 => ?_)
  · have hX := opt_s hX hj2
    refine lv_aload_nQ C.1 C.2.1 dX11_bought_17 rfl (lv_at hl 0 rfl) ?_
    refine lv_topq hj2 ?_
    obtain ⟨hk3, hX⟩ := chkP_st hX
    refine C_get C hW 7 rfl hin7 hk3 rfl 14 (by decide) rfl f7_14 dX11_bought_18 ?_
    exact G_reti C hr hlk hA hW ⟨(Option.some.inj hX).symm, rfl⟩ dX11_bought_21
  have hX := opt_n hX hj2
  refine lv_iconst (v := -1) C.1 C.2.1 dX11_bought_13 (by decide) ?_
  refine lv_goto (tgt := 21) C.1 C.2.1 dX11_bought_14 (by decide) ?_
  exact G_reti C hr hlk hA hW ⟨(Option.some.inj hX).symm, rfl⟩ dX11_bought_21
abbrev rm_C_Run_count : Room := { frames := 0, cells := 0, slots := 0, locals := 0 }
def C_Run_count (K : List (Nat × Nat)) (t : TH) (x1 : Int32) : Option (Int32) := if x1 = 0 then some (tS t 8 3 0) else if x1 = 1 then some (tS t 6 1 0) else if x1 = 2 then some (tS t 3 3 0) else if x1 = 3 then some (tS t 11 8 0) else if x1 = 4 then some (tS t 2 3 0) else if x1 = 5 then some (tS t 2 4 0) else if x1 = 6 then some (tS t 4 5 0) else if x1 = 7 then some (tS t 9 1 0) else some (-1)
set_option maxHeartbeats 4000000 in
set_option maxRecDepth 100000 in
theorem c_C_Run_count {Ev : EvT} {ek ev : Nat → Nat} {tp : Nat} (l : Launch) (D : va_G) (cs : Nat → ClassId) (ad : AD) (K : List (Nat × Nat)) (hKS : KS K) (hEv : EvC Ev ek ev tp) (t : TH) (x1 : Int32) (X : Int32) (hX : some X = C_Run_count K t x1) : cGi Ev l D (tyC cs) (wC cs ad K) yX11_count wsX11_count rm_C_Run_count 0 0 [.ref (ad 11 0), .int x1] t (fun r u => r = X ∧ u = t) := by
  refine G_ini (cc := cX11_count) (maxL := 2) (ret := some .int) (by decide) rfl (Nat.le_of_ble_eq_true rfl) ?_
  intro p e s m below meth c A ls C hr hlk hini hA hW hl
  have C : Cx p s m _ c cX11_count 2 wsX11_count RX11 := C
  have hl : lv_has ls 2 [(0, .ref (ad 11 0)), (1, .int x1)] := hl
  have hin2 : ∀ w ∈ wsX20, w ∈ wsX11_count := fun w hw => List.mem_cons_of_mem _ (List.mem_append_left _ (List.mem_append_left _ (List.mem_append_right _ hw)))
  have hin3 : ∀ w ∈ wsX30, w ∈ wsX11_count := fun w hw => List.mem_cons_of_mem _ (List.mem_append_left _ (List.mem_append_left _ (List.mem_append_left _ (List.mem_append_right _ hw))))
  have hin4 : ∀ w ∈ wsX40, w ∈ wsX11_count := fun w hw => List.mem_cons_of_mem _ (List.mem_append_left _ (List.mem_append_right _ hw))
  have hin6 : ∀ w ∈ wsX60, w ∈ wsX11_count := fun w hw => List.mem_cons_of_mem _ (List.mem_append_left _ (List.mem_append_left _ (List.mem_append_left _ (List.mem_append_left _ (List.mem_append_right _ hw)))))
  have hin8 : ∀ w ∈ wsX80, w ∈ wsX11_count := fun w hw => List.mem_cons_of_mem _ (List.mem_append_left _ (List.mem_append_left _ (List.mem_append_left _ (List.mem_append_left _ (List.mem_append_left _ (List.mem_append_right _ hw))))))
  have hin9 : ∀ w ∈ wsX90, w ∈ wsX11_count := fun w hw => List.mem_cons_of_mem _ (List.mem_append_right _ hw)
  have hin11 : ∀ w ∈ wsX110, w ∈ wsX11_count := fun w hw => List.mem_cons_of_mem _ (List.mem_append_left _ (List.mem_append_left _ (List.mem_append_left _ (List.mem_append_left _ (List.mem_append_left _ (List.mem_append_left _ (List.mem_append_right _ hw)))))))
  have f2_3 : (Cond.fieldLink RX11 261 (TX2 3).1 (TX2 3).2.1 (TX2 3).2.2.1).before _ s = true := C.2.2.2.2 _ (List.mem_of_getElem? (i := 9) rfl)
  have f2_4 : (Cond.fieldLink RX11 264 (TX2 4).1 (TX2 4).2.1 (TX2 4).2.2.1).before _ s = true := C.2.2.2.2 _ (List.mem_of_getElem? (i := 10) rfl)
  have f3_3 : (Cond.fieldLink RX11 258 (TX3 3).1 (TX3 3).2.1 (TX3 3).2.2.1).before _ s = true := C.2.2.2.2 _ (List.mem_of_getElem? (i := 6) rfl)
  have f4_5 : (Cond.fieldLink RX11 267 (TX4 5).1 (TX4 5).2.1 (TX4 5).2.2.1).before _ s = true := C.2.2.2.2 _ (List.mem_of_getElem? (i := 12) rfl)
  have f6_1 : (Cond.fieldLink RX11 100 (TX6 1).1 (TX6 1).2.1 (TX6 1).2.2.1).before _ s = true := C.2.2.2.2 _ (List.mem_of_getElem? (i := 4) rfl)
  have f8_3 : (Cond.fieldLink RX11 124 (TX8 3).1 (TX8 3).2.1 (TX8 3).2.2.1).before _ s = true := C.2.2.2.2 _ (List.mem_of_getElem? (i := 2) rfl)
  have f9_1 : (Cond.fieldLink RX11 77 (TX9 1).1 (TX9 1).2.1 (TX9 1).2.2.1).before _ s = true := C.2.2.2.2 _ (List.mem_of_getElem? (i := 14) rfl)
  have f11_0 : (Cond.fieldLink RX11 10 (TX11 0).1 (TX11 0).2.1 (TX11 0).2.2.1).before _ s = true := C.2.2.2.2 _ (List.mem_of_getElem? (i := 13) rfl)
  have f11_1 : (Cond.fieldLink RX11 19 (TX11 1).1 (TX11 1).2.1 (TX11 1).2.2.1).before _ s = true := C.2.2.2.2 _ (List.mem_of_getElem? (i := 5) rfl)
  have f11_2 : (Cond.fieldLink RX11 26 (TX11 2).1 (TX11 2).2.1 (TX11 2).2.2.1).before _ s = true := C.2.2.2.2 _ (List.mem_of_getElem? (i := 3) rfl)
  have f11_3 : (Cond.fieldLink RX11 35 (TX11 3).1 (TX11 3).2.1 (TX11 3).2.2.1).before _ s = true := C.2.2.2.2 _ (List.mem_of_getElem? (i := 1) rfl)
  have f11_4 : (Cond.fieldLink RX11 42 (TX11 4).1 (TX11 4).2.1 (TX11 4).2.2.1).before _ s = true := C.2.2.2.2 _ (List.mem_of_getElem? (i := 11) rfl)
  have f11_6 : (Cond.fieldLink RX11 60 (TX11 6).1 (TX11 6).2.1 (TX11 6).2.2.1).before _ s = true := C.2.2.2.2 _ (List.mem_of_getElem? (i := 8) rfl)
  have f11_8 : (Cond.fieldLink RX11 73 (TX11 8).1 (TX11 8).2.1 (TX11 8).2.2.1).before _ s = true := C.2.2.2.2 _ (List.mem_of_getElem? (i := 7) rfl)
  obtain ⟨H, hH⟩ : ∃ H, H = s.heap := ⟨_, rfl⟩
  obtain ⟨locs, hlo⟩ : ∃ z : List Loc, z = [] := ⟨_, rfl⟩
  have hW : GW Ev D (tyC cs) (wC cs ad K) A s t H locs := by rw [hH, hlo]; exact hW
  rw [show W p l e rm_C_Run_count s m _ below meth c s.heap [] = W p l e rm_C_Run_count s m _ below meth c H locs from by rw [hH, hlo]]
  unfold C_Run_count at hX
  refine lv_iload_n C.1 C.2.1 dX11_count_0 rfl (lv_at hl 1 rfl) ?_
  by_cases c1 : x1 = 0
  · have hX := br_p hX c1
    refine lv_tableIn (tgt := 48) C.1 C.2.1 dX11_count_1 (by rw [c1]; decide) (by rw [c1]; decide) (by rw [c1]; rfl) (by decide) ?_
    refine lv_aload_n C.1 C.2.1 dX11_count_48 rfl (lv_at hl 0 rfl) ?_
    refine C_get C hW 11 rfl hin11 hKS.k11_0 rfl 3 (by decide) rfl f11_3 dX11_count_49 ?_
    refine C_get C hW 8 rfl hin8 hKS.k8_0 rfl 3 (by decide) rfl f8_3 dX11_count_52 ?_
    exact G_reti C hr hlk hA hW ⟨(Option.some.inj hX).symm, rfl⟩ dX11_count_55
  have hX := br_n hX c1
  by_cases c2 : x1 = 1
  · have hX := br_p hX c2
    refine lv_tableIn (tgt := 56) C.1 C.2.1 dX11_count_1 (by rw [c2]; decide) (by rw [c2]; decide) (by rw [c2]; rfl) (by decide) ?_
    refine lv_aload_n C.1 C.2.1 dX11_count_56 rfl (lv_at hl 0 rfl) ?_
    refine C_get C hW 11 rfl hin11 hKS.k11_0 rfl 2 (by decide) rfl f11_2 dX11_count_57 ?_
    refine C_get C hW 6 rfl hin6 hKS.k6_0 rfl 1 (by decide) rfl f6_1 dX11_count_60 ?_
    exact G_reti C hr hlk hA hW ⟨(Option.some.inj hX).symm, rfl⟩ dX11_count_63
  have hX := br_n hX c2
  by_cases c3 : x1 = 2
  · have hX := br_p hX c3
    refine lv_tableIn (tgt := 64) C.1 C.2.1 dX11_count_1 (by rw [c3]; decide) (by rw [c3]; decide) (by rw [c3]; rfl) (by decide) ?_
    refine lv_aload_n C.1 C.2.1 dX11_count_64 rfl (lv_at hl 0 rfl) ?_
    refine C_get C hW 11 rfl hin11 hKS.k11_0 rfl 1 (by decide) rfl f11_1 dX11_count_65 ?_
    refine C_get C hW 3 rfl hin3 hKS.k3_0 rfl 3 (by decide) rfl f3_3 dX11_count_68 ?_
    exact G_reti C hr hlk hA hW ⟨(Option.some.inj hX).symm, rfl⟩ dX11_count_71
  have hX := br_n hX c3
  by_cases c4 : x1 = 3
  · have hX := br_p hX c4
    refine lv_tableIn (tgt := 72) C.1 C.2.1 dX11_count_1 (by rw [c4]; decide) (by rw [c4]; decide) (by rw [c4]; rfl) (by decide) ?_
    refine lv_aload_n C.1 C.2.1 dX11_count_72 rfl (lv_at hl 0 rfl) ?_
    refine C_get C hW 11 rfl hin11 hKS.k11_0 rfl 8 (by decide) rfl f11_8 dX11_count_73 ?_
    exact G_reti C hr hlk hA hW ⟨(Option.some.inj hX).symm, rfl⟩ dX11_count_76
  have hX := br_n hX c4
  by_cases c5 : x1 = 4
  · have hX := br_p hX c5
    refine lv_tableIn (tgt := 77) C.1 C.2.1 dX11_count_1 (by rw [c5]; decide) (by rw [c5]; decide) (by rw [c5]; rfl) (by decide) ?_
    refine lv_aload_n C.1 C.2.1 dX11_count_77 rfl (lv_at hl 0 rfl) ?_
    refine C_get C hW 11 rfl hin11 hKS.k11_0 rfl 6 (by decide) rfl f11_6 dX11_count_78 ?_
    refine C_get C hW 2 rfl hin2 hKS.k2_0 rfl 3 (by decide) rfl f2_3 dX11_count_81 ?_
    exact G_reti C hr hlk hA hW ⟨(Option.some.inj hX).symm, rfl⟩ dX11_count_84
  have hX := br_n hX c5
  by_cases c6 : x1 = 5
  · have hX := br_p hX c6
    refine lv_tableIn (tgt := 85) C.1 C.2.1 dX11_count_1 (by rw [c6]; decide) (by rw [c6]; decide) (by rw [c6]; rfl) (by decide) ?_
    refine lv_aload_n C.1 C.2.1 dX11_count_85 rfl (lv_at hl 0 rfl) ?_
    refine C_get C hW 11 rfl hin11 hKS.k11_0 rfl 6 (by decide) rfl f11_6 dX11_count_86 ?_
    refine C_get C hW 2 rfl hin2 hKS.k2_0 rfl 4 (by decide) rfl f2_4 dX11_count_89 ?_
    exact G_reti C hr hlk hA hW ⟨(Option.some.inj hX).symm, rfl⟩ dX11_count_92
  have hX := br_n hX c6
  by_cases c7 : x1 = 6
  · have hX := br_p hX c7
    refine lv_tableIn (tgt := 93) C.1 C.2.1 dX11_count_1 (by rw [c7]; decide) (by rw [c7]; decide) (by rw [c7]; rfl) (by decide) ?_
    refine lv_aload_n C.1 C.2.1 dX11_count_93 rfl (lv_at hl 0 rfl) ?_
    refine C_get C hW 11 rfl hin11 hKS.k11_0 rfl 4 (by decide) rfl f11_4 dX11_count_94 ?_
    refine C_get C hW 4 rfl hin4 hKS.k4_0 rfl 5 (by decide) rfl f4_5 dX11_count_97 ?_
    exact G_reti C hr hlk hA hW ⟨(Option.some.inj hX).symm, rfl⟩ dX11_count_100
  have hX := br_n hX c7
  by_cases c8 : x1 = 7
  · have hX := br_p hX c8
    refine lv_tableIn (tgt := 101) C.1 C.2.1 dX11_count_1 (by rw [c8]; decide) (by rw [c8]; decide) (by rw [c8]; rfl) (by decide) ?_
    refine lv_aload_n C.1 C.2.1 dX11_count_101 rfl (lv_at hl 0 rfl) ?_
    refine C_get C hW 11 rfl hin11 hKS.k11_0 rfl 0 (by decide) rfl f11_0 dX11_count_102 ?_
    refine C_get C hW 9 rfl hin9 hKS.k9_0 rfl 1 (by decide) rfl f9_1 dX11_count_105 ?_
    exact G_reti C hr hlk hA hW ⟨(Option.some.inj hX).symm, rfl⟩ dX11_count_108
  have hX := br_n hX c8
  refine lv_tableOut (tgt := 109) C.1 C.2.1 dX11_count_1 (by have g0 := ts_n (z := 0) (by decide) c1; have g1 := ts_n (z := 1) (by decide) c2; have g2 := ts_n (z := 2) (by decide) c3; have g3 := ts_n (z := 3) (by decide) c4; have g4 := ts_n (z := 4) (by decide) c5; have g5 := ts_n (z := 5) (by decide) c6; have g6 := ts_n (z := 6) (by decide) c7; have g7 := ts_n (z := 7) (by decide) c8; omega) (by decide) ?_
  refine lv_iconst (v := -1) C.1 C.2.1 dX11_count_109 (by decide) ?_
  exact G_reti C hr hlk hA hW ⟨(Option.some.inj hX).symm, rfl⟩ dX11_count_110
