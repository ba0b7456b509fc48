abbrev rm_C_Law_forget : Room := { frames := 0, cells := 0, slots := 0, locals := 0 }
def C_Law_forget (K : List (Nat × Nat)) (t : TH) : Option (TH) := nm (uS t 4 0 1 0) (fun t1 => nm (uS t1 4 1 1 0) (fun t2 => nm (uS t2 4 2 1 0) (fun t3 => nm (uS t3 4 3 1 999) (fun t4 => nm (uS t4 4 4 1 2) (fun t5 => nm (uS t5 4 5 1 0) (fun t6 => some t6))))))
set_option maxHeartbeats 4000000 in
set_option maxRecDepth 100000 in
theorem c_C_Law_forget {Ev : EvT} {ek ev : Nat → Nat} {tp : Nat} (l : Launch) (D : va_G) (cs : Nat → ClassId) (ad : AD) (K : List (Nat × Nat)) (hKS : KS K) (hEv : EvC Ev ek ev tp) (t : TH) (X : TH) (hX : some X = C_Law_forget K t) : cGv Ev l D (tyC cs) (wC cs ad K) yX4_forget wsX4_forget rm_C_Law_forget 0 0 [.ref (ad 4 1)] t (fun u => u = X) := by
  refine G_inv (cc := cX4_forget) (maxL := 1) (ret := none) (by decide) rfl (Nat.le_of_ble_eq_true rfl) ?_
  intro p e s m below meth c A ls C hr hlk hini hA hW hl
  have C : Cx p s m _ c cX4_forget 1 wsX4_forget RX4 := C
  have hl : lv_has ls 1 [(0, .ref (ad 4 1))] := hl
  have hin4 : ∀ w ∈ wsX40, w ∈ wsX4_forget := fun w hw => List.mem_cons_of_mem _ (List.mem_append_right _ hw)
  have f4_0 : (Cond.fieldLink RX4 9 (TX4 0).1 (TX4 0).2.1 (TX4 0).2.2.1).before _ s = true := C.2.2.2.2 _ (List.mem_of_getElem? (i := 1) rfl)
  have f4_1 : (Cond.fieldLink RX4 15 (TX4 1).1 (TX4 1).2.1 (TX4 1).2.2.1).before _ s = true := C.2.2.2.2 _ (List.mem_of_getElem? (i := 2) rfl)
  have f4_2 : (Cond.fieldLink RX4 19 (TX4 2).1 (TX4 2).2.1 (TX4 2).2.2.1).before _ s = true := C.2.2.2.2 _ (List.mem_of_getElem? (i := 3) rfl)
  have f4_3 : (Cond.fieldLink RX4 22 (TX4 3).1 (TX4 3).2.1 (TX4 3).2.2.1).before _ s = true := C.2.2.2.2 _ (List.mem_of_getElem? (i := 4) rfl)
  have f4_4 : (Cond.fieldLink RX4 25 (TX4 4).1 (TX4 4).2.1 (TX4 4).2.2.1).before _ s = true := C.2.2.2.2 _ (List.mem_of_getElem? (i := 5) rfl)
  have f4_5 : (Cond.fieldLink RX4 28 (TX4 5).1 (TX4 5).2.1 (TX4 5).2.2.1).before _ s = true := C.2.2.2.2 _ (List.mem_of_getElem? (i := 6) rfl)
  obtain ⟨H, hH⟩ : ∃ H, H = s.heap := ⟨_, rfl⟩
  obtain ⟨locs, hlo⟩ : ∃ z : List Loc, z = [] := ⟨_, rfl⟩
  have hW : GW Ev D (tyC cs) (wC cs ad K) A s t H locs := by rw [hH, hlo]; exact hW
  rw [show W p l e rm_C_Law_forget s m _ below meth c s.heap [] = W p l e rm_C_Law_forget s m _ below meth c H locs from by rw [hH, hlo]]
  unfold C_Law_forget at hX
  refine lv_aload_n C.1 C.2.1 dX4_forget_0 rfl (lv_at hl 0 rfl) ?_
  refine lv_iconst (v := 0) C.1 C.2.1 dX4_forget_1 (by decide) ?_
  obtain ⟨t1, et1⟩ : ∃ z, z = uS t 4 0 1 0 := ⟨_, rfl⟩
  refine C_put C hW 4 rfl hin4 tyX4 tyX4_ok nmX4 hKS.k4_1 rfl 0 (by decide) rfl rfl rfl (Nat.le_of_ble_eq_true rfl) f4_0 dX4_forget_2 (t' := t1) (by rw [et1]; exact wr4_0) (by rw [et1]; exact ho_S (by decide)) (fun H locs hW => ?_)
  have hX := nm_st hX et1
  refine lv_aload_n C.1 C.2.1 dX4_forget_5 rfl (lv_at hl 0 rfl) ?_
  refine lv_iconst (v := 0) C.1 C.2.1 dX4_forget_6 (by decide) ?_
  obtain ⟨t2, et2⟩ : ∃ z, z = uS t1 4 1 1 0 := ⟨_, rfl⟩
  refine C_put C hW 4 rfl hin4 tyX4 tyX4_ok nmX4 hKS.k4_1 rfl 1 (by decide) rfl rfl rfl (Nat.le_of_ble_eq_true rfl) f4_1 dX4_forget_7 (t' := t2) (by rw [et2]; exact wr4_1) (by rw [et2]; exact ho_S (by decide)) (fun H locs hW => ?_)
  have hX := nm_st hX et2
  refine lv_aload_n C.1 C.2.1 dX4_forget_10 rfl (lv_at hl 0 rfl) ?_
  refine lv_iconst (v := 0) C.1 C.2.1 dX4_forget_11 (by decide) ?_
  obtain ⟨t3, et3⟩ : ∃ z, z = uS t2 4 2 1 0 := ⟨_, rfl⟩
  refine C_put C hW 4 rfl hin4 tyX4 tyX4_ok nmX4 hKS.k4_1 rfl 2 (by decide) rfl rfl rfl (Nat.le_of_ble_eq_true rfl) f4_2 dX4_forget_12 (t' := t3) (by rw [et3]; exact wr4_2) (by rw [et3]; exact ho_S (by decide)) (fun H locs hW => ?_)
  have hX := nm_st hX et3
  refine lv_aload_n C.1 C.2.1 dX4_forget_15 rfl (lv_at hl 0 rfl) ?_
  refine lv_sipush (v := 999) C.1 C.2.1 dX4_forget_16 (by decide) ?_
  obtain ⟨t4, et4⟩ : ∃ z, z = uS t3 4 3 1 999 := ⟨_, rfl⟩
  refine C_put C hW 4 rfl hin4 tyX4 tyX4_ok nmX4 hKS.k4_1 rfl 3 (by decide) rfl rfl rfl (Nat.le_of_ble_eq_true rfl) f4_3 dX4_forget_19 (t' := t4) (by rw [et4]; exact wr4_3) (by rw [et4]; exact ho_S (by decide)) (fun H locs hW => ?_)
  have hX := nm_st hX et4
  refine lv_aload_n C.1 C.2.1 dX4_forget_22 rfl (lv_at hl 0 rfl) ?_
  refine lv_iconst (v := 2) C.1 C.2.1 dX4_forget_23 (by decide) ?_
  obtain ⟨t5, et5⟩ : ∃ z, z = uS t4 4 4 1 2 := ⟨_, rfl⟩
  refine C_put C hW 4 rfl hin4 tyX4 tyX4_ok nmX4 hKS.k4_1 rfl 4 (by decide) rfl rfl rfl (Nat.le_of_ble_eq_true rfl) f4_4 dX4_forget_24 (t' := t5) (by rw [et5]; exact wr4_4) (by rw [et5]; exact ho_S (by decide)) (fun H locs hW => ?_)
  have hX := nm_st hX et5
  refine lv_aload_n C.1 C.2.1 dX4_forget_27 rfl (lv_at hl 0 rfl) ?_
  refine lv_iconst (v := 0) C.1 C.2.1 dX4_forget_28 (by decide) ?_
  obtain ⟨t6, et6⟩ : ∃ z, z = uS t5 4 5 1 0 := ⟨_, rfl⟩
  refine C_put C hW 4 rfl hin4 tyX4 tyX4_ok nmX4 hKS.k4_1 rfl 5 (by decide) rfl rfl rfl (Nat.le_of_ble_eq_true rfl) f4_5 dX4_forget_29 (t' := t6) (by rw [et6]; exact wr4_5) (by rw [et6]; exact ho_S (by decide)) (fun H locs hW => ?_)
  have hX := nm_st hX et6
  exact G_retv C hr hlk hA hW (Option.some.inj hX).symm dX4_forget_32
abbrev rm_C_Law_become : Room := { frames := 0, cells := 0, slots := 0, locals := 0 }
def C_Law_become (K : List (Nat × Nat)) (t : TH) : Option (TH) := nm (uS t 4 0 0 (tS t 4 0 1)) (fun t1 => chkZ (tS t1 4 1 1) (nm (uS t1 4 1 0 (tS t1 4 1 1)) (fun t2 => nm (uS t2 4 2 0 (tS t2 4 2 1)) (fun t3 => nm (uS t3 4 3 0 (tS t3 4 3 1)) (fun t4 => nm (uS t4 4 4 0 (tS t4 4 4 1)) (fun t5 => nm (uS t5 4 5 0 (tS t5 4 5 1)) (fun t6 => some t6)))))))
set_option maxHeartbeats 4000000 in
set_option maxRecDepth 100000 in
theorem c_C_Law_become {Ev : EvT} {ek ev : Nat → Nat} {tp : Nat} (l : Launch) (D : va_G) (cs : Nat → ClassId) (ad : AD) (K : List (Nat × Nat)) (hKS : KS K) (hEv : EvC Ev ek ev tp) (t : TH) (X : TH) (hX : some X = C_Law_become K t) : cGv Ev l D (tyC cs) (wC cs ad K) yX4_become wsX4_become rm_C_Law_become 0 0 [.ref (ad 4 0), .ref (ad 4 1)] t (fun u => u = X) := by
  refine G_inv (cc := cX4_become) (maxL := 2) (ret := none) (by decide) rfl (Nat.le_of_ble_eq_true rfl) ?_
  intro p e s m below meth c A ls C hr hlk hini hA hW hl
  have C : Cx p s m _ c cX4_become 2 wsX4_become RX4 := C
  have hl : lv_has ls 2 [(0, .ref (ad 4 0)), (1, .ref (ad 4 1))] := hl
  have hin4 : ∀ w ∈ wsX40, w ∈ wsX4_become := fun w hw => List.mem_cons_of_mem _ (List.mem_append_right _ hw)
  have f4_0 : (Cond.fieldLink RX4 9 (TX4 0).1 (TX4 0).2.1 (TX4 0).2.2.1).before _ s = true := C.2.2.2.2 _ (List.mem_of_getElem? (i := 1) rfl)
  have f4_1 : (Cond.fieldLink RX4 15 (TX4 1).1 (TX4 1).2.1 (TX4 1).2.2.1).before _ s = true := C.2.2.2.2 _ (List.mem_of_getElem? (i := 2) rfl)
  have f4_2 : (Cond.fieldLink RX4 19 (TX4 2).1 (TX4 2).2.1 (TX4 2).2.2.1).before _ s = true := C.2.2.2.2 _ (List.mem_of_getElem? (i := 3) rfl)
  have f4_3 : (Cond.fieldLink RX4 22 (TX4 3).1 (TX4 3).2.1 (TX4 3).2.2.1).before _ s = true := C.2.2.2.2 _ (List.mem_of_getElem? (i := 4) rfl)
  have f4_4 : (Cond.fieldLink RX4 25 (TX4 4).1 (TX4 4).2.1 (TX4 4).2.2.1).before _ s = true := C.2.2.2.2 _ (List.mem_of_getElem? (i := 5) rfl)
  have f4_5 : (Cond.fieldLink RX4 28 (TX4 5).1 (TX4 5).2.1 (TX4 5).2.2.1).before _ s = true := C.2.2.2.2 _ (List.mem_of_getElem? (i := 6) rfl)
  obtain ⟨H, hH⟩ : ∃ H, H = s.heap := ⟨_, rfl⟩
  obtain ⟨locs, hlo⟩ : ∃ z : List Loc, z = [] := ⟨_, rfl⟩
  have hW : GW Ev D (tyC cs) (wC cs ad K) A s t H locs := by rw [hH, hlo]; exact hW
  rw [show W p l e rm_C_Law_become s m _ below meth c s.heap [] = W p l e rm_C_Law_become s m _ below meth c H locs from by rw [hH, hlo]]
  unfold C_Law_become at hX
  refine lv_aload_n C.1 C.2.1 dX4_become_0 rfl (lv_at hl 0 rfl) ?_
  refine lv_aload_n C.1 C.2.1 dX4_become_1 rfl (lv_at hl 1 rfl) ?_
  refine C_get C hW 4 rfl hin4 hKS.k4_1 rfl 0 (by decide) rfl f4_0 dX4_become_2 ?_
  obtain ⟨t1, et1⟩ : ∃ z, z = uS t 4 0 0 (tS t 4 0 1) := ⟨_, rfl⟩
  refine C_put C hW 4 rfl hin4 tyX4 tyX4_ok nmX4 hKS.k4_0 rfl 0 (by decide) rfl rfl rfl (Nat.le_of_ble_eq_true rfl) f4_0 dX4_become_5 (t' := t1) (by rw [et1]; exact wr4_0) (by rw [et1]; exact ho_S (by decide)) (fun H locs hW => ?_)
  have hX := nm_st hX et1
  refine lv_aload_n C.1 C.2.1 dX4_become_8 rfl (lv_at hl 0 rfl) ?_
  refine lv_aload_n C.1 C.2.1 dX4_become_9 rfl (lv_at hl 1 rfl) ?_
  refine C_get C hW 4 rfl hin4 hKS.k4_1 rfl 1 (by decide) rfl f4_1 dX4_become_10 ?_
  obtain ⟨hz, hX⟩ := chkZ_st hX
  obtain ⟨t2, et2⟩ : ∃ z, z = uS t1 4 1 0 (tS t1 4 1 1) := ⟨_, rfl⟩
  refine C_put C hW 4 rfl hin4 tyX4 tyX4_ok nmX4 hKS.k4_0 rfl 1 (by decide) rfl hz.1 hz.2 (Nat.le_of_ble_eq_true rfl) f4_1 dX4_become_13 (t' := t2) (by rw [et2]; exact wr4_1) (by rw [et2]; exact ho_S (by decide)) (fun H locs hW => ?_)
  have hX := nm_st hX et2
  refine lv_aload_n C.1 C.2.1 dX4_become_16 rfl (lv_at hl 0 rfl) ?_
  refine lv_aload_n C.1 C.2.1 dX4_become_17 rfl (lv_at hl 1 rfl) ?_
  refine C_get C hW 4 rfl hin4 hKS.k4_1 rfl 2 (by decide) rfl f4_2 dX4_become_18 ?_
  obtain ⟨t3, et3⟩ : ∃ z, z = uS t2 4 2 0 (tS t2 4 2 1) := ⟨_, rfl⟩
  refine C_put C hW 4 rfl hin4 tyX4 tyX4_ok nmX4 hKS.k4_0 rfl 2 (by decide) rfl rfl rfl (Nat.le_of_ble_eq_true rfl) f4_2 dX4_become_21 (t' := t3) (by rw [et3]; exact wr4_2) (by rw [et3]; exact ho_S (by decide)) (fun H locs hW => ?_)
  have hX := nm_st hX et3
  refine lv_aload_n C.1 C.2.1 dX4_become_24 rfl (lv_at hl 0 rfl) ?_
  refine lv_aload_n C.1 C.2.1 dX4_become_25 rfl (lv_at hl 1 rfl) ?_
  refine C_get C hW 4 rfl hin4 hKS.k4_1 rfl 3 (by decide) rfl f4_3 dX4_become_26 ?_
  obtain ⟨t4, et4⟩ : ∃ z, z = uS t3 4 3 0 (tS t3 4 3 1) := ⟨_, rfl⟩
  refine C_put C hW 4 rfl hin4 tyX4 tyX4_ok nmX4 hKS.k4_0 rfl 3 (by decide) rfl rfl rfl (Nat.le_of_ble_eq_true rfl) f4_3 dX4_become_29 (t' := t4) (by rw [et4]; exact wr4_3) (by rw [et4]; exact ho_S (by decide)) (fun H locs hW => ?_)
  have hX := nm_st hX et4
  refine lv_aload_n C.1 C.2.1 dX4_become_32 rfl (lv_at hl 0 rfl) ?_
  refine lv_aload_n C.1 C.2.1 dX4_become_33 rfl (lv_at hl 1 rfl) ?_
  refine C_get C hW 4 rfl hin4 hKS.k4_1 rfl 4 (by decide) rfl f4_4 dX4_become_34 ?_
  obtain ⟨t5, et5⟩ : ∃ z, z = uS t4 4 4 0 (tS t4 4 4 1) := ⟨_, rfl⟩
  refine C_put C hW 4 rfl hin4 tyX4 tyX4_ok nmX4 hKS.k4_0 rfl 4 (by decide) rfl rfl rfl (Nat.le_of_ble_eq_true rfl) f4_4 dX4_become_37 (t' := t5) (by rw [et5]; exact wr4_4) (by rw [et5]; exact ho_S (by decide)) (fun H locs hW => ?_)
  have hX := nm_st hX et5
  refine lv_aload_n C.1 C.2.1 dX4_become_40 rfl (lv_at hl 0 rfl) ?_
  refine lv_aload_n C.1 C.2.1 dX4_become_41 rfl (lv_at hl 1 rfl) ?_
  refine C_get C hW 4 rfl hin4 hKS.k4_1 rfl 5 (by decide) rfl f4_5 dX4_become_42 ?_
  obtain ⟨t6, et6⟩ : ∃ z, z = uS t5 4 5 0 (tS t5 4 5 1) := ⟨_, rfl⟩
  refine C_put C hW 4 rfl hin4 tyX4 tyX4_ok nmX4 hKS.k4_0 rfl 5 (by decide) rfl rfl rfl (Nat.le_of_ble_eq_true rfl) f4_5 dX4_become_45 (t' := t6) (by rw [et6]; exact wr4_5) (by rw [et6]; exact ho_S (by decide)) (fun H locs hW => ?_)
  have hX := nm_st hX et6
  exact G_retv C hr hlk hA hW (Option.some.inj hX).symm dX4_become_48
abbrev rm_C_Law_allows : Room := { frames := 0, cells := 0, slots := 0, locals := 0 }
def C_Law_allows (K : List (Nat × Nat)) (t : TH) (x1 : Nat) : Option (Int32) := chkP ((1, x1) ∈ K) (nm (tP t 1 1 x1) (fun v2 => opt v2 none (fun j3 => chkP ((7, j3) ∈ K) (if (tS t 7 3 j3) < (tS t 4 0 0) then some 0 else nm (tP t 1 1 x1) (fun v6 => opt v6 none (fun j7 => chkP ((7, j7) ∈ K) (if (tS t 7 1 j7) = 0 then if (tS t 1 9 x1) < (tS t 4 2 0) then some 0 else if (tS t 4 3 0) < (tS t 1 4 x1) then some 0 else some 1 else if (tS t 4 1 0) = 0 then if (tS t 1 9 x1) < (tS t 4 2 0) then some 0 else if (tS t 4 3 0) < (tS t 1 4 x1) then some 0 else some 1 else some 0)))))))
set_option maxHeartbeats 4000000 in
set_option maxRecDepth 100000 in
theorem c_C_Law_allows {Ev : EvT} {ek ev : Nat → Nat} {tp : Nat} (l : Launch) (D : va_G) (cs : Nat → ClassId) (ad : AD) (K : List (Nat × Nat)) (hKS : KS K) (hEv : EvC Ev ek ev tp) (t : TH) (x1 : Nat) (X : Int32) (hX : some X = C_Law_allows K t x1) : cGi Ev l D (tyC cs) (wC cs ad K) yX4_allows wsX4_allows rm_C_Law_allows 0 0 [.ref (ad 4 0), .ref (ad 1 x1)] t (fun r u => r = X ∧ u = t) := by
  refine G_ini (cc := cX4_allows) (maxL := 2) (ret := some .boolean) (by decide) rfl (Nat.le_of_ble_eq_true rfl) ?_
  intro p e s m below meth c A ls C hr hlk hini hA hW hl
  have C : Cx p s m _ c cX4_allows 2 wsX4_allows RX4 := C
  have hl : lv_has ls 2 [(0, .ref (ad 4 0)), (1, .ref (ad 1 x1))] := hl
  have hin1 : ∀ w ∈ wsX10, w ∈ wsX4_allows := fun w hw => List.mem_cons_of_mem _ (List.mem_append_left _ (List.mem_append_left _ (List.mem_append_right _ hw)))
  have hin4 : ∀ w ∈ wsX40, w ∈ wsX4_allows := fun w hw => List.mem_cons_of_mem _ (List.mem_append_right _ hw)
  have hin7 : ∀ w ∈ wsX70, w ∈ wsX4_allows := fun w hw => List.mem_cons_of_mem _ (List.mem_append_left _ (List.mem_append_right _ hw))
  have f1_1 : (Cond.fieldLink RX4 31 (TX1 1).1 (TX1 1).2.1 (TX1 1).2.2.1).before _ s = true := C.2.2.2.2 _ (List.mem_of_getElem? (i := 1) rfl)
  have f1_4 : (Cond.fieldLink RX4 46 (TX1 4).1 (TX1 4).2.1 (TX1 4).2.2.1).before _ s = true := C.2.2.2.2 _ (List.mem_of_getElem? (i := 8) rfl)
  have f1_9 : (Cond.fieldLink RX4 43 (TX1 9).1 (TX1 9).2.1 (TX1 9).2.2.1).before _ s = true := C.2.2.2.2 _ (List.mem_of_getElem? (i := 6) rfl)
  have f4_0 : (Cond.fieldLink RX4 9 (TX4 0).1 (TX4 0).2.1 (TX4 0).2.2.1).before _ s = true := C.2.2.2.2 _ (List.mem_of_getElem? (i := 3) rfl)
  have f4_1 : (Cond.fieldLink RX4 15 (TX4 1).1 (TX4 1).2.1 (TX4 1).2.2.1).before _ s = true := C.2.2.2.2 _ (List.mem_of_getElem? (i := 5) rfl)
  have f4_2 : (Cond.fieldLink RX4 19 (TX4 2).1 (TX4 2).2.1 (TX4 2).2.2.1).before _ s = true := C.2.2.2.2 _ (List.mem_of_getElem? (i := 7) rfl)
  have f4_3 : (Cond.fieldLink RX4 22 (TX4 3).1 (TX4 3).2.1 (TX4 3).2.2.1).before _ s = true := C.2.2.2.2 _ (List.mem_of_getElem? (i := 9) rfl)
  have f7_1 : (Cond.fieldLink RX4 40 (TX7 1).1 (TX7 1).2.1 (TX7 1).2.2.1).before _ s = true := C.2.2.2.2 _ (List.mem_of_getElem? (i := 4) rfl)
  have f7_3 : (Cond.fieldLink RX4 37 (TX7 3).1 (TX7 3).2.1 (TX7 3).2.2.1).before _ s = true := C.2.2.2.2 _ (List.mem_of_getElem? (i := 2) rfl)
  obtain ⟨H, hH⟩ : ∃ H, H = s.heap := ⟨_, rfl⟩
  obtain ⟨locs, hlo⟩ : ∃ z : List Loc, z = [] := ⟨_, rfl⟩
  have hW : GW Ev D (tyC cs) (wC cs ad K) A s t H locs := by rw [hH, hlo]; exact hW
  rw [show W p l e rm_C_Law_allows s m _ below meth c s.heap [] = W p l e rm_C_Law_allows s m _ below meth c H locs from by rw [hH, hlo]]
  unfold C_Law_allows at hX
  refine lv_aload_n C.1 C.2.1 dX4_allows_0 rfl (lv_at hl 1 rfl) ?_
  obtain ⟨hk1, hX⟩ := chkP_st hX
  refine C_get C hW 1 rfl hin1 hk1 rfl 1 (by decide) rfl f1_1 dX4_allows_1 ?_
  refine lv_topo (fun v2 ev2 => ?_)
  have hX := nm_st hX ev2
  obtain ⟨j3, hj3, hX⟩ := nn_st hX
  refine lv_topq hj3 ?_
  obtain ⟨hk4, hX⟩ := chkP_st hX
  refine C_get C hW 7 rfl hin7 hk4 rfl 3 (by decide) rfl f7_3 dX4_allows_4 ?_
  refine lv_aload_n C.1 C.2.1 dX4_allows_7 rfl (lv_at hl 0 rfl) ?_
  refine C_get C hW 4 rfl hin4 hKS.k4_0 rfl 0 (by decide) rfl f4_0 dX4_allows_8 ?_
  refine lv_icmp_lt (tgt := 57) C.1 C.2.1 dX4_allows_11 (by decide) (fun c5 => ?_) (fun c5 => ?_)
  · have hX := br_p hX c5
    refine lv_iconst (v := 0) C.1 C.2.1 dX4_allows_57 (by decide) ?_
    exact G_retz C hr hlk hA hW rfl ⟨(Option.some.inj hX).symm, rfl⟩ dX4_allows_58
  have hX := br_n hX c5
  refine lv_aload_n C.1 C.2.1 dX4_allows_14 rfl (lv_at hl 1 rfl) ?_
  refine C_get C hW 1 rfl hin1 hk1 rfl 1 (by decide) rfl f1_1 dX4_allows_15 ?_
  refine lv_topo (fun v6 ev6 => ?_)
  have hX := nm_st hX ev6
  obtain ⟨j7, hj7, hX⟩ := nn_st hX
  refine lv_topq hj7 ?_
  obtain ⟨hk8, hX⟩ := chkP_st hX
  refine C_get C hW 7 rfl hin7 hk8 rfl 1 (by decide) rfl f7_1 dX4_allows_18 ?_
  refine lv_if_eq (tgt := 31) C.1 C.2.1 dX4_allows_21 (by decide) (fun c9 => ?_) (fun c9 => ?_)
  · have hX := br_p hX c9
    refine lv_aload_n C.1 C.2.1 dX4_allows_31 rfl (lv_at hl 1 rfl) ?_
    refine C_get C hW 1 rfl hin1 hk1 rfl 9 (by decide) rfl f1_9 dX4_allows_32 ?_
    refine lv_aload_n C.1 C.2.1 dX4_allows_35 rfl (lv_at hl 0 rfl) ?_
    refine C_get C hW 4 rfl hin4 hKS.k4_0 rfl 2 (by decide) rfl f4_2 dX4_allows_36 ?_
    refine lv_icmp_lt (tgt := 57) C.1 C.2.1 dX4_allows_39 (by decide) (fun c10 => ?_) (fun c10 => ?_)
    · have hX := br_p hX c10
      refine lv_iconst (v := 0) C.1 C.2.1 dX4_allows_57 (by decide) ?_
      exact G_retz C hr hlk hA hW rfl ⟨(Option.some.inj hX).symm, rfl⟩ dX4_allows_58
    have hX := br_n hX c10
    refine lv_aload_n C.1 C.2.1 dX4_allows_42 rfl (lv_at hl 1 rfl) ?_
    refine C_get C hW 1 rfl hin1 hk1 rfl 4 (by decide) rfl f1_4 dX4_allows_43 ?_
    refine lv_aload_n C.1 C.2.1 dX4_allows_46 rfl (lv_at hl 0 rfl) ?_
    refine C_get C hW 4 rfl hin4 hKS.k4_0 rfl 3 (by decide) rfl f4_3 dX4_allows_47 ?_
    refine lv_icmp_gt (tgt := 57) C.1 C.2.1 dX4_allows_50 (by decide) (fun c11 => ?_) (fun c11 => ?_)
    · have hX := br_p hX c11
      refine lv_iconst (v := 0) C.1 C.2.1 dX4_allows_57 (by decide) ?_
      exact G_retz C hr hlk hA hW rfl ⟨(Option.some.inj hX).symm, rfl⟩ dX4_allows_58
    have hX := br_n hX c11
    refine lv_iconst (v := 1) C.1 C.2.1 dX4_allows_53 (by decide) ?_
    refine lv_goto (tgt := 58) C.1 C.2.1 dX4_allows_54 (by decide) ?_
    exact G_retz C hr hlk hA hW rfl ⟨(Option.some.inj hX).symm, rfl⟩ dX4_allows_58
  have hX := br_n hX c9
  refine lv_aload_n C.1 C.2.1 dX4_allows_24 rfl (lv_at hl 0 rfl) ?_
  refine C_get C hW 4 rfl hin4 hKS.k4_0 rfl 1 (by decide) rfl f4_1 dX4_allows_25 ?_
  refine lv_if_ne (tgt := 57) C.1 C.2.1 dX4_allows_28 (by decide) (fun c12 => ?_) (fun c12 => ?_)
  · have hX := br_n hX c12
    refine lv_iconst (v := 0) C.1 C.2.1 dX4_allows_57 (by decide) ?_
    exact G_retz C hr hlk hA hW rfl ⟨(Option.some.inj hX).symm, rfl⟩ dX4_allows_58
  have hX := br_p hX c12
  refine lv_aload_n C.1 C.2.1 dX4_allows_31 rfl (lv_at hl 1 rfl) ?_
  refine C_get C hW 1 rfl hin1 hk1 rfl 9 (by decide) rfl f1_9 dX4_allows_32 ?_
  refine lv_aload_n C.1 C.2.1 dX4_allows_35 rfl (lv_at hl 0 rfl) ?_
  refine C_get C hW 4 rfl hin4 hKS.k4_0 rfl 2 (by decide) rfl f4_2 dX4_allows_36 ?_
  refine lv_icmp_lt (tgt := 57) C.1 C.2.1 dX4_allows_39 (by decide) (fun c13 => ?_) (fun c13 => ?_)
  · have hX := br_p hX c13
    refine lv_iconst (v := 0) C.1 C.2.1 dX4_allows_57 (by decide) ?_
    exact G_retz C hr hlk hA hW rfl ⟨(Option.some.inj hX).symm, rfl⟩ dX4_allows_58
  have hX := br_n hX c13
  refine lv_aload_n C.1 C.2.1 dX4_allows_42 rfl (lv_at hl 1 rfl) ?_
  refine C_get C hW 1 rfl hin1 hk1 rfl 4 (by decide) rfl f1_4 dX4_allows_43 ?_
  refine lv_aload_n C.1 C.2.1 dX4_allows_46 rfl (lv_at hl 0 rfl) ?_
  refine C_get C hW 4 rfl hin4 hKS.k4_0 rfl 3 (by decide) rfl f4_3 dX4_allows_47 ?_
  refine lv_icmp_gt (tgt := 57) C.1 C.2.1 dX4_allows_50 (by decide) (fun c14 => ?_) (fun c14 => ?_)
  · have hX := br_p hX c14
    refine lv_iconst (v := 0) C.1 C.2.1 dX4_allows_57 (by decide) ?_
    exact G_retz C hr hlk hA hW rfl ⟨(Option.some.inj hX).symm, rfl⟩ dX4_allows_58
  have hX := br_n hX c14
  refine lv_iconst (v := 1) C.1 C.2.1 dX4_allows_53 (by decide) ?_
  refine lv_goto (tgt := 58) C.1 C.2.1 dX4_allows_54 (by decide) ?_
  exact G_retz C hr hlk hA hW rfl ⟨(Option.some.inj hX).symm, rfl⟩ dX4_allows_58
abbrev rm_C_Witness_tells : Room := { frames := 0, cells := 0, slots := 0, locals := 0 }
def C_Witness_tells (K : List (Nat × Nat)) (t : TH) (x0 : Nat) (x1 : Int32) (x2 : Int32) : Option (Int32) := chkP ((10, x0) ∈ K) (if x2 < (tS t 10 0 x0) then some 0 else if x1 < (tS t 10 1 x0) then some 0 else if (tS t 10 2 x0) < x1 then some 0 else some 1)
set_option maxHeartbeats 4000000 in
set_option maxRecDepth 100000 in
theorem c_C_Witness_tells {Ev : EvT} {ek ev : Nat → Nat} {tp : Nat} (l : Launch) (D : va_G) (cs : Nat → ClassId) (ad : AD) (K : List (Nat × Nat)) (hKS : KS K) (hEv : EvC Ev ek ev tp) (t : TH) (x0 : Nat) (x1 : Int32) (x2 : Int32) (X : Int32) (hX : some X = C_Witness_tells K t x0 x1 x2) : cGi Ev l D (tyC cs) (wC cs ad K) yX10_tells wsX10_tells rm_C_Witness_tells 0 0 [.ref (ad 10 x0), .int x1, .int x2] t (fun r u => r = X ∧ u = t) := by
  refine G_ini (cc := cX10_tells) (maxL := 3) (ret := some .boolean) (by decide) rfl (Nat.le_of_ble_eq_true rfl) ?_
  intro p e s m below meth c A ls C hr hlk hini hA hW hl
  have C : Cx p s m _ c cX10_tells 3 wsX10_tells RX10 := C
  have hl : lv_has ls 3 [(0, .ref (ad 10 x0)), (1, .int x1), (2, .int x2)] := hl
  have hin10 : ∀ w ∈ wsX100, w ∈ wsX10_tells := fun w hw => List.mem_cons_of_mem _ (List.mem_append_right _ hw)
  have f10_0 : (Cond.fieldLink RX10 7 (TX10 0).1 (TX10 0).2.1 (TX10 0).2.2.1).before _ s = true := C.2.2.2.2 _ (List.mem_of_getElem? (i := 1) rfl)
  have f10_1 : (Cond.fieldLink RX10 13 (TX10 1).1 (TX10 1).2.1 (TX10 1).2.2.1).before _ s = true := C.2.2.2.2 _ (List.mem_of_getElem? (i := 2) rfl)
  have f10_2 : (Cond.fieldLink RX10 16 (TX10 2).1 (TX10 2).2.1 (TX10 2).2.2.1).before _ s = true := C.2.2.2.2 _ (List.mem_of_getElem? (i := 3) rfl)
  obtain ⟨H, hH⟩ : ∃ H, H = s.heap := ⟨_, rfl⟩
  obtain ⟨locs, hlo⟩ : ∃ z : List Loc, z = [] := ⟨_, rfl⟩
  have hW : GW Ev D (tyC cs) (wC cs ad K) A s t H locs := by rw [hH, hlo]; exact hW
  rw [show W p l e rm_C_Witness_tells s m _ below meth c s.heap [] = W p l e rm_C_Witness_tells s m _ below meth c H locs from by rw [hH, hlo]]
  unfold C_Witness_tells at hX
  refine lv_aload_n C.1 C.2.1 dX10_tells_0 rfl (lv_at hl 0 rfl) ?_
  obtain ⟨hk1, hX⟩ := chkP_st hX
  refine C_get C hW 10 rfl hin10 hk1 rfl 0 (by decide) rfl f10_0 dX10_tells_1 ?_
  refine lv_iload_n C.1 C.2.1 dX10_tells_4 rfl (lv_at hl 2 rfl) ?_
  refine lv_icmp_gt (tgt := 28) C.1 C.2.1 dX10_tells_5 (by decide) (fun c2 => ?_) (fun c2 => ?_)
  · have hX := br_p hX c2
    refine lv_iconst (v := 0) C.1 C.2.1 dX10_tells_28 (by decide) ?_
    exact G_retz C hr hlk hA hW rfl ⟨(Option.some.inj hX).symm, rfl⟩ dX10_tells_29
  have hX := br_n hX c2
  refine lv_aload_n C.1 C.2.1 dX10_tells_8 rfl (lv_at hl 0 rfl) ?_
  refine C_get C hW 10 rfl hin10 hk1 rfl 1 (by decide) rfl f10_1 dX10_tells_9 ?_
  refine lv_iload_n C.1 C.2.1 dX10_tells_12 rfl (lv_at hl 1 rfl) ?_
  refine lv_icmp_gt (tgt := 28) C.1 C.2.1 dX10_tells_13 (by decide) (fun c3 => ?_) (fun c3 => ?_)
  · have hX := br_p hX c3
    refine lv_iconst (v := 0) C.1 C.2.1 dX10_tells_28 (by decide) ?_
    exact G_retz C hr hlk hA hW rfl ⟨(Option.some.inj hX).symm, rfl⟩ dX10_tells_29
  have hX := br_n hX c3
  refine lv_iload_n C.1 C.2.1 dX10_tells_16 rfl (lv_at hl 1 rfl) ?_
  refine lv_aload_n C.1 C.2.1 dX10_tells_17 rfl (lv_at hl 0 rfl) ?_
  refine C_get C hW 10 rfl hin10 hk1 rfl 2 (by decide) rfl f10_2 dX10_tells_18 ?_
  refine lv_icmp_gt (tgt := 28) C.1 C.2.1 dX10_tells_21 (by decide) (fun c4 => ?_) (fun c4 => ?_)
  · have hX := br_p hX c4
    refine lv_iconst (v := 0) C.1 C.2.1 dX10_tells_28 (by decide) ?_
    exact G_retz C hr hlk hA hW rfl ⟨(Option.some.inj hX).symm, rfl⟩ dX10_tells_29
  have hX := br_n hX c4
  refine lv_iconst (v := 1) C.1 C.2.1 dX10_tells_24 (by decide) ?_
  refine lv_goto (tgt := 29) C.1 C.2.1 dX10_tells_25 (by decide) ?_
  exact G_retz C hr hlk hA hW rfl ⟨(Option.some.inj hX).symm, rfl⟩ dX10_tells_29
abbrev rm_C_Claim_agreeOn : Room := { frames := 1, cells := 0, slots := 0, locals := 22 }
def C_Claim_agreeOn_L8 : Nat → List (Nat × Nat) → TH → Option Nat → Int32 → Nat → Int32 → Int32 → Option (Option Nat × Int32)
  | 0, _, _, _, _, _, _, _ => none
  | n + 1, K, t, x4, x3, x0, x1, x2 => opt x4 (some (x4, x3)) (fun j10 => chkP ((10, j10) ∈ K) (bnd (C_Witness_tells K t j10 x1 x2) (fun v12 => if v12 = 0 then nm (tP t 10 3 j10) (fun v14 => C_Claim_agreeOn_L8 n K t v14 x3 x0 x1 x2) else nm (x3 + 1) (fun v15 => nm (tP t 10 3 j10) (fun v16 => C_Claim_agreeOn_L8 n K t v16 v15 x0 x1 x2)))))
set_option maxHeartbeats 4000000 in
set_option maxRecDepth 100000 in
theorem r_C_Claim_agreeOn_L8 {p : Program} {l : Launch} {e : Env} {s : State} {m : MethodId} {args : Array Value} {below : List Frame} {meth : Method} {c : Code} {Q : State → Prop} {Ev : EvT} {D : va_G} {cs : Nat → ClassId} {ad : AD} {A : Nat → Prop} {ek ev : Nat → Nat} {tp : Nat} (C : Cx p s m args c cX1_agreeOn 5 wsX1_agreeOn RX1) {K : List (Nat × Nat)} (hKS : KS K) (hEv : EvC Ev ek ev tp) : ∀ (n : Nat) (t : TH) (x4 : Option Nat) (x3 : Int32) (x0 : Nat) (x1 : Int32) (x2 : Int32) (H : Heap) (locs : List Loc) (ls : Array Slot) (X : Option Nat × Int32), some X = C_Claim_agreeOn_L8 n K t x4 x3 x0 x1 x2 → GW Ev D (tyC cs) (wC cs ad K) A s t H locs → lv_has ls 5 [(4, va_re (ad 10) x4), (3, .int x3), (0, .ref (ad 1 x0)), (1, .int x1), (2, .int x2)] → (∀ (z4 : Option Nat) (z3 : Int32) (H : Heap) (locs : List Loc) (ls : Array Slot), X = (z4, z3) → GW Ev D (tyC cs) (wC cs ad K) A s t H locs → lv_has ls 5 [(4, va_re (ad 10) z4), (3, .int z3), (0, .ref (ad 1 x0)), (1, .int x1), (2, .int x2)] → W p l e rm_C_Claim_agreeOn s m args below meth c H locs 0 0 Q (F0 m 36 ls [])) → W p l e rm_C_Claim_agreeOn s m args below meth c H locs 0 0 Q (F0 m 8 ls []) := by
  have hin1 : ∀ w ∈ wsX10, w ∈ wsX1_agreeOn := fun w hw => List.mem_cons_of_mem _ (List.mem_append_left _ (List.mem_append_right _ hw))
  have hin10 : ∀ w ∈ wsX100, w ∈ wsX1_agreeOn := fun w hw => List.mem_cons_of_mem _ (List.mem_append_right _ hw)
  have f1_5 : (Cond.fieldLink RX1 9 (TX1 5).1 (TX1 5).2.1 (TX1 5).2.2.1).before _ s = true := C.2.2.2.2 _ (List.mem_of_getElem? (i := 1) rfl)
  have f10_3 : (Cond.fieldLink RX1 54 (TX10 3).1 (TX10 3).2.1 (TX10 3).2.2.1).before _ s = true := C.2.2.2.2 _ (List.mem_of_getElem? (i := 2) rfl)
  intro n
  induction n with
  | zero =>
    intro t x4 x3 x0 x1 x2 H locs ls X hX hW hl K0
    cases hX
  | succ n ih =>
    intro t x4 x3 x0 x1 x2 H locs ls X hX hW hl K0
    unfold C_Claim_agreeOn_L8 at hX
    refine lv_aloadQ C.1 C.2.1 dX1_agreeOn_8 (lv_at hl 0 rfl) ?_
    refine lv_ifnullQ (tgt := 36) C.1 C.2.1 dX1_agreeOn_10 (by decide) (fun hj10 => ?_) (fun j10 hj10 => ?_)
    · have hX := opt_n hX hj10
      exact K0 x4 x3 H locs ls (Option.some.inj hX) hW (lv_sub hl [0, 1, 2, 3, 4] rfl)
    have hX := opt_s hX hj10
    refine lv_aloadQ C.1 C.2.1 dX1_agreeOn_13 (lv_at hl 0 rfl) ?_
    refine lv_iload_n C.1 C.2.1 dX1_agreeOn_15 rfl (lv_at hl 3 rfl) ?_
    refine lv_iload_n C.1 C.2.1 dX1_agreeOn_16 rfl (lv_at hl 4 rfl) ?_
    rw [show va_re (ad 10) x4 = .ref (ad 10 j10) from by rw [hj10]; rfl]
    obtain ⟨hk11, hX⟩ := chkP_st hX
    obtain ⟨v12, hq, hX⟩ := bnd_st hX
    refine G_V0p (As := [.int x1, .int x2]) (rest := []) C hW (c_C_Witness_tells l D cs ad K hKS hEv t j10 x1 x2 v12 hq.symm) (cwV 2 C.2.2.2.2 gX1_agreeOn_X10_tells rfl rfl rfl (by decide +kernel) ⟨Nat.le_of_ble_eq_true rfl, Nat.le_of_ble_eq_true rfl⟩) (C_recv hW 10 hk11 rfl rfl) rfl hl.1 rfl (Nat.le_of_ble_eq_true rfl) dX1_agreeOn_17 (fun H locs hW => ?_)
    refine lv_if_eq (tgt := 26) C.1 C.2.1 dX1_agreeOn_20 (by decide) (fun c13 => ?_) (fun c13 => ?_)
    · have hX := br_p hX c13
      refine lv_aloadQ C.1 C.2.1 dX1_agreeOn_26 (lv_at hl 0 rfl) ?_
      refine lv_topq hj10 ?_
      refine C_get C hW 10 rfl hin10 hk11 rfl 3 (by decide) rfl f10_3 dX1_agreeOn_28 ?_
      refine lv_topo (fun v14 ev14 => ?_)
      have hX := nm_st hX ev14
      refine lv_astoreQ (i := 4) (lv' := [(4, va_re (ad 10) v14), (3, .int x3), (0, .ref (ad 1 x0)), (1, .int x1), (2, .int x2)]) C.1 C.2.1 dX1_agreeOn_31 hl (by decide) rfl (fun ls hl => ?_)
      refine lv_goto (tgt := 8) C.1 C.2.1 dX1_agreeOn_33 (by decide) ?_
      exact ih t v14 x3 x0 x1 x2 H locs ls X hX hW (lv_sub hl [0, 1, 2, 3, 4] rfl) K0
    have hX := br_n hX c13
    obtain ⟨v15, ev15⟩ : ∃ z : Int32, z = x3 + 1 := ⟨_, rfl⟩
    have hX := nm_st hX ev15
    refine lv_iinc (v := v15) (lv' := [(3, .int v15), (4, va_re (ad 10) x4), (0, .ref (ad 1 x0)), (1, .int x1), (2, .int x2)]) C.1 C.2.1 dX1_agreeOn_23 hl (k := 1) rfl (by rw [ev15]; rfl) (by decide) rfl (fun ls hl => ?_)
    refine lv_aloadQ C.1 C.2.1 dX1_agreeOn_26 (lv_at hl 1 rfl) ?_
    refine lv_topq hj10 ?_
    refine C_get C hW 10 rfl hin10 hk11 rfl 3 (by decide) rfl f10_3 dX1_agreeOn_28 ?_
    refine lv_topo (fun v16 ev16 => ?_)
    have hX := nm_st hX ev16
    refine lv_astoreQ (i := 4) (lv' := [(4, va_re (ad 10) v16), (3, .int v15), (0, .ref (ad 1 x0)), (1, .int x1), (2, .int x2)]) C.1 C.2.1 dX1_agreeOn_31 hl (by decide) rfl (fun ls hl => ?_)
    refine lv_goto (tgt := 8) C.1 C.2.1 dX1_agreeOn_33 (by decide) ?_
    exact ih t v16 v15 x0 x1 x2 H locs ls X hX hW (lv_sub hl [0, 1, 2, 3, 4] rfl) K0
def C_Claim_agreeOn (K : List (Nat × Nat)) (t : TH) (x0 : Nat) (x1 : Int32) (x2 : Int32) : Option (Int32) := chkP ((1, x0) ∈ K) (nm (tP t 1 5 x0) (fun v2 => bnd (C_Claim_agreeOn_L8 100000 K t v2 0 x0 x1 x2) (fun q => nm2 q (fun v17 v18 => some v18))))
set_option maxHeartbeats 4000000 in
set_option maxRecDepth 100000 in
theorem c_C_Claim_agreeOn {Ev : EvT} {ek ev : Nat → Nat} {tp : Nat} (l : Launch) (D : va_G) (cs : Nat → ClassId) (ad : AD) (K : List (Nat × Nat)) (hKS : KS K) (hEv : EvC Ev ek ev tp) (t : TH) (x0 : Nat) (x1 : Int32) (x2 : Int32) (X : Int32) (hX : some X = C_Claim_agreeOn K t x0 x1 x2) : cGi Ev l D (tyC cs) (wC cs ad K) yX1_agreeOn wsX1_agreeOn rm_C_Claim_agreeOn 0 0 [.ref (ad 1 x0), .int x1, .int x2] t (fun r u => r = X ∧ u = t) := by
  refine G_ini (cc := cX1_agreeOn) (maxL := 5) (ret := some .int) (by decide) rfl (Nat.le_of_ble_eq_true rfl) ?_
  intro p e s m below meth c A ls C hr hlk hini hA hW hl
  have C : Cx p s m _ c cX1_agreeOn 5 wsX1_agreeOn RX1 := C
  have hl : lv_has ls 5 [(0, .ref (ad 1 x0)), (1, .int x1), (2, .int x2)] := hl
  have hin1 : ∀ w ∈ wsX10, w ∈ wsX1_agreeOn := fun w hw => List.mem_cons_of_mem _ (List.mem_append_left _ (List.mem_append_right _ hw))
  have hin10 : ∀ w ∈ wsX100, w ∈ wsX1_agreeOn := fun w hw => List.mem_cons_of_mem _ (List.mem_append_right _ hw)
  have f1_5 : (Cond.fieldLink RX1 9 (TX1 5).1 (TX1 5).2.1 (TX1 5).2.2.1).before _ s = true := C.2.2.2.2 _ (List.mem_of_getElem? (i := 1) rfl)
  have f10_3 : (Cond.fieldLink RX1 54 (TX10 3).1 (TX10 3).2.1 (TX10 3).2.2.1).before _ s = true := C.2.2.2.2 _ (List.mem_of_getElem? (i := 2) rfl)
  obtain ⟨H, hH⟩ : ∃ H, H = s.heap := ⟨_, rfl⟩
  obtain ⟨locs, hlo⟩ : ∃ z : List Loc, z = [] := ⟨_, rfl⟩
  have hW : GW Ev D (tyC cs) (wC cs ad K) A s t H locs := by rw [hH, hlo]; exact hW
  rw [show W p l e rm_C_Claim_agreeOn s m _ below meth c s.heap [] = W p l e rm_C_Claim_agreeOn s m _ below meth c H locs from by rw [hH, hlo]]
  unfold C_Claim_agreeOn at hX
  refine lv_iconst (v := 0) C.1 C.2.1 dX1_agreeOn_0 (by decide) ?_
  refine lv_istore_n (i := 3) (lv' := [(3, .int 0), (0, .ref (ad 1 x0)), (1, .int x1), (2, .int x2)]) C.1 C.2.1 dX1_agreeOn_1 rfl hl (by decide) rfl (fun ls hl => ?_)
  refine lv_aload_n C.1 C.2.1 dX1_agreeOn_2 rfl (lv_at hl 1 rfl) ?_
  obtain ⟨hk1, hX⟩ := chkP_st hX
  refine C_get C hW 1 rfl hin1 hk1 rfl 5 (by decide) rfl f1_5 dX1_agreeOn_3 ?_
  refine lv_topo (fun v2 ev2 => ?_)
  have hX := nm_st hX ev2
  refine lv_astoreQ (i := 4) (lv' := [(4, va_re (ad 10) v2), (3, .int 0), (0, .ref (ad 1 x0)), (1, .int x1), (2, .int x2)]) C.1 C.2.1 dX1_agreeOn_6 hl (by decide) rfl (fun ls hl => ?_)
  obtain ⟨q, hq, hX⟩ := bnd_st hX
  refine r_C_Claim_agreeOn_L8 C hKS hEv 100000 t v2 0 x0 x1 x2 H locs ls q hq.symm hW (lv_sub hl [0, 1, 2, 3, 4] rfl) ?_
  intro v17 v18 H locs ls hq hW hl
  subst hq
  have hX := nm2_st hX rfl
  refine lv_iload_n C.1 C.2.1 dX1_agreeOn_36 rfl (lv_at hl 1 rfl) ?_
  exact G_reti C hr hlk hA hW ⟨(Option.some.inj hX).symm, rfl⟩ dX1_agreeOn_37
abbrev rm_C_Claim_findEnd : Room := { frames := 1, cells := 0, slots := 0, locals := 22 }
def C_Claim_findEnd_L5 : Nat → List (Nat × Nat) → TH → Option Nat → Nat → Int32 → Option (TH × Option Nat)
  | 0, _, _, _, _, _ => none
  | n + 1, K, t, x2, x0, x1 => opt x2 (some (t, x2)) (fun j12 => chkP ((1, x0) ∈ K) (chkP ((10, j12) ∈ K) (bnd (C_Witness_tells K t j12 (tS t 1 7 x0) x1) (fun v15 => if v15 = 0 then nm (tP t 10 3 j12) (fun v17 => C_Claim_findEnd_L5 n K t v17 x0 x1) else nm (if (tS t 10 2 j12) < (tS t 1 8 x0) then tS t 10 2 j12 else tS t 1 8 x0) (fun v18 => nm (uS t 1 8 x0 v18) (fun t19 => nm (tP t19 10 3 j12) (fun v20 => C_Claim_findEnd_L5 n K t19 v20 x0 x1)))))))
set_option maxHeartbeats 4000000 in
set_option maxRecDepth 100000 in
theorem r_C_Claim_findEnd_L5 {p : Program} {l : Launch} {e : Env} {s : State} {m : MethodId} {args : Array Value} {below : List Frame} {meth : Method} {c : Code} {Q : State → Prop} {Ev : EvT} {D : va_G} {cs : Nat → ClassId} {ad : AD} {A : Nat → Prop} {ek ev : Nat → Nat} {tp : Nat} (C : Cx p s m args c cX1_findEnd 3 wsX1_findEnd RX1) {K : List (Nat × Nat)} (hKS : KS K) (hEv : EvC Ev ek ev tp) : ∀ (n : Nat) (t : TH) (x2 : Option Nat) (x0 : Nat) (x1 : Int32) (H : Heap) (locs : List Loc) (ls : Array Slot) (X : TH × Option Nat), some X = C_Claim_findEnd_L5 n K t x2 x0 x1 → GW Ev D (tyC cs) (wC cs ad K) A s t H locs → lv_has ls 3 [(2, va_re (ad 10) x2), (0, .ref (ad 1 x0)), (1, .int x1)] → (∀ (τ : TH) (z2 : Option Nat) (H : Heap) (locs : List Loc) (ls : Array Slot), X = (τ, z2) → GW Ev D (tyC cs) (wC cs ad K) A s τ H locs → lv_has ls 3 [(2, va_re (ad 10) z2), (0, .ref (ad 1 x0)), (1, .int x1)] → W p l e rm_C_Claim_findEnd s m args below meth c H locs 0 0 Q (F0 m 44 ls [])) → W p l e rm_C_Claim_findEnd s m args below meth c H locs 0 0 Q (F0 m 5 ls []) := by
  have hin1 : ∀ w ∈ wsX10, w ∈ wsX1_findEnd := fun w hw => List.mem_cons_of_mem _ (List.mem_append_left _ (List.mem_append_right _ hw))
  have hin10 : ∀ w ∈ wsX100, w ∈ wsX1_findEnd := fun w hw => List.mem_cons_of_mem _ (List.mem_append_right _ hw)
  have f1_5 : (Cond.fieldLink RX1 9 (TX1 5).1 (TX1 5).2.1 (TX1 5).2.2.1).before _ s = true := C.2.2.2.2 _ (List.mem_of_getElem? (i := 1) rfl)
  have f1_7 : (Cond.fieldLink RX1 19 (TX1 7).1 (TX1 7).2.1 (TX1 7).2.2.1).before _ s = true := C.2.2.2.2 _ (List.mem_of_getElem? (i := 2) rfl)
  have f1_8 : (Cond.fieldLink RX1 22 (TX1 8).1 (TX1 8).2.1 (TX1 8).2.2.1).before _ s = true := C.2.2.2.2 _ (List.mem_of_getElem? (i := 3) rfl)
  have f10_2 : (Cond.fieldLink RX1 65 (TX10 2).1 (TX10 2).2.1 (TX10 2).2.2.1).before _ s = true := C.2.2.2.2 _ (List.mem_of_getElem? (i := 4) rfl)
  have f10_3 : (Cond.fieldLink RX1 54 (TX10 3).1 (TX10 3).2.1 (TX10 3).2.2.1).before _ s = true := C.2.2.2.2 _ (List.mem_of_getElem? (i := 9) rfl)
  have m68_l : (Cond.methodLink RX1 68 Lib.Math.min.name).before _ s = true := C.2.2.2.2 _ (List.mem_of_getElem? (i := 5) rfl)
  have m68_s : (Cond.static Lib.Math.min.name).before _ s = true := C.2.2.2.2 _ (List.mem_of_getElem? (i := 6) rfl)
  have m68_i : (Cond.initialized "java/lang/Math").before _ s = true := C.2.2.2.2 _ (List.mem_of_getElem? (i := 7) rfl)
  have m68_c : (Cond.code Lib.Math.min.name Lib.Math.min.code 2 (some .int)).before _ s = true := C.2.2.2.2 _ (List.mem_of_getElem? (i := 8) rfl)
  intro n
  induction n with
  | zero =>
    intro t x2 x0 x1 H locs ls X hX hW hl K0
    cases hX
  | succ n ih =>
    intro t x2 x0 x1 H locs ls X hX hW hl K0
    unfold C_Claim_findEnd_L5 at hX
    refine lv_aload_nQ C.1 C.2.1 dX1_findEnd_5 rfl (lv_at hl 0 rfl) ?_
    refine lv_ifnullQ (tgt := 44) C.1 C.2.1 dX1_findEnd_6 (by decide) (fun hj12 => ?_) (fun j12 hj12 => ?_)
    · have hX := opt_n hX hj12
      exact K0 t x2 H locs ls (Option.some.inj hX) hW (lv_sub hl [0, 1, 2] rfl)
    have hX := opt_s hX hj12
    refine lv_aload_nQ C.1 C.2.1 dX1_findEnd_9 rfl (lv_at hl 0 rfl) ?_
    refine lv_aload_n C.1 C.2.1 dX1_findEnd_10 rfl (lv_at hl 1 rfl) ?_
    obtain ⟨hk13, hX⟩ := chkP_st hX
    refine C_get C hW 1 rfl hin1 hk13 rfl 7 (by decide) rfl f1_7 dX1_findEnd_11 ?_
    refine lv_iload_n C.1 C.2.1 dX1_findEnd_14 rfl (lv_at hl 2 rfl) ?_
    rw [show va_re (ad 10) x2 = .ref (ad 10 j12) from by rw [hj12]; rfl]
    obtain ⟨hk14, hX⟩ := chkP_st hX
    obtain ⟨v15, hq, hX⟩ := bnd_st hX
    refine G_V0p (As := [.int (tS t 1 7 x0), .int x1]) (rest := []) C hW (c_C_Witness_tells l D cs ad K hKS hEv t j12 (tS t 1 7 x0) x1 v15 hq.symm) (cwV 2 C.2.2.2.2 gX1_findEnd_X10_tells rfl rfl rfl (by decide +kernel) ⟨Nat.le_of_ble_eq_true rfl, Nat.le_of_ble_eq_true rfl⟩) (C_recv hW 10 hk14 rfl rfl) rfl hl.1 rfl (Nat.le_of_ble_eq_true rfl) dX1_findEnd_15 (fun H locs hW => ?_)
    refine lv_if_eq (tgt := 36) C.1 C.2.1 dX1_findEnd_18 (by decide) (fun c16 => ?_) (fun c16 => ?_)
    · have hX := br_p hX c16
      refine lv_aload_nQ C.1 C.2.1 dX1_findEnd_36 rfl (lv_at hl 0 rfl) ?_
      refine lv_topq hj12 ?_
      refine C_get C hW 10 rfl hin10 hk14 rfl 3 (by decide) rfl f10_3 dX1_findEnd_37 ?_
      refine lv_topo (fun v17 ev17 => ?_)
      have hX := nm_st hX ev17
      refine lv_astore_nQ (i := 2) (lv' := [(2, va_re (ad 10) v17), (0, .ref (ad 1 x0)), (1, .int x1)]) C.1 C.2.1 dX1_findEnd_40 rfl hl (by decide) rfl (fun ls hl => ?_)
      refine lv_goto (tgt := 5) C.1 C.2.1 dX1_findEnd_41 (by decide) ?_
      exact ih t v17 x0 x1 H locs ls X hX hW (lv_sub hl [0, 1, 2] rfl) K0
    have hX := br_n hX c16
    refine lv_aload_n C.1 C.2.1 dX1_findEnd_21 rfl (lv_at hl 1 rfl) ?_
    refine lv_aload_n C.1 C.2.1 dX1_findEnd_22 rfl (lv_at hl 1 rfl) ?_
    refine C_get C hW 1 rfl hin1 hk13 rfl 8 (by decide) rfl f1_8 dX1_findEnd_23 ?_
    refine lv_aload_nQ C.1 C.2.1 dX1_findEnd_26 rfl (lv_at hl 0 rfl) ?_
    refine lv_topq hj12 ?_
    refine C_get C hW 10 rfl hin10 hk14 rfl 2 (by decide) rfl f10_2 dX1_findEnd_27 ?_
    refine va_mmin C.1 C.2.1 (C.2.2.1.trans hl.1.symm) C.2.2.2.1 m68_l m68_s m68_i m68_c (Nat.le_of_ble_eq_true rfl) (Nat.le_of_ble_eq_true rfl) (Nat.zero_le _) (Nat.zero_le _) dX1_findEnd_30 ?_
    refine lv_topi (fun v18 ev18 => ?_)
    have hX := nm_st hX ev18
    obtain ⟨t19, et19⟩ : ∃ z, z = uS t 1 8 x0 v18 := ⟨_, rfl⟩
    refine C_put C hW 1 rfl hin1 tyX1 tyX1_ok nmX1 hk13 rfl 8 (by decide) rfl rfl rfl (Nat.le_of_ble_eq_true rfl) f1_8 dX1_findEnd_33 (t' := t19) (by rw [et19]; exact wr1_8) (by rw [et19]; exact ho_S (by decide)) (fun H locs hW => ?_)
    have hX := nm_st hX et19
    refine lv_aload_nQ C.1 C.2.1 dX1_findEnd_36 rfl (lv_at hl 0 rfl) ?_
    refine lv_topq hj12 ?_
    refine C_get C hW 10 rfl hin10 hk14 rfl 3 (by decide) rfl f10_3 dX1_findEnd_37 ?_
    refine lv_topo (fun v20 ev20 => ?_)
    have hX := nm_st hX ev20
    refine lv_astore_nQ (i := 2) (lv' := [(2, va_re (ad 10) v20), (0, .ref (ad 1 x0)), (1, .int x1)]) C.1 C.2.1 dX1_findEnd_40 rfl hl (by decide) rfl (fun ls hl => ?_)
    refine lv_goto (tgt := 5) C.1 C.2.1 dX1_findEnd_41 (by decide) ?_
    exact ih t19 v20 x0 x1 H locs ls X hX hW (lv_sub hl [0, 1, 2] rfl) K0
def C_Claim_findEnd (K : List (Nat × Nat)) (t : TH) (x0 : Nat) (x1 : Int32) : Option (TH) := chkP ((1, x0) ∈ K) (nm (tP t 1 5 x0) (fun v2 => bnd (C_Claim_findEnd_L5 100000 K t v2 x0 x1) (fun q => nm2 q (fun t21 v22 => some t21))))
set_option maxHeartbeats 4000000 in
set_option maxRecDepth 100000 in
theorem c_C_Claim_findEnd {Ev : EvT} {ek ev : Nat → Nat} {tp : Nat} (l : Launch) (D : va_G) (cs : Nat → ClassId) (ad : AD) (K : List (Nat × Nat)) (hKS : KS K) (hEv : EvC Ev ek ev tp) (t : TH) (x0 : Nat) (x1 : Int32) (X : TH) (hX : some X = C_Claim_findEnd K t x0 x1) : cGv Ev l D (tyC cs) (wC cs ad K) yX1_findEnd wsX1_findEnd rm_C_Claim_findEnd 0 0 [.ref (ad 1 x0), .int x1] t (fun u => u = X) := by
  refine G_inv (cc := cX1_findEnd) (maxL := 3) (ret := none) (by decide) rfl (Nat.le_of_ble_eq_true rfl) ?_
  intro p e s m below meth c A ls C hr hlk hini hA hW hl
  have C : Cx p s m _ c cX1_findEnd 3 wsX1_findEnd RX1 := C
  have hl : lv_has ls 3 [(0, .ref (ad 1 x0)), (1, .int x1)] := hl
  have hin1 : ∀ w ∈ wsX10, w ∈ wsX1_findEnd := fun w hw => List.mem_cons_of_mem _ (List.mem_append_left _ (List.mem_append_right _ hw))
  have hin10 : ∀ w ∈ wsX100, w ∈ wsX1_findEnd := fun w hw => List.mem_cons_of_mem _ (List.mem_append_right _ hw)
  have f1_5 : (Cond.fieldLink RX1 9 (TX1 5).1 (TX1 5).2.1 (TX1 5).2.2.1).before _ s = true := C.2.2.2.2 _ (List.mem_of_getElem? (i := 1) rfl)
  have f1_7 : (Cond.fieldLink RX1 19 (TX1 7).1 (TX1 7).2.1 (TX1 7).2.2.1).before _ s = true := C.2.2.2.2 _ (List.mem_of_getElem? (i := 2) rfl)
  have f1_8 : (Cond.fieldLink RX1 22 (TX1 8).1 (TX1 8).2.1 (TX1 8).2.2.1).before _ s = true := C.2.2.2.2 _ (List.mem_of_getElem? (i := 3) rfl)
  have f10_2 : (Cond.fieldLink RX1 65 (TX10 2).1 (TX10 2).2.1 (TX10 2).2.2.1).before _ s = true := C.2.2.2.2 _ (List.mem_of_getElem? (i := 4) rfl)
  have f10_3 : (Cond.fieldLink RX1 54 (TX10 3).1 (TX10 3).2.1 (TX10 3).2.2.1).before _ s = true := C.2.2.2.2 _ (List.mem_of_getElem? (i := 9) rfl)
  have m68_l : (Cond.methodLink RX1 68 Lib.Math.min.name).before _ s = true := C.2.2.2.2 _ (List.mem_of_getElem? (i := 5) rfl)
  have m68_s : (Cond.static Lib.Math.min.name).before _ s = true := C.2.2.2.2 _ (List.mem_of_getElem? (i := 6) rfl)
  have m68_i : (Cond.initialized "java/lang/Math").before _ s = true := C.2.2.2.2 _ (List.mem_of_getElem? (i := 7) rfl)
  have m68_c : (Cond.code Lib.Math.min.name Lib.Math.min.code 2 (some .int)).before _ s = true := C.2.2.2.2 _ (List.mem_of_getElem? (i := 8) rfl)
  obtain ⟨H, hH⟩ : ∃ H, H = s.heap := ⟨_, rfl⟩
  obtain ⟨locs, hlo⟩ : ∃ z : List Loc, z = [] := ⟨_, rfl⟩
  have hW : GW Ev D (tyC cs) (wC cs ad K) A s t H locs := by rw [hH, hlo]; exact hW
  rw [show W p l e rm_C_Claim_findEnd s m _ below meth c s.heap [] = W p l e rm_C_Claim_findEnd s m _ below meth c H locs from by rw [hH, hlo]]
  unfold C_Claim_findEnd at hX
  refine lv_aload_n C.1 C.2.1 dX1_findEnd_0 rfl (lv_at hl 0 rfl) ?_
  obtain ⟨hk1, hX⟩ := chkP_st hX
  refine C_get C hW 1 rfl hin1 hk1 rfl 5 (by decide) rfl f1_5 dX1_findEnd_1 ?_
  refine lv_topo (fun v2 ev2 => ?_)
  have hX := nm_st hX ev2
  refine lv_astore_nQ (i := 2) (lv' := [(2, va_re (ad 10) v2), (0, .ref (ad 1 x0)), (1, .int x1)]) C.1 C.2.1 dX1_findEnd_4 rfl hl (by decide) rfl (fun ls hl => ?_)
  obtain ⟨q, hq, hX⟩ := bnd_st hX
  refine r_C_Claim_findEnd_L5 C hKS hEv 100000 t v2 x0 x1 H locs ls q hq.symm hW (lv_sub hl [0, 1, 2] rfl) ?_
  intro t21 v22 H locs ls hq hW hl
  subst hq
  have hX := nm2_st hX rfl
  exact G_retv C hr hlk hA hW (Option.some.inj hX).symm dX1_findEnd_44
abbrev rm_C_Claim_reckon : Room := { frames := 2, cells := 0, slots := 0, locals := 46 }
def C_Claim_reckon_L22 : Nat → List (Nat × Nat) → TH → Option Nat → Nat → Int32 → Option (TH × Option Nat)
  | 0, _, _, _, _, _ => none
  | n + 1, K, t, x2, x0, x1 => opt x2 (some (t, x2)) (fun j23 => chkP ((10, j23) ∈ K) (if x1 < (tS t 10 0 j23) then nm (tP t 10 3 j23) (fun v26 => C_Claim_reckon_L22 n K t v26 x0 x1) else chkP ((1, x0) ∈ K) (bnd (C_Claim_agreeOn K t x0 (tS t 10 1 j23) x1) (fun v28 => if (tS t 1 9 x0) < v28 then nm (uS t 1 9 x0 v28) (fun t30 => nm (uS t30 1 7 x0 (tS t30 10 1 j23)) (fun t31 => nm (tP t31 10 3 j23) (fun v32 => C_Claim_reckon_L22 n K t31 v32 x0 x1))) else if v28 = (tS t 1 9 x0) then if (tS t 1 7 x0) ≤ (tS t 10 1 j23) then nm (tP t 10 3 j23) (fun v36 => C_Claim_reckon_L22 n K t v36 x0 x1) else nm (uS t 1 9 x0 v28) (fun t37 => nm (uS t37 1 7 x0 (tS t37 10 1 j23)) (fun t38 => nm (tP t38 10 3 j23) (fun v39 => C_Claim_reckon_L22 n K t38 v39 x0 x1))) else nm (tP t 10 3 j23) (fun v34 => C_Claim_reckon_L22 n K t v34 x0 x1)))))
set_option maxHeartbeats 4000000 in
set_option maxRecDepth 100000 in
theorem r_C_Claim_reckon_L22 {p : Program} {l : Launch} {e : Env} {s : State} {m : MethodId} {args : Array Value} {below : List Frame} {meth : Method} {c : Code} {Q : State → Prop} {Ev : EvT} {D : va_G} {cs : Nat → ClassId} {ad : AD} {A : Nat → Prop} {ek ev : Nat → Nat} {tp : Nat} (C : Cx p s m args c cX1_reckon 4 wsX1_reckon RX1) {K : List (Nat × Nat)} (hKS : KS K) (hEv : EvC Ev ek ev tp) : ∀ (n : Nat) (t : TH) (x2 : Option Nat) (x0 : Nat) (x1 : Int32) (H : Heap) (locs : List Loc) (ls : Array Slot) (X : TH × Option Nat), some X = C_Claim_reckon_L22 n K t x2 x0 x1 → GW Ev D (tyC cs) (wC cs ad K) A s t H locs → lv_has ls 4 [(2, va_re (ad 10) x2), (0, .ref (ad 1 x0)), (1, .int x1)] → (∀ (τ : TH) (z2 : Option Nat) (H : Heap) (locs : List Loc) (ls : Array Slot), X = (τ, z2) → GW Ev D (tyC cs) (wC cs ad K) A s τ H locs → lv_has ls 4 [(2, va_re (ad 10) z2), (0, .ref (ad 1 x0)), (1, .int x1)] → W p l e rm_C_Claim_reckon s m args below meth c H locs 0 0 Q (F0 m 92 ls [])) → W p l e rm_C_Claim_reckon s m args below meth c H locs 0 0 Q (F0 m 22 ls []) := by
  have hin1 : ∀ w ∈ wsX10, w ∈ wsX1_reckon := fun w hw => List.mem_cons_of_mem _ (List.mem_append_left _ (List.mem_append_right _ hw))
  have hin10 : ∀ w ∈ wsX100, w ∈ wsX1_reckon := fun w hw => List.mem_cons_of_mem _ (List.mem_append_right _ hw)
  have f1_5 : (Cond.fieldLink RX1 9 (TX1 5).1 (TX1 5).2.1 (TX1 5).2.2.1).before _ s = true := C.2.2.2.2 _ (List.mem_of_getElem? (i := 4) rfl)
  have f1_7 : (Cond.fieldLink RX1 19 (TX1 7).1 (TX1 7).2.1 (TX1 7).2.2.1).before _ s = true := C.2.2.2.2 _ (List.mem_of_getElem? (i := 1) rfl)
  have f1_8 : (Cond.fieldLink RX1 22 (TX1 8).1 (TX1 8).2.1 (TX1 8).2.2.1).before _ s = true := C.2.2.2.2 _ (List.mem_of_getElem? (i := 2) rfl)
  have f1_9 : (Cond.fieldLink RX1 25 (TX1 9).1 (TX1 9).2.1 (TX1 9).2.2.1).before _ s = true := C.2.2.2.2 _ (List.mem_of_getElem? (i := 3) rfl)
  have f10_0 : (Cond.fieldLink RX1 44 (TX10 0).1 (TX10 0).2.1 (TX10 0).2.2.1).before _ s = true := C.2.2.2.2 _ (List.mem_of_getElem? (i := 5) rfl)
  have f10_1 : (Cond.fieldLink RX1 47 (TX10 1).1 (TX10 1).2.1 (TX10 1).2.2.1).before _ s = true := C.2.2.2.2 _ (List.mem_of_getElem? (i := 6) rfl)
  have f10_3 : (Cond.fieldLink RX1 54 (TX10 3).1 (TX10 3).2.1 (TX10 3).2.2.1).before _ s = true := C.2.2.2.2 _ (List.mem_of_getElem? (i := 7) rfl)
  intro n
  induction n with
  | zero =>
    intro t x2 x0 x1 H locs ls X hX hW hl K0
    cases hX
  | succ n ih =>
    intro t x2 x0 x1 H locs ls X hX hW hl K0
    unfold C_Claim_reckon_L22 at hX
    refine lv_aload_nQ C.1 C.2.1 dX1_reckon_22 rfl (lv_at hl 0 rfl) ?_
    refine lv_ifnullQ (tgt := 92) C.1 C.2.1 dX1_reckon_23 (by decide) (fun hj23 => ?_) (fun j23 hj23 => ?_)
    · have hX := opt_n hX hj23
      exact K0 t x2 H locs ls (Option.some.inj hX) hW (lv_sub hl [0, 1, 2] rfl)
    have hX := opt_s hX hj23
    refine lv_aload_nQ C.1 C.2.1 dX1_reckon_26 rfl (lv_at hl 0 rfl) ?_
    refine lv_topq hj23 ?_
    obtain ⟨hk24, hX⟩ := chkP_st hX
    refine C_get C hW 10 rfl hin10 hk24 rfl 0 (by decide) rfl f10_0 dX1_reckon_27 ?_
    refine lv_iload_n C.1 C.2.1 dX1_reckon_30 rfl (lv_at hl 2 rfl) ?_
    refine lv_icmp_gt (tgt := 84) C.1 C.2.1 dX1_reckon_31 (by decide) (fun c25 => ?_) (fun c25 => ?_)
    · have hX := br_p hX c25
      refine lv_aload_nQ C.1 C.2.1 dX1_reckon_84 rfl (lv_at hl 0 rfl) ?_
      refine lv_topq hj23 ?_
      refine C_get C hW 10 rfl hin10 hk24 rfl 3 (by decide) rfl f10_3 dX1_reckon_85 ?_
      refine lv_topo (fun v26 ev26 => ?_)
      have hX := nm_st hX ev26
      refine lv_astore_nQ (i := 2) (lv' := [(2, va_re (ad 10) v26), (0, .ref (ad 1 x0)), (1, .int x1)]) C.1 C.2.1 dX1_reckon_88 rfl hl (by decide) rfl (fun ls hl => ?_)
      refine lv_goto (tgt := 22) C.1 C.2.1 dX1_reckon_89 (by decide) ?_
      exact ih t v26 x0 x1 H locs ls X hX hW (lv_sub hl [0, 1, 2] rfl) K0
    have hX := br_n hX c25
    refine lv_aload_n C.1 C.2.1 dX1_reckon_34 rfl (lv_at hl 1 rfl) ?_
    refine lv_aload_nQ C.1 C.2.1 dX1_reckon_35 rfl (lv_at hl 0 rfl) ?_
    refine lv_topq hj23 ?_
    refine C_get C hW 10 rfl hin10 hk24 rfl 1 (by decide) rfl f10_1 dX1_reckon_36 ?_
    refine lv_iload_n C.1 C.2.1 dX1_reckon_39 rfl (lv_at hl 2 rfl) ?_
    obtain ⟨hk27, hX⟩ := chkP_st hX
    obtain ⟨v28, hq, hX⟩ := bnd_st hX
    refine G_V0p (As := [.int (tS t 10 1 j23), .int x1]) (rest := []) C hW (c_C_Claim_agreeOn l D cs ad K hKS hEv t x0 (tS t 10 1 j23) x1 v28 hq.symm) (cwV 2 C.2.2.2.2 gX1_reckon_X1_agreeOn rfl rfl rfl (by decide +kernel) ⟨Nat.le_of_ble_eq_true rfl, Nat.le_of_ble_eq_true rfl⟩) (C_recv hW 1 hk27 rfl rfl) rfl hl.1 rfl (Nat.le_of_ble_eq_true rfl) dX1_reckon_40 (fun H locs hW => ?_)
    refine lv_istore_n (i := 3) (lv' := [(3, .int v28), (2, va_re (ad 10) x2), (0, .ref (ad 1 x0)), (1, .int x1)]) C.1 C.2.1 dX1_reckon_43 rfl hl (by decide) (by simp [re_cat]) (fun ls hl => ?_)
    refine lv_iload_n C.1 C.2.1 dX1_reckon_44 rfl (lv_at hl 0 rfl) ?_
    refine lv_aload_n C.1 C.2.1 dX1_reckon_45 rfl (lv_at hl 2 rfl) ?_
    refine C_get C hW 1 rfl hin1 hk27 rfl 9 (by decide) rfl f1_9 dX1_reckon_46 ?_
    refine lv_icmp_gt (tgt := 71) C.1 C.2.1 dX1_reckon_49 (by decide) (fun c29 => ?_) (fun c29 => ?_)
    · have hX := br_p hX c29
      refine lv_aload_n C.1 C.2.1 dX1_reckon_71 rfl (lv_at hl 2 rfl) ?_
      refine lv_iload_n C.1 C.2.1 dX1_reckon_72 rfl (lv_at hl 0 rfl) ?_
      obtain ⟨t30, et30⟩ : ∃ z, z = uS t 1 9 x0 v28 := ⟨_, rfl⟩
      refine C_put C hW 1 rfl hin1 tyX1 tyX1_ok nmX1 hk27 rfl 9 (by decide) rfl rfl rfl (Nat.le_of_ble_eq_true rfl) f1_9 dX1_reckon_73 (t' := t30) (by rw [et30]; exact wr1_9) (by rw [et30]; exact ho_S (by decide)) (fun H locs hW => ?_)
      have hX := nm_st hX et30
      refine lv_aload_n C.1 C.2.1 dX1_reckon_76 rfl (lv_at hl 2 rfl) ?_
      refine lv_aload_nQ C.1 C.2.1 dX1_reckon_77 rfl (lv_at hl 1 rfl) ?_
      refine lv_topq hj23 ?_
      refine C_get C hW 10 rfl hin10 hk24 rfl 1 (by decide) rfl f10_1 dX1_reckon_78 ?_
      obtain ⟨t31, et31⟩ : ∃ z, z = uS t30 1 7 x0 (tS t30 10 1 j23) := ⟨_, rfl⟩
      refine C_put C hW 1 rfl hin1 tyX1 tyX1_ok nmX1 hk27 rfl 7 (by decide) rfl rfl rfl (Nat.le_of_ble_eq_true rfl) f1_7 dX1_reckon_81 (t' := t31) (by rw [et31]; exact wr1_7) (by rw [et31]; exact ho_S (by decide)) (fun H locs hW => ?_)
      have hX := nm_st hX et31
      refine lv_aload_nQ C.1 C.2.1 dX1_reckon_84 rfl (lv_at hl 1 rfl) ?_
      refine lv_topq hj23 ?_
      refine C_get C hW 10 rfl hin10 hk24 rfl 3 (by decide) rfl f10_3 dX1_reckon_85 ?_
      refine lv_topo (fun v32 ev32 => ?_)
      have hX := nm_st hX ev32
      refine lv_astore_nQ (i := 2) (lv' := [(2, va_re (ad 10) v32), (3, .int v28), (0, .ref (ad 1 x0)), (1, .int x1)]) C.1 C.2.1 dX1_reckon_88 rfl hl (by decide) rfl (fun ls hl => ?_)
      refine lv_goto (tgt := 22) C.1 C.2.1 dX1_reckon_89 (by decide) ?_
      exact ih t31 v32 x0 x1 H locs ls X hX hW (lv_sub hl [0, 2, 3] rfl) K0
    have hX := br_n hX c29
    refine lv_iload_n C.1 C.2.1 dX1_reckon_52 rfl (lv_at hl 0 rfl) ?_
    refine lv_aload_n C.1 C.2.1 dX1_reckon_53 rfl (lv_at hl 2 rfl) ?_
    refine C_get C hW 1 rfl hin1 hk27 rfl 9 (by decide) rfl f1_9 dX1_reckon_54 ?_
    refine lv_icmp_ne (tgt := 84) C.1 C.2.1 dX1_reckon_57 (by decide) (fun c33 => ?_) (fun c33 => ?_)
    · have hX := br_n hX c33
      refine lv_aload_nQ C.1 C.2.1 dX1_reckon_84 rfl (lv_at hl 1 rfl) ?_
      refine lv_topq hj23 ?_
      refine C_get C hW 10 rfl hin10 hk24 rfl 3 (by decide) rfl f10_3 dX1_reckon_85 ?_
      refine lv_topo (fun v34 ev34 => ?_)
      have hX := nm_st hX ev34
      refine lv_astore_nQ (i := 2) (lv' := [(2, va_re (ad 10) v34), (3, .int v28), (0, .ref (ad 1 x0)), (1, .int x1)]) C.1 C.2.1 dX1_reckon_88 rfl hl (by decide) rfl (fun ls hl => ?_)
      refine lv_goto (tgt := 22) C.1 C.2.1 dX1_reckon_89 (by decide) ?_
      exact ih t v34 x0 x1 H locs ls X hX hW (lv_sub hl [0, 2, 3] rfl) K0
    have hX := br_p hX c33
    refine lv_aload_nQ C.1 C.2.1 dX1_reckon_60 rfl (lv_at hl 1 rfl) ?_
    refine lv_topq hj23 ?_
    refine C_get C hW 10 rfl hin10 hk24 rfl 1 (by decide) rfl f10_1 dX1_reckon_61 ?_
    refine lv_aload_n C.1 C.2.1 dX1_reckon_64 rfl (lv_at hl 2 rfl) ?_
    refine C_get C hW 1 rfl hin1 hk27 rfl 7 (by decide) rfl f1_7 dX1_reckon_65 ?_
    refine lv_icmp_ge (tgt := 84) C.1 C.2.1 dX1_reckon_68 (by decide) (fun c35 => ?_) (fun c35 => ?_)
    · have hX := br_p hX c35
      refine lv_aload_nQ C.1 C.2.1 dX1_reckon_84 rfl (lv_at hl 1 rfl) ?_
      refine lv_topq hj23 ?_
      refine C_get C hW 10 rfl hin10 hk24 rfl 3 (by decide) rfl f10_3 dX1_reckon_85 ?_
      refine lv_topo (fun v36 ev36 => ?_)
      have hX := nm_st hX ev36
      refine lv_astore_nQ (i := 2) (lv' := [(2, va_re (ad 10) v36), (3, .int v28), (0, .ref (ad 1 x0)), (1, .int x1)]) C.1 C.2.1 dX1_reckon_88 rfl hl (by decide) rfl (fun ls hl => ?_)
      refine lv_goto (tgt := 22) C.1 C.2.1 dX1_reckon_89 (by decide) ?_
      exact ih t v36 x0 x1 H locs ls X hX hW (lv_sub hl [0, 2, 3] rfl) K0
    have hX := br_n hX c35
    refine lv_aload_n C.1 C.2.1 dX1_reckon_71 rfl (lv_at hl 2 rfl) ?_
    refine lv_iload_n C.1 C.2.1 dX1_reckon_72 rfl (lv_at hl 0 rfl) ?_
    obtain ⟨t37, et37⟩ : ∃ z, z = uS t 1 9 x0 v28 := ⟨_, rfl⟩
    refine C_put C hW 1 rfl hin1 tyX1 tyX1_ok nmX1 hk27 rfl 9 (by decide) rfl rfl rfl (Nat.le_of_ble_eq_true rfl) f1_9 dX1_reckon_73 (t' := t37) (by rw [et37]; exact wr1_9) (by rw [et37]; exact ho_S (by decide)) (fun H locs hW => ?_)
    have hX := nm_st hX et37
    refine lv_aload_n C.1 C.2.1 dX1_reckon_76 rfl (lv_at hl 2 rfl) ?_
    refine lv_aload_nQ C.1 C.2.1 dX1_reckon_77 rfl (lv_at hl 1 rfl) ?_
    refine lv_topq hj23 ?_
    refine C_get C hW 10 rfl hin10 hk24 rfl 1 (by decide) rfl f10_1 dX1_reckon_78 ?_
    obtain ⟨t38, et38⟩ : ∃ z, z = uS t37 1 7 x0 (tS t37 10 1 j23) := ⟨_, rfl⟩
    refine C_put C hW 1 rfl hin1 tyX1 tyX1_ok nmX1 hk27 rfl 7 (by decide) rfl rfl rfl (Nat.le_of_ble_eq_true rfl) f1_7 dX1_reckon_81 (t' := t38) (by rw [et38]; exact wr1_7) (by rw [et38]; exact ho_S (by decide)) (fun H locs hW => ?_)
    have hX := nm_st hX et38
    refine lv_aload_nQ C.1 C.2.1 dX1_reckon_84 rfl (lv_at hl 1 rfl) ?_
    refine lv_topq hj23 ?_
    refine C_get C hW 10 rfl hin10 hk24 rfl 3 (by decide) rfl f10_3 dX1_reckon_85 ?_
    refine lv_topo (fun v39 ev39 => ?_)
    have hX := nm_st hX ev39
    refine lv_astore_nQ (i := 2) (lv' := [(2, va_re (ad 10) v39), (3, .int v28), (0, .ref (ad 1 x0)), (1, .int x1)]) C.1 C.2.1 dX1_reckon_88 rfl hl (by decide) rfl (fun ls hl => ?_)
    refine lv_goto (tgt := 22) C.1 C.2.1 dX1_reckon_89 (by decide) ?_
    exact ih t38 v39 x0 x1 H locs ls X hX hW (lv_sub hl [0, 2, 3] rfl) K0
def C_Claim_reckon (K : List (Nat × Nat)) (t : TH) (x0 : Nat) (x1 : Int32) : Option (TH) := chkP ((1, x0) ∈ K) (nm (uS t 1 7 x0 0) (fun t2 => nm (uS t2 1 8 x0 9999) (fun t3 => nm (uS t3 1 9 x0 0) (fun t4 => nm (tP t4 1 5 x0) (fun v5 => bnd (C_Claim_reckon_L22 100000 K t4 v5 x0 x1) (fun q => nm2 q (fun t40 v41 => bnd (C_Claim_findEnd K t40 x0 x1) (fun t42 => some t42))))))))
set_option maxHeartbeats 4000000 in
set_option maxRecDepth 100000 in
theorem c_C_Claim_reckon {Ev : EvT} {ek ev : Nat → Nat} {tp : Nat} (l : Launch) (D : va_G) (cs : Nat → ClassId) (ad : AD) (K : List (Nat × Nat)) (hKS : KS K) (hEv : EvC Ev ek ev tp) (t : TH) (x0 : Nat) (x1 : Int32) (X : TH) (hX : some X = C_Claim_reckon K t x0 x1) : cGv Ev l D (tyC cs) (wC cs ad K) yX1_reckon wsX1_reckon rm_C_Claim_reckon 0 0 [.ref (ad 1 x0), .int x1] t (fun u => u = X) := by
  refine G_inv (cc := cX1_reckon) (maxL := 4) (ret := none) (by decide) rfl (Nat.le_of_ble_eq_true rfl) ?_
  intro p e s m below meth c A ls C hr hlk hini hA hW hl
  have C : Cx p s m _ c cX1_reckon 4 wsX1_reckon RX1 := C
  have hl : lv_has ls 4 [(0, .ref (ad 1 x0)), (1, .int x1)] := hl
  have hin1 : ∀ w ∈ wsX10, w ∈ wsX1_reckon := fun w hw => List.mem_cons_of_mem _ (List.mem_append_left _ (List.mem_append_right _ hw))
  have hin10 : ∀ w ∈ wsX100, w ∈ wsX1_reckon := fun w hw => List.mem_cons_of_mem _ (List.mem_append_right _ hw)
  have f1_5 : (Cond.fieldLink RX1 9 (TX1 5).1 (TX1 5).2.1 (TX1 5).2.2.1).before _ s = true := C.2.2.2.2 _ (List.mem_of_getElem? (i := 4) rfl)
  have f1_7 : (Cond.fieldLink RX1 19 (TX1 7).1 (TX1 7).2.1 (TX1 7).2.2.1).before _ s = true := C.2.2.2.2 _ (List.mem_of_getElem? (i := 1) rfl)
  have f1_8 : (Cond.fieldLink RX1 22 (TX1 8).1 (TX1 8).2.1 (TX1 8).2.2.1).before _ s = true := C.2.2.2.2 _ (List.mem_of_getElem? (i := 2) rfl)
  have f1_9 : (Cond.fieldLink RX1 25 (TX1 9).1 (TX1 9).2.1 (TX1 9).2.2.1).before _ s = true := C.2.2.2.2 _ (List.mem_of_getElem? (i := 3) rfl)
  have f10_0 : (Cond.fieldLink RX1 44 (TX10 0).1 (TX10 0).2.1 (TX10 0).2.2.1).before _ s = true := C.2.2.2.2 _ (List.mem_of_getElem? (i := 5) rfl)
  have f10_1 : (Cond.fieldLink RX1 47 (TX10 1).1 (TX10 1).2.1 (TX10 1).2.2.1).before _ s = true := C.2.2.2.2 _ (List.mem_of_getElem? (i := 6) rfl)
  have f10_3 : (Cond.fieldLink RX1 54 (TX10 3).1 (TX10 3).2.1 (TX10 3).2.2.1).before _ s = true := C.2.2.2.2 _ (List.mem_of_getElem? (i := 7) rfl)
  obtain ⟨H, hH⟩ : ∃ H, H = s.heap := ⟨_, rfl⟩
  obtain ⟨locs, hlo⟩ : ∃ z : List Loc, z = [] := ⟨_, rfl⟩
  have hW : GW Ev D (tyC cs) (wC cs ad K) A s t H locs := by rw [hH, hlo]; exact hW
  rw [show W p l e rm_C_Claim_reckon s m _ below meth c s.heap [] = W p l e rm_C_Claim_reckon s m _ below meth c H locs from by rw [hH, hlo]]
  unfold C_Claim_reckon at hX
  refine lv_aload_n C.1 C.2.1 dX1_reckon_0 rfl (lv_at hl 0 rfl) ?_
  refine lv_iconst (v := 0) C.1 C.2.1 dX1_reckon_1 (by decide) ?_
  obtain ⟨hk1, hX⟩ := chkP_st hX
  obtain ⟨t2, et2⟩ : ∃ z, z = uS t 1 7 x0 0 := ⟨_, rfl⟩
  refine C_put C hW 1 rfl hin1 tyX1 tyX1_ok nmX1 hk1 rfl 7 (by decide) rfl rfl rfl (Nat.le_of_ble_eq_true rfl) f1_7 dX1_reckon_2 (t' := t2) (by rw [et2]; exact wr1_7) (by rw [et2]; exact ho_S (by decide)) (fun H locs hW => ?_)
  have hX := nm_st hX et2
  refine lv_aload_n C.1 C.2.1 dX1_reckon_5 rfl (lv_at hl 0 rfl) ?_
  refine lv_sipush (v := 9999) C.1 C.2.1 dX1_reckon_6 (by decide) ?_
  obtain ⟨t3, et3⟩ : ∃ z, z = uS t2 1 8 x0 9999 := ⟨_, rfl⟩
  refine C_put C hW 1 rfl hin1 tyX1 tyX1_ok nmX1 hk1 rfl 8 (by decide) rfl rfl rfl (Nat.le_of_ble_eq_true rfl) f1_8 dX1_reckon_9 (t' := t3) (by rw [et3]; exact wr1_8) (by rw [et3]; exact ho_S (by decide)) (fun H locs hW => ?_)
  have hX := nm_st hX et3
  refine lv_aload_n C.1 C.2.1 dX1_reckon_12 rfl (lv_at hl 0 rfl) ?_
  refine lv_iconst (v := 0) C.1 C.2.1 dX1_reckon_13 (by decide) ?_
  obtain ⟨t4, et4⟩ : ∃ z, z = uS t3 1 9 x0 0 := ⟨_, rfl⟩
  refine C_put C hW 1 rfl hin1 tyX1 tyX1_ok nmX1 hk1 rfl 9 (by decide) rfl rfl rfl (Nat.le_of_ble_eq_true rfl) f1_9 dX1_reckon_14 (t' := t4) (by rw [et4]; exact wr1_9) (by rw [et4]; exact ho_S (by decide)) (fun H locs hW => ?_)
  have hX := nm_st hX et4
  refine lv_aload_n C.1 C.2.1 dX1_reckon_17 rfl (lv_at hl 0 rfl) ?_
  refine C_get C hW 1 rfl hin1 hk1 rfl 5 (by decide) rfl f1_5 dX1_reckon_18 ?_
  refine lv_topo (fun v5 ev5 => ?_)
  have hX := nm_st hX ev5
  refine lv_astore_nQ (i := 2) (lv' := [(2, va_re (ad 10) v5), (0, .ref (ad 1 x0)), (1, .int x1)]) C.1 C.2.1 dX1_reckon_21 rfl hl (by decide) rfl (fun ls hl => ?_)
  obtain ⟨q, hq, hX⟩ := bnd_st hX
  refine r_C_Claim_reckon_L22 C hKS hEv 100000 t4 v5 x0 x1 H locs ls q hq.symm hW (lv_sub hl [0, 1, 2] rfl) ?_
  intro t40 v41 H locs ls hq hW hl
  subst hq
  have hX := nm2_st hX rfl
  refine lv_aload_n C.1 C.2.1 dX1_reckon_92 rfl (lv_at hl 1 rfl) ?_
  refine lv_iload_n C.1 C.2.1 dX1_reckon_93 rfl (lv_at hl 2 rfl) ?_
  obtain ⟨t42, hq, hX⟩ := bnd_st hX
  refine G_V0u (As := [.int x1]) (rest := []) C hW (c_C_Claim_findEnd l D cs ad K hKS hEv t40 x0 x1 t42 hq.symm) (cwV 1 C.2.2.2.2 gX1_reckon_X1_findEnd rfl rfl rfl (by decide +kernel) ⟨Nat.le_of_ble_eq_true rfl, Nat.le_of_ble_eq_true rfl⟩) (C_recv hW 1 hk1 rfl rfl) rfl hl.1 rfl (Nat.le_of_ble_eq_true rfl) dX1_reckon_94 (fun H locs hW => ?_)
  exact G_retv C hr hlk hA hW (Option.some.inj hX).symm dX1_reckon_97
abbrev rm_C_Claim_isAheadOf : Room := { frames := 0, cells := 0, slots := 0, locals := 0 }
def C_Claim_isAheadOf (K : List (Nat × Nat)) (t : TH) (x0 : Nat) (x1 : Nat) : Option (Int32) := chkP ((1, x0) ∈ K) (chkP ((1, x1) ∈ K) (if (tS t 1 7 x1) ≤ (tS t 1 8 x0) then some 0 else some 1))
set_option maxHeartbeats 4000000 in
set_option maxRecDepth 100000 in
theorem c_C_Claim_isAheadOf {Ev : EvT} {ek ev : Nat → Nat} {tp : Nat} (l : Launch) (D : va_G) (cs : Nat → ClassId) (ad : AD) (K : List (Nat × Nat)) (hKS : KS K) (hEv : EvC Ev ek ev tp) (t : TH) (x0 : Nat) (x1 : Nat) (X : Int32) (hX : some X = C_Claim_isAheadOf K t x0 x1) : cGi Ev l D (tyC cs) (wC cs ad K) yX1_isAheadOf wsX1_isAheadOf rm_C_Claim_isAheadOf 0 0 [.ref (ad 1 x0), .ref (ad 1 x1)] t (fun r u => r = X ∧ u = t) := by
  refine G_ini (cc := cX1_isAheadOf) (maxL := 2) (ret := some .boolean) (by decide) rfl (Nat.le_of_ble_eq_true rfl) ?_
  intro p e s m below meth c A ls C hr hlk hini hA hW hl
  have C : Cx p s m _ c cX1_isAheadOf 2 wsX1_isAheadOf RX1 := C
  have hl : lv_has ls 2 [(0, .ref (ad 1 x0)), (1, .ref (ad 1 x1))] := hl
  have hin1 : ∀ w ∈ wsX10, w ∈ wsX1_isAheadOf := fun w hw => List.mem_cons_of_mem _ (List.mem_append_right _ hw)
  have f1_7 : (Cond.fieldLink RX1 19 (TX1 7).1 (TX1 7).2.1 (TX1 7).2.2.1).before _ s = true := C.2.2.2.2 _ (List.mem_of_getElem? (i := 2) rfl)
  have f1_8 : (Cond.fieldLink RX1 22 (TX1 8).1 (TX1 8).2.1 (TX1 8).2.2.1).before _ s = true := C.2.2.2.2 _ (List.mem_of_getElem? (i := 1) rfl)
  obtain ⟨H, hH⟩ : ∃ H, H = s.heap := ⟨_, rfl⟩
  obtain ⟨locs, hlo⟩ : ∃ z : List Loc, z = [] := ⟨_, rfl⟩
  have hW : GW Ev D (tyC cs) (wC cs ad K) A s t H locs := by rw [hH, hlo]; exact hW
  rw [show W p l e rm_C_Claim_isAheadOf s m _ below meth c s.heap [] = W p l e rm_C_Claim_isAheadOf s m _ below meth c H locs from by rw [hH, hlo]]
  unfold C_Claim_isAheadOf at hX
  refine lv_aload_n C.1 C.2.1 dX1_isAheadOf_0 rfl (lv_at hl 0 rfl) ?_
  obtain ⟨hk1, hX⟩ := chkP_st hX
  refine C_get C hW 1 rfl hin1 hk1 rfl 8 (by decide) rfl f1_8 dX1_isAheadOf_1 ?_
  refine lv_aload_n C.1 C.2.1 dX1_isAheadOf_4 rfl (lv_at hl 1 rfl) ?_
  obtain ⟨hk2, hX⟩ := chkP_st hX
  refine C_get C hW 1 rfl hin1 hk2 rfl 7 (by decide) rfl f1_7 dX1_isAheadOf_5 ?_
  refine lv_icmp_ge (tgt := 15) C.1 C.2.1 dX1_isAheadOf_8 (by decide) (fun c3 => ?_) (fun c3 => ?_)
  · have hX := br_p hX c3
    refine lv_iconst (v := 0) C.1 C.2.1 dX1_isAheadOf_15 (by decide) ?_
    exact G_retz C hr hlk hA hW rfl ⟨(Option.some.inj hX).symm, rfl⟩ dX1_isAheadOf_16
  have hX := br_n hX c3
  refine lv_iconst (v := 1) C.1 C.2.1 dX1_isAheadOf_11 (by decide) ?_
  refine lv_goto (tgt := 16) C.1 C.2.1 dX1_isAheadOf_12 (by decide) ?_
  exact G_retz C hr hlk hA hW rfl ⟨(Option.some.inj hX).symm, rfl⟩ dX1_isAheadOf_16
abbrev rm_C_Court_claimAt : Room := { frames := 0, cells := 0, slots := 0, locals := 0 }
def C_Court_claimAt (K : List (Nat × Nat)) (t : TH) (x1 : Int32) : Option (Option Nat) := if x1 < 0 then some none else if (tS t 2 3 0) ≤ x1 then some none else if (nI (tN t 16 0)) ≤ x1 then some none else chkI x1 (tN t 16 0) (nm (tP t 16 0 x1.toNatClampNeg) (fun v4 => some v4))
set_option maxHeartbeats 4000000 in
set_option maxRecDepth 100000 in
theorem c_C_Court_claimAt {Ev : EvT} {ek ev : Nat → Nat} {tp : Nat} (l : Launch) (D : va_G) (cs : Nat → ClassId) (ad : AD) (K : List (Nat × Nat)) (hKS : KS K) (hEv : EvC Ev ek ev tp) (t : TH) (x1 : Int32) (X : Option Nat) (hX : some X = C_Court_claimAt K t x1) : cGe Ev (ad 1) l D (tyC cs) (wC cs ad K) yX2_claimAt wsX2_claimAt rm_C_Court_claimAt 0 0 [.ref (ad 2 0), .int x1] t (fun r u => r = X ∧ u = t) := by
  refine G_ine (cc := cX2_claimAt) (maxL := 2) (ret := some (.object "LandRun$Claim")) (by decide) rfl (Nat.le_of_ble_eq_true rfl) ?_
  intro p e s m below meth c A ls C hr hlk hini hA hW hl
  have C : Cx p s m _ c cX2_claimAt 2 wsX2_claimAt RX2 := C
  have hl : lv_has ls 2 [(0, .ref (ad 2 0)), (1, .int x1)] := hl
  have hin2 : ∀ w ∈ wsX20, w ∈ wsX2_claimAt := fun w hw => List.mem_cons_of_mem _ (List.mem_append_right _ hw)
  have f2_1 : (Cond.fieldLink RX2 11 (TX2 1).1 (TX2 1).2.1 (TX2 1).2.2.1).before _ s = true := C.2.2.2.2 _ (List.mem_of_getElem? (i := 2) rfl)
  have f2_3 : (Cond.fieldLink RX2 20 (TX2 3).1 (TX2 3).2.1 (TX2 3).2.2.1).before _ s = true := C.2.2.2.2 _ (List.mem_of_getElem? (i := 1) rfl)
  obtain ⟨H, hH⟩ : ∃ H, H = s.heap := ⟨_, rfl⟩
  obtain ⟨locs, hlo⟩ : ∃ z : List Loc, z = [] := ⟨_, rfl⟩
  have hW : GW Ev D (tyC cs) (wC cs ad K) A s t H locs := by rw [hH, hlo]; exact hW
  rw [show W p l e rm_C_Court_claimAt s m _ below meth c s.heap [] = W p l e rm_C_Court_claimAt s m _ below meth c H locs from by rw [hH, hlo]]
  unfold C_Court_claimAt at hX
  refine lv_iload_n C.1 C.2.1 dX2_claimAt_0 rfl (lv_at hl 1 rfl) ?_
  refine lv_if_lt (tgt := 30) C.1 C.2.1 dX2_claimAt_1 (by decide) (fun c1 => ?_) (fun c1 => ?_)
  · have hX := br_p hX c1
    refine lv_null C.1 C.2.1 dX2_claimAt_30 ?_
    exact G_rete (g := ad 1) (r := none) C hr (Or.inl ⟨_, rfl⟩) hlk hA hW ⟨(Option.some.inj hX).symm, rfl⟩ dX2_claimAt_31
  have hX := br_n hX c1
  refine lv_iload_n C.1 C.2.1 dX2_claimAt_4 rfl (lv_at hl 1 rfl) ?_
  refine lv_aload_n C.1 C.2.1 dX2_claimAt_5 rfl (lv_at hl 0 rfl) ?_
  refine C_get C hW 2 rfl hin2 hKS.k2_0 rfl 3 (by decide) rfl f2_3 dX2_claimAt_6 ?_
  refine lv_icmp_ge (tgt := 30) C.1 C.2.1 dX2_claimAt_9 (by decide) (fun c2 => ?_) (fun c2 => ?_)
  · have hX := br_p hX c2
    refine lv_null C.1 C.2.1 dX2_claimAt_30 ?_
    exact G_rete (g := ad 1) (r := none) C hr (Or.inl ⟨_, rfl⟩) hlk hA hW ⟨(Option.some.inj hX).symm, rfl⟩ dX2_claimAt_31
  have hX := br_n hX c2
  refine lv_iload_n C.1 C.2.1 dX2_claimAt_12 rfl (lv_at hl 1 rfl) ?_
  refine lv_aload_n C.1 C.2.1 dX2_claimAt_13 rfl (lv_at hl 0 rfl) ?_
  refine C_get C hW 2 rfl hin2 hKS.k2_0 rfl 1 (by decide) rfl f2_1 dX2_claimAt_14 ?_
  refine C_alen C hW hKS.k16_0 rfl 5 rfl dX2_claimAt_17 ?_
  refine lv_icmp_ge (tgt := 30) C.1 C.2.1 dX2_claimAt_18 (by decide) (fun c3 => ?_) (fun c3 => ?_)
  · have hX := br_p hX c3
    refine lv_null C.1 C.2.1 dX2_claimAt_30 ?_
    exact G_rete (g := ad 1) (r := none) C hr (Or.inl ⟨_, rfl⟩) hlk hA hW ⟨(Option.some.inj hX).symm, rfl⟩ dX2_claimAt_31
  have hX := br_n hX c3
  refine lv_aload_n C.1 C.2.1 dX2_claimAt_21 rfl (lv_at hl 0 rfl) ?_
  refine C_get C hW 2 rfl hin2 hKS.k2_0 rfl 1 (by decide) rfl f2_1 dX2_claimAt_22 ?_
  refine lv_iload_n C.1 C.2.1 dX2_claimAt_25 rfl (lv_at hl 1 rfl) ?_
  obtain ⟨hi, hX⟩ := chkI_st hX
  refine C_ldQ (k3 := 1) (f := tP t 16 0) C hW hKS.k16_0 rfl 5 rfl hi dX2_claimAt_26 (fun v4 ev4 => ?_)
  have hX := nm_st hX ev4
  refine lv_goto (tgt := 31) C.1 C.2.1 dX2_claimAt_27 (by decide) ?_
  exact G_rete (g := ad 1) (r := v4) C hr (Or.inl ⟨_, rfl⟩) hlk hA hW ⟨(Option.some.inj hX).symm, rfl⟩ dX2_claimAt_31
abbrev rm_C_Court_addLawful : Room := { frames := 0, cells := 0, slots := 0, locals := 0 }
def C_Court_addLawful (K : List (Nat × Nat)) (t : TH) (x1 : Nat) : Option (TH) := if (tS t 2 5 0) < 0 then some t else if (nI (tN t 16 1)) ≤ (tS t 2 5 0) then some t else chkP ((1, x1) ∈ K) (chkI (tS t 2 5 0) (tN t 16 1) (nm (uP t 16 1 (tS t 2 5 0).toNatClampNeg (some x1)) (fun t3 => nm (uS t3 2 5 0 ((tS t3 2 5 0) + 1)) (fun t5 => some t5))))
set_option maxHeartbeats 4000000 in
set_option maxRecDepth 100000 in
theorem c_C_Court_addLawful {Ev : EvT} {ek ev : Nat → Nat} {tp : Nat} (l : Launch) (D : va_G) (cs : Nat → ClassId) (ad : AD) (K : List (Nat × Nat)) (hKS : KS K) (hEv : EvC Ev ek ev tp) (t : TH) (x1 : Nat) (X : TH) (hX : some X = C_Court_addLawful K t x1) : cGv Ev l D (tyC cs) (wC cs ad K) yX2_addLawful wsX2_addLawful rm_C_Court_addLawful 0 0 [.ref (ad 2 0), .ref (ad 1 x1)] t (fun u => u = X) := by
  refine G_inv (cc := cX2_addLawful) (maxL := 2) (ret := none) (by decide) rfl (Nat.le_of_ble_eq_true rfl) ?_
  intro p e s m below meth c A ls C hr hlk hini hA hW hl
  have C : Cx p s m _ c cX2_addLawful 2 wsX2_addLawful RX2 := C
  have hl : lv_has ls 2 [(0, .ref (ad 2 0)), (1, .ref (ad 1 x1))] := hl
  have hin2 : ∀ w ∈ wsX20, w ∈ wsX2_addLawful := fun w hw => List.mem_cons_of_mem _ (List.mem_append_right _ hw)
  have f2_2 : (Cond.fieldLink RX2 17 (TX2 2).1 (TX2 2).2.1 (TX2 2).2.2.1).before _ s = true := C.2.2.2.2 _ (List.mem_of_getElem? (i := 2) rfl)
  have f2_5 : (Cond.fieldLink RX2 27 (TX2 5).1 (TX2 5).2.1 (TX2 5).2.2.1).before _ s = true := C.2.2.2.2 _ (List.mem_of_getElem? (i := 1) rfl)
  obtain ⟨H, hH⟩ : ∃ H, H = s.heap := ⟨_, rfl⟩
  obtain ⟨locs, hlo⟩ : ∃ z : List Loc, z = [] := ⟨_, rfl⟩
  have hW : GW Ev D (tyC cs) (wC cs ad K) A s t H locs := by rw [hH, hlo]; exact hW
  rw [show W p l e rm_C_Court_addLawful s m _ below meth c s.heap [] = W p l e rm_C_Court_addLawful s m _ below meth c H locs from by rw [hH, hlo]]
  unfold C_Court_addLawful at hX
  refine lv_aload_n C.1 C.2.1 dX2_addLawful_0 rfl (lv_at hl 0 rfl) ?_
  refine C_get C hW 2 rfl hin2 hKS.k2_0 rfl 5 (by decide) rfl f2_5 dX2_addLawful_1 ?_
  refine lv_if_lt (tgt := 39) C.1 C.2.1 dX2_addLawful_4 (by decide) (fun c1 => ?_) (fun c1 => ?_)
  · have hX := br_p hX c1
    exact G_retv C hr hlk hA hW (Option.some.inj hX).symm dX2_addLawful_39
  have hX := br_n hX c1
  refine lv_aload_n C.1 C.2.1 dX2_addLawful_7 rfl (lv_at hl 0 rfl) ?_
  refine C_get C hW 2 rfl hin2 hKS.k2_0 rfl 5 (by decide) rfl f2_5 dX2_addLawful_8 ?_
  refine lv_aload_n C.1 C.2.1 dX2_addLawful_11 rfl (lv_at hl 0 rfl) ?_
  refine C_get C hW 2 rfl hin2 hKS.k2_0 rfl 2 (by decide) rfl f2_2 dX2_addLawful_12 ?_
  refine C_alen C hW hKS.k16_1 rfl 5 rfl dX2_addLawful_15 ?_
  refine lv_icmp_ge (tgt := 39) C.1 C.2.1 dX2_addLawful_16 (by decide) (fun c2 => ?_) (fun c2 => ?_)
  · have hX := br_p hX c2
    exact G_retv C hr hlk hA hW (Option.some.inj hX).symm dX2_addLawful_39
  have hX := br_n hX c2
  refine lv_aload_n C.1 C.2.1 dX2_addLawful_19 rfl (lv_at hl 0 rfl) ?_
  refine C_get C hW 2 rfl hin2 hKS.k2_0 rfl 2 (by decide) rfl f2_2 dX2_addLawful_20 ?_
  refine lv_aload_n C.1 C.2.1 dX2_addLawful_23 rfl (lv_at hl 0 rfl) ?_
  refine C_get C hW 2 rfl hin2 hKS.k2_0 rfl 5 (by decide) rfl f2_5 dX2_addLawful_24 ?_
  refine lv_aload_n C.1 C.2.1 dX2_addLawful_27 rfl (lv_at hl 1 rfl) ?_
  obtain ⟨hk4, hX⟩ := chkP_st hX
  obtain ⟨hi, hX⟩ := chkI_st hX
  obtain ⟨t3, et3⟩ : ∃ z, z = uP t 16 1 (tS t 2 5 0).toNatClampNeg (some x1) := ⟨_, rfl⟩
  refine C_stQ (k3 := 1) (f := tP t 16 1) C hW hKS.k16_1 rfl 5 rfl rfl hk4 rfl hi dX2_addLawful_28 (t' := t3) (by rw [et3]; exact wr16) (by rw [et3]; exact hr_P (by decide)) (fun H locs hW => ?_)
  have hX := nm_st hX et3
  refine lv_aload_n C.1 C.2.1 dX2_addLawful_29 rfl (lv_at hl 0 rfl) ?_
  refine lv_dup C.1 C.2.1 dX2_addLawful_30 rfl ?_
  refine C_get C hW 2 rfl hin2 hKS.k2_0 rfl 5 (by decide) rfl f2_5 dX2_addLawful_31 ?_
  refine lv_iconst (v := 1) C.1 C.2.1 dX2_addLawful_34 (by decide) ?_
  refine lv_iadd C.1 C.2.1 dX2_addLawful_35 ?_
  obtain ⟨t5, et5⟩ : ∃ z, z = uS t3 2 5 0 ((tS t3 2 5 0) + 1) := ⟨_, rfl⟩
  refine C_put C hW 2 rfl hin2 tyX2 tyX2_ok nmX2 hKS.k2_0 rfl 5 (by decide) rfl rfl rfl (Nat.le_of_ble_eq_true rfl) f2_5 dX2_addLawful_36 (t' := t5) (by rw [et5]; exact wr2_5) (by rw [et5]; exact ho_S (by decide)) (fun H locs hW => ?_)
  have hX := nm_st hX et5
  exact G_retv C hr hlk hA hW (Option.some.inj hX).symm dX2_addLawful_39
abbrev rm_C_Court_gather : Room := { frames := 3, cells := 0, slots := 0, locals := 69 }
def C_Court_gather_L7 : Nat → List (Nat × Nat) → TH → Int32 → Int32 → Int32 → Option (TH × Int32)
  | 0, _, _, _, _, _ => none
  | n + 1, K, t, x3, x1, x2 => if (tS t 2 3 0) ≤ x3 then some (t, x3) else bnd (C_Court_claimAt K t x3) (fun v18 => opt v18 (nm (x3 + 1) (fun v20 => C_Court_gather_L7 n K t v20 x1 x2)) (fun j19 => chkP ((1, j19) ∈ K) (if (tS t 1 2 j19) = x1 then if x2 < (tS t 1 3 j19) then nm (x3 + 1) (fun v25 => C_Court_gather_L7 n K t v25 x1 x2) else bnd (C_Claim_reckon K t j19 x2) (fun t26 => bnd (C_Law_allows K t26 j19) (fun v27 => if v27 = 0 then nm (x3 + 1) (fun v29 => C_Court_gather_L7 n K t26 v29 x1 x2) else bnd (C_Court_addLawful K t26 j19) (fun t30 => nm (x3 + 1) (fun v31 => C_Court_gather_L7 n K t30 v31 x1 x2)))) else nm (x3 + 1) (fun v23 => C_Court_gather_L7 n K t v23 x1 x2))))
set_option maxHeartbeats 4000000 in
set_option maxRecDepth 100000 in
theorem r_C_Court_gather_L7 {p : Program} {l : Launch} {e : Env} {s : State} {m : MethodId} {args : Array Value} {below : List Frame} {meth : Method} {c : Code} {Q : State → Prop} {Ev : EvT} {D : va_G} {cs : Nat → ClassId} {ad : AD} {A : Nat → Prop} {ek ev : Nat → Nat} {tp : Nat} (C : Cx p s m args c cX2_gather 5 wsX2_gather RX2) {K : List (Nat × Nat)} (hKS : KS K) (hEv : EvC Ev ek ev tp) : ∀ (n : Nat) (t : TH) (x3 : Int32) (x1 : Int32) (x2 : Int32) (H : Heap) (locs : List Loc) (ls : Array Slot) (X : TH × Int32), some X = C_Court_gather_L7 n K t x3 x1 x2 → GW Ev D (tyC cs) (wC cs ad K) A s t H locs → lv_has ls 5 [(3, .int x3), (0, .ref (ad 2 0)), (1, .int x1), (2, .int x2)] → (∀ (τ : TH) (z3 : Int32) (H : Heap) (locs : List Loc) (ls : Array Slot), X = (τ, z3) → GW Ev D (tyC cs) (wC cs ad K) A s τ H locs → lv_has ls 5 [(3, .int z3), (0, .ref (ad 2 0)), (1, .int x1), (2, .int x2)] → W p l e rm_C_Court_gather s m args below meth c H locs 0 0 Q (F0 m 75 ls [])) → W p l e rm_C_Court_gather s m args below meth c H locs 0 0 Q (F0 m 7 ls []) := by
  have hin1 : ∀ w ∈ wsX10, w ∈ wsX2_gather := fun w hw => List.mem_cons_of_mem _ (List.mem_append_left _ (List.mem_append_left _ (List.mem_append_left _ (List.mem_append_right _ hw))))
  have hin2 : ∀ w ∈ wsX20, w ∈ wsX2_gather := fun w hw => List.mem_cons_of_mem _ (List.mem_append_left _ (List.mem_append_left _ (List.mem_append_left _ (List.mem_append_left _ (List.mem_append_right _ hw)))))
  have f1_2 : (Cond.fieldLink RX2 38 (TX1 2).1 (TX1 2).2.1 (TX1 2).2.2.1).before _ s = true := C.2.2.2.2 _ (List.mem_of_getElem? (i := 3) rfl)
  have f1_3 : (Cond.fieldLink RX2 50 (TX1 3).1 (TX1 3).2.1 (TX1 3).2.2.1).before _ s = true := C.2.2.2.2 _ (List.mem_of_getElem? (i := 4) rfl)
  have f2_0 : (Cond.fieldLink RX2 30 (TX2 0).1 (TX2 0).2.1 (TX2 0).2.2.1).before _ s = true := C.2.2.2.2 _ (List.mem_of_getElem? (i := 5) rfl)
  have f2_3 : (Cond.fieldLink RX2 20 (TX2 3).1 (TX2 3).2.1 (TX2 3).2.2.1).before _ s = true := C.2.2.2.2 _ (List.mem_of_getElem? (i := 2) rfl)
  have f2_5 : (Cond.fieldLink RX2 27 (TX2 5).1 (TX2 5).2.1 (TX2 5).2.2.1).before _ s = true := C.2.2.2.2 _ (List.mem_of_getElem? (i := 1) rfl)
  intro n
  induction n with
  | zero =>
    intro t x3 x1 x2 H locs ls X hX hW hl K0
    cases hX
  | succ n ih =>
    intro t x3 x1 x2 H locs ls X hX hW hl K0
    unfold C_Court_gather_L7 at hX
    refine lv_iload_n C.1 C.2.1 dX2_gather_7 rfl (lv_at hl 0 rfl) ?_
    refine lv_aload_n C.1 C.2.1 dX2_gather_8 rfl (lv_at hl 1 rfl) ?_
    refine C_get C hW 2 rfl hin2 hKS.k2_0 rfl 3 (by decide) rfl f2_3 dX2_gather_9 ?_
    refine lv_icmp_ge (tgt := 75) C.1 C.2.1 dX2_gather_12 (by decide) (fun c17 => ?_) (fun c17 => ?_)
    · have hX := br_p hX c17
      exact K0 t x3 H locs ls (Option.some.inj hX) hW (lv_sub hl [0, 1, 2, 3] rfl)
    have hX := br_n hX c17
    refine lv_aload_n C.1 C.2.1 dX2_gather_15 rfl (lv_at hl 1 rfl) ?_
    refine lv_iload_n C.1 C.2.1 dX2_gather_16 rfl (lv_at hl 0 rfl) ?_
    obtain ⟨v18, hq, hX⟩ := bnd_st hX
    refine G_V0r (As := [.int x3]) (rest := []) C hW (c_C_Court_claimAt l D cs ad K hKS hEv t x3 v18 hq.symm) (cwV 1 C.2.2.2.2 gX2_gather_X2_claimAt rfl rfl rfl (by decide +kernel) ⟨Nat.le_of_ble_eq_true rfl, Nat.le_of_ble_eq_true rfl⟩) (C_recv hW 2 hKS.k2_0 rfl rfl) rfl hl.1 rfl (Nat.le_of_ble_eq_true rfl) dX2_gather_17 (fun H locs hW => ?_)
    refine lv_astoreQ (i := 4) (lv' := [(4, va_re (ad 1) v18), (3, .int x3), (0, .ref (ad 2 0)), (1, .int x1), (2, .int x2)]) C.1 C.2.1 dX2_gather_20 hl (by decide) rfl (fun ls hl => ?_)
    refine lv_aloadQ C.1 C.2.1 dX2_gather_22 (lv_at hl 0 rfl) ?_
    refine lv_ifnullQ (tgt := 69) C.1 C.2.1 dX2_gather_24 (by decide) (fun hj19 => ?_) (fun j19 hj19 => ?_)
    · have hX := opt_n hX hj19
      obtain ⟨v20, ev20⟩ : ∃ z : Int32, z = x3 + 1 := ⟨_, rfl⟩
      have hX := nm_st hX ev20
      refine lv_iinc (v := v20) (lv' := [(3, .int v20), (4, va_re (ad 1) v18), (0, .ref (ad 2 0)), (1, .int x1), (2, .int x2)]) C.1 C.2.1 dX2_gather_69 hl (k := 1) rfl (by rw [ev20]; rfl) (by decide) rfl (fun ls hl => ?_)
      refine lv_goto (tgt := 7) C.1 C.2.1 dX2_gather_72 (by decide) ?_
      exact ih t v20 x1 x2 H locs ls X hX hW (lv_sub hl [0, 2, 3, 4] rfl) K0
    have hX := opt_s hX hj19
    refine lv_aloadQ C.1 C.2.1 dX2_gather_27 (lv_at hl 0 rfl) ?_
    refine lv_topq hj19 ?_
    obtain ⟨hk21, hX⟩ := chkP_st hX
    refine C_get C hW 1 rfl hin1 hk21 rfl 2 (by decide) rfl f1_2 dX2_gather_29 ?_
    refine lv_iload_n C.1 C.2.1 dX2_gather_32 rfl (lv_at hl 3 rfl) ?_
    refine lv_icmp_ne (tgt := 69) C.1 C.2.1 dX2_gather_33 (by decide) (fun c22 => ?_) (fun c22 => ?_)
    · have hX := br_n hX c22
      obtain ⟨v23, ev23⟩ : ∃ z : Int32, z = x3 + 1 := ⟨_, rfl⟩
      have hX := nm_st hX ev23
      refine lv_iinc (v := v23) (lv' := [(3, .int v23), (4, va_re (ad 1) v18), (0, .ref (ad 2 0)), (1, .int x1), (2, .int x2)]) C.1 C.2.1 dX2_gather_69 hl (k := 1) rfl (by rw [ev23]; rfl) (by decide) rfl (fun ls hl => ?_)
      refine lv_goto (tgt := 7) C.1 C.2.1 dX2_gather_72 (by decide) ?_
      exact ih t v23 x1 x2 H locs ls X hX hW (lv_sub hl [0, 2, 3, 4] rfl) K0
    have hX := br_p hX c22
    refine lv_aloadQ C.1 C.2.1 dX2_gather_36 (lv_at hl 0 rfl) ?_
    refine lv_topq hj19 ?_
    refine C_get C hW 1 rfl hin1 hk21 rfl 3 (by decide) rfl f1_3 dX2_gather_38 ?_
    refine lv_iload_n C.1 C.2.1 dX2_gather_41 rfl (lv_at hl 4 rfl) ?_
    refine lv_icmp_gt (tgt := 69) C.1 C.2.1 dX2_gather_42 (by decide) (fun c24 => ?_) (fun c24 => ?_)
    · have hX := br_p hX c24
      obtain ⟨v25, ev25⟩ : ∃ z : Int32, z = x3 + 1 := ⟨_, rfl⟩
      have hX := nm_st hX ev25
      refine lv_iinc (v := v25) (lv' := [(3, .int v25), (4, va_re (ad 1) v18), (0, .ref (ad 2 0)), (1, .int x1), (2, .int x2)]) C.1 C.2.1 dX2_gather_69 hl (k := 1) rfl (by rw [ev25]; rfl) (by decide) rfl (fun ls hl => ?_)
      refine lv_goto (tgt := 7) C.1 C.2.1 dX2_gather_72 (by decide) ?_
      exact ih t v25 x1 x2 H locs ls X hX hW (lv_sub hl [0, 2, 3, 4] rfl) K0
    have hX := br_n hX c24
    refine lv_aloadQ C.1 C.2.1 dX2_gather_45 (lv_at hl 0 rfl) ?_
    refine lv_iload_n C.1 C.2.1 dX2_gather_47 rfl (lv_at hl 4 rfl) ?_
    rw [show va_re (ad 1) v18 = .ref (ad 1 j19) from by rw [hj19]; rfl]
    obtain ⟨t26, hq, hX⟩ := bnd_st hX
    refine G_V0u (As := [.int x2]) (rest := []) C hW (c_C_Claim_reckon l D cs ad K hKS hEv t j19 x2 t26 hq.symm) (cwV 1 C.2.2.2.2 gX2_gather_X1_reckon rfl rfl rfl (by decide +kernel) ⟨Nat.le_of_ble_eq_true rfl, Nat.le_of_ble_eq_true rfl⟩) (C_recv hW 1 hk21 rfl rfl) rfl hl.1 rfl (Nat.le_of_ble_eq_true rfl) dX2_gather_48 (fun H locs hW => ?_)
    refine lv_aload_n C.1 C.2.1 dX2_gather_51 rfl (lv_at hl 2 rfl) ?_
    refine C_get C hW 2 rfl hin2 hKS.k2_0 rfl 0 (by decide) rfl f2_0 dX2_gather_52 ?_
    refine lv_aloadQ C.1 C.2.1 dX2_gather_55 (lv_at hl 0 rfl) ?_
    rw [show va_re (ad 1) v18 = .ref (ad 1 j19) from by rw [hj19]; rfl]
    obtain ⟨v27, hq, hX⟩ := bnd_st hX
    refine G_V0p (As := [.ref (ad 1 j19)]) (rest := []) C hW (c_C_Law_allows l D cs ad K hKS hEv t26 j19 v27 hq.symm) (cwV 1 C.2.2.2.2 gX2_gather_X4_allows rfl rfl rfl (by decide +kernel) ⟨Nat.le_of_ble_eq_true rfl, Nat.le_of_ble_eq_true rfl⟩) (C_recv hW 4 hKS.k4_0 rfl rfl) rfl hl.1 rfl (Nat.le_of_ble_eq_true rfl) dX2_gather_57 (fun H locs hW => ?_)
    refine lv_if_eq (tgt := 69) C.1 C.2.1 dX2_gather_60 (by decide) (fun c28 => ?_) (fun c28 => ?_)
    · have hX := br_p hX c28
      obtain ⟨v29, ev29⟩ : ∃ z : Int32, z = x3 + 1 := ⟨_, rfl⟩
      have hX := nm_st hX ev29
      refine lv_iinc (v := v29) (lv' := [(3, .int v29), (4, va_re (ad 1) v18), (0, .ref (ad 2 0)), (1, .int x1), (2, .int x2)]) C.1 C.2.1 dX2_gather_69 hl (k := 1) rfl (by rw [ev29]; rfl) (by decide) rfl (fun ls hl => ?_)
      refine lv_goto (tgt := 7) C.1 C.2.1 dX2_gather_72 (by decide) ?_
      exact ih t26 v29 x1 x2 H locs ls X hX hW (lv_sub hl [0, 2, 3, 4] rfl) K0
    have hX := br_n hX c28
    refine lv_aload_n C.1 C.2.1 dX2_gather_63 rfl (lv_at hl 2 rfl) ?_
    refine lv_aloadQ C.1 C.2.1 dX2_gather_64 (lv_at hl 0 rfl) ?_
    rw [show va_re (ad 1) v18 = .ref (ad 1 j19) from by rw [hj19]; rfl]
    obtain ⟨t30, hq, hX⟩ := bnd_st hX
    refine G_V0u (As := [.ref (ad 1 j19)]) (rest := []) C hW (c_C_Court_addLawful l D cs ad K hKS hEv t26 j19 t30 hq.symm) (cwV 1 C.2.2.2.2 gX2_gather_X2_addLawful rfl rfl rfl (by decide +kernel) ⟨Nat.le_of_ble_eq_true rfl, Nat.le_of_ble_eq_true rfl⟩) (C_recv hW 2 hKS.k2_0 rfl rfl) rfl hl.1 rfl (Nat.le_of_ble_eq_true rfl) dX2_gather_66 (fun H locs hW => ?_)
    obtain ⟨v31, ev31⟩ : ∃ z : Int32, z = x3 + 1 := ⟨_, rfl⟩
    have hX := nm_st hX ev31
    refine lv_iinc (v := v31) (lv' := [(3, .int v31), (4, va_re (ad 1) v18), (0, .ref (ad 2 0)), (1, .int x1), (2, .int x2)]) C.1 C.2.1 dX2_gather_69 hl (k := 1) rfl (by rw [ev31]; rfl) (by decide) rfl (fun ls hl => ?_)
    refine lv_goto (tgt := 7) C.1 C.2.1 dX2_gather_72 (by decide) ?_
    exact ih t30 v31 x1 x2 H locs ls X hX hW (lv_sub hl [0, 2, 3, 4] rfl) K0
def C_Court_gather (K : List (Nat × Nat)) (t : TH) (x1 : Int32) (x2 : Int32) : Option (TH) := nm (uS t 2 5 0 0) (fun t1 => bnd (C_Court_gather_L7 100000 K t1 0 x1 x2) (fun q => nm2 q (fun t32 v33 => some t32)))
set_option maxHeartbeats 4000000 in
set_option maxRecDepth 100000 in
theorem c_C_Court_gather {Ev : EvT} {ek ev : Nat → Nat} {tp : Nat} (l : Launch) (D : va_G) (cs : Nat → ClassId) (ad : AD) (K : List (Nat × Nat)) (hKS : KS K) (hEv : EvC Ev ek ev tp) (t : TH) (x1 : Int32) (x2 : Int32) (X : TH) (hX : some X = C_Court_gather K t x1 x2) : cGv Ev l D (tyC cs) (wC cs ad K) yX2_gather wsX2_gather rm_C_Court_gather 0 0 [.ref (ad 2 0), .int x1, .int x2] t (fun u => u = X) := by
  refine G_inv (cc := cX2_gather) (maxL := 5) (ret := none) (by decide) rfl (Nat.le_of_ble_eq_true rfl) ?_
  intro p e s m below meth c A ls C hr hlk hini hA hW hl
  have C : Cx p s m _ c cX2_gather 5 wsX2_gather RX2 := C
  have hl : lv_has ls 5 [(0, .ref (ad 2 0)), (1, .int x1), (2, .int x2)] := hl
  have hin1 : ∀ w ∈ wsX10, w ∈ wsX2_gather := fun w hw => List.mem_cons_of_mem _ (List.mem_append_left _ (List.mem_append_left _ (List.mem_append_left _ (List.mem_append_right _ hw))))
  have hin2 : ∀ w ∈ wsX20, w ∈ wsX2_gather := fun w hw => List.mem_cons_of_mem _ (List.mem_append_left _ (List.mem_append_left _ (List.mem_append_left _ (List.mem_append_left _ (List.mem_append_right _ hw)))))
  have f1_2 : (Cond.fieldLink RX2 38 (TX1 2).1 (TX1 2).2.1 (TX1 2).2.2.1).before _ s = true := C.2.2.2.2 _ (List.mem_of_getElem? (i := 3) rfl)
  have f1_3 : (Cond.fieldLink RX2 50 (TX1 3).1 (TX1 3).2.1 (TX1 3).2.2.1).before _ s = true := C.2.2.2.2 _ (List.mem_of_getElem? (i := 4) rfl)
  have f2_0 : (Cond.fieldLink RX2 30 (TX2 0).1 (TX2 0).2.1 (TX2 0).2.2.1).before _ s = true := C.2.2.2.2 _ (List.mem_of_getElem? (i := 5) rfl)
  have f2_3 : (Cond.fieldLink RX2 20 (TX2 3).1 (TX2 3).2.1 (TX2 3).2.2.1).before _ s = true := C.2.2.2.2 _ (List.mem_of_getElem? (i := 2) rfl)
  have f2_5 : (Cond.fieldLink RX2 27 (TX2 5).1 (TX2 5).2.1 (TX2 5).2.2.1).before _ s = true := C.2.2.2.2 _ (List.mem_of_getElem? (i := 1) rfl)
  obtain ⟨H, hH⟩ : ∃ H, H = s.heap := ⟨_, rfl⟩
  obtain ⟨locs, hlo⟩ : ∃ z : List Loc, z = [] := ⟨_, rfl⟩
  have hW : GW Ev D (tyC cs) (wC cs ad K) A s t H locs := by rw [hH, hlo]; exact hW
  rw [show W p l e rm_C_Court_gather s m _ below meth c s.heap [] = W p l e rm_C_Court_gather s m _ below meth c H locs from by rw [hH, hlo]]
  unfold C_Court_gather at hX
  refine lv_aload_n C.1 C.2.1 dX2_gather_0 rfl (lv_at hl 0 rfl) ?_
  refine lv_iconst (v := 0) C.1 C.2.1 dX2_gather_1 (by decide) ?_
  obtain ⟨t1, et1⟩ : ∃ z, z = uS t 2 5 0 0 := ⟨_, rfl⟩
  refine C_put C hW 2 rfl hin2 tyX2 tyX2_ok nmX2 hKS.k2_0 rfl 5 (by decide) rfl rfl rfl (Nat.le_of_ble_eq_true rfl) f2_5 dX2_gather_2 (t' := t1) (by rw [et1]; exact wr2_5) (by rw [et1]; exact ho_S (by decide)) (fun H locs hW => ?_)
  have hX := nm_st hX et1
  refine lv_iconst (v := 0) C.1 C.2.1 dX2_gather_5 (by decide) ?_
  refine lv_istore_n (i := 3) (lv' := [(3, .int 0), (0, .ref (ad 2 0)), (1, .int x1), (2, .int x2)]) C.1 C.2.1 dX2_gather_6 rfl hl (by decide) rfl (fun ls hl => ?_)
  obtain ⟨q, hq, hX⟩ := bnd_st hX
  refine r_C_Court_gather_L7 C hKS hEv 100000 t1 0 x1 x2 H locs ls q hq.symm hW (lv_sub hl [0, 1, 2, 3] rfl) ?_
  intro t32 v33 H locs ls hq hW hl
  subst hq
  have hX := nm2_st hX rfl
  exact G_retv C hr hlk hA hW (Option.some.inj hX).symm dX2_gather_75
abbrev rm_C_Court_lawfulAt : Room := { frames := 0, cells := 0, slots := 0, locals := 0 }
def C_Court_lawfulAt (K : List (Nat × Nat)) (t : TH) (x1 : Int32) : Option (Option Nat) := if x1 < 0 then some none else if (tS t 2 5 0) ≤ x1 then some none else if (nI (tN t 16 1)) ≤ x1 then some none else chkI x1 (tN t 16 1) (nm (tP t 16 1 x1.toNatClampNeg) (fun v4 => some v4))
set_option maxHeartbeats 4000000 in
set_option maxRecDepth 100000 in
theorem c_C_Court_lawfulAt {Ev : EvT} {ek ev : Nat → Nat} {tp : Nat} (l : Launch) (D : va_G) (cs : Nat → ClassId) (ad : AD) (K : List (Nat × Nat)) (hKS : KS K) (hEv : EvC Ev ek ev tp) (t : TH) (x1 : Int32) (X : Option Nat) (hX : some X = C_Court_lawfulAt K t x1) : cGe Ev (ad 1) l D (tyC cs) (wC cs ad K) yX2_lawfulAt wsX2_lawfulAt rm_C_Court_lawfulAt 0 0 [.ref (ad 2 0), .int x1] t (fun r u => r = X ∧ u = t) := by
  refine G_ine (cc := cX2_lawfulAt) (maxL := 2) (ret := some (.object "LandRun$Claim")) (by decide) rfl (Nat.le_of_ble_eq_true rfl) ?_
  intro p e s m below meth c A ls C hr hlk hini hA hW hl
  have C : Cx p s m _ c cX2_lawfulAt 2 wsX2_lawfulAt RX2 := C
  have hl : lv_has ls 2 [(0, .ref (ad 2 0)), (1, .int x1)] := hl
  have hin2 : ∀ w ∈ wsX20, w ∈ wsX2_lawfulAt := fun w hw => List.mem_cons_of_mem _ (List.mem_append_right _ hw)
  have f2_2 : (Cond.fieldLink RX2 17 (TX2 2).1 (TX2 2).2.1 (TX2 2).2.2.1).before _ s = true := C.2.2.2.2 _ (List.mem_of_getElem? (i := 2) rfl)
  have f2_5 : (Cond.fieldLink RX2 27 (TX2 5).1 (TX2 5).2.1 (TX2 5).2.2.1).before _ s = true := C.2.2.2.2 _ (List.mem_of_getElem? (i := 1) rfl)
  obtain ⟨H, hH⟩ : ∃ H, H = s.heap := ⟨_, rfl⟩
  obtain ⟨locs, hlo⟩ : ∃ z : List Loc, z = [] := ⟨_, rfl⟩
  have hW : GW Ev D (tyC cs) (wC cs ad K) A s t H locs := by rw [hH, hlo]; exact hW
  rw [show W p l e rm_C_Court_lawfulAt s m _ below meth c s.heap [] = W p l e rm_C_Court_lawfulAt s m _ below meth c H locs from by rw [hH, hlo]]
  unfold C_Court_lawfulAt at hX
  refine lv_iload_n C.1 C.2.1 dX2_lawfulAt_0 rfl (lv_at hl 1 rfl) ?_
  refine lv_if_lt (tgt := 30) C.1 C.2.1 dX2_lawfulAt_1 (by decide) (fun c1 => ?_) (fun c1 => ?_)
  · have hX := br_p hX c1
    refine lv_null C.1 C.2.1 dX2_lawfulAt_30 ?_
    exact G_rete (g := ad 1) (r := none) C hr (Or.inl ⟨_, rfl⟩) hlk hA hW ⟨(Option.some.inj hX).symm, rfl⟩ dX2_lawfulAt_31
  have hX := br_n hX c1
  refine lv_iload_n C.1 C.2.1 dX2_lawfulAt_4 rfl (lv_at hl 1 rfl) ?_
  refine lv_aload_n C.1 C.2.1 dX2_lawfulAt_5 rfl (lv_at hl 0 rfl) ?_
  refine C_get C hW 2 rfl hin2 hKS.k2_0 rfl 5 (by decide) rfl f2_5 dX2_lawfulAt_6 ?_
  refine lv_icmp_ge (tgt := 30) C.1 C.2.1 dX2_lawfulAt_9 (by decide) (fun c2 => ?_) (fun c2 => ?_)
  · have hX := br_p hX c2
    refine lv_null C.1 C.2.1 dX2_lawfulAt_30 ?_
    exact G_rete (g := ad 1) (r := none) C hr (Or.inl ⟨_, rfl⟩) hlk hA hW ⟨(Option.some.inj hX).symm, rfl⟩ dX2_lawfulAt_31
  have hX := br_n hX c2
  refine lv_iload_n C.1 C.2.1 dX2_lawfulAt_12 rfl (lv_at hl 1 rfl) ?_
  refine lv_aload_n C.1 C.2.1 dX2_lawfulAt_13 rfl (lv_at hl 0 rfl) ?_
  refine C_get C hW 2 rfl hin2 hKS.k2_0 rfl 2 (by decide) rfl f2_2 dX2_lawfulAt_14 ?_
  refine C_alen C hW hKS.k16_1 rfl 5 rfl dX2_lawfulAt_17 ?_
  refine lv_icmp_ge (tgt := 30) C.1 C.2.1 dX2_lawfulAt_18 (by decide) (fun c3 => ?_) (fun c3 => ?_)
  · have hX := br_p hX c3
    refine lv_null C.1 C.2.1 dX2_lawfulAt_30 ?_
    exact G_rete (g := ad 1) (r := none) C hr (Or.inl ⟨_, rfl⟩) hlk hA hW ⟨(Option.some.inj hX).symm, rfl⟩ dX2_lawfulAt_31
  have hX := br_n hX c3
  refine lv_aload_n C.1 C.2.1 dX2_lawfulAt_21 rfl (lv_at hl 0 rfl) ?_
  refine C_get C hW 2 rfl hin2 hKS.k2_0 rfl 2 (by decide) rfl f2_2 dX2_lawfulAt_22 ?_
  refine lv_iload_n C.1 C.2.1 dX2_lawfulAt_25 rfl (lv_at hl 1 rfl) ?_
  obtain ⟨hi, hX⟩ := chkI_st hX
  refine C_ldQ (k3 := 1) (f := tP t 16 1) C hW hKS.k16_1 rfl 5 rfl hi dX2_lawfulAt_26 (fun v4 ev4 => ?_)
  have hX := nm_st hX ev4
  refine lv_goto (tgt := 31) C.1 C.2.1 dX2_lawfulAt_27 (by decide) ?_
  exact G_rete (g := ad 1) (r := v4) C hr (Or.inl ⟨_, rfl⟩) hlk hA hW ⟨(Option.some.inj hX).symm, rfl⟩ dX2_lawfulAt_31
abbrev rm_C_Court_isAheadOfAll : Room := { frames := 1, cells := 0, slots := 0, locals := 21 }
def C_Court_isAheadOfAll_L2 : Nat → List (Nat × Nat) → TH → Int32 → Nat → Option (Nat × Int32 × Int32)
  | 0, _, _, _, _ => none
  | n + 1, K, t, x2, x1 => if (tS t 2 5 0) ≤ x2 then some (1, x2, 0) else bnd (C_Court_lawfulAt K t x2) (fun v13 => opt v13 (nm (x2 + 1) (fun v15 => C_Court_isAheadOfAll_L2 n K t v15 x1)) (fun j14 => chkP ((1, j14) ∈ K) (chkP ((1, x1) ∈ K) (if (tS t 1 0 j14) = (tS t 1 0 x1) then nm (x2 + 1) (fun v19 => C_Court_isAheadOfAll_L2 n K t v19 x1) else bnd (C_Claim_isAheadOf K t x1 j14) (fun v20 => if v20 = 0 then some (0, x2, 0) else nm (x2 + 1) (fun v22 => C_Court_isAheadOfAll_L2 n K t v22 x1))))))
set_option maxHeartbeats 4000000 in
set_option maxRecDepth 100000 in
theorem r_C_Court_isAheadOfAll_L2 {p : Program} {l : Launch} {e : Env} {s : State} {m : MethodId} {args : Array Value} {below : List Frame} {meth : Method} {c : Code} {Q : State → Prop} {Ev : EvT} {D : va_G} {cs : Nat → ClassId} {ad : AD} {A : Nat → Prop} {ek ev : Nat → Nat} {tp : Nat} (C : Cx p s m args c cX2_isAheadOfAll 4 wsX2_isAheadOfAll RX2) {K : List (Nat × Nat)} (hKS : KS K) (hEv : EvC Ev ek ev tp) : ∀ (n : Nat) (t : TH) (x2 : Int32) (x1 : Nat) (H : Heap) (locs : List Loc) (ls : Array Slot) (X : Nat × Int32 × Int32), some X = C_Court_isAheadOfAll_L2 n K t x2 x1 → GW Ev D (tyC cs) (wC cs ad K) A s t H locs → lv_has ls 4 [(2, .int x2), (0, .ref (ad 2 0)), (1, .ref (ad 1 x1))] → (∀ (z2 : Int32) (w0 : Int32) (H : Heap) (locs : List Loc) (ls : Array Slot), X = (0, z2, w0) → GW Ev D (tyC cs) (wC cs ad K) A s t H locs → lv_has ls 4 [(2, .int z2), (0, .ref (ad 2 0)), (1, .ref (ad 1 x1))] → W p l e rm_C_Court_isAheadOfAll s m args below meth c H locs 0 0 Q (F0 m 40 ls [.int w0])) → (∀ (z2 : Int32) (w0 : Int32) (H : Heap) (locs : List Loc) (ls : Array Slot), X = (1, z2, w0) → GW Ev D (tyC cs) (wC cs ad K) A s t H locs → lv_has ls 4 [(2, .int z2), (0, .ref (ad 2 0)), (1, .ref (ad 1 x1))] → W p l e rm_C_Court_isAheadOfAll s m args below meth c H locs 0 0 Q (F0 m 47 ls [])) → W p l e rm_C_Court_isAheadOfAll s m args below meth c H locs 0 0 Q (F0 m 2 ls []) := by
  have hin1 : ∀ w ∈ wsX10, w ∈ wsX2_isAheadOfAll := fun w hw => List.mem_cons_of_mem _ (List.mem_append_right _ hw)
  have hin2 : ∀ w ∈ wsX20, w ∈ wsX2_isAheadOfAll := fun w hw => List.mem_cons_of_mem _ (List.mem_append_left _ (List.mem_append_right _ hw))
  have f1_0 : (Cond.fieldLink RX2 88 (TX1 0).1 (TX1 0).2.1 (TX1 0).2.2.1).before _ s = true := C.2.2.2.2 _ (List.mem_of_getElem? (i := 2) rfl)
  have f2_5 : (Cond.fieldLink RX2 27 (TX2 5).1 (TX2 5).2.1 (TX2 5).2.2.1).before _ s = true := C.2.2.2.2 _ (List.mem_of_getElem? (i := 1) rfl)
  intro n
  induction n with
  | zero =>
    intro t x2 x1 H locs ls X hX hW hl K0 K1
    cases hX
  | succ n ih =>
    intro t x2 x1 H locs ls X hX hW hl K0 K1
    unfold C_Court_isAheadOfAll_L2 at hX
    refine lv_iload_n C.1 C.2.1 dX2_isAheadOfAll_2 rfl (lv_at hl 0 rfl) ?_
    refine lv_aload_n C.1 C.2.1 dX2_isAheadOfAll_3 rfl (lv_at hl 1 rfl) ?_
    refine C_get C hW 2 rfl hin2 hKS.k2_0 rfl 5 (by decide) rfl f2_5 dX2_isAheadOfAll_4 ?_
    refine lv_icmp_ge (tgt := 47) C.1 C.2.1 dX2_isAheadOfAll_7 (by decide) (fun c12 => ?_) (fun c12 => ?_)
    · have hX := br_p hX c12
      exact K1 x2 0 H locs ls (Option.some.inj hX) hW (lv_sub hl [0, 1, 2] rfl)
    have hX := br_n hX c12
    refine lv_aload_n C.1 C.2.1 dX2_isAheadOfAll_10 rfl (lv_at hl 1 rfl) ?_
    refine lv_iload_n C.1 C.2.1 dX2_isAheadOfAll_11 rfl (lv_at hl 0 rfl) ?_
    obtain ⟨v13, hq, hX⟩ := bnd_st hX
    refine G_V0r (As := [.int x2]) (rest := []) C hW (c_C_Court_lawfulAt l D cs ad K hKS hEv t x2 v13 hq.symm) (cwV 1 C.2.2.2.2 gX2_isAheadOfAll_X2_lawfulAt rfl rfl rfl (by decide +kernel) ⟨Nat.le_of_ble_eq_true rfl, Nat.le_of_ble_eq_true rfl⟩) (C_recv hW 2 hKS.k2_0 rfl rfl) rfl hl.1 rfl (Nat.le_of_ble_eq_true rfl) dX2_isAheadOfAll_12 (fun H locs hW => ?_)
    refine lv_astore_nQ (i := 3) (lv' := [(3, va_re (ad 1) v13), (2, .int x2), (0, .ref (ad 2 0)), (1, .ref (ad 1 x1))]) C.1 C.2.1 dX2_isAheadOfAll_15 rfl hl (by decide) rfl (fun ls hl => ?_)
    refine lv_aload_nQ C.1 C.2.1 dX2_isAheadOfAll_16 rfl (lv_at hl 0 rfl) ?_
    refine lv_ifnullQ (tgt := 41) C.1 C.2.1 dX2_isAheadOfAll_17 (by decide) (fun hj14 => ?_) (fun j14 hj14 => ?_)
    · have hX := opt_n hX hj14
      obtain ⟨v15, ev15⟩ : ∃ z : Int32, z = x2 + 1 := ⟨_, rfl⟩
      have hX := nm_st hX ev15
      refine lv_iinc (v := v15) (lv' := [(2, .int v15), (3, va_re (ad 1) v13), (0, .ref (ad 2 0)), (1, .ref (ad 1 x1))]) C.1 C.2.1 dX2_isAheadOfAll_41 hl (k := 1) rfl (by rw [ev15]; rfl) (by decide) rfl (fun ls hl => ?_)
      refine lv_goto (tgt := 2) C.1 C.2.1 dX2_isAheadOfAll_44 (by decide) ?_
      exact ih t v15 x1 H locs ls X hX hW (lv_sub hl [0, 2, 3] rfl) K0 K1
    have hX := opt_s hX hj14
    refine lv_aload_nQ C.1 C.2.1 dX2_isAheadOfAll_20 rfl (lv_at hl 0 rfl) ?_
    refine lv_topq hj14 ?_
    obtain ⟨hk16, hX⟩ := chkP_st hX
    refine C_get C hW 1 rfl hin1 hk16 rfl 0 (by decide) rfl f1_0 dX2_isAheadOfAll_21 ?_
    refine lv_aload_n C.1 C.2.1 dX2_isAheadOfAll_24 rfl (lv_at hl 3 rfl) ?_
    obtain ⟨hk17, hX⟩ := chkP_st hX
    refine C_get C hW 1 rfl hin1 hk17 rfl 0 (by decide) rfl f1_0 dX2_isAheadOfAll_25 ?_
    refine lv_icmp_eq (tgt := 41) C.1 C.2.1 dX2_isAheadOfAll_28 (by decide) (fun c18 => ?_) (fun c18 => ?_)
    · have hX := br_p hX c18
      obtain ⟨v19, ev19⟩ : ∃ z : Int32, z = x2 + 1 := ⟨_, rfl⟩
      have hX := nm_st hX ev19
      refine lv_iinc (v := v19) (lv' := [(2, .int v19), (3, va_re (ad 1) v13), (0, .ref (ad 2 0)), (1, .ref (ad 1 x1))]) C.1 C.2.1 dX2_isAheadOfAll_41 hl (k := 1) rfl (by rw [ev19]; rfl) (by decide) rfl (fun ls hl => ?_)
      refine lv_goto (tgt := 2) C.1 C.2.1 dX2_isAheadOfAll_44 (by decide) ?_
      exact ih t v19 x1 H locs ls X hX hW (lv_sub hl [0, 2, 3] rfl) K0 K1
    have hX := br_n hX c18
    refine lv_aload_n C.1 C.2.1 dX2_isAheadOfAll_31 rfl (lv_at hl 3 rfl) ?_
    refine lv_aload_nQ C.1 C.2.1 dX2_isAheadOfAll_32 rfl (lv_at hl 0 rfl) ?_
    rw [show va_re (ad 1) v13 = .ref (ad 1 j14) from by rw [hj14]; rfl]
    obtain ⟨v20, hq, hX⟩ := bnd_st hX
    refine G_V0p (As := [.ref (ad 1 j14)]) (rest := []) C hW (c_C_Claim_isAheadOf l D cs ad K hKS hEv t x1 j14 v20 hq.symm) (cwV 1 C.2.2.2.2 gX2_isAheadOfAll_X1_isAheadOf rfl rfl rfl (by decide +kernel) ⟨Nat.le_of_ble_eq_true rfl, Nat.le_of_ble_eq_true rfl⟩) (C_recv hW 1 hk17 rfl rfl) rfl hl.1 rfl (Nat.le_of_ble_eq_true rfl) dX2_isAheadOfAll_33 (fun H locs hW => ?_)
    refine lv_if_ne (tgt := 41) C.1 C.2.1 dX2_isAheadOfAll_36 (by decide) (fun c21 => ?_) (fun c21 => ?_)
    · have hX := br_n hX c21
      obtain ⟨v22, ev22⟩ : ∃ z : Int32, z = x2 + 1 := ⟨_, rfl⟩
      have hX := nm_st hX ev22
      refine lv_iinc (v := v22) (lv' := [(2, .int v22), (3, va_re (ad 1) v13), (0, .ref (ad 2 0)), (1, .ref (ad 1 x1))]) C.1 C.2.1 dX2_isAheadOfAll_41 hl (k := 1) rfl (by rw [ev22]; rfl) (by decide) rfl (fun ls hl => ?_)
      refine lv_goto (tgt := 2) C.1 C.2.1 dX2_isAheadOfAll_44 (by decide) ?_
      exact ih t v22 x1 H locs ls X hX hW (lv_sub hl [0, 2, 3] rfl) K0 K1
    have hX := br_p hX c21
    refine lv_iconst (v := 0) C.1 C.2.1 dX2_isAheadOfAll_39 (by decide) ?_
    exact K0 x2 0 H locs ls (Option.some.inj hX) hW (lv_sub hl [1, 2, 3] rfl)
def C_Court_isAheadOfAll (K : List (Nat × Nat)) (t : TH) (x1 : Nat) : Option (Int32) := bnd (C_Court_isAheadOfAll_L2 100000 K t 0 x1) (fun q => nm2 q (fun j q => nm2 q (fun v23 v24 => if j = 0 then chkZ v24 (some v24) else if j = 1 then some 1 else none)))
set_option maxHeartbeats 4000000 in
set_option maxRecDepth 100000 in
theorem c_C_Court_isAheadOfAll {Ev : EvT} {ek ev : Nat → Nat} {tp : Nat} (l : Launch) (D : va_G) (cs : Nat → ClassId) (ad : AD) (K : List (Nat × Nat)) (hKS : KS K) (hEv : EvC Ev ek ev tp) (t : TH) (x1 : Nat) (X : Int32) (hX : some X = C_Court_isAheadOfAll K t x1) : cGi Ev l D (tyC cs) (wC cs ad K) yX2_isAheadOfAll wsX2_isAheadOfAll rm_C_Court_isAheadOfAll 0 0 [.ref (ad 2 0), .ref (ad 1 x1)] t (fun r u => r = X ∧ u = t) := by
  refine G_ini (cc := cX2_isAheadOfAll) (maxL := 4) (ret := some .boolean) (by decide) rfl (Nat.le_of_ble_eq_true rfl) ?_
  intro p e s m below meth c A ls C hr hlk hini hA hW hl
  have C : Cx p s m _ c cX2_isAheadOfAll 4 wsX2_isAheadOfAll RX2 := C
  have hl : lv_has ls 4 [(0, .ref (ad 2 0)), (1, .ref (ad 1 x1))] := hl
  have hin1 : ∀ w ∈ wsX10, w ∈ wsX2_isAheadOfAll := fun w hw => List.mem_cons_of_mem _ (List.mem_append_right _ hw)
  have hin2 : ∀ w ∈ wsX20, w ∈ wsX2_isAheadOfAll := fun w hw => List.mem_cons_of_mem _ (List.mem_append_left _ (List.mem_append_right _ hw))
  have f1_0 : (Cond.fieldLink RX2 88 (TX1 0).1 (TX1 0).2.1 (TX1 0).2.2.1).before _ s = true := C.2.2.2.2 _ (List.mem_of_getElem? (i := 2) rfl)
  have f2_5 : (Cond.fieldLink RX2 27 (TX2 5).1 (TX2 5).2.1 (TX2 5).2.2.1).before _ s = true := C.2.2.2.2 _ (List.mem_of_getElem? (i := 1) rfl)
  obtain ⟨H, hH⟩ : ∃ H, H = s.heap := ⟨_, rfl⟩
  obtain ⟨locs, hlo⟩ : ∃ z : List Loc, z = [] := ⟨_, rfl⟩
  have hW : GW Ev D (tyC cs) (wC cs ad K) A s t H locs := by rw [hH, hlo]; exact hW
  rw [show W p l e rm_C_Court_isAheadOfAll s m _ below meth c s.heap [] = W p l e rm_C_Court_isAheadOfAll s m _ below meth c H locs from by rw [hH, hlo]]
  unfold C_Court_isAheadOfAll at hX
  refine lv_iconst (v := 0) C.1 C.2.1 dX2_isAheadOfAll_0 (by decide) ?_
  refine lv_istore_n (i := 2) (lv' := [(2, .int 0), (0, .ref (ad 2 0)), (1, .ref (ad 1 x1))]) C.1 C.2.1 dX2_isAheadOfAll_1 rfl hl (by decide) rfl (fun ls hl => ?_)
  obtain ⟨q, hq, hX⟩ := bnd_st hX
  refine r_C_Court_isAheadOfAll_L2 C hKS hEv 100000 t 0 x1 H locs ls q hq.symm hW (lv_sub hl [0, 1, 2] rfl) ?_ ?_
  · intro v23 v24 H locs ls hq hW hl
    subst hq
    have hX := nm2_st hX rfl
    have hX := nm2_st hX rfl
    have hX := br_p hX rfl
    obtain ⟨hz, hX⟩ := chkZ_st hX
    exact G_retz C hr hlk hA hW hz.1 ⟨(Option.some.inj hX).symm, rfl⟩ dX2_isAheadOfAll_40
  intro v25 v26 H locs ls hq hW hl
  subst hq
  have hX := nm2_st hX rfl
  have hX := nm2_st hX rfl
  have hX := br_n hX (by decide)
  have hX := br_p hX rfl
  refine lv_iconst (v := 1) C.1 C.2.1 dX2_isAheadOfAll_47 (by decide) ?_
  exact G_retz C hr hlk hA hW rfl ⟨(Option.some.inj hX).symm, rfl⟩ dX2_isAheadOfAll_48
abbrev rm_C_Court_winnerBySpans : Room := { frames := 2, cells := 0, slots := 0, locals := 44 }
def C_Court_winnerBySpans_L2 : Nat → List (Nat × Nat) → TH → Int32 → Option (Nat × Int32 × Option Nat)
  | 0, _, _, _ => none
  | n + 1, K, t, x1 => if (tS t 2 5 0) ≤ x1 then some (1, x1, none) else bnd (C_Court_lawfulAt K t x1) (fun v9 => opt v9 (nm (x1 + 1) (fun v11 => C_Court_winnerBySpans_L2 n K t v11)) (fun j10 => bnd (C_Court_isAheadOfAll K t j10) (fun v12 => if v12 = 0 then nm (x1 + 1) (fun v14 => C_Court_winnerBySpans_L2 n K t v14) else some (0, x1, v9))))
set_option maxHeartbeats 4000000 in
set_option maxRecDepth 100000 in
theorem r_C_Court_winnerBySpans_L2 {p : Program} {l : Launch} {e : Env} {s : State} {m : MethodId} {args : Array Value} {below : List Frame} {meth : Method} {c : Code} {Q : State → Prop} {Ev : EvT} {D : va_G} {cs : Nat → ClassId} {ad : AD} {A : Nat → Prop} {ek ev : Nat → Nat} {tp : Nat} (C : Cx p s m args c cX2_winnerBySpans 3 wsX2_winnerBySpans RX2) {K : List (Nat × Nat)} (hKS : KS K) (hEv : EvC Ev ek ev tp) : ∀ (n : Nat) (t : TH) (x1 : Int32) (H : Heap) (locs : List Loc) (ls : Array Slot) (X : Nat × Int32 × Option Nat), some X = C_Court_winnerBySpans_L2 n K t x1 → GW Ev D (tyC cs) (wC cs ad K) A s t H locs → lv_has ls 3 [(1, .int x1), (0, .ref (ad 2 0))] → (∀ (z1 : Int32) (w0 : Option Nat) (H : Heap) (locs : List Loc) (ls : Array Slot), X = (0, z1, w0) → GW Ev D (tyC cs) (wC cs ad K) A s t H locs → lv_has ls 3 [(1, .int z1), (0, .ref (ad 2 0))] → W p l e rm_C_Court_winnerBySpans s m args below meth c H locs 0 0 Q (F0 m 29 ls [va_re (ad 1) w0])) → (∀ (z1 : Int32) (w0 : Option Nat) (H : Heap) (locs : List Loc) (ls : Array Slot), X = (1, z1, w0) → GW Ev D (tyC cs) (wC cs ad K) A s t H locs → lv_has ls 3 [(1, .int z1), (0, .ref (ad 2 0))] → W p l e rm_C_Court_winnerBySpans s m args below meth c H locs 0 0 Q (F0 m 36 ls [])) → W p l e rm_C_Court_winnerBySpans s m args below meth c H locs 0 0 Q (F0 m 2 ls []) := by
  have hin2 : ∀ w ∈ wsX20, w ∈ wsX2_winnerBySpans := fun w hw => List.mem_cons_of_mem _ (List.mem_append_left _ (List.mem_append_right _ hw))
  have f2_5 : (Cond.fieldLink RX2 27 (TX2 5).1 (TX2 5).2.1 (TX2 5).2.2.1).before _ s = true := C.2.2.2.2 _ (List.mem_of_getElem? (i := 1) rfl)
  intro n
  induction n with
  | zero =>
    intro t x1 H locs ls X hX hW hl K0 K1
    cases hX
  | succ n ih =>
    intro t x1 H locs ls X hX hW hl K0 K1
    unfold C_Court_winnerBySpans_L2 at hX
    refine lv_iload_n C.1 C.2.1 dX2_winnerBySpans_2 rfl (lv_at hl 0 rfl) ?_
    refine lv_aload_n C.1 C.2.1 dX2_winnerBySpans_3 rfl (lv_at hl 1 rfl) ?_
    refine C_get C hW 2 rfl hin2 hKS.k2_0 rfl 5 (by decide) rfl f2_5 dX2_winnerBySpans_4 ?_
    refine lv_icmp_ge (tgt := 36) C.1 C.2.1 dX2_winnerBySpans_7 (by decide) (fun c8 => ?_) (fun c8 => ?_)
    · have hX := br_p hX c8
      exact K1 x1 none H locs ls (Option.some.inj hX) hW (lv_sub hl [0, 1] rfl)
    have hX := br_n hX c8
    refine lv_aload_n C.1 C.2.1 dX2_winnerBySpans_10 rfl (lv_at hl 1 rfl) ?_
    refine lv_iload_n C.1 C.2.1 dX2_winnerBySpans_11 rfl (lv_at hl 0 rfl) ?_
    obtain ⟨v9, hq, hX⟩ := bnd_st hX
    refine G_V0r (As := [.int x1]) (rest := []) C hW (c_C_Court_lawfulAt l D cs ad K hKS hEv t x1 v9 hq.symm) (cwV 1 C.2.2.2.2 gX2_winnerBySpans_X2_lawfulAt rfl rfl rfl (by decide +kernel) ⟨Nat.le_of_ble_eq_true rfl, Nat.le_of_ble_eq_true rfl⟩) (C_recv hW 2 hKS.k2_0 rfl rfl) rfl hl.1 rfl (Nat.le_of_ble_eq_true rfl) dX2_winnerBySpans_12 (fun H locs hW => ?_)
    refine lv_astore_nQ (i := 2) (lv' := [(2, va_re (ad 1) v9), (1, .int x1), (0, .ref (ad 2 0))]) C.1 C.2.1 dX2_winnerBySpans_15 rfl hl (by decide) rfl (fun ls hl => ?_)
    refine lv_aload_nQ C.1 C.2.1 dX2_winnerBySpans_16 rfl (lv_at hl 0 rfl) ?_
    refine lv_ifnullQ (tgt := 30) C.1 C.2.1 dX2_winnerBySpans_17 (by decide) (fun hj10 => ?_) (fun j10 hj10 => ?_)
    · have hX := opt_n hX hj10
      obtain ⟨v11, ev11⟩ : ∃ z : Int32, z = x1 + 1 := ⟨_, rfl⟩
      have hX := nm_st hX ev11
      refine lv_iinc (v := v11) (lv' := [(1, .int v11), (2, va_re (ad 1) v9), (0, .ref (ad 2 0))]) C.1 C.2.1 dX2_winnerBySpans_30 hl (k := 1) rfl (by rw [ev11]; rfl) (by decide) rfl (fun ls hl => ?_)
      refine lv_goto (tgt := 2) C.1 C.2.1 dX2_winnerBySpans_33 (by decide) ?_
      exact ih t v11 H locs ls X hX hW (lv_sub hl [0, 2] rfl) K0 K1
    have hX := opt_s hX hj10
    refine lv_aload_n C.1 C.2.1 dX2_winnerBySpans_20 rfl (lv_at hl 2 rfl) ?_
    refine lv_aload_nQ C.1 C.2.1 dX2_winnerBySpans_21 rfl (lv_at hl 0 rfl) ?_
    rw [show va_re (ad 1) v9 = .ref (ad 1 j10) from by rw [hj10]; rfl]
    obtain ⟨v12, hq, hX⟩ := bnd_st hX
    refine G_V0p (As := [.ref (ad 1 j10)]) (rest := []) C hW (c_C_Court_isAheadOfAll l D cs ad K hKS hEv t j10 v12 hq.symm) (cwV 1 C.2.2.2.2 gX2_winnerBySpans_X2_isAheadOfAll rfl rfl rfl (by decide +kernel) ⟨Nat.le_of_ble_eq_true rfl, Nat.le_of_ble_eq_true rfl⟩) (C_recv hW 2 hKS.k2_0 rfl rfl) rfl hl.1 rfl (Nat.le_of_ble_eq_true rfl) dX2_winnerBySpans_22 (fun H locs hW => ?_)
    refine lv_if_eq (tgt := 30) C.1 C.2.1 dX2_winnerBySpans_25 (by decide) (fun c13 => ?_) (fun c13 => ?_)
    · have hX := br_p hX c13
      obtain ⟨v14, ev14⟩ : ∃ z : Int32, z = x1 + 1 := ⟨_, rfl⟩
      have hX := nm_st hX ev14
      refine lv_iinc (v := v14) (lv' := [(1, .int v14), (2, va_re (ad 1) v9), (0, .ref (ad 2 0))]) C.1 C.2.1 dX2_winnerBySpans_30 hl (k := 1) rfl (by rw [ev14]; rfl) (by decide) rfl (fun ls hl => ?_)
      refine lv_goto (tgt := 2) C.1 C.2.1 dX2_winnerBySpans_33 (by decide) ?_
      exact ih t v14 H locs ls X hX hW (lv_sub hl [0, 2] rfl) K0 K1
    have hX := br_n hX c13
    refine lv_aload_nQ C.1 C.2.1 dX2_winnerBySpans_28 rfl (lv_at hl 0 rfl) ?_
    exact K0 x1 v9 H locs ls (Option.some.inj hX) hW (lv_sub hl [1, 2] rfl)
def C_Court_winnerBySpans (K : List (Nat × Nat)) (t : TH) : Option (Option Nat) := bnd (C_Court_winnerBySpans_L2 100000 K t 0) (fun q => nm2 q (fun j q => nm2 q (fun v15 v16 => if j = 0 then some v16 else if j = 1 then some none else none)))
set_option maxHeartbeats 4000000 in
set_option maxRecDepth 100000 in
theorem c_C_Court_winnerBySpans {Ev : EvT} {ek ev : Nat → Nat} {tp : Nat} (l : Launch) (D : va_G) (cs : Nat → ClassId) (ad : AD) (K : List (Nat × Nat)) (hKS : KS K) (hEv : EvC Ev ek ev tp) (t : TH) (X : Option Nat) (hX : some X = C_Court_winnerBySpans K t) : cGe Ev (ad 1) l D (tyC cs) (wC cs ad K) yX2_winnerBySpans wsX2_winnerBySpans rm_C_Court_winnerBySpans 0 0 [.ref (ad 2 0)] t (fun r u => r = X ∧ u = t) := by
  refine G_ine (cc := cX2_winnerBySpans) (maxL := 3) (ret := some (.object "LandRun$Claim")) (by decide) rfl (Nat.le_of_ble_eq_true rfl) ?_
  intro p e s m below meth c A ls C hr hlk hini hA hW hl
  have C : Cx p s m _ c cX2_winnerBySpans 3 wsX2_winnerBySpans RX2 := C
  have hl : lv_has ls 3 [(0, .ref (ad 2 0))] := hl
  have hin2 : ∀ w ∈ wsX20, w ∈ wsX2_winnerBySpans := fun w hw => List.mem_cons_of_mem _ (List.mem_append_left _ (List.mem_append_right _ hw))
  have f2_5 : (Cond.fieldLink RX2 27 (TX2 5).1 (TX2 5).2.1 (TX2 5).2.2.1).before _ s = true := C.2.2.2.2 _ (List.mem_of_getElem? (i := 1) rfl)
  obtain ⟨H, hH⟩ : ∃ H, H = s.heap := ⟨_, rfl⟩
  obtain ⟨locs, hlo⟩ : ∃ z : List Loc, z = [] := ⟨_, rfl⟩
  have hW : GW Ev D (tyC cs) (wC cs ad K) A s t H locs := by rw [hH, hlo]; exact hW
  rw [show W p l e rm_C_Court_winnerBySpans s m _ below meth c s.heap [] = W p l e rm_C_Court_winnerBySpans s m _ below meth c H locs from by rw [hH, hlo]]
  unfold C_Court_winnerBySpans at hX
  refine lv_iconst (v := 0) C.1 C.2.1 dX2_winnerBySpans_0 (by decide) ?_
  refine lv_istore_n (i := 1) (lv' := [(1, .int 0), (0, .ref (ad 2 0))]) C.1 C.2.1 dX2_winnerBySpans_1 rfl hl (by decide) rfl (fun ls hl => ?_)
  obtain ⟨q, hq, hX⟩ := bnd_st hX
  refine r_C_Court_winnerBySpans_L2 C hKS hEv 100000 t 0 H locs ls q hq.symm hW (lv_sub hl [0, 1] rfl) ?_ ?_
  · intro v15 v16 H locs ls hq hW hl
    subst hq
    have hX := nm2_st hX rfl
    have hX := nm2_st hX rfl
    have hX := br_p hX rfl
    exact G_rete (g := ad 1) (r := v16) C hr (Or.inl ⟨_, rfl⟩) hlk hA hW ⟨(Option.some.inj hX).symm, rfl⟩ dX2_winnerBySpans_29
  intro v17 v18 H locs ls hq hW hl
  subst hq
  have hX := nm2_st hX rfl
  have hX := nm2_st hX rfl
  have hX := br_n hX (by decide)
  have hX := br_p hX rfl
  refine lv_null C.1 C.2.1 dX2_winnerBySpans_36 ?_
  exact G_rete (g := ad 1) (r := none) C hr (Or.inl ⟨_, rfl⟩) hlk hA hW ⟨(Option.some.inj hX).symm, rfl⟩ dX2_winnerBySpans_37
abbrev rm_C_Court_isBehindAny : Room := { frames := 1, cells := 0, slots := 0, locals := 21 }
def C_Court_isBehindAny_L2 : Nat → List (Nat × Nat) → TH → Int32 → Nat → Option (Nat × Int32 × Int32)
  | 0, _, _, _, _ => none
  | n + 1, K, t, x2, x1 => if (tS t 2 5 0) ≤ x2 then some (1, x2, 0) else bnd (C_Court_lawfulAt K t x2) (fun v13 => opt v13 (nm (x2 + 1) (fun v15 => C_Court_isBehindAny_L2 n K t v15 x1)) (fun j14 => chkP ((1, j14) ∈ K) (chkP ((1, x1) ∈ K) (if (tS t 1 0 j14) = (tS t 1 0 x1) then nm (x2 + 1) (fun v19 => C_Court_isBehindAny_L2 n K t v19 x1) else bnd (C_Claim_isAheadOf K t j14 x1) (fun v20 => if v20 = 0 then nm (x2 + 1) (fun v22 => C_Court_isBehindAny_L2 n K t v22 x1) else some (0, x2, 1))))))
set_option maxHeartbeats 4000000 in
set_option maxRecDepth 100000 in
theorem r_C_Court_isBehindAny_L2 {p : Program} {l : Launch} {e : Env} {s : State} {m : MethodId} {args : Array Value} {below : List Frame} {meth : Method} {c : Code} {Q : State → Prop} {Ev : EvT} {D : va_G} {cs : Nat → ClassId} {ad : AD} {A : Nat → Prop} {ek ev : Nat → Nat} {tp : Nat} (C : Cx p s m args c cX2_isBehindAny 4 wsX2_isBehindAny RX2) {K : List (Nat × Nat)} (hKS : KS K) (hEv : EvC Ev ek ev tp) : ∀ (n : Nat) (t : TH) (x2 : Int32) (x1 : Nat) (H : Heap) (locs : List Loc) (ls : Array Slot) (X : Nat × Int32 × Int32), some X = C_Court_isBehindAny_L2 n K t x2 x1 → GW Ev D (tyC cs) (wC cs ad K) A s t H locs → lv_has ls 4 [(2, .int x2), (0, .ref (ad 2 0)), (1, .ref (ad 1 x1))] → (∀ (z2 : Int32) (w0 : Int32) (H : Heap) (locs : List Loc) (ls : Array Slot), X = (0, z2, w0) → GW Ev D (tyC cs) (wC cs ad K) A s t H locs → lv_has ls 4 [(2, .int z2), (0, .ref (ad 2 0)), (1, .ref (ad 1 x1))] → W p l e rm_C_Court_isBehindAny s m args below meth c H locs 0 0 Q (F0 m 40 ls [.int w0])) → (∀ (z2 : Int32) (w0 : Int32) (H : Heap) (locs : List Loc) (ls : Array Slot), X = (1, z2, w0) → GW Ev D (tyC cs) (wC cs ad K) A s t H locs → lv_has ls 4 [(2, .int z2), (0, .ref (ad 2 0)), (1, .ref (ad 1 x1))] → W p l e rm_C_Court_isBehindAny s m args below meth c H locs 0 0 Q (F0 m 47 ls [])) → W p l e rm_C_Court_isBehindAny s m args below meth c H locs 0 0 Q (F0 m 2 ls []) := by
  have hin1 : ∀ w ∈ wsX10, w ∈ wsX2_isBehindAny := fun w hw => List.mem_cons_of_mem _ (List.mem_append_right _ hw)
  have hin2 : ∀ w ∈ wsX20, w ∈ wsX2_isBehindAny := fun w hw => List.mem_cons_of_mem _ (List.mem_append_left _ (List.mem_append_right _ hw))
  have f1_0 : (Cond.fieldLink RX2 88 (TX1 0).1 (TX1 0).2.1 (TX1 0).2.2.1).before _ s = true := C.2.2.2.2 _ (List.mem_of_getElem? (i := 2) rfl)
  have f2_5 : (Cond.fieldLink RX2 27 (TX2 5).1 (TX2 5).2.1 (TX2 5).2.2.1).before _ s = true := C.2.2.2.2 _ (List.mem_of_getElem? (i := 1) rfl)
  intro n
  induction n with
  | zero =>
    intro t x2 x1 H locs ls X hX hW hl K0 K1
    cases hX
  | succ n ih =>
    intro t x2 x1 H locs ls X hX hW hl K0 K1
    unfold C_Court_isBehindAny_L2 at hX
    refine lv_iload_n C.1 C.2.1 dX2_isBehindAny_2 rfl (lv_at hl 0 rfl) ?_
    refine lv_aload_n C.1 C.2.1 dX2_isBehindAny_3 rfl (lv_at hl 1 rfl) ?_
    refine C_get C hW 2 rfl hin2 hKS.k2_0 rfl 5 (by decide) rfl f2_5 dX2_isBehindAny_4 ?_
    refine lv_icmp_ge (tgt := 47) C.1 C.2.1 dX2_isBehindAny_7 (by decide) (fun c12 => ?_) (fun c12 => ?_)
    · have hX := br_p hX c12
      exact K1 x2 0 H locs ls (Option.some.inj hX) hW (lv_sub hl [0, 1, 2] rfl)
    have hX := br_n hX c12
    refine lv_aload_n C.1 C.2.1 dX2_isBehindAny_10 rfl (lv_at hl 1 rfl) ?_
    refine lv_iload_n C.1 C.2.1 dX2_isBehindAny_11 rfl (lv_at hl 0 rfl) ?_
    obtain ⟨v13, hq, hX⟩ := bnd_st hX
    refine G_V0r (As := [.int x2]) (rest := []) C hW (c_C_Court_lawfulAt l D cs ad K hKS hEv t x2 v13 hq.symm) (cwV 1 C.2.2.2.2 gX2_isBehindAny_X2_lawfulAt rfl rfl rfl (by decide +kernel) ⟨Nat.le_of_ble_eq_true rfl, Nat.le_of_ble_eq_true rfl⟩) (C_recv hW 2 hKS.k2_0 rfl rfl) rfl hl.1 rfl (Nat.le_of_ble_eq_true rfl) dX2_isBehindAny_12 (fun H locs hW => ?_)
    refine lv_astore_nQ (i := 3) (lv' := [(3, va_re (ad 1) v13), (2, .int x2), (0, .ref (ad 2 0)), (1, .ref (ad 1 x1))]) C.1 C.2.1 dX2_isBehindAny_15 rfl hl (by decide) rfl (fun ls hl => ?_)
    refine lv_aload_nQ C.1 C.2.1 dX2_isBehindAny_16 rfl (lv_at hl 0 rfl) ?_
    refine lv_ifnullQ (tgt := 41) C.1 C.2.1 dX2_isBehindAny_17 (by decide) (fun hj14 => ?_) (fun j14 hj14 => ?_)
    · have hX := opt_n hX hj14
      obtain ⟨v15, ev15⟩ : ∃ z : Int32, z = x2 + 1 := ⟨_, rfl⟩
      have hX := nm_st hX ev15
      refine lv_iinc (v := v15) (lv' := [(2, .int v15), (3, va_re (ad 1) v13), (0, .ref (ad 2 0)), (1, .ref (ad 1 x1))]) C.1 C.2.1 dX2_isBehindAny_41 hl (k := 1) rfl (by rw [ev15]; rfl) (by decide) rfl (fun ls hl => ?_)
      refine lv_goto (tgt := 2) C.1 C.2.1 dX2_isBehindAny_44 (by decide) ?_
      exact ih t v15 x1 H locs ls X hX hW (lv_sub hl [0, 2, 3] rfl) K0 K1
    have hX := opt_s hX hj14
    refine lv_aload_nQ C.1 C.2.1 dX2_isBehindAny_20 rfl (lv_at hl 0 rfl) ?_
    refine lv_topq hj14 ?_
    obtain ⟨hk16, hX⟩ := chkP_st hX
    refine C_get C hW 1 rfl hin1 hk16 rfl 0 (by decide) rfl f1_0 dX2_isBehindAny_21 ?_
    refine lv_aload_n C.1 C.2.1 dX2_isBehindAny_24 rfl (lv_at hl 3 rfl) ?_
    obtain ⟨hk17, hX⟩ := chkP_st hX
    refine C_get C hW 1 rfl hin1 hk17 rfl 0 (by decide) rfl f1_0 dX2_isBehindAny_25 ?_
    refine lv_icmp_eq (tgt := 41) C.1 C.2.1 dX2_isBehindAny_28 (by decide) (fun c18 => ?_) (fun c18 => ?_)
    · have hX := br_p hX c18
      obtain ⟨v19, ev19⟩ : ∃ z : Int32, z = x2 + 1 := ⟨_, rfl⟩
      have hX := nm_st hX ev19
      refine lv_iinc (v := v19) (lv' := [(2, .int v19), (3, va_re (ad 1) v13), (0, .ref (ad 2 0)), (1, .ref (ad 1 x1))]) C.1 C.2.1 dX2_isBehindAny_41 hl (k := 1) rfl (by rw [ev19]; rfl) (by decide) rfl (fun ls hl => ?_)
      refine lv_goto (tgt := 2) C.1 C.2.1 dX2_isBehindAny_44 (by decide) ?_
      exact ih t v19 x1 H locs ls X hX hW (lv_sub hl [0, 2, 3] rfl) K0 K1
    have hX := br_n hX c18
    refine lv_aload_nQ C.1 C.2.1 dX2_isBehindAny_31 rfl (lv_at hl 0 rfl) ?_
    refine lv_aload_n C.1 C.2.1 dX2_isBehindAny_32 rfl (lv_at hl 3 rfl) ?_
    rw [show va_re (ad 1) v13 = .ref (ad 1 j14) from by rw [hj14]; rfl]
    obtain ⟨v20, hq, hX⟩ := bnd_st hX
    refine G_V0p (As := [.ref (ad 1 x1)]) (rest := []) C hW (c_C_Claim_isAheadOf l D cs ad K hKS hEv t j14 x1 v20 hq.symm) (cwV 1 C.2.2.2.2 gX2_isBehindAny_X1_isAheadOf rfl rfl rfl (by decide +kernel) ⟨Nat.le_of_ble_eq_true rfl, Nat.le_of_ble_eq_true rfl⟩) (C_recv hW 1 hk16 rfl rfl) rfl hl.1 rfl (Nat.le_of_ble_eq_true rfl) dX2_isBehindAny_33 (fun H locs hW => ?_)
    refine lv_if_eq (tgt := 41) C.1 C.2.1 dX2_isBehindAny_36 (by decide) (fun c21 => ?_) (fun c21 => ?_)
    · have hX := br_p hX c21
      obtain ⟨v22, ev22⟩ : ∃ z : Int32, z = x2 + 1 := ⟨_, rfl⟩
      have hX := nm_st hX ev22
      refine lv_iinc (v := v22) (lv' := [(2, .int v22), (3, va_re (ad 1) v13), (0, .ref (ad 2 0)), (1, .ref (ad 1 x1))]) C.1 C.2.1 dX2_isBehindAny_41 hl (k := 1) rfl (by rw [ev22]; rfl) (by decide) rfl (fun ls hl => ?_)
      refine lv_goto (tgt := 2) C.1 C.2.1 dX2_isBehindAny_44 (by decide) ?_
      exact ih t v22 x1 H locs ls X hX hW (lv_sub hl [0, 2, 3] rfl) K0 K1
    have hX := br_n hX c21
    refine lv_iconst (v := 1) C.1 C.2.1 dX2_isBehindAny_39 (by decide) ?_
    exact K0 x2 1 H locs ls (Option.some.inj hX) hW (lv_sub hl [1, 2, 3] rfl)
def C_Court_isBehindAny (K : List (Nat × Nat)) (t : TH) (x1 : Nat) : Option (Int32) := bnd (C_Court_isBehindAny_L2 100000 K t 0 x1) (fun q => nm2 q (fun j q => nm2 q (fun v23 v24 => if j = 0 then chkZ v24 (some v24) else if j = 1 then some 0 else none)))
set_option maxHeartbeats 4000000 in
set_option maxRecDepth 100000 in
theorem c_C_Court_isBehindAny {Ev : EvT} {ek ev : Nat → Nat} {tp : Nat} (l : Launch) (D : va_G) (cs : Nat → ClassId) (ad : AD) (K : List (Nat × Nat)) (hKS : KS K) (hEv : EvC Ev ek ev tp) (t : TH) (x1 : Nat) (X : Int32) (hX : some X = C_Court_isBehindAny K t x1) : cGi Ev l D (tyC cs) (wC cs ad K) yX2_isBehindAny wsX2_isBehindAny rm_C_Court_isBehindAny 0 0 [.ref (ad 2 0), .ref (ad 1 x1)] t (fun r u => r = X ∧ u = t) := by
  refine G_ini (cc := cX2_isBehindAny) (maxL := 4) (ret := some .boolean) (by decide) rfl (Nat.le_of_ble_eq_true rfl) ?_
  intro p e s m below meth c A ls C hr hlk hini hA hW hl
  have C : Cx p s m _ c cX2_isBehindAny 4 wsX2_isBehindAny RX2 := C
  have hl : lv_has ls 4 [(0, .ref (ad 2 0)), (1, .ref (ad 1 x1))] := hl
  have hin1 : ∀ w ∈ wsX10, w ∈ wsX2_isBehindAny := fun w hw => List.mem_cons_of_mem _ (List.mem_append_right _ hw)
  have hin2 : ∀ w ∈ wsX20, w ∈ wsX2_isBehindAny := fun w hw => List.mem_cons_of_mem _ (List.mem_append_left _ (List.mem_append_right _ hw))
  have f1_0 : (Cond.fieldLink RX2 88 (TX1 0).1 (TX1 0).2.1 (TX1 0).2.2.1).before _ s = true := C.2.2.2.2 _ (List.mem_of_getElem? (i := 2) rfl)
  have f2_5 : (Cond.fieldLink RX2 27 (TX2 5).1 (TX2 5).2.1 (TX2 5).2.2.1).before _ s = true := C.2.2.2.2 _ (List.mem_of_getElem? (i := 1) rfl)
  obtain ⟨H, hH⟩ : ∃ H, H = s.heap := ⟨_, rfl⟩
  obtain ⟨locs, hlo⟩ : ∃ z : List Loc, z = [] := ⟨_, rfl⟩
  have hW : GW Ev D (tyC cs) (wC cs ad K) A s t H locs := by rw [hH, hlo]; exact hW
  rw [show W p l e rm_C_Court_isBehindAny s m _ below meth c s.heap [] = W p l e rm_C_Court_isBehindAny s m _ below meth c H locs from by rw [hH, hlo]]
  unfold C_Court_isBehindAny at hX
  refine lv_iconst (v := 0) C.1 C.2.1 dX2_isBehindAny_0 (by decide) ?_
  refine lv_istore_n (i := 2) (lv' := [(2, .int 0), (0, .ref (ad 2 0)), (1, .ref (ad 1 x1))]) C.1 C.2.1 dX2_isBehindAny_1 rfl hl (by decide) rfl (fun ls hl => ?_)
  obtain ⟨q, hq, hX⟩ := bnd_st hX
  refine r_C_Court_isBehindAny_L2 C hKS hEv 100000 t 0 x1 H locs ls q hq.symm hW (lv_sub hl [0, 1, 2] rfl) ?_ ?_
  · intro v23 v24 H locs ls hq hW hl
    subst hq
    have hX := nm2_st hX rfl
    have hX := nm2_st hX rfl
    have hX := br_p hX rfl
    obtain ⟨hz, hX⟩ := chkZ_st hX
    exact G_retz C hr hlk hA hW hz.1 ⟨(Option.some.inj hX).symm, rfl⟩ dX2_isBehindAny_40
  intro v25 v26 H locs ls hq hW hl
  subst hq
  have hX := nm2_st hX rfl
  have hX := nm2_st hX rfl
  have hX := br_n hX (by decide)
  have hX := br_p hX rfl
  refine lv_iconst (v := 0) C.1 C.2.1 dX2_isBehindAny_47 (by decide) ?_
  exact G_retz C hr hlk hA hW rfl ⟨(Option.some.inj hX).symm, rfl⟩ dX2_isBehindAny_48
abbrev rm_C_Court_winnerByDoubt : Room := { frames := 2, cells := 0, slots := 0, locals := 44 }
def C_Court_winnerByDoubt_L4 : Nat → List (Nat × Nat) → TH → Int32 → Option Nat → Option (Int32 × Option Nat)
  | 0, _, _, _, _ => none
  | n + 1, K, t, x2, x1 => if (tS t 2 5 0) ≤ x2 then some (x2, x1) else if (tS t 4 4 0) = 2 then some (x2, x1) else bnd (C_Court_lawfulAt K t x2) (fun v38 => opt v38 (nm (x2 + 1) (fun v40 => C_Court_winnerByDoubt_L4 n K t v40 x1)) (fun j39 => bnd (C_Court_isBehindAny K t j39) (fun v41 => if v41 = 0 then if (tS t 4 4 0) = 1 then opt x1 (opt x1 (nm (x2 + 1) (fun v52 => C_Court_winnerByDoubt_L4 n K t v52 v38)) (fun j51 => if (0 : Int32) = 0 then nm (x2 + 1) (fun v54 => C_Court_winnerByDoubt_L4 n K t v54 x1) else nm (x2 + 1) (fun v55 => C_Court_winnerByDoubt_L4 n K t v55 v38))) (fun j50 => chkP ((1, j39) ∈ K) (nm (tP t 1 1 j39) (fun v57 => opt v57 none (fun j58 => chkP ((7, j58) ∈ K) (chkP ((1, j50) ∈ K) (nm (tP t 1 1 j50) (fun v61 => opt v61 none (fun j62 => chkP ((7, j62) ∈ K) (if (tS t 7 3 j62) ≤ (tS t 7 3 j58) then if (0 : Int32) = 0 then nm (x2 + 1) (fun v66 => C_Court_winnerByDoubt_L4 n K t v66 x1) else nm (x2 + 1) (fun v67 => C_Court_winnerByDoubt_L4 n K t v67 v38) else if (1 : Int32) = 0 then nm (x2 + 1) (fun v69 => C_Court_winnerByDoubt_L4 n K t v69 x1) else nm (x2 + 1) (fun v70 => C_Court_winnerByDoubt_L4 n K t v70 v38)))))))))) else opt x1 (nm (x2 + 1) (fun v46 => C_Court_winnerByDoubt_L4 n K t v46 v38)) (fun j45 => if (0 : Int32) = 0 then nm (x2 + 1) (fun v48 => C_Court_winnerByDoubt_L4 n K t v48 x1) else nm (x2 + 1) (fun v49 => C_Court_winnerByDoubt_L4 n K t v49 v38)) else nm (x2 + 1) (fun v43 => C_Court_winnerByDoubt_L4 n K t v43 x1))))
set_option maxHeartbeats 4000000 in
set_option maxRecDepth 100000 in
theorem r_C_Court_winnerByDoubt_L4 {p : Program} {l : Launch} {e : Env} {s : State} {m : MethodId} {args : Array Value} {below : List Frame} {meth : Method} {c : Code} {Q : State → Prop} {Ev : EvT} {D : va_G} {cs : Nat → ClassId} {ad : AD} {A : Nat → Prop} {ek ev : Nat → Nat} {tp : Nat} (C : Cx p s m args c cX2_winnerByDoubt 5 wsX2_winnerByDoubt RX2) {K : List (Nat × Nat)} (hKS : KS K) (hEv : EvC Ev ek ev tp) : ∀ (n : Nat) (t : TH) (x2 : Int32) (x1 : Option Nat) (H : Heap) (locs : List Loc) (ls : Array Slot) (X : Int32 × Option Nat), some X = C_Court_winnerByDoubt_L4 n K t x2 x1 → GW Ev D (tyC cs) (wC cs ad K) A s t H locs → lv_has ls 5 [(2, .int x2), (1, va_re (ad 1) x1), (0, .ref (ad 2 0))] → (∀ (z2 : Int32) (z1 : Option Nat) (H : Heap) (locs : List Loc) (ls : Array Slot), X = (z2, z1) → GW Ev D (tyC cs) (wC cs ad K) A s t H locs → lv_has ls 5 [(2, .int z2), (1, va_re (ad 1) z1), (0, .ref (ad 2 0))] → W p l e rm_C_Court_winnerByDoubt s m args below meth c H locs 0 0 Q (F0 m 97 ls [])) → W p l e rm_C_Court_winnerByDoubt s m args below meth c H locs 0 0 Q (F0 m 4 ls []) := by
  have hin1 : ∀ w ∈ wsX10, w ∈ wsX2_winnerByDoubt := fun w hw => List.mem_cons_of_mem _ (List.mem_append_left _ (List.mem_append_right _ hw))
  have hin2 : ∀ w ∈ wsX20, w ∈ wsX2_winnerByDoubt := fun w hw => List.mem_cons_of_mem _ (List.mem_append_left _ (List.mem_append_left _ (List.mem_append_left _ (List.mem_append_right _ hw))))
  have hin4 : ∀ w ∈ wsX40, w ∈ wsX2_winnerByDoubt := fun w hw => List.mem_cons_of_mem _ (List.mem_append_left _ (List.mem_append_left _ (List.mem_append_right _ hw)))
  have hin7 : ∀ w ∈ wsX70, w ∈ wsX2_winnerByDoubt := fun w hw => List.mem_cons_of_mem _ (List.mem_append_right _ hw)
  have f1_1 : (Cond.fieldLink RX2 41 (TX1 1).1 (TX1 1).2.1 (TX1 1).2.2.1).before _ s = true := C.2.2.2.2 _ (List.mem_of_getElem? (i := 4) rfl)
  have f2_0 : (Cond.fieldLink RX2 30 (TX2 0).1 (TX2 0).2.1 (TX2 0).2.2.1).before _ s = true := C.2.2.2.2 _ (List.mem_of_getElem? (i := 2) rfl)
  have f2_5 : (Cond.fieldLink RX2 27 (TX2 5).1 (TX2 5).2.1 (TX2 5).2.2.1).before _ s = true := C.2.2.2.2 _ (List.mem_of_getElem? (i := 1) rfl)
  have f4_4 : (Cond.fieldLink RX2 92 (TX4 4).1 (TX4 4).2.1 (TX4 4).2.2.1).before _ s = true := C.2.2.2.2 _ (List.mem_of_getElem? (i := 3) rfl)
  have f7_3 : (Cond.fieldLink RX2 98 (TX7 3).1 (TX7 3).2.1 (TX7 3).2.2.1).before _ s = true := C.2.2.2.2 _ (List.mem_of_getElem? (i := 5) rfl)
  intro n
  induction n with
  | zero =>
    intro t x2 x1 H locs ls X hX hW hl K0
    cases hX
  | succ n ih =>
    intro t x2 x1 H locs ls X hX hW hl K0
    unfold C_Court_winnerByDoubt_L4 at hX
    refine lv_iload_n C.1 C.2.1 dX2_winnerByDoubt_4 rfl (lv_at hl 0 rfl) ?_
    refine lv_aload_n C.1 C.2.1 dX2_winnerByDoubt_5 rfl (lv_at hl 2 rfl) ?_
    refine C_get C hW 2 rfl hin2 hKS.k2_0 rfl 5 (by decide) rfl f2_5 dX2_winnerByDoubt_6 ?_
    refine lv_icmp_ge (tgt := 97) C.1 C.2.1 dX2_winnerByDoubt_9 (by decide) (fun c36 => ?_) (fun c36 => ?_)
    · have hX := br_p hX c36
      exact K0 x2 x1 H locs ls (Option.some.inj hX) hW (lv_sub hl [0, 1, 2] rfl)
    have hX := br_n hX c36
    refine lv_aload_n C.1 C.2.1 dX2_winnerByDoubt_12 rfl (lv_at hl 2 rfl) ?_
    refine C_get C hW 2 rfl hin2 hKS.k2_0 rfl 0 (by decide) rfl f2_0 dX2_winnerByDoubt_13 ?_
    refine C_get C hW 4 rfl hin4 hKS.k4_0 rfl 4 (by decide) rfl f4_4 dX2_winnerByDoubt_16 ?_
    refine lv_iconst (v := 2) C.1 C.2.1 dX2_winnerByDoubt_19 (by decide) ?_
    refine lv_icmp_eq (tgt := 97) C.1 C.2.1 dX2_winnerByDoubt_20 (by decide) (fun c37 => ?_) (fun c37 => ?_)
    · have hX := br_p hX c37
      exact K0 x2 x1 H locs ls (Option.some.inj hX) hW (lv_sub hl [0, 1, 2] rfl)
    have hX := br_n hX c37
    refine lv_aload_n C.1 C.2.1 dX2_winnerByDoubt_23 rfl (lv_at hl 2 rfl) ?_
    refine lv_iload_n C.1 C.2.1 dX2_winnerByDoubt_24 rfl (lv_at hl 0 rfl) ?_
    obtain ⟨v38, hq, hX⟩ := bnd_st hX
    refine G_V0r (As := [.int x2]) (rest := []) C hW (c_C_Court_lawfulAt l D cs ad K hKS hEv t x2 v38 hq.symm) (cwV 1 C.2.2.2.2 gX2_winnerByDoubt_X2_lawfulAt rfl rfl rfl (by decide +kernel) ⟨Nat.le_of_ble_eq_true rfl, Nat.le_of_ble_eq_true rfl⟩) (C_recv hW 2 hKS.k2_0 rfl rfl) rfl hl.1 rfl (Nat.le_of_ble_eq_true rfl) dX2_winnerByDoubt_25 (fun H locs hW => ?_)
    refine lv_astore_nQ (i := 3) (lv' := [(3, va_re (ad 1) v38), (2, .int x2), (1, va_re (ad 1) x1), (0, .ref (ad 2 0))]) C.1 C.2.1 dX2_winnerByDoubt_28 rfl hl (by decide) rfl (fun ls hl => ?_)
    refine lv_aload_nQ C.1 C.2.1 dX2_winnerByDoubt_29 rfl (lv_at hl 0 rfl) ?_
    refine lv_ifnullQ (tgt := 91) C.1 C.2.1 dX2_winnerByDoubt_30 (by decide) (fun hj39 => ?_) (fun j39 hj39 => ?_)
    · have hX := opt_n hX hj39
      obtain ⟨v40, ev40⟩ : ∃ z : Int32, z = x2 + 1 := ⟨_, rfl⟩
      have hX := nm_st hX ev40
      refine lv_iinc (v := v40) (lv' := [(2, .int v40), (3, va_re (ad 1) v38), (1, va_re (ad 1) x1), (0, .ref (ad 2 0))]) C.1 C.2.1 dX2_winnerByDoubt_91 hl (k := 1) rfl (by rw [ev40]; rfl) (by decide) (by simp [re_cat]) (fun ls hl => ?_)
      refine lv_goto (tgt := 4) C.1 C.2.1 dX2_winnerByDoubt_94 (by decide) ?_
      exact ih t v40 x1 H locs ls X hX hW (lv_sub hl [0, 2, 3] rfl) K0
    have hX := opt_s hX hj39
    refine lv_aload_n C.1 C.2.1 dX2_winnerByDoubt_33 rfl (lv_at hl 3 rfl) ?_
    refine lv_aload_nQ C.1 C.2.1 dX2_winnerByDoubt_34 rfl (lv_at hl 0 rfl) ?_
    rw [show va_re (ad 1) v38 = .ref (ad 1 j39) from by rw [hj39]; rfl]
    obtain ⟨v41, hq, hX⟩ := bnd_st hX
    refine G_V0p (As := [.ref (ad 1 j39)]) (rest := []) C hW (c_C_Court_isBehindAny l D cs ad K hKS hEv t j39 v41 hq.symm) (cwV 1 C.2.2.2.2 gX2_winnerByDoubt_X2_isBehindAny rfl rfl rfl (by decide +kernel) ⟨Nat.le_of_ble_eq_true rfl, Nat.le_of_ble_eq_true rfl⟩) (C_recv hW 2 hKS.k2_0 rfl rfl) rfl hl.1 rfl (Nat.le_of_ble_eq_true rfl) dX2_winnerByDoubt_35 (fun H locs hW => ?_)
    refine lv_if_ne (tgt := 91) C.1 C.2.1 dX2_winnerByDoubt_38 (by decide) (fun c42 => ?_) (fun c42 => ?_)
    · have hX := br_n hX c42
      obtain ⟨v43, ev43⟩ : ∃ z : Int32, z = x2 + 1 := ⟨_, rfl⟩
      have hX := nm_st hX ev43
      refine lv_iinc (v := v43) (lv' := [(2, .int v43), (3, va_re (ad 1) v38), (1, va_re (ad 1) x1), (0, .ref (ad 2 0))]) C.1 C.2.1 dX2_winnerByDoubt_91 hl (k := 1) rfl (by rw [ev43]; rfl) (by decide) (by simp [re_cat]) (fun ls hl => ?_)
      refine lv_goto (tgt := 4) C.1 C.2.1 dX2_winnerByDoubt_94 (by decide) ?_
      exact ih t v43 x1 H locs ls X hX hW (lv_sub hl [0, 2, 3] rfl) K0
    have hX := br_p hX c42
    refine lv_aload_n C.1 C.2.1 dX2_winnerByDoubt_41 rfl (lv_at hl 3 rfl) ?_
    refine C_get C hW 2 rfl hin2 hKS.k2_0 rfl 0 (by decide) rfl f2_0 dX2_winnerByDoubt_42 ?_
    refine C_get C hW 4 rfl hin4 hKS.k4_0 rfl 4 (by decide) rfl f4_4 dX2_winnerByDoubt_45 ?_
    refine lv_iconst (v := 1) C.1 C.2.1 dX2_winnerByDoubt_48 (by decide) ?_
    refine lv_icmp_ne (tgt := 77) C.1 C.2.1 dX2_winnerByDoubt_49 (by decide) (fun c44 => ?_) (fun c44 => ?_)
    · have hX := br_n hX c44
      refine lv_iconst (v := 0) C.1 C.2.1 dX2_winnerByDoubt_77 (by decide) ?_
      refine lv_istore (i := 4) (lv' := [(4, .int 0), (3, va_re (ad 1) v38), (2, .int x2), (1, va_re (ad 1) x1), (0, .ref (ad 2 0))]) C.1 C.2.1 dX2_winnerByDoubt_78 hl (by decide) (by simp [re_cat]) (fun ls hl => ?_)
      refine lv_aload_nQ C.1 C.2.1 dX2_winnerByDoubt_80 rfl (lv_at hl 3 rfl) ?_
      refine lv_ifnullQ (tgt := 89) C.1 C.2.1 dX2_winnerByDoubt_81 (by decide) (fun hj45 => ?_) (fun j45 hj45 => ?_)
      · have hX := opt_n hX hj45
        refine lv_aload_nQ C.1 C.2.1 dX2_winnerByDoubt_89 rfl (lv_at hl 1 rfl) ?_
        refine lv_astore_nQ (i := 1) (lv' := [(1, va_re (ad 1) v38), (4, .int 0), (3, va_re (ad 1) v38), (2, .int x2), (0, .ref (ad 2 0))]) C.1 C.2.1 dX2_winnerByDoubt_90 rfl hl (by decide) rfl (fun ls hl => ?_)
        obtain ⟨v46, ev46⟩ : ∃ z : Int32, z = x2 + 1 := ⟨_, rfl⟩
        have hX := nm_st hX ev46
        refine lv_iinc (v := v46) (lv' := [(2, .int v46), (1, va_re (ad 1) v38), (4, .int 0), (3, va_re (ad 1) v38), (0, .ref (ad 2 0))]) C.1 C.2.1 dX2_winnerByDoubt_91 hl (k := 3) rfl (by rw [ev46]; rfl) (by decide) (by simp [re_cat]) (fun ls hl => ?_)
        refine lv_goto (tgt := 4) C.1 C.2.1 dX2_winnerByDoubt_94 (by decide) ?_
        exact ih t v46 v38 H locs ls X hX hW (lv_sub hl [0, 1, 4] rfl) K0
      have hX := opt_s hX hj45
      refine lv_iload C.1 C.2.1 dX2_winnerByDoubt_84 (lv_at hl 0 rfl) ?_
      refine lv_if_eq (tgt := 91) C.1 C.2.1 dX2_winnerByDoubt_86 (by decide) (fun c47 => ?_) (fun c47 => ?_)
      · have hX := br_p hX c47
        obtain ⟨v48, ev48⟩ : ∃ z : Int32, z = x2 + 1 := ⟨_, rfl⟩
        have hX := nm_st hX ev48
        refine lv_iinc (v := v48) (lv' := [(2, .int v48), (4, .int 0), (3, va_re (ad 1) v38), (1, va_re (ad 1) x1), (0, .ref (ad 2 0))]) C.1 C.2.1 dX2_winnerByDoubt_91 hl (k := 2) rfl (by rw [ev48]; rfl) (by decide) (by simp [re_cat]) (fun ls hl => ?_)
        refine lv_goto (tgt := 4) C.1 C.2.1 dX2_winnerByDoubt_94 (by decide) ?_
        exact ih t v48 x1 H locs ls X hX hW (lv_sub hl [0, 3, 4] rfl) K0
      have hX := br_n hX c47
      refine lv_aload_nQ C.1 C.2.1 dX2_winnerByDoubt_89 rfl (lv_at hl 1 rfl) ?_
      refine lv_astore_nQ (i := 1) (lv' := [(1, va_re (ad 1) v38), (4, .int 0), (3, va_re (ad 1) v38), (2, .int x2), (0, .ref (ad 2 0))]) C.1 C.2.1 dX2_winnerByDoubt_90 rfl hl (by decide) rfl (fun ls hl => ?_)
      obtain ⟨v49, ev49⟩ : ∃ z : Int32, z = x2 + 1 := ⟨_, rfl⟩
      have hX := nm_st hX ev49
      refine lv_iinc (v := v49) (lv' := [(2, .int v49), (1, va_re (ad 1) v38), (4, .int 0), (3, va_re (ad 1) v38), (0, .ref (ad 2 0))]) C.1 C.2.1 dX2_winnerByDoubt_91 hl (k := 3) rfl (by rw [ev49]; rfl) (by decide) (by simp [re_cat]) (fun ls hl => ?_)
      refine lv_goto (tgt := 4) C.1 C.2.1 dX2_winnerByDoubt_94 (by decide) ?_
      exact ih t v49 v38 H locs ls X hX hW (lv_sub hl [0, 1, 4] rfl) K0
    have hX := br_p hX c44
    refine lv_aload_nQ C.1 C.2.1 dX2_winnerByDoubt_52 rfl (lv_at hl 2 rfl) ?_
    refine lv_ifnullQ (tgt := 77) C.1 C.2.1 dX2_winnerByDoubt_53 (by decide) (fun hj50 => ?_) (fun j50 hj50 => ?_)
    · have hX := opt_n hX hj50
      refine lv_iconst (v := 0) C.1 C.2.1 dX2_winnerByDoubt_77 (by decide) ?_
      refine lv_istore (i := 4) (lv' := [(4, .int 0), (3, va_re (ad 1) v38), (2, .int x2), (1, va_re (ad 1) x1), (0, .ref (ad 2 0))]) C.1 C.2.1 dX2_winnerByDoubt_78 hl (by decide) (by simp [re_cat]) (fun ls hl => ?_)
      refine lv_aload_nQ C.1 C.2.1 dX2_winnerByDoubt_80 rfl (lv_at hl 3 rfl) ?_
      refine lv_ifnullQ (tgt := 89) C.1 C.2.1 dX2_winnerByDoubt_81 (by decide) (fun hj51 => ?_) (fun j51 hj51 => ?_)
      · have hX := opt_n hX hj51
        refine lv_aload_nQ C.1 C.2.1 dX2_winnerByDoubt_89 rfl (lv_at hl 1 rfl) ?_
        refine lv_astore_nQ (i := 1) (lv' := [(1, va_re (ad 1) v38), (4, .int 0), (3, va_re (ad 1) v38), (2, .int x2), (0, .ref (ad 2 0))]) C.1 C.2.1 dX2_winnerByDoubt_90 rfl hl (by decide) rfl (fun ls hl => ?_)
        obtain ⟨v52, ev52⟩ : ∃ z : Int32, z = x2 + 1 := ⟨_, rfl⟩
        have hX := nm_st hX ev52
        refine lv_iinc (v := v52) (lv' := [(2, .int v52), (1, va_re (ad 1) v38), (4, .int 0), (3, va_re (ad 1) v38), (0, .ref (ad 2 0))]) C.1 C.2.1 dX2_winnerByDoubt_91 hl (k := 3) rfl (by rw [ev52]; rfl) (by decide) (by simp [re_cat]) (fun ls hl => ?_)
        refine lv_goto (tgt := 4) C.1 C.2.1 dX2_winnerByDoubt_94 (by decide) ?_
        exact ih t v52 v38 H locs ls X hX hW (lv_sub hl [0, 1, 4] rfl) K0
      have hX := opt_s hX hj51
      refine lv_iload C.1 C.2.1 dX2_winnerByDoubt_84 (lv_at hl 0 rfl) ?_
      refine lv_if_eq (tgt := 91) C.1 C.2.1 dX2_winnerByDoubt_86 (by decide) (fun c53 => ?_) (fun c53 => ?_)
      · have hX := br_p hX c53
        obtain ⟨v54, ev54⟩ : ∃ z : Int32, z = x2 + 1 := ⟨_, rfl⟩
        have hX := nm_st hX ev54
        refine lv_iinc (v := v54) (lv' := [(2, .int v54), (4, .int 0), (3, va_re (ad 1) v38), (1, va_re (ad 1) x1), (0, .ref (ad 2 0))]) C.1 C.2.1 dX2_winnerByDoubt_91 hl (k := 2) rfl (by rw [ev54]; rfl) (by decide) (by simp [re_cat]) (fun ls hl => ?_)
        refine lv_goto (tgt := 4) C.1 C.2.1 dX2_winnerByDoubt_94 (by decide) ?_
        exact ih t v54 x1 H locs ls X hX hW (lv_sub hl [0, 3, 4] rfl) K0
      have hX := br_n hX c53
      refine lv_aload_nQ C.1 C.2.1 dX2_winnerByDoubt_89 rfl (lv_at hl 1 rfl) ?_
      refine lv_astore_nQ (i := 1) (lv' := [(1, va_re (ad 1) v38), (4, .int 0), (3, va_re (ad 1) v38), (2, .int x2), (0, .ref (ad 2 0))]) C.1 C.2.1 dX2_winnerByDoubt_90 rfl hl (by decide) rfl (fun ls hl => ?_)
      obtain ⟨v55, ev55⟩ : ∃ z : Int32, z = x2 + 1 := ⟨_, rfl⟩
      have hX := nm_st hX ev55
      refine lv_iinc (v := v55) (lv' := [(2, .int v55), (1, va_re (ad 1) v38), (4, .int 0), (3, va_re (ad 1) v38), (0, .ref (ad 2 0))]) C.1 C.2.1 dX2_winnerByDoubt_91 hl (k := 3) rfl (by rw [ev55]; rfl) (by decide) (by simp [re_cat]) (fun ls hl => ?_)
      refine lv_goto (tgt := 4) C.1 C.2.1 dX2_winnerByDoubt_94 (by decide) ?_
      exact ih t v55 v38 H locs ls X hX hW (lv_sub hl [0, 1, 4] rfl) K0
    have hX := opt_s hX hj50
    refine lv_aload_nQ C.1 C.2.1 dX2_winnerByDoubt_56 rfl (lv_at hl 0 rfl) ?_
    refine lv_topq hj39 ?_
    obtain ⟨hk56, hX⟩ := chkP_st hX
    refine C_get C hW 1 rfl hin1 hk56 rfl 1 (by decide) rfl f1_1 dX2_winnerByDoubt_57 ?_
    refine lv_topo (fun v57 ev57 => ?_)
    have hX := nm_st hX ev57
    obtain ⟨j58, hj58, hX⟩ := nn_st hX
    refine lv_topq hj58 ?_
    obtain ⟨hk59, hX⟩ := chkP_st hX
    refine C_get C hW 7 rfl hin7 hk59 rfl 3 (by decide) rfl f7_3 dX2_winnerByDoubt_60 ?_
    refine lv_aload_nQ C.1 C.2.1 dX2_winnerByDoubt_63 rfl (lv_at hl 2 rfl) ?_
    refine lv_topq hj50 ?_
    obtain ⟨hk60, hX⟩ := chkP_st hX
    refine C_get C hW 1 rfl hin1 hk60 rfl 1 (by decide) rfl f1_1 dX2_winnerByDoubt_64 ?_
    refine lv_topo (fun v61 ev61 => ?_)
    have hX := nm_st hX ev61
    obtain ⟨j62, hj62, hX⟩ := nn_st hX
    refine lv_topq hj62 ?_
    obtain ⟨hk63, hX⟩ := chkP_st hX
    refine C_get C hW 7 rfl hin7 hk63 rfl 3 (by decide) rfl f7_3 dX2_winnerByDoubt_67 ?_
    refine lv_icmp_ge (tgt := 77) C.1 C.2.1 dX2_winnerByDoubt_70 (by decide) (fun c64 => ?_) (fun c64 => ?_)
    · have hX := br_p hX c64
      refine lv_iconst (v := 0) C.1 C.2.1 dX2_winnerByDoubt_77 (by decide) ?_
      refine lv_istore (i := 4) (lv' := [(4, .int 0), (3, va_re (ad 1) v38), (2, .int x2), (1, va_re (ad 1) x1), (0, .ref (ad 2 0))]) C.1 C.2.1 dX2_winnerByDoubt_78 hl (by decide) (by simp [re_cat]) (fun ls hl => ?_)
      refine lv_aload_nQ C.1 C.2.1 dX2_winnerByDoubt_80 rfl (lv_at hl 3 rfl) ?_
      refine lv_topq hj50 ?_
      refine lv_ifnull C.1 C.2.1 dX2_winnerByDoubt_81 ?_
      refine lv_iload C.1 C.2.1 dX2_winnerByDoubt_84 (lv_at hl 0 rfl) ?_
      refine lv_if_eq (tgt := 91) C.1 C.2.1 dX2_winnerByDoubt_86 (by decide) (fun c65 => ?_) (fun c65 => ?_)
      · have hX := br_p hX c65
        obtain ⟨v66, ev66⟩ : ∃ z : Int32, z = x2 + 1 := ⟨_, rfl⟩
        have hX := nm_st hX ev66
        refine lv_iinc (v := v66) (lv' := [(2, .int v66), (4, .int 0), (3, va_re (ad 1) v38), (1, va_re (ad 1) x1), (0, .ref (ad 2 0))]) C.1 C.2.1 dX2_winnerByDoubt_91 hl (k := 2) rfl (by rw [ev66]; rfl) (by decide) (by simp [re_cat]) (fun ls hl => ?_)
        refine lv_goto (tgt := 4) C.1 C.2.1 dX2_winnerByDoubt_94 (by decide) ?_
        exact ih t v66 x1 H locs ls X hX hW (lv_sub hl [0, 3, 4] rfl) K0
      have hX := br_n hX c65
      refine lv_aload_nQ C.1 C.2.1 dX2_winnerByDoubt_89 rfl (lv_at hl 1 rfl) ?_
      refine lv_astore_nQ (i := 1) (lv' := [(1, va_re (ad 1) v38), (4, .int 0), (3, va_re (ad 1) v38), (2, .int x2), (0, .ref (ad 2 0))]) C.1 C.2.1 dX2_winnerByDoubt_90 rfl hl (by decide) rfl (fun ls hl => ?_)
      obtain ⟨v67, ev67⟩ : ∃ z : Int32, z = x2 + 1 := ⟨_, rfl⟩
      have hX := nm_st hX ev67
      refine lv_iinc (v := v67) (lv' := [(2, .int v67), (1, va_re (ad 1) v38), (4, .int 0), (3, va_re (ad 1) v38), (0, .ref (ad 2 0))]) C.1 C.2.1 dX2_winnerByDoubt_91 hl (k := 3) rfl (by rw [ev67]; rfl) (by decide) (by simp [re_cat]) (fun ls hl => ?_)
      refine lv_goto (tgt := 4) C.1 C.2.1 dX2_winnerByDoubt_94 (by decide) ?_
      exact ih t v67 v38 H locs ls X hX hW (lv_sub hl [0, 1, 4] rfl) K0
    have hX := br_n hX c64
    refine lv_iconst (v := 1) C.1 C.2.1 dX2_winnerByDoubt_73 (by decide) ?_
    refine lv_goto (tgt := 78) C.1 C.2.1 dX2_winnerByDoubt_74 (by decide) ?_
    refine lv_istore (i := 4) (lv' := [(4, .int 1), (3, va_re (ad 1) v38), (2, .int x2), (1, va_re (ad 1) x1), (0, .ref (ad 2 0))]) C.1 C.2.1 dX2_winnerByDoubt_78 hl (by decide) (by simp [re_cat]) (fun ls hl => ?_)
    refine lv_aload_nQ C.1 C.2.1 dX2_winnerByDoubt_80 rfl (lv_at hl 3 rfl) ?_
    refine lv_topq hj50 ?_
    refine lv_ifnull C.1 C.2.1 dX2_winnerByDoubt_81 ?_
    refine lv_iload C.1 C.2.1 dX2_winnerByDoubt_84 (lv_at hl 0 rfl) ?_
    refine lv_if_eq (tgt := 91) C.1 C.2.1 dX2_winnerByDoubt_86 (by decide) (fun c68 => ?_) (fun c68 => ?_)
    · have hX := br_p hX c68
      obtain ⟨v69, ev69⟩ : ∃ z : Int32, z = x2 + 1 := ⟨_, rfl⟩
      have hX := nm_st hX ev69
      refine lv_iinc (v := v69) (lv' := [(2, .int v69), (4, .int 1), (3, va_re (ad 1) v38), (1, va_re (ad 1) x1), (0, .ref (ad 2 0))]) C.1 C.2.1 dX2_winnerByDoubt_91 hl (k := 2) rfl (by rw [ev69]; rfl) (by decide) (by simp [re_cat]) (fun ls hl => ?_)
      refine lv_goto (tgt := 4) C.1 C.2.1 dX2_winnerByDoubt_94 (by decide) ?_
      exact ih t v69 x1 H locs ls X hX hW (lv_sub hl [0, 3, 4] rfl) K0
    have hX := br_n hX c68
    refine lv_aload_nQ C.1 C.2.1 dX2_winnerByDoubt_89 rfl (lv_at hl 1 rfl) ?_
    refine lv_astore_nQ (i := 1) (lv' := [(1, va_re (ad 1) v38), (4, .int 1), (3, va_re (ad 1) v38), (2, .int x2), (0, .ref (ad 2 0))]) C.1 C.2.1 dX2_winnerByDoubt_90 rfl hl (by decide) rfl (fun ls hl => ?_)
    obtain ⟨v70, ev70⟩ : ∃ z : Int32, z = x2 + 1 := ⟨_, rfl⟩
    have hX := nm_st hX ev70
    refine lv_iinc (v := v70) (lv' := [(2, .int v70), (1, va_re (ad 1) v38), (4, .int 1), (3, va_re (ad 1) v38), (0, .ref (ad 2 0))]) C.1 C.2.1 dX2_winnerByDoubt_91 hl (k := 3) rfl (by rw [ev70]; rfl) (by decide) (by simp [re_cat]) (fun ls hl => ?_)
    refine lv_goto (tgt := 4) C.1 C.2.1 dX2_winnerByDoubt_94 (by decide) ?_
    exact ih t v70 v38 H locs ls X hX hW (lv_sub hl [0, 1, 4] rfl) K0
def C_Court_winnerByDoubt (K : List (Nat × Nat)) (t : TH) : Option (Option Nat) := bnd (C_Court_winnerByDoubt_L4 100000 K t 0 none) (fun q => nm2 q (fun v71 v72 => some v72))
set_option maxHeartbeats 4000000 in
set_option maxRecDepth 100000 in
theorem c_C_Court_winnerByDoubt {Ev : EvT} {ek ev : Nat → Nat} {tp : Nat} (l : Launch) (D : va_G) (cs : Nat → ClassId) (ad : AD) (K : List (Nat × Nat)) (hKS : KS K) (hEv : EvC Ev ek ev tp) (t : TH) (X : Option Nat) (hX : some X = C_Court_winnerByDoubt K t) : cGe Ev (ad 1) l D (tyC cs) (wC cs ad K) yX2_winnerByDoubt wsX2_winnerByDoubt rm_C_Court_winnerByDoubt 0 0 [.ref (ad 2 0)] t (fun r u => r = X ∧ u = t) := by
  refine G_ine (cc := cX2_winnerByDoubt) (maxL := 5) (ret := some (.object "LandRun$Claim")) (by decide) rfl (Nat.le_of_ble_eq_true rfl) ?_
  intro p e s m below meth c A ls C hr hlk hini hA hW hl
  have C : Cx p s m _ c cX2_winnerByDoubt 5 wsX2_winnerByDoubt RX2 := C
  have hl : lv_has ls 5 [(0, .ref (ad 2 0))] := hl
  have hin1 : ∀ w ∈ wsX10, w ∈ wsX2_winnerByDoubt := fun w hw => List.mem_cons_of_mem _ (List.mem_append_left _ (List.mem_append_right _ hw))
  have hin2 : ∀ w ∈ wsX20, w ∈ wsX2_winnerByDoubt := fun w hw => List.mem_cons_of_mem _ (List.mem_append_left _ (List.mem_append_left _ (List.mem_append_left _ (List.mem_append_right _ hw))))
  have hin4 : ∀ w ∈ wsX40, w ∈ wsX2_winnerByDoubt := fun w hw => List.mem_cons_of_mem _ (List.mem_append_left _ (List.mem_append_left _ (List.mem_append_right _ hw)))
  have hin7 : ∀ w ∈ wsX70, w ∈ wsX2_winnerByDoubt := fun w hw => List.mem_cons_of_mem _ (List.mem_append_right _ hw)
  have f1_1 : (Cond.fieldLink RX2 41 (TX1 1).1 (TX1 1).2.1 (TX1 1).2.2.1).before _ s = true := C.2.2.2.2 _ (List.mem_of_getElem? (i := 4) rfl)
  have f2_0 : (Cond.fieldLink RX2 30 (TX2 0).1 (TX2 0).2.1 (TX2 0).2.2.1).before _ s = true := C.2.2.2.2 _ (List.mem_of_getElem? (i := 2) rfl)
  have f2_5 : (Cond.fieldLink RX2 27 (TX2 5).1 (TX2 5).2.1 (TX2 5).2.2.1).before _ s = true := C.2.2.2.2 _ (List.mem_of_getElem? (i := 1) rfl)
  have f4_4 : (Cond.fieldLink RX2 92 (TX4 4).1 (TX4 4).2.1 (TX4 4).2.2.1).before _ s = true := C.2.2.2.2 _ (List.mem_of_getElem? (i := 3) rfl)
  have f7_3 : (Cond.fieldLink RX2 98 (TX7 3).1 (TX7 3).2.1 (TX7 3).2.2.1).before _ s = true := C.2.2.2.2 _ (List.mem_of_getElem? (i := 5) rfl)
  obtain ⟨H, hH⟩ : ∃ H, H = s.heap := ⟨_, rfl⟩
  obtain ⟨locs, hlo⟩ : ∃ z : List Loc, z = [] := ⟨_, rfl⟩
  have hW : GW Ev D (tyC cs) (wC cs ad K) A s t H locs := by rw [hH, hlo]; exact hW
  rw [show W p l e rm_C_Court_winnerByDoubt s m _ below meth c s.heap [] = W p l e rm_C_Court_winnerByDoubt s m _ below meth c H locs from by rw [hH, hlo]]
  unfold C_Court_winnerByDoubt at hX
  refine lv_null C.1 C.2.1 dX2_winnerByDoubt_0 ?_
  refine lv_astore_nN (i := 1) (lv' := [(1, .null), (0, .ref (ad 2 0))]) C.1 C.2.1 dX2_winnerByDoubt_1 rfl hl (by decide) rfl (fun ls hl => ?_)
  refine lv_iconst (v := 0) C.1 C.2.1 dX2_winnerByDoubt_2 (by decide) ?_
  refine lv_istore_n (i := 2) (lv' := [(2, .int 0), (1, .null), (0, .ref (ad 2 0))]) C.1 C.2.1 dX2_winnerByDoubt_3 rfl hl (by decide) rfl (fun ls hl => ?_)
  obtain ⟨q, hq, hX⟩ := bnd_st hX
  refine r_C_Court_winnerByDoubt_L4 C hKS hEv 100000 t 0 none H locs ls q hq.symm hW (lv_sub hl [0, 1, 2] rfl) ?_
  intro v71 v72 H locs ls hq hW hl
  subst hq
  have hX := nm2_st hX rfl
  refine lv_aload_nQ C.1 C.2.1 dX2_winnerByDoubt_97 rfl (lv_at hl 1 rfl) ?_
  exact G_rete (g := ad 1) (r := v72) C hr (Or.inl ⟨_, rfl⟩) hlk hA hW ⟨(Option.some.inj hX).symm, rfl⟩ dX2_winnerByDoubt_98
