abbrev rm_C_Person_place : Room := { frames := 0, cells := 0, slots := 0, locals := 0 }
def C_Person_place (K : List (Nat × Nat)) (t : TH) (x0 : Nat) : Option (Int32) := chkP ((7, x0) ∈ K) (if 0 ≤ (tS t 7 7 x0) then some (((tS t 7 6 x0) * 8) + (tS t 7 7 x0)) else some (-1))
set_option maxHeartbeats 4000000 in
set_option maxRecDepth 100000 in
theorem c_C_Person_place {Ev : EvT} {ek ev : Nat → Nat} {tp : Nat} (l : Launch) (D : va_G) (cs : Nat → ClassId) (ad : AD) (K : List (Nat × Nat)) (hKS : KS K) (hEv : EvC Ev ek ev tp) (t : TH) (x0 : Nat) (X : Int32) (hX : some X = C_Person_place K t x0) : cGi Ev l D (tyC cs) (wC cs ad K) yX7_place wsX7_place rm_C_Person_place 0 0 [.ref (ad 7 x0)] t (fun r u => r = X ∧ u = t) := by
  refine G_ini (cc := cX7_place) (maxL := 1) (ret := some .int) (by decide) rfl (Nat.le_of_ble_eq_true rfl) ?_
  intro p e s m below meth c A ls C hr hlk hini hA hW hl
  have C : Cx p s m _ c cX7_place 1 wsX7_place RX7 := C
  have hl : lv_has ls 1 [(0, .ref (ad 7 x0))] := hl
  have hin7 : ∀ w ∈ wsX70, w ∈ wsX7_place := fun w hw => List.mem_cons_of_mem _ (List.mem_append_right _ hw)
  have f7_6 : (Cond.fieldLink RX7 60 (TX7 6).1 (TX7 6).2.1 (TX7 6).2.2.1).before _ s = true := C.2.2.2.2 _ (List.mem_of_getElem? (i := 2) rfl)
  have f7_7 : (Cond.fieldLink RX7 66 (TX7 7).1 (TX7 7).2.1 (TX7 7).2.2.1).before _ s = true := C.2.2.2.2 _ (List.mem_of_getElem? (i := 1) rfl)
  obtain ⟨H, hH⟩ : ∃ H, H = s.heap := ⟨_, rfl⟩
  obtain ⟨locs, hlo⟩ : ∃ z : List Loc, z = [] := ⟨_, rfl⟩
  have hW : GW Ev D (tyC cs) (wC cs ad K) A s t H locs := by rw [hH, hlo]; exact hW
  rw [show W p l e rm_C_Person_place s m _ below meth c s.heap [] = W p l e rm_C_Person_place s m _ below meth c H locs from by rw [hH, hlo]]
  unfold C_Person_place at hX
  refine lv_aload_n C.1 C.2.1 dX7_place_0 rfl (lv_at hl 0 rfl) ?_
  obtain ⟨hk1, hX⟩ := chkP_st hX
  refine C_get C hW 7 rfl hin7 hk1 rfl 7 (by decide) rfl f7_7 dX7_place_1 ?_
  refine lv_if_ge (tgt := 11) C.1 C.2.1 dX7_place_4 (by decide) (fun c2 => ?_) (fun c2 => ?_)
  · have hX := br_p hX c2
    refine lv_aload_n C.1 C.2.1 dX7_place_11 rfl (lv_at hl 0 rfl) ?_
    refine C_get C hW 7 rfl hin7 hk1 rfl 6 (by decide) rfl f7_6 dX7_place_12 ?_
    refine lv_bipush (v := 8) C.1 C.2.1 dX7_place_15 (by decide) ?_
    refine lv_imul C.1 C.2.1 dX7_place_17 ?_
    refine lv_aload_n C.1 C.2.1 dX7_place_18 rfl (lv_at hl 0 rfl) ?_
    refine C_get C hW 7 rfl hin7 hk1 rfl 7 (by decide) rfl f7_7 dX7_place_19 ?_
    refine lv_iadd C.1 C.2.1 dX7_place_22 ?_
    exact G_reti C hr hlk hA hW ⟨(Option.some.inj hX).symm, rfl⟩ dX7_place_23
  have hX := br_n hX c2
  refine lv_iconst (v := -1) C.1 C.2.1 dX7_place_7 (by decide) ?_
  refine lv_goto (tgt := 23) C.1 C.2.1 dX7_place_8 (by decide) ?_
  exact G_reti C hr hlk hA hW ⟨(Option.some.inj hX).symm, rfl⟩ dX7_place_23
abbrev rm_C_Person_hasSeen : Room := { frames := 0, cells := 0, slots := 0, locals := 0 }
def C_Person_hasSeen (K : List (Nat × Nat)) (t : TH) (x0 : Nat) (x1 : Int32) : Option (Int32) := chkP ((7, x0) ∈ K) (if (lg_cmp ((((tL t 7 12 x0).toUInt64 >>> (x1.toInt64.toUInt64 &&& Int64.toUInt64 63)).toInt64) &&& 1) 0) = 0 then some 0 else some 1)
set_option maxHeartbeats 4000000 in
set_option maxRecDepth 100000 in
theorem c_C_Person_hasSeen {Ev : EvT} {ek ev : Nat → Nat} {tp : Nat} (l : Launch) (D : va_G) (cs : Nat → ClassId) (ad : AD) (K : List (Nat × Nat)) (hKS : KS K) (hEv : EvC Ev ek ev tp) (t : TH) (x0 : Nat) (x1 : Int32) (X : Int32) (hX : some X = C_Person_hasSeen K t x0 x1) : cGi Ev l D (tyC cs) (wC cs ad K) yX7_hasSeen wsX7_hasSeen rm_C_Person_hasSeen 0 0 [.ref (ad 7 x0), .int x1] t (fun r u => r = X ∧ u = t) := by
  refine G_ini (cc := cX7_hasSeen) (maxL := 2) (ret := some .boolean) (by decide) rfl (Nat.le_of_ble_eq_true rfl) ?_
  intro p e s m below meth c A ls C hr hlk hini hA hW hl
  have C : Cx p s m _ c cX7_hasSeen 2 wsX7_hasSeen RX7 := C
  have hl : lv_has ls 2 [(0, .ref (ad 7 x0)), (1, .int x1)] := hl
  have hin7 : ∀ w ∈ wsX70, w ∈ wsX7_hasSeen := fun w hw => List.mem_cons_of_mem _ (List.mem_append_right _ hw)
  have f7_12 : (Cond.fieldLink RX7 27 (TX7 12).1 (TX7 12).2.1 (TX7 12).2.2.1).before _ s = true := C.2.2.2.2 _ (List.mem_of_getElem? (i := 1) rfl)
  obtain ⟨H, hH⟩ : ∃ H, H = s.heap := ⟨_, rfl⟩
  obtain ⟨locs, hlo⟩ : ∃ z : List Loc, z = [] := ⟨_, rfl⟩
  have hW : GW Ev D (tyC cs) (wC cs ad K) A s t H locs := by rw [hH, hlo]; exact hW
  rw [show W p l e rm_C_Person_hasSeen s m _ below meth c s.heap [] = W p l e rm_C_Person_hasSeen s m _ below meth c H locs from by rw [hH, hlo]]
  unfold C_Person_hasSeen at hX
  refine lv_aload_n C.1 C.2.1 dX7_hasSeen_0 rfl (lv_at hl 0 rfl) ?_
  obtain ⟨hk1, hX⟩ := chkP_st hX
  refine C_get C hW 7 rfl hin7 hk1 rfl 12 (by decide) rfl f7_12 dX7_hasSeen_1 ?_
  refine lv_iload_n C.1 C.2.1 dX7_hasSeen_4 rfl (lv_at hl 1 rfl) ?_
  refine lv_lushr C.1 C.2.1 dX7_hasSeen_5 rfl ?_
  refine lv_lconst (v := 1) C.1 C.2.1 dX7_hasSeen_6 (by decide) ?_
  refine lv_land C.1 C.2.1 dX7_hasSeen_7 ?_
  refine lv_lconst (v := 0) C.1 C.2.1 dX7_hasSeen_8 (by decide) ?_
  refine W.lcmp C.1 C.2.1 dX7_hasSeen_9 ?_
  refine lv_if_eq (tgt := 17) C.1 C.2.1 dX7_hasSeen_10 (by decide) (fun c2 => ?_) (fun c2 => ?_)
  · have hX := br_p hX c2
    refine lv_iconst (v := 0) C.1 C.2.1 dX7_hasSeen_17 (by decide) ?_
    exact G_retz C hr hlk hA hW rfl ⟨(Option.some.inj hX).symm, rfl⟩ dX7_hasSeen_18
  have hX := br_n hX c2
  refine lv_iconst (v := 1) C.1 C.2.1 dX7_hasSeen_13 (by decide) ?_
  refine lv_goto (tgt := 18) C.1 C.2.1 dX7_hasSeen_14 (by decide) ?_
  exact G_retz C hr hlk hA hW rfl ⟨(Option.some.inj hX).symm, rfl⟩ dX7_hasSeen_18
abbrev rm_C_Person_see : Room := { frames := 0, cells := 0, slots := 0, locals := 0 }
def C_Person_see (K : List (Nat × Nat)) (t : TH) (x0 : Nat) (x1 : Int32) : Option (TH) := chkP ((7, x0) ∈ K) (nm (uL t 7 12 x0 ((tL t 7 12 x0) ||| ((1 : Int64) <<< (x1.toInt64 &&& 63)))) (fun t2 => some t2))
set_option maxHeartbeats 4000000 in
set_option maxRecDepth 100000 in
theorem c_C_Person_see {Ev : EvT} {ek ev : Nat → Nat} {tp : Nat} (l : Launch) (D : va_G) (cs : Nat → ClassId) (ad : AD) (K : List (Nat × Nat)) (hKS : KS K) (hEv : EvC Ev ek ev tp) (t : TH) (x0 : Nat) (x1 : Int32) (X : TH) (hX : some X = C_Person_see K t x0 x1) : cGv Ev l D (tyC cs) (wC cs ad K) yX7_see wsX7_see rm_C_Person_see 0 0 [.ref (ad 7 x0), .int x1] t (fun u => u = X) := by
  refine G_inv (cc := cX7_see) (maxL := 2) (ret := none) (by decide) rfl (Nat.le_of_ble_eq_true rfl) ?_
  intro p e s m below meth c A ls C hr hlk hini hA hW hl
  have C : Cx p s m _ c cX7_see 2 wsX7_see RX7 := C
  have hl : lv_has ls 2 [(0, .ref (ad 7 x0)), (1, .int x1)] := hl
  have hin7 : ∀ w ∈ wsX70, w ∈ wsX7_see := fun w hw => List.mem_cons_of_mem _ (List.mem_append_right _ hw)
  have f7_12 : (Cond.fieldLink RX7 27 (TX7 12).1 (TX7 12).2.1 (TX7 12).2.2.1).before _ s = true := C.2.2.2.2 _ (List.mem_of_getElem? (i := 1) rfl)
  obtain ⟨H, hH⟩ : ∃ H, H = s.heap := ⟨_, rfl⟩
  obtain ⟨locs, hlo⟩ : ∃ z : List Loc, z = [] := ⟨_, rfl⟩
  have hW : GW Ev D (tyC cs) (wC cs ad K) A s t H locs := by rw [hH, hlo]; exact hW
  rw [show W p l e rm_C_Person_see s m _ below meth c s.heap [] = W p l e rm_C_Person_see s m _ below meth c H locs from by rw [hH, hlo]]
  unfold C_Person_see at hX
  refine lv_aload_n C.1 C.2.1 dX7_see_0 rfl (lv_at hl 0 rfl) ?_
  refine lv_dup C.1 C.2.1 dX7_see_1 rfl ?_
  obtain ⟨hk1, hX⟩ := chkP_st hX
  refine C_get C hW 7 rfl hin7 hk1 rfl 12 (by decide) rfl f7_12 dX7_see_2 ?_
  refine lv_lconst (v := 1) C.1 C.2.1 dX7_see_5 (by decide) ?_
  refine lv_iload_n C.1 C.2.1 dX7_see_6 rfl (lv_at hl 1 rfl) ?_
  refine lv_lshl C.1 C.2.1 dX7_see_7 rfl ?_
  refine lv_lor C.1 C.2.1 dX7_see_8 ?_
  obtain ⟨t2, et2⟩ : ∃ z, z = uL t 7 12 x0 ((tL t 7 12 x0) ||| ((1 : Int64) <<< (x1.toInt64 &&& 63))) := ⟨_, rfl⟩
  refine C_put C hW 7 rfl hin7 tyX7 tyX7_ok nmX7 hk1 rfl 12 (by decide) rfl rfl rfl (Nat.le_of_ble_eq_true rfl) f7_12 dX7_see_9 (t' := t2) (by rw [et2]; exact wr7_12) (by rw [et2]; exact ho_L (by decide)) (fun H locs hW => ?_)
  have hX := nm_st hX et2
  exact G_retv C hr hlk hA hW (Option.some.inj hX).symm dX7_see_12
abbrev rm_C_Person_distanceTo : Room := { frames := 1, cells := 0, slots := 0, locals := 21 }
def C_Person_distanceTo (K : List (Nat × Nat)) (t : TH) (x0 : Nat) (x1 : Int32) : Option (Int32) := chkP ((7, x0) ∈ K) (nm (if 0 ≤ ((x1 / 8) - (tS t 7 6 x0)) then (x1 / 8) - (tS t 7 6 x0) else 0 - ((x1 / 8) - (tS t 7 6 x0))) (fun v2 => nm (if 0 ≤ ((x1 - x1 / 8 * 8) - (tS t 7 7 x0)) then (x1 - x1 / 8 * 8) - (tS t 7 7 x0) else 0 - ((x1 - x1 / 8 * 8) - (tS t 7 7 x0))) (fun v3 => some (v2 + v3))))
set_option maxHeartbeats 4000000 in
set_option maxRecDepth 100000 in
theorem c_C_Person_distanceTo {Ev : EvT} {ek ev : Nat → Nat} {tp : Nat} (l : Launch) (D : va_G) (cs : Nat → ClassId) (ad : AD) (K : List (Nat × Nat)) (hKS : KS K) (hEv : EvC Ev ek ev tp) (t : TH) (x0 : Nat) (x1 : Int32) (X : Int32) (hX : some X = C_Person_distanceTo K t x0 x1) : cGi Ev l D (tyC cs) (wC cs ad K) yX7_distanceTo wsX7_distanceTo rm_C_Person_distanceTo 0 0 [.ref (ad 7 x0), .int x1] t (fun r u => r = X ∧ u = t) := by
  refine G_ini (cc := cX7_distanceTo) (maxL := 2) (ret := some .int) (by decide) rfl (Nat.le_of_ble_eq_true rfl) ?_
  intro p e s m below meth c A ls C hr hlk hini hA hW hl
  have C : Cx p s m _ c cX7_distanceTo 2 wsX7_distanceTo RX7 := C
  have hl : lv_has ls 2 [(0, .ref (ad 7 x0)), (1, .int x1)] := hl
  have hin7 : ∀ w ∈ wsX70, w ∈ wsX7_distanceTo := fun w hw => List.mem_cons_of_mem _ (List.mem_append_right _ hw)
  have f7_6 : (Cond.fieldLink RX7 60 (TX7 6).1 (TX7 6).2.1 (TX7 6).2.2.1).before _ s = true := C.2.2.2.2 _ (List.mem_of_getElem? (i := 1) rfl)
  have f7_7 : (Cond.fieldLink RX7 66 (TX7 7).1 (TX7 7).2.1 (TX7 7).2.2.1).before _ s = true := C.2.2.2.2 _ (List.mem_of_getElem? (i := 6) rfl)
  have m69_l : (Cond.methodLink RX7 69 Lib.Math.abs.name).before _ s = true := C.2.2.2.2 _ (List.mem_of_getElem? (i := 2) rfl)
  have m69_s : (Cond.static Lib.Math.abs.name).before _ s = true := C.2.2.2.2 _ (List.mem_of_getElem? (i := 3) rfl)
  have m69_i : (Cond.initialized "java/lang/Math").before _ s = true := C.2.2.2.2 _ (List.mem_of_getElem? (i := 4) rfl)
  have m69_c : (Cond.code Lib.Math.abs.name Lib.Math.abs.code 1 (some .int)).before _ s = true := C.2.2.2.2 _ (List.mem_of_getElem? (i := 5) rfl)
  obtain ⟨H, hH⟩ : ∃ H, H = s.heap := ⟨_, rfl⟩
  obtain ⟨locs, hlo⟩ : ∃ z : List Loc, z = [] := ⟨_, rfl⟩
  have hW : GW Ev D (tyC cs) (wC cs ad K) A s t H locs := by rw [hH, hlo]; exact hW
  rw [show W p l e rm_C_Person_distanceTo s m _ below meth c s.heap [] = W p l e rm_C_Person_distanceTo s m _ below meth c H locs from by rw [hH, hlo]]
  unfold C_Person_distanceTo at hX
  refine lv_iload_n C.1 C.2.1 dX7_distanceTo_0 rfl (lv_at hl 1 rfl) ?_
  refine lv_bipush (v := 8) C.1 C.2.1 dX7_distanceTo_1 (by decide) ?_
  refine lv_idiv C.1 C.2.1 dX7_distanceTo_3 (by decide) ?_
  refine lv_aload_n C.1 C.2.1 dX7_distanceTo_4 rfl (lv_at hl 0 rfl) ?_
  obtain ⟨hk1, hX⟩ := chkP_st hX
  refine C_get C hW 7 rfl hin7 hk1 rfl 6 (by decide) rfl f7_6 dX7_distanceTo_5 ?_
  refine lv_isub C.1 C.2.1 dX7_distanceTo_8 ?_
  refine va_mabs C.1 C.2.1 (C.2.2.1.trans hl.1.symm) C.2.2.2.1 m69_l m69_s m69_i m69_c (Nat.le_of_ble_eq_true rfl) (Nat.le_of_ble_eq_true rfl) (Nat.zero_le _) (Nat.zero_le _) dX7_distanceTo_9 ?_
  refine lv_topi (fun v2 ev2 => ?_)
  have hX := nm_st hX ev2
  refine lv_iload_n C.1 C.2.1 dX7_distanceTo_12 rfl (lv_at hl 1 rfl) ?_
  refine lv_bipush (v := 8) C.1 C.2.1 dX7_distanceTo_13 (by decide) ?_
  refine lv_irem C.1 C.2.1 dX7_distanceTo_15 (by decide) ?_
  refine lv_aload_n C.1 C.2.1 dX7_distanceTo_16 rfl (lv_at hl 0 rfl) ?_
  refine C_get C hW 7 rfl hin7 hk1 rfl 7 (by decide) rfl f7_7 dX7_distanceTo_17 ?_
  refine lv_isub C.1 C.2.1 dX7_distanceTo_20 ?_
  refine va_mabs C.1 C.2.1 (C.2.2.1.trans hl.1.symm) C.2.2.2.1 m69_l m69_s m69_i m69_c (Nat.le_of_ble_eq_true rfl) (Nat.le_of_ble_eq_true rfl) (Nat.zero_le _) (Nat.zero_le _) dX7_distanceTo_21 ?_
  refine lv_topi (fun v3 ev3 => ?_)
  have hX := nm_st hX ev3
  refine lv_iadd C.1 C.2.1 dX7_distanceTo_24 ?_
  exact G_reti C hr hlk hA hW ⟨(Option.some.inj hX).symm, rfl⟩ dX7_distanceTo_25
abbrev rm_C_Person_nextOnWay : Room := { frames := 1, cells := 0, slots := 0, locals := 21 }
def C_Person_nextOnWay (K : List (Nat × Nat)) (t : TH) (x0 : Nat) : Option (Int32) := chkP ((7, x0) ∈ K) (bnd (C_J6_compare ((tS t 7 8 x0) - (tS t 7 8 x0) / 8 * 8) (tS t 7 7 x0)) (fun v2 => if v2 = 0 then bnd (C_J6_compare ((tS t 7 8 x0) / 8) (tS t 7 6 x0)) (fun v4 => some ((((tS t 7 6 x0) + v4) * 8) + (tS t 7 7 x0))) else some ((((tS t 7 6 x0) * 8) + (tS t 7 7 x0)) + v2)))
set_option maxHeartbeats 4000000 in
set_option maxRecDepth 100000 in
theorem c_C_Person_nextOnWay {Ev : EvT} {ek ev : Nat → Nat} {tp : Nat} (l : Launch) (D : va_G) (cs : Nat → ClassId) (ad : AD) (K : List (Nat × Nat)) (hKS : KS K) (hEv : EvC Ev ek ev tp) (t : TH) (x0 : Nat) (X : Int32) (hX : some X = C_Person_nextOnWay K t x0) : cGi Ev l D (tyC cs) (wC cs ad K) yX7_nextOnWay wsX7_nextOnWay rm_C_Person_nextOnWay 0 0 [.ref (ad 7 x0)] t (fun r u => r = X ∧ u = t) := by
  refine G_ini (cc := cX7_nextOnWay) (maxL := 2) (ret := some .int) (by decide) rfl (Nat.le_of_ble_eq_true rfl) ?_
  intro p e s m below meth c A ls C hr hlk hini hA hW hl
  have C : Cx p s m _ c cX7_nextOnWay 2 wsX7_nextOnWay RX7 := C
  have hl : lv_has ls 2 [(0, .ref (ad 7 x0))] := hl
  have hin7 : ∀ w ∈ wsX70, w ∈ wsX7_nextOnWay := fun w hw => List.mem_cons_of_mem _ (List.mem_append_right _ hw)
  have f7_6 : (Cond.fieldLink RX7 60 (TX7 6).1 (TX7 6).2.1 (TX7 6).2.2.1).before _ s = true := C.2.2.2.2 _ (List.mem_of_getElem? (i := 3) rfl)
  have f7_7 : (Cond.fieldLink RX7 66 (TX7 7).1 (TX7 7).2.1 (TX7 7).2.2.1).before _ s = true := C.2.2.2.2 _ (List.mem_of_getElem? (i := 2) rfl)
  have f7_8 : (Cond.fieldLink RX7 15 (TX7 8).1 (TX7 8).2.1 (TX7 8).2.2.1).before _ s = true := C.2.2.2.2 _ (List.mem_of_getElem? (i := 1) rfl)
  obtain ⟨H, hH⟩ : ∃ H, H = s.heap := ⟨_, rfl⟩
  obtain ⟨locs, hlo⟩ : ∃ z : List Loc, z = [] := ⟨_, rfl⟩
  have hW : GW Ev D (tyC cs) (wC cs ad K) A s t H locs := by rw [hH, hlo]; exact hW
  rw [show W p l e rm_C_Person_nextOnWay s m _ below meth c s.heap [] = W p l e rm_C_Person_nextOnWay s m _ below meth c H locs from by rw [hH, hlo]]
  unfold C_Person_nextOnWay at hX
  refine lv_aload_n C.1 C.2.1 dX7_nextOnWay_0 rfl (lv_at hl 0 rfl) ?_
  obtain ⟨hk1, hX⟩ := chkP_st hX
  refine C_get C hW 7 rfl hin7 hk1 rfl 8 (by decide) rfl f7_8 dX7_nextOnWay_1 ?_
  refine lv_bipush (v := 8) C.1 C.2.1 dX7_nextOnWay_4 (by decide) ?_
  refine lv_irem C.1 C.2.1 dX7_nextOnWay_6 (by decide) ?_
  refine lv_aload_n C.1 C.2.1 dX7_nextOnWay_7 rfl (lv_at hl 0 rfl) ?_
  refine C_get C hW 7 rfl hin7 hk1 rfl 7 (by decide) rfl f7_7 dX7_nextOnWay_8 ?_
  obtain ⟨v2, hq, hX⟩ := bnd_st hX
  refine G_S0s (As := [.int ((tS t 7 8 x0) - (tS t 7 8 x0) / 8 * 8), .int (tS t 7 7 x0)]) (rest := []) C hW (c_C_J6_compare l D (tyC cs) (wC cs ad K) t ((tS t 7 8 x0) - (tS t 7 8 x0) / 8 * 8) (tS t 7 7 x0) v2 hq.symm) (va_cwS 2 C.2.2.2.2 gX7_nextOnWay_J6_compare_7cf53 rfl rfl rfl (by decide +kernel) ⟨Nat.le_of_ble_eq_true rfl, Nat.le_of_ble_eq_true rfl⟩) rfl hl.1 rfl (Nat.le_of_ble_eq_true rfl) dX7_nextOnWay_11 (fun H locs hW => ?_)
  refine lv_istore_n (i := 1) (lv' := [(1, .int v2), (0, .ref (ad 7 x0))]) C.1 C.2.1 dX7_nextOnWay_14 rfl hl (by decide) rfl (fun ls hl => ?_)
  refine lv_iload_n C.1 C.2.1 dX7_nextOnWay_15 rfl (lv_at hl 0 rfl) ?_
  refine lv_if_eq (tgt := 34) C.1 C.2.1 dX7_nextOnWay_16 (by decide) (fun c3 => ?_) (fun c3 => ?_)
  · have hX := br_p hX c3
    refine lv_aload_n C.1 C.2.1 dX7_nextOnWay_34 rfl (lv_at hl 1 rfl) ?_
    refine C_get C hW 7 rfl hin7 hk1 rfl 6 (by decide) rfl f7_6 dX7_nextOnWay_35 ?_
    refine lv_aload_n C.1 C.2.1 dX7_nextOnWay_38 rfl (lv_at hl 1 rfl) ?_
    refine C_get C hW 7 rfl hin7 hk1 rfl 8 (by decide) rfl f7_8 dX7_nextOnWay_39 ?_
    refine lv_bipush (v := 8) C.1 C.2.1 dX7_nextOnWay_42 (by decide) ?_
    refine lv_idiv C.1 C.2.1 dX7_nextOnWay_44 (by decide) ?_
    refine lv_aload_n C.1 C.2.1 dX7_nextOnWay_45 rfl (lv_at hl 1 rfl) ?_
    refine C_get C hW 7 rfl hin7 hk1 rfl 6 (by decide) rfl f7_6 dX7_nextOnWay_46 ?_
    obtain ⟨v4, hq, hX⟩ := bnd_st hX
    refine G_S0s (As := [.int ((tS t 7 8 x0) / 8), .int (tS t 7 6 x0)]) (rest := [.int (tS t 7 6 x0)]) C hW (c_C_J6_compare l D (tyC cs) (wC cs ad K) t ((tS t 7 8 x0) / 8) (tS t 7 6 x0) v4 hq.symm) (va_cwS 2 C.2.2.2.2 gX7_nextOnWay_J6_compare_7cf53 rfl rfl rfl (by decide +kernel) ⟨Nat.le_of_ble_eq_true rfl, Nat.le_of_ble_eq_true rfl⟩) rfl hl.1 rfl (Nat.le_of_ble_eq_true rfl) dX7_nextOnWay_49 (fun H locs hW => ?_)
    refine lv_iadd C.1 C.2.1 dX7_nextOnWay_52 ?_
    refine lv_bipush (v := 8) C.1 C.2.1 dX7_nextOnWay_53 (by decide) ?_
    refine lv_imul C.1 C.2.1 dX7_nextOnWay_55 ?_
    refine lv_aload_n C.1 C.2.1 dX7_nextOnWay_56 rfl (lv_at hl 1 rfl) ?_
    refine C_get C hW 7 rfl hin7 hk1 rfl 7 (by decide) rfl f7_7 dX7_nextOnWay_57 ?_
    refine lv_iadd C.1 C.2.1 dX7_nextOnWay_60 ?_
    exact G_reti C hr hlk hA hW ⟨(Option.some.inj hX).symm, rfl⟩ dX7_nextOnWay_61
  have hX := br_n hX c3
  refine lv_aload_n C.1 C.2.1 dX7_nextOnWay_19 rfl (lv_at hl 1 rfl) ?_
  refine C_get C hW 7 rfl hin7 hk1 rfl 6 (by decide) rfl f7_6 dX7_nextOnWay_20 ?_
  refine lv_bipush (v := 8) C.1 C.2.1 dX7_nextOnWay_23 (by decide) ?_
  refine lv_imul C.1 C.2.1 dX7_nextOnWay_25 ?_
  refine lv_aload_n C.1 C.2.1 dX7_nextOnWay_26 rfl (lv_at hl 1 rfl) ?_
  refine C_get C hW 7 rfl hin7 hk1 rfl 7 (by decide) rfl f7_7 dX7_nextOnWay_27 ?_
  refine lv_iadd C.1 C.2.1 dX7_nextOnWay_30 ?_
  refine lv_iload_n C.1 C.2.1 dX7_nextOnWay_31 rfl (lv_at hl 0 rfl) ?_
  refine lv_iadd C.1 C.2.1 dX7_nextOnWay_32 ?_
  exact G_reti C hr hlk hA hW ⟨(Option.some.inj hX).symm, rfl⟩ dX7_nextOnWay_33
abbrev rm_C_Person_moveTo : Room := { frames := 0, cells := 0, slots := 0, locals := 0 }
def C_Person_moveTo (K : List (Nat × Nat)) (t : TH) (x0 : Nat) (x1 : Int32) : Option (TH) := chkP ((7, x0) ∈ K) (nm (uS t 7 6 x0 (x1 / 8)) (fun t2 => nm (uS t2 7 7 x0 (x1 - x1 / 8 * 8)) (fun t3 => some t3)))
set_option maxHeartbeats 4000000 in
set_option maxRecDepth 100000 in
theorem c_C_Person_moveTo {Ev : EvT} {ek ev : Nat → Nat} {tp : Nat} (l : Launch) (D : va_G) (cs : Nat → ClassId) (ad : AD) (K : List (Nat × Nat)) (hKS : KS K) (hEv : EvC Ev ek ev tp) (t : TH) (x0 : Nat) (x1 : Int32) (X : TH) (hX : some X = C_Person_moveTo K t x0 x1) : cGv Ev l D (tyC cs) (wC cs ad K) yX7_moveTo wsX7_moveTo rm_C_Person_moveTo 0 0 [.ref (ad 7 x0), .int x1] t (fun u => u = X) := by
  refine G_inv (cc := cX7_moveTo) (maxL := 2) (ret := none) (by decide) rfl (Nat.le_of_ble_eq_true rfl) ?_
  intro p e s m below meth c A ls C hr hlk hini hA hW hl
  have C : Cx p s m _ c cX7_moveTo 2 wsX7_moveTo RX7 := C
  have hl : lv_has ls 2 [(0, .ref (ad 7 x0)), (1, .int x1)] := hl
  have hin7 : ∀ w ∈ wsX70, w ∈ wsX7_moveTo := fun w hw => List.mem_cons_of_mem _ (List.mem_append_right _ hw)
  have f7_6 : (Cond.fieldLink RX7 60 (TX7 6).1 (TX7 6).2.1 (TX7 6).2.2.1).before _ s = true := C.2.2.2.2 _ (List.mem_of_getElem? (i := 1) rfl)
  have f7_7 : (Cond.fieldLink RX7 66 (TX7 7).1 (TX7 7).2.1 (TX7 7).2.2.1).before _ s = true := C.2.2.2.2 _ (List.mem_of_getElem? (i := 2) rfl)
  obtain ⟨H, hH⟩ : ∃ H, H = s.heap := ⟨_, rfl⟩
  obtain ⟨locs, hlo⟩ : ∃ z : List Loc, z = [] := ⟨_, rfl⟩
  have hW : GW Ev D (tyC cs) (wC cs ad K) A s t H locs := by rw [hH, hlo]; exact hW
  rw [show W p l e rm_C_Person_moveTo s m _ below meth c s.heap [] = W p l e rm_C_Person_moveTo s m _ below meth c H locs from by rw [hH, hlo]]
  unfold C_Person_moveTo at hX
  refine lv_aload_n C.1 C.2.1 dX7_moveTo_0 rfl (lv_at hl 0 rfl) ?_
  refine lv_iload_n C.1 C.2.1 dX7_moveTo_1 rfl (lv_at hl 1 rfl) ?_
  refine lv_bipush (v := 8) C.1 C.2.1 dX7_moveTo_2 (by decide) ?_
  refine lv_idiv C.1 C.2.1 dX7_moveTo_4 (by decide) ?_
  obtain ⟨hk1, hX⟩ := chkP_st hX
  obtain ⟨t2, et2⟩ : ∃ z, z = uS t 7 6 x0 (x1 / 8) := ⟨_, rfl⟩
  refine C_put C hW 7 rfl hin7 tyX7 tyX7_ok nmX7 hk1 rfl 6 (by decide) rfl rfl rfl (Nat.le_of_ble_eq_true rfl) f7_6 dX7_moveTo_5 (t' := t2) (by rw [et2]; exact wr7_6) (by rw [et2]; exact ho_S (by decide)) (fun H locs hW => ?_)
  have hX := nm_st hX et2
  refine lv_aload_n C.1 C.2.1 dX7_moveTo_8 rfl (lv_at hl 0 rfl) ?_
  refine lv_iload_n C.1 C.2.1 dX7_moveTo_9 rfl (lv_at hl 1 rfl) ?_
  refine lv_bipush (v := 8) C.1 C.2.1 dX7_moveTo_10 (by decide) ?_
  refine lv_irem C.1 C.2.1 dX7_moveTo_12 (by decide) ?_
  obtain ⟨t3, et3⟩ : ∃ z, z = uS t2 7 7 x0 (x1 - x1 / 8 * 8) := ⟨_, rfl⟩
  refine C_put C hW 7 rfl hin7 tyX7 tyX7_ok nmX7 hk1 rfl 7 (by decide) rfl rfl rfl (Nat.le_of_ble_eq_true rfl) f7_7 dX7_moveTo_13 (t' := t3) (by rw [et3]; exact wr7_7) (by rw [et3]; exact ho_S (by decide)) (fun H locs hW => ?_)
  have hX := nm_st hX et3
  exact G_retv C hr hlk hA hW (Option.some.inj hX).symm dX7_moveTo_16
abbrev rm_C_Person_prefers : Room := { frames := 2, cells := 0, slots := 0, locals := 42 }
def C_Person_prefers (K : List (Nat × Nat)) (t : TH) (x0 : Nat) (x1 : Int32) (x2 : Int32) : Option (Int32) := bnd (C_Land_worthOf K t x1) (fun v1 => bnd (C_Land_worthOf K t x2) (fun v2 => if v1 = v2 then chkP ((7, x0) ∈ K) (bnd (C_Person_distanceTo K t x0 x1) (fun v5 => bnd (C_Person_distanceTo K t x0 x2) (fun v6 => if v5 = v6 then if x2 ≤ x1 then some 0 else some 1 else bnd (C_Person_distanceTo K t x0 x1) (fun v9 => bnd (C_Person_distanceTo K t x0 x2) (fun v10 => if v10 ≤ v9 then some 0 else some 1))))) else bnd (C_Land_worthOf K t x1) (fun v12 => bnd (C_Land_worthOf K t x2) (fun v13 => if v12 ≤ v13 then some 0 else some 1))))
set_option maxHeartbeats 4000000 in
set_option maxRecDepth 100000 in
theorem c_C_Person_prefers {Ev : EvT} {ek ev : Nat → Nat} {tp : Nat} (l : Launch) (D : va_G) (cs : Nat → ClassId) (ad : AD) (K : List (Nat × Nat)) (hKS : KS K) (hEv : EvC Ev ek ev tp) (t : TH) (x0 : Nat) (x1 : Int32) (x2 : Int32) (X : Int32) (hX : some X = C_Person_prefers K t x0 x1 x2) : cGi Ev l D (tyC cs) (wC cs ad K) yX7_prefers wsX7_prefers rm_C_Person_prefers 0 0 [.ref (ad 7 x0), .int x1, .int x2, .ref (ad 3 0)] t (fun r u => r = X ∧ u = t) := by
  refine G_ini (cc := cX7_prefers) (maxL := 4) (ret := some .boolean) (by decide) rfl (Nat.le_of_ble_eq_true rfl) ?_
  intro p e s m below meth c A ls C hr hlk hini hA hW hl
  have C : Cx p s m _ c cX7_prefers 4 wsX7_prefers RX7 := C
  have hl : lv_has ls 4 [(0, .ref (ad 7 x0)), (1, .int x1), (2, .int x2), (3, .ref (ad 3 0))] := hl
  obtain ⟨H, hH⟩ : ∃ H, H = s.heap := ⟨_, rfl⟩
  obtain ⟨locs, hlo⟩ : ∃ z : List Loc, z = [] := ⟨_, rfl⟩
  have hW : GW Ev D (tyC cs) (wC cs ad K) A s t H locs := by rw [hH, hlo]; exact hW
  rw [show W p l e rm_C_Person_prefers s m _ below meth c s.heap [] = W p l e rm_C_Person_prefers s m _ below meth c H locs from by rw [hH, hlo]]
  unfold C_Person_prefers at hX
  refine lv_aload_n C.1 C.2.1 dX7_prefers_0 rfl (lv_at hl 3 rfl) ?_
  refine lv_iload_n C.1 C.2.1 dX7_prefers_1 rfl (lv_at hl 1 rfl) ?_
  obtain ⟨v1, hq, hX⟩ := bnd_st hX
  refine G_V0p (As := [.int x1]) (rest := []) C hW (c_C_Land_worthOf l D cs ad K hKS hEv t x1 v1 hq.symm) (cwV 1 C.2.2.2.2 gX7_prefers_X3_worthOf rfl rfl rfl (by decide +kernel) ⟨Nat.le_of_ble_eq_true rfl, Nat.le_of_ble_eq_true rfl⟩) (C_recv hW 3 hKS.k3_0 rfl rfl) rfl hl.1 rfl (Nat.le_of_ble_eq_true rfl) dX7_prefers_2 (fun H locs hW => ?_)
  refine lv_aload_n C.1 C.2.1 dX7_prefers_5 rfl (lv_at hl 3 rfl) ?_
  refine lv_iload_n C.1 C.2.1 dX7_prefers_6 rfl (lv_at hl 2 rfl) ?_
  obtain ⟨v2, hq, hX⟩ := bnd_st hX
  refine G_V0p (As := [.int x2]) (rest := [.int v1]) C hW (c_C_Land_worthOf l D cs ad K hKS hEv t x2 v2 hq.symm) (cwV 1 C.2.2.2.2 gX7_prefers_X3_worthOf rfl rfl rfl (by decide +kernel) ⟨Nat.le_of_ble_eq_true rfl, Nat.le_of_ble_eq_true rfl⟩) (C_recv hW 3 hKS.k3_0 rfl rfl) rfl hl.1 rfl (Nat.le_of_ble_eq_true rfl) dX7_prefers_7 (fun H locs hW => ?_)
  refine lv_icmp_eq (tgt := 32) C.1 C.2.1 dX7_prefers_10 (by decide) (fun c3 => ?_) (fun c3 => ?_)
  · have hX := br_p hX c3
    refine lv_aload_n C.1 C.2.1 dX7_prefers_32 rfl (lv_at hl 0 rfl) ?_
    refine lv_iload_n C.1 C.2.1 dX7_prefers_33 rfl (lv_at hl 1 rfl) ?_
    obtain ⟨hk4, hX⟩ := chkP_st hX
    obtain ⟨v5, hq, hX⟩ := bnd_st hX
    refine G_V0p (As := [.int x1]) (rest := []) C hW (c_C_Person_distanceTo l D cs ad K hKS hEv t x0 x1 v5 hq.symm) (cwV 1 C.2.2.2.2 gX7_prefers_X7_distanceTo rfl rfl rfl (by decide +kernel) ⟨Nat.le_of_ble_eq_true rfl, Nat.le_of_ble_eq_true rfl⟩) (C_recv hW 7 hk4 rfl rfl) rfl hl.1 rfl (Nat.le_of_ble_eq_true rfl) dX7_prefers_34 (fun H locs hW => ?_)
    refine lv_aload_n C.1 C.2.1 dX7_prefers_37 rfl (lv_at hl 0 rfl) ?_
    refine lv_iload_n C.1 C.2.1 dX7_prefers_38 rfl (lv_at hl 2 rfl) ?_
    obtain ⟨v6, hq, hX⟩ := bnd_st hX
    refine G_V0p (As := [.int x2]) (rest := [.int v5]) C hW (c_C_Person_distanceTo l D cs ad K hKS hEv t x0 x2 v6 hq.symm) (cwV 1 C.2.2.2.2 gX7_prefers_X7_distanceTo rfl rfl rfl (by decide +kernel) ⟨Nat.le_of_ble_eq_true rfl, Nat.le_of_ble_eq_true rfl⟩) (C_recv hW 7 hk4 rfl rfl) rfl hl.1 rfl (Nat.le_of_ble_eq_true rfl) dX7_prefers_39 (fun H locs hW => ?_)
    refine lv_icmp_eq (tgt := 64) C.1 C.2.1 dX7_prefers_42 (by decide) (fun c7 => ?_) (fun c7 => ?_)
    · have hX := br_p hX c7
      refine lv_iload_n C.1 C.2.1 dX7_prefers_64 rfl (lv_at hl 1 rfl) ?_
      refine lv_iload_n C.1 C.2.1 dX7_prefers_65 rfl (lv_at hl 2 rfl) ?_
      refine lv_icmp_ge (tgt := 73) C.1 C.2.1 dX7_prefers_66 (by decide) (fun c8 => ?_) (fun c8 => ?_)
      · have hX := br_p hX c8
        refine lv_iconst (v := 0) C.1 C.2.1 dX7_prefers_73 (by decide) ?_
        exact G_retz C hr hlk hA hW rfl ⟨(Option.some.inj hX).symm, rfl⟩ dX7_prefers_74
      have hX := br_n hX c8
      refine lv_iconst (v := 1) C.1 C.2.1 dX7_prefers_69 (by decide) ?_
      refine lv_goto (tgt := 74) C.1 C.2.1 dX7_prefers_70 (by decide) ?_
      exact G_retz C hr hlk hA hW rfl ⟨(Option.some.inj hX).symm, rfl⟩ dX7_prefers_74
    have hX := br_n hX c7
    refine lv_aload_n C.1 C.2.1 dX7_prefers_45 rfl (lv_at hl 0 rfl) ?_
    refine lv_iload_n C.1 C.2.1 dX7_prefers_46 rfl (lv_at hl 1 rfl) ?_
    obtain ⟨v9, hq, hX⟩ := bnd_st hX
    refine G_V0p (As := [.int x1]) (rest := []) C hW (c_C_Person_distanceTo l D cs ad K hKS hEv t x0 x1 v9 hq.symm) (cwV 1 C.2.2.2.2 gX7_prefers_X7_distanceTo rfl rfl rfl (by decide +kernel) ⟨Nat.le_of_ble_eq_true rfl, Nat.le_of_ble_eq_true rfl⟩) (C_recv hW 7 hk4 rfl rfl) rfl hl.1 rfl (Nat.le_of_ble_eq_true rfl) dX7_prefers_47 (fun H locs hW => ?_)
    refine lv_aload_n C.1 C.2.1 dX7_prefers_50 rfl (lv_at hl 0 rfl) ?_
    refine lv_iload_n C.1 C.2.1 dX7_prefers_51 rfl (lv_at hl 2 rfl) ?_
    obtain ⟨v10, hq, hX⟩ := bnd_st hX
    refine G_V0p (As := [.int x2]) (rest := [.int v9]) C hW (c_C_Person_distanceTo l D cs ad K hKS hEv t x0 x2 v10 hq.symm) (cwV 1 C.2.2.2.2 gX7_prefers_X7_distanceTo rfl rfl rfl (by decide +kernel) ⟨Nat.le_of_ble_eq_true rfl, Nat.le_of_ble_eq_true rfl⟩) (C_recv hW 7 hk4 rfl rfl) rfl hl.1 rfl (Nat.le_of_ble_eq_true rfl) dX7_prefers_52 (fun H locs hW => ?_)
    refine lv_icmp_ge (tgt := 62) C.1 C.2.1 dX7_prefers_55 (by decide) (fun c11 => ?_) (fun c11 => ?_)
    · have hX := br_p hX c11
      refine lv_iconst (v := 0) C.1 C.2.1 dX7_prefers_62 (by decide) ?_
      exact G_retz C hr hlk hA hW rfl ⟨(Option.some.inj hX).symm, rfl⟩ dX7_prefers_63
    have hX := br_n hX c11
    refine lv_iconst (v := 1) C.1 C.2.1 dX7_prefers_58 (by decide) ?_
    refine lv_goto (tgt := 63) C.1 C.2.1 dX7_prefers_59 (by decide) ?_
    exact G_retz C hr hlk hA hW rfl ⟨(Option.some.inj hX).symm, rfl⟩ dX7_prefers_63
  have hX := br_n hX c3
  refine lv_aload_n C.1 C.2.1 dX7_prefers_13 rfl (lv_at hl 3 rfl) ?_
  refine lv_iload_n C.1 C.2.1 dX7_prefers_14 rfl (lv_at hl 1 rfl) ?_
  obtain ⟨v12, hq, hX⟩ := bnd_st hX
  refine G_V0p (As := [.int x1]) (rest := []) C hW (c_C_Land_worthOf l D cs ad K hKS hEv t x1 v12 hq.symm) (cwV 1 C.2.2.2.2 gX7_prefers_X3_worthOf rfl rfl rfl (by decide +kernel) ⟨Nat.le_of_ble_eq_true rfl, Nat.le_of_ble_eq_true rfl⟩) (C_recv hW 3 hKS.k3_0 rfl rfl) rfl hl.1 rfl (Nat.le_of_ble_eq_true rfl) dX7_prefers_15 (fun H locs hW => ?_)
  refine lv_aload_n C.1 C.2.1 dX7_prefers_18 rfl (lv_at hl 3 rfl) ?_
  refine lv_iload_n C.1 C.2.1 dX7_prefers_19 rfl (lv_at hl 2 rfl) ?_
  obtain ⟨v13, hq, hX⟩ := bnd_st hX
  refine G_V0p (As := [.int x2]) (rest := [.int v12]) C hW (c_C_Land_worthOf l D cs ad K hKS hEv t x2 v13 hq.symm) (cwV 1 C.2.2.2.2 gX7_prefers_X3_worthOf rfl rfl rfl (by decide +kernel) ⟨Nat.le_of_ble_eq_true rfl, Nat.le_of_ble_eq_true rfl⟩) (C_recv hW 3 hKS.k3_0 rfl rfl) rfl hl.1 rfl (Nat.le_of_ble_eq_true rfl) dX7_prefers_20 (fun H locs hW => ?_)
  refine lv_icmp_le (tgt := 30) C.1 C.2.1 dX7_prefers_23 (by decide) (fun c14 => ?_) (fun c14 => ?_)
  · have hX := br_p hX c14
    refine lv_iconst (v := 0) C.1 C.2.1 dX7_prefers_30 (by decide) ?_
    exact G_retz C hr hlk hA hW rfl ⟨(Option.some.inj hX).symm, rfl⟩ dX7_prefers_31
  have hX := br_n hX c14
  refine lv_iconst (v := 1) C.1 C.2.1 dX7_prefers_26 (by decide) ?_
  refine lv_goto (tgt := 31) C.1 C.2.1 dX7_prefers_27 (by decide) ?_
  exact G_retz C hr hlk hA hW rfl ⟨(Option.some.inj hX).symm, rfl⟩ dX7_prefers_31
abbrev rm_C_Person_bestUnseen : Room := { frames := 3, cells := 0, slots := 0, locals := 65 }
def C_Person_bestUnseen_L4 : Nat → List (Nat × Nat) → TH → Int32 → Int32 → Nat → Option (Int32 × Int32)
  | 0, _, _, _, _, _ => none
  | n + 1, K, t, x3, x2, x0 => chkP ((7, x0) ∈ K) (if (nI (tN t 17 x0)) ≤ x3 then some (x3, x2) else chkI x3 (tN t 17 x0) (nm (tS t 17 x0 x3.toNatClampNeg) (fun v15 => bnd (C_Person_hasSeen K t x0 v15) (fun v16 => if v16 = 0 then if x2 = (-1) then nm (x3 + 1) (fun v20 => C_Person_bestUnseen_L4 n K t v20 v15 x0) else bnd (C_Person_prefers K t x0 v15 x2) (fun v21 => if v21 = 0 then nm (x3 + 1) (fun v23 => C_Person_bestUnseen_L4 n K t v23 x2 x0) else nm (x3 + 1) (fun v24 => C_Person_bestUnseen_L4 n K t v24 v15 x0)) else nm (x3 + 1) (fun v18 => C_Person_bestUnseen_L4 n K t v18 x2 x0)))))
set_option maxHeartbeats 4000000 in
set_option maxRecDepth 100000 in
theorem r_C_Person_bestUnseen_L4 {p : Program} {l : Launch} {e : Env} {s : State} {m : MethodId} {args : Array Value} {below : List Frame} {meth : Method} {c : Code} {Q : State → Prop} {Ev : EvT} {D : va_G} {cs : Nat → ClassId} {ad : AD} {A : Nat → Prop} {ek ev : Nat → Nat} {tp : Nat} (C : Cx p s m args c cX7_bestUnseen 5 wsX7_bestUnseen RX7) {K : List (Nat × Nat)} (hKS : KS K) (hEv : EvC Ev ek ev tp) : ∀ (n : Nat) (t : TH) (x3 : Int32) (x2 : Int32) (x0 : Nat) (H : Heap) (locs : List Loc) (ls : Array Slot) (X : Int32 × Int32), some X = C_Person_bestUnseen_L4 n K t x3 x2 x0 → GW Ev D (tyC cs) (wC cs ad K) A s t H locs → lv_has ls 5 [(3, .int x3), (2, .int x2), (0, .ref (ad 7 x0)), (1, .ref (ad 3 0))] → (∀ (z3 : Int32) (z2 : Int32) (H : Heap) (locs : List Loc) (ls : Array Slot), X = (z3, z2) → GW Ev D (tyC cs) (wC cs ad K) A s t H locs → lv_has ls 5 [(3, .int z3), (2, .int z2), (0, .ref (ad 7 x0)), (1, .ref (ad 3 0))] → W p l e rm_C_Person_bestUnseen s m args below meth c H locs 0 0 Q (F0 m 55 ls [])) → W p l e rm_C_Person_bestUnseen s m args below meth c H locs 0 0 Q (F0 m 4 ls []) := by
  have hin7 : ∀ w ∈ wsX70, w ∈ wsX7_bestUnseen := fun w hw => List.mem_cons_of_mem _ (List.mem_append_left _ (List.mem_append_right _ hw))
  have f7_4 : (Cond.fieldLink RX7 47 (TX7 4).1 (TX7 4).2.1 (TX7 4).2.2.1).before _ s = true := C.2.2.2.2 _ (List.mem_of_getElem? (i := 1) rfl)
  intro n
  induction n with
  | zero =>
    intro t x3 x2 x0 H locs ls X hX hW hl K0
    cases hX
  | succ n ih =>
    intro t x3 x2 x0 H locs ls X hX hW hl K0
    unfold C_Person_bestUnseen_L4 at hX
    refine lv_iload_n C.1 C.2.1 dX7_bestUnseen_4 rfl (lv_at hl 0 rfl) ?_
    refine lv_aload_n C.1 C.2.1 dX7_bestUnseen_5 rfl (lv_at hl 2 rfl) ?_
    obtain ⟨hk13, hX⟩ := chkP_st hX
    refine C_get C hW 7 rfl hin7 hk13 rfl 4 (by decide) rfl f7_4 dX7_bestUnseen_6 ?_
    refine C_alen C hW (hKS.2 _ hk13).1 rfl 1 rfl dX7_bestUnseen_9 ?_
    refine lv_icmp_ge (tgt := 55) C.1 C.2.1 dX7_bestUnseen_10 (by decide) (fun c14 => ?_) (fun c14 => ?_)
    · have hX := br_p hX c14
      exact K0 x3 x2 H locs ls (Option.some.inj hX) hW (lv_sub hl [0, 1, 2, 3] rfl)
    have hX := br_n hX c14
    refine lv_aload_n C.1 C.2.1 dX7_bestUnseen_13 rfl (lv_at hl 2 rfl) ?_
    refine C_get C hW 7 rfl hin7 hk13 rfl 4 (by decide) rfl f7_4 dX7_bestUnseen_14 ?_
    refine lv_iload_n C.1 C.2.1 dX7_bestUnseen_17 rfl (lv_at hl 0 rfl) ?_
    obtain ⟨hi, hX⟩ := chkI_st hX
    refine C_ldI C hW (hKS.2 _ hk13).1 rfl hi dX7_bestUnseen_18 ?_
    refine lv_topi (fun v15 ev15 => ?_)
    have hX := nm_st hX ev15
    refine lv_istore (i := 4) (lv' := [(4, .int v15), (3, .int x3), (2, .int x2), (0, .ref (ad 7 x0)), (1, .ref (ad 3 0))]) C.1 C.2.1 dX7_bestUnseen_19 hl (by decide) rfl (fun ls hl => ?_)
    refine lv_aload_n C.1 C.2.1 dX7_bestUnseen_21 rfl (lv_at hl 3 rfl) ?_
    refine lv_iload C.1 C.2.1 dX7_bestUnseen_22 (lv_at hl 0 rfl) ?_
    obtain ⟨v16, hq, hX⟩ := bnd_st hX
    refine G_V0p (As := [.int v15]) (rest := []) C hW (c_C_Person_hasSeen l D cs ad K hKS hEv t x0 v15 v16 hq.symm) (cwV 1 C.2.2.2.2 gX7_bestUnseen_X7_hasSeen rfl rfl rfl (by decide +kernel) ⟨Nat.le_of_ble_eq_true rfl, Nat.le_of_ble_eq_true rfl⟩) (C_recv hW 7 hk13 rfl rfl) rfl hl.1 rfl (Nat.le_of_ble_eq_true rfl) dX7_bestUnseen_24 (fun H locs hW => ?_)
    refine lv_if_ne (tgt := 49) C.1 C.2.1 dX7_bestUnseen_27 (by decide) (fun c17 => ?_) (fun c17 => ?_)
    · have hX := br_n hX c17
      obtain ⟨v18, ev18⟩ : ∃ z : Int32, z = x3 + 1 := ⟨_, rfl⟩
      have hX := nm_st hX ev18
      refine lv_iinc (v := v18) (lv' := [(3, .int v18), (4, .int v15), (2, .int x2), (0, .ref (ad 7 x0)), (1, .ref (ad 3 0))]) C.1 C.2.1 dX7_bestUnseen_49 hl (k := 1) rfl (by rw [ev18]; rfl) (by decide) rfl (fun ls hl => ?_)
      refine lv_goto (tgt := 4) C.1 C.2.1 dX7_bestUnseen_52 (by decide) ?_
      exact ih t v18 x2 x0 H locs ls X hX hW (lv_sub hl [0, 2, 3, 4] rfl) K0
    have hX := br_p hX c17
    refine lv_iload_n C.1 C.2.1 dX7_bestUnseen_30 rfl (lv_at hl 2 rfl) ?_
    refine lv_iconst (v := -1) C.1 C.2.1 dX7_bestUnseen_31 (by decide) ?_
    refine lv_icmp_eq (tgt := 46) C.1 C.2.1 dX7_bestUnseen_32 (by decide) (fun c19 => ?_) (fun c19 => ?_)
    · have hX := br_p hX c19
      refine lv_iload C.1 C.2.1 dX7_bestUnseen_46 (lv_at hl 0 rfl) ?_
      refine lv_istore_n (i := 2) (lv' := [(2, .int v15), (4, .int v15), (3, .int x3), (0, .ref (ad 7 x0)), (1, .ref (ad 3 0))]) C.1 C.2.1 dX7_bestUnseen_48 rfl hl (by decide) rfl (fun ls hl => ?_)
      obtain ⟨v20, ev20⟩ : ∃ z : Int32, z = x3 + 1 := ⟨_, rfl⟩
      have hX := nm_st hX ev20
      refine lv_iinc (v := v20) (lv' := [(3, .int v20), (2, .int v15), (4, .int v15), (0, .ref (ad 7 x0)), (1, .ref (ad 3 0))]) C.1 C.2.1 dX7_bestUnseen_49 hl (k := 2) rfl (by rw [ev20]; rfl) (by decide) rfl (fun ls hl => ?_)
      refine lv_goto (tgt := 4) C.1 C.2.1 dX7_bestUnseen_52 (by decide) ?_
      exact ih t v20 v15 x0 H locs ls X hX hW (lv_sub hl [0, 1, 3, 4] rfl) K0
    have hX := br_n hX c19
    refine lv_aload_n C.1 C.2.1 dX7_bestUnseen_35 rfl (lv_at hl 3 rfl) ?_
    refine lv_iload C.1 C.2.1 dX7_bestUnseen_36 (lv_at hl 0 rfl) ?_
    refine lv_iload_n C.1 C.2.1 dX7_bestUnseen_38 rfl (lv_at hl 2 rfl) ?_
    refine lv_aload_n C.1 C.2.1 dX7_bestUnseen_39 rfl (lv_at hl 4 rfl) ?_
    obtain ⟨v21, hq, hX⟩ := bnd_st hX
    refine G_V0p (As := [.int v15, .int x2, .ref (ad 3 0)]) (rest := []) C hW (c_C_Person_prefers l D cs ad K hKS hEv t x0 v15 x2 v21 hq.symm) (cwV 3 C.2.2.2.2 gX7_bestUnseen_X7_prefers rfl rfl rfl (by decide +kernel) ⟨Nat.le_of_ble_eq_true rfl, Nat.le_of_ble_eq_true rfl⟩) (C_recv hW 7 hk13 rfl rfl) rfl hl.1 rfl (Nat.le_of_ble_eq_true rfl) dX7_bestUnseen_40 (fun H locs hW => ?_)
    refine lv_if_eq (tgt := 49) C.1 C.2.1 dX7_bestUnseen_43 (by decide) (fun c22 => ?_) (fun c22 => ?_)
    · have hX := br_p hX c22
      obtain ⟨v23, ev23⟩ : ∃ z : Int32, z = x3 + 1 := ⟨_, rfl⟩
      have hX := nm_st hX ev23
      refine lv_iinc (v := v23) (lv' := [(3, .int v23), (4, .int v15), (2, .int x2), (0, .ref (ad 7 x0)), (1, .ref (ad 3 0))]) C.1 C.2.1 dX7_bestUnseen_49 hl (k := 1) rfl (by rw [ev23]; rfl) (by decide) rfl (fun ls hl => ?_)
      refine lv_goto (tgt := 4) C.1 C.2.1 dX7_bestUnseen_52 (by decide) ?_
      exact ih t v23 x2 x0 H locs ls X hX hW (lv_sub hl [0, 2, 3, 4] rfl) K0
    have hX := br_n hX c22
    refine lv_iload C.1 C.2.1 dX7_bestUnseen_46 (lv_at hl 0 rfl) ?_
    refine lv_istore_n (i := 2) (lv' := [(2, .int v15), (4, .int v15), (3, .int x3), (0, .ref (ad 7 x0)), (1, .ref (ad 3 0))]) C.1 C.2.1 dX7_bestUnseen_48 rfl hl (by decide) rfl (fun ls hl => ?_)
    obtain ⟨v24, ev24⟩ : ∃ z : Int32, z = x3 + 1 := ⟨_, rfl⟩
    have hX := nm_st hX ev24
    refine lv_iinc (v := v24) (lv' := [(3, .int v24), (2, .int v15), (4, .int v15), (0, .ref (ad 7 x0)), (1, .ref (ad 3 0))]) C.1 C.2.1 dX7_bestUnseen_49 hl (k := 2) rfl (by rw [ev24]; rfl) (by decide) rfl (fun ls hl => ?_)
    refine lv_goto (tgt := 4) C.1 C.2.1 dX7_bestUnseen_52 (by decide) ?_
    exact ih t v24 v15 x0 H locs ls X hX hW (lv_sub hl [0, 1, 3, 4] rfl) K0
def C_Person_bestUnseen (K : List (Nat × Nat)) (t : TH) (x0 : Nat) : Option (Int32) := bnd (C_Person_bestUnseen_L4 100000 K t 0 (-1) x0) (fun q => nm2 q (fun v25 v26 => some v26))
set_option maxHeartbeats 4000000 in
set_option maxRecDepth 100000 in
theorem c_C_Person_bestUnseen {Ev : EvT} {ek ev : Nat → Nat} {tp : Nat} (l : Launch) (D : va_G) (cs : Nat → ClassId) (ad : AD) (K : List (Nat × Nat)) (hKS : KS K) (hEv : EvC Ev ek ev tp) (t : TH) (x0 : Nat) (X : Int32) (hX : some X = C_Person_bestUnseen K t x0) : cGi Ev l D (tyC cs) (wC cs ad K) yX7_bestUnseen wsX7_bestUnseen rm_C_Person_bestUnseen 0 0 [.ref (ad 7 x0), .ref (ad 3 0)] t (fun r u => r = X ∧ u = t) := by
  refine G_ini (cc := cX7_bestUnseen) (maxL := 5) (ret := some .int) (by decide) rfl (Nat.le_of_ble_eq_true rfl) ?_
  intro p e s m below meth c A ls C hr hlk hini hA hW hl
  have C : Cx p s m _ c cX7_bestUnseen 5 wsX7_bestUnseen RX7 := C
  have hl : lv_has ls 5 [(0, .ref (ad 7 x0)), (1, .ref (ad 3 0))] := hl
  have hin7 : ∀ w ∈ wsX70, w ∈ wsX7_bestUnseen := fun w hw => List.mem_cons_of_mem _ (List.mem_append_left _ (List.mem_append_right _ hw))
  have f7_4 : (Cond.fieldLink RX7 47 (TX7 4).1 (TX7 4).2.1 (TX7 4).2.2.1).before _ s = true := C.2.2.2.2 _ (List.mem_of_getElem? (i := 1) rfl)
  obtain ⟨H, hH⟩ : ∃ H, H = s.heap := ⟨_, rfl⟩
  obtain ⟨locs, hlo⟩ : ∃ z : List Loc, z = [] := ⟨_, rfl⟩
  have hW : GW Ev D (tyC cs) (wC cs ad K) A s t H locs := by rw [hH, hlo]; exact hW
  rw [show W p l e rm_C_Person_bestUnseen s m _ below meth c s.heap [] = W p l e rm_C_Person_bestUnseen s m _ below meth c H locs from by rw [hH, hlo]]
  unfold C_Person_bestUnseen at hX
  refine lv_iconst (v := -1) C.1 C.2.1 dX7_bestUnseen_0 (by decide) ?_
  refine lv_istore_n (i := 2) (lv' := [(2, .int (-1)), (0, .ref (ad 7 x0)), (1, .ref (ad 3 0))]) C.1 C.2.1 dX7_bestUnseen_1 rfl hl (by decide) rfl (fun ls hl => ?_)
  refine lv_iconst (v := 0) C.1 C.2.1 dX7_bestUnseen_2 (by decide) ?_
  refine lv_istore_n (i := 3) (lv' := [(3, .int 0), (2, .int (-1)), (0, .ref (ad 7 x0)), (1, .ref (ad 3 0))]) C.1 C.2.1 dX7_bestUnseen_3 rfl hl (by decide) rfl (fun ls hl => ?_)
  obtain ⟨q, hq, hX⟩ := bnd_st hX
  refine r_C_Person_bestUnseen_L4 C hKS hEv 100000 t 0 (-1) x0 H locs ls q hq.symm hW (lv_sub hl [0, 1, 2, 3] rfl) ?_
  intro v25 v26 H locs ls hq hW hl
  subst hq
  have hX := nm2_st hX rfl
  refine lv_iload_n C.1 C.2.1 dX7_bestUnseen_55 rfl (lv_at hl 1 rfl) ?_
  exact G_reti C hr hlk hA hW ⟨(Option.some.inj hX).symm, rfl⟩ dX7_bestUnseen_56
abbrev rm_C_Person_bestFree : Room := { frames := 1, cells := 0, slots := 0, locals := 21 }
def C_Person_bestFree_L6 : Nat → List (Nat × Nat) → TH → Int32 → Int32 → Nat → Int64 → Option (Int32 × Int32)
  | 0, _, _, _, _, _, _ => none
  | n + 1, K, t, x5, x4, x0, x2 => chkP ((7, x0) ∈ K) (if (nI (tN t 17 x0)) ≤ x5 then some (x5, x4) else chkI x5 (tN t 17 x0) (nm (tS t 17 x0 x5.toNatClampNeg) (fun v37 => if (lg_cmp (((x2.toUInt64 >>> (v37.toInt64.toUInt64 &&& Int64.toUInt64 63)).toInt64) &&& 1) 0) = 0 then if (1 : Int32) = 0 then nm (x5 + 1) (fun v55 => C_Person_bestFree_L6 n K t v55 x4 x0 x2) else if x4 = (-1) then nm (x5 + 1) (fun v57 => C_Person_bestFree_L6 n K t v57 v37 x0 x2) else bnd (C_Land_worthOf K t v37) (fun v58 => bnd (C_Land_worthOf K t x4) (fun v59 => if v59 < v58 then nm (x5 + 1) (fun v61 => C_Person_bestFree_L6 n K t v61 v37 x0 x2) else bnd (C_Land_worthOf K t v37) (fun v62 => bnd (C_Land_worthOf K t x4) (fun v63 => if v62 = v63 then if x4 ≤ v37 then nm (x5 + 1) (fun v67 => C_Person_bestFree_L6 n K t v67 x4 x0 x2) else nm (x5 + 1) (fun v68 => C_Person_bestFree_L6 n K t v68 v37 x0 x2) else nm (x5 + 1) (fun v65 => C_Person_bestFree_L6 n K t v65 x4 x0 x2))))) else if (0 : Int32) = 0 then nm (x5 + 1) (fun v40 => C_Person_bestFree_L6 n K t v40 x4 x0 x2) else if x4 = (-1) then nm (x5 + 1) (fun v42 => C_Person_bestFree_L6 n K t v42 v37 x0 x2) else bnd (C_Land_worthOf K t v37) (fun v43 => bnd (C_Land_worthOf K t x4) (fun v44 => if v44 < v43 then nm (x5 + 1) (fun v46 => C_Person_bestFree_L6 n K t v46 v37 x0 x2) else bnd (C_Land_worthOf K t v37) (fun v47 => bnd (C_Land_worthOf K t x4) (fun v48 => if v47 = v48 then if x4 ≤ v37 then nm (x5 + 1) (fun v52 => C_Person_bestFree_L6 n K t v52 x4 x0 x2) else nm (x5 + 1) (fun v53 => C_Person_bestFree_L6 n K t v53 v37 x0 x2) else nm (x5 + 1) (fun v50 => C_Person_bestFree_L6 n K t v50 x4 x0 x2))))))))
set_option maxHeartbeats 4000000 in
set_option maxRecDepth 100000 in
theorem r_C_Person_bestFree_L6 {p : Program} {l : Launch} {e : Env} {s : State} {m : MethodId} {args : Array Value} {below : List Frame} {meth : Method} {c : Code} {Q : State → Prop} {Ev : EvT} {D : va_G} {cs : Nat → ClassId} {ad : AD} {A : Nat → Prop} {ek ev : Nat → Nat} {tp : Nat} (C : Cx p s m args c cX7_bestFree 8 wsX7_bestFree RX7) {K : List (Nat × Nat)} (hKS : KS K) (hEv : EvC Ev ek ev tp) : ∀ (n : Nat) (t : TH) (x5 : Int32) (x4 : Int32) (x0 : Nat) (x2 : Int64) (H : Heap) (locs : List Loc) (ls : Array Slot) (X : Int32 × Int32), some X = C_Person_bestFree_L6 n K t x5 x4 x0 x2 → GW Ev D (tyC cs) (wC cs ad K) A s t H locs → lv_has ls 8 [(5, .int x5), (4, .int x4), (0, .ref (ad 7 x0)), (1, .ref (ad 3 0)), (2, .long x2)] → (∀ (z5 : Int32) (z4 : Int32) (H : Heap) (locs : List Loc) (ls : Array Slot), X = (z5, z4) → GW Ev D (tyC cs) (wC cs ad K) A s t H locs → lv_has ls 8 [(5, .int z5), (4, .int z4), (0, .ref (ad 7 x0)), (1, .ref (ad 3 0)), (2, .long x2)] → W p l e rm_C_Person_bestFree s m args below meth c H locs 0 0 Q (F0 m 101 ls [])) → W p l e rm_C_Person_bestFree s m args below meth c H locs 0 0 Q (F0 m 6 ls []) := by
  have hin7 : ∀ w ∈ wsX70, w ∈ wsX7_bestFree := fun w hw => List.mem_cons_of_mem _ (List.mem_append_left _ (List.mem_append_right _ hw))
  have f7_4 : (Cond.fieldLink RX7 47 (TX7 4).1 (TX7 4).2.1 (TX7 4).2.2.1).before _ s = true := C.2.2.2.2 _ (List.mem_of_getElem? (i := 1) rfl)
  intro n
  induction n with
  | zero =>
    intro t x5 x4 x0 x2 H locs ls X hX hW hl K0
    cases hX
  | succ n ih =>
    intro t x5 x4 x0 x2 H locs ls X hX hW hl K0
    unfold C_Person_bestFree_L6 at hX
    refine lv_iload C.1 C.2.1 dX7_bestFree_6 (lv_at hl 0 rfl) ?_
    refine lv_aload_n C.1 C.2.1 dX7_bestFree_8 rfl (lv_at hl 2 rfl) ?_
    obtain ⟨hk35, hX⟩ := chkP_st hX
    refine C_get C hW 7 rfl hin7 hk35 rfl 4 (by decide) rfl f7_4 dX7_bestFree_9 ?_
    refine C_alen C hW (hKS.2 _ hk35).1 rfl 1 rfl dX7_bestFree_12 ?_
    refine lv_icmp_ge (tgt := 101) C.1 C.2.1 dX7_bestFree_13 (by decide) (fun c36 => ?_) (fun c36 => ?_)
    · have hX := br_p hX c36
      exact K0 x5 x4 H locs ls (Option.some.inj hX) hW (lv_sub hl [0, 1, 2, 3, 4] rfl)
    have hX := br_n hX c36
    refine lv_aload_n C.1 C.2.1 dX7_bestFree_16 rfl (lv_at hl 2 rfl) ?_
    refine C_get C hW 7 rfl hin7 hk35 rfl 4 (by decide) rfl f7_4 dX7_bestFree_17 ?_
    refine lv_iload C.1 C.2.1 dX7_bestFree_20 (lv_at hl 0 rfl) ?_
    obtain ⟨hi, hX⟩ := chkI_st hX
    refine C_ldI C hW (hKS.2 _ hk35).1 rfl hi dX7_bestFree_22 ?_
    refine lv_topi (fun v37 ev37 => ?_)
    have hX := nm_st hX ev37
    refine lv_istore (i := 6) (lv' := [(6, .int v37), (5, .int x5), (4, .int x4), (0, .ref (ad 7 x0)), (1, .ref (ad 3 0)), (2, .long x2)]) C.1 C.2.1 dX7_bestFree_23 hl (by decide) rfl (fun ls hl => ?_)
    refine lv_lload_n C.1 C.2.1 dX7_bestFree_25 rfl (lv_at hl 5 rfl) ?_
    refine lv_iload C.1 C.2.1 dX7_bestFree_26 (lv_at hl 0 rfl) ?_
    refine lv_lushr C.1 C.2.1 dX7_bestFree_28 rfl ?_
    refine lv_lconst (v := 1) C.1 C.2.1 dX7_bestFree_29 (by decide) ?_
    refine lv_land C.1 C.2.1 dX7_bestFree_30 ?_
    refine lv_lconst (v := 0) C.1 C.2.1 dX7_bestFree_31 (by decide) ?_
    refine W.lcmp C.1 C.2.1 dX7_bestFree_32 ?_
    refine lv_if_ne (tgt := 40) C.1 C.2.1 dX7_bestFree_33 (by decide) (fun c38 => ?_) (fun c38 => ?_)
    · have hX := br_n hX c38
      refine lv_iconst (v := 0) C.1 C.2.1 dX7_bestFree_40 (by decide) ?_
      refine lv_istore (i := 7) (lv' := [(7, .int 0), (6, .int v37), (5, .int x5), (4, .int x4), (0, .ref (ad 7 x0)), (1, .ref (ad 3 0)), (2, .long x2)]) C.1 C.2.1 dX7_bestFree_41 hl (by decide) rfl (fun ls hl => ?_)
      refine lv_iload C.1 C.2.1 dX7_bestFree_43 (lv_at hl 0 rfl) ?_
      refine lv_if_eq (tgt := 95) C.1 C.2.1 dX7_bestFree_45 (by decide) (fun c39 => ?_) (fun c39 => ?_)
      · have hX := br_p hX c39
        obtain ⟨v40, ev40⟩ : ∃ z : Int32, z = x5 + 1 := ⟨_, rfl⟩
        have hX := nm_st hX ev40
        refine lv_iinc (v := v40) (lv' := [(5, .int v40), (7, .int 0), (6, .int v37), (4, .int x4), (0, .ref (ad 7 x0)), (1, .ref (ad 3 0)), (2, .long x2)]) C.1 C.2.1 dX7_bestFree_95 hl (k := 2) rfl (by rw [ev40]; rfl) (by decide) rfl (fun ls hl => ?_)
        refine lv_goto (tgt := 6) C.1 C.2.1 dX7_bestFree_98 (by decide) ?_
        exact ih t v40 x4 x0 x2 H locs ls X hX hW (lv_sub hl [0, 3, 4, 5, 6] rfl) K0
      have hX := br_n hX c39
      refine lv_iload C.1 C.2.1 dX7_bestFree_48 (lv_at hl 3 rfl) ?_
      refine lv_iconst (v := -1) C.1 C.2.1 dX7_bestFree_50 (by decide) ?_
      refine lv_icmp_eq (tgt := 91) C.1 C.2.1 dX7_bestFree_51 (by decide) (fun c41 => ?_) (fun c41 => ?_)
      · have hX := br_p hX c41
        refine lv_iload C.1 C.2.1 dX7_bestFree_91 (lv_at hl 1 rfl) ?_
        refine lv_istore (i := 4) (lv' := [(4, .int v37), (7, .int 0), (6, .int v37), (5, .int x5), (0, .ref (ad 7 x0)), (1, .ref (ad 3 0)), (2, .long x2)]) C.1 C.2.1 dX7_bestFree_93 hl (by decide) rfl (fun ls hl => ?_)
        obtain ⟨v42, ev42⟩ : ∃ z : Int32, z = x5 + 1 := ⟨_, rfl⟩
        have hX := nm_st hX ev42
        refine lv_iinc (v := v42) (lv' := [(5, .int v42), (4, .int v37), (7, .int 0), (6, .int v37), (0, .ref (ad 7 x0)), (1, .ref (ad 3 0)), (2, .long x2)]) C.1 C.2.1 dX7_bestFree_95 hl (k := 3) rfl (by rw [ev42]; rfl) (by decide) rfl (fun ls hl => ?_)
        refine lv_goto (tgt := 6) C.1 C.2.1 dX7_bestFree_98 (by decide) ?_
        exact ih t v42 v37 x0 x2 H locs ls X hX hW (lv_sub hl [0, 1, 4, 5, 6] rfl) K0
      have hX := br_n hX c41
      refine lv_aload_n C.1 C.2.1 dX7_bestFree_54 rfl (lv_at hl 5 rfl) ?_
      refine lv_iload C.1 C.2.1 dX7_bestFree_55 (lv_at hl 1 rfl) ?_
      obtain ⟨v43, hq, hX⟩ := bnd_st hX
      refine G_V0p (As := [.int v37]) (rest := []) C hW (c_C_Land_worthOf l D cs ad K hKS hEv t v37 v43 hq.symm) (cwV 1 C.2.2.2.2 gX7_bestFree_X3_worthOf rfl rfl rfl (by decide +kernel) ⟨Nat.le_of_ble_eq_true rfl, Nat.le_of_ble_eq_true rfl⟩) (C_recv hW 3 hKS.k3_0 rfl rfl) rfl hl.1 rfl (Nat.le_of_ble_eq_true rfl) dX7_bestFree_57 (fun H locs hW => ?_)
      refine lv_aload_n C.1 C.2.1 dX7_bestFree_60 rfl (lv_at hl 5 rfl) ?_
      refine lv_iload C.1 C.2.1 dX7_bestFree_61 (lv_at hl 3 rfl) ?_
      obtain ⟨v44, hq, hX⟩ := bnd_st hX
      refine G_V0p (As := [.int x4]) (rest := [.int v43]) C hW (c_C_Land_worthOf l D cs ad K hKS hEv t x4 v44 hq.symm) (cwV 1 C.2.2.2.2 gX7_bestFree_X3_worthOf rfl rfl rfl (by decide +kernel) ⟨Nat.le_of_ble_eq_true rfl, Nat.le_of_ble_eq_true rfl⟩) (C_recv hW 3 hKS.k3_0 rfl rfl) rfl hl.1 rfl (Nat.le_of_ble_eq_true rfl) dX7_bestFree_63 (fun H locs hW => ?_)
      refine lv_icmp_gt (tgt := 91) C.1 C.2.1 dX7_bestFree_66 (by decide) (fun c45 => ?_) (fun c45 => ?_)
      · have hX := br_p hX c45
        refine lv_iload C.1 C.2.1 dX7_bestFree_91 (lv_at hl 1 rfl) ?_
        refine lv_istore (i := 4) (lv' := [(4, .int v37), (7, .int 0), (6, .int v37), (5, .int x5), (0, .ref (ad 7 x0)), (1, .ref (ad 3 0)), (2, .long x2)]) C.1 C.2.1 dX7_bestFree_93 hl (by decide) rfl (fun ls hl => ?_)
        obtain ⟨v46, ev46⟩ : ∃ z : Int32, z = x5 + 1 := ⟨_, rfl⟩
        have hX := nm_st hX ev46
        refine lv_iinc (v := v46) (lv' := [(5, .int v46), (4, .int v37), (7, .int 0), (6, .int v37), (0, .ref (ad 7 x0)), (1, .ref (ad 3 0)), (2, .long x2)]) C.1 C.2.1 dX7_bestFree_95 hl (k := 3) rfl (by rw [ev46]; rfl) (by decide) rfl (fun ls hl => ?_)
        refine lv_goto (tgt := 6) C.1 C.2.1 dX7_bestFree_98 (by decide) ?_
        exact ih t v46 v37 x0 x2 H locs ls X hX hW (lv_sub hl [0, 1, 4, 5, 6] rfl) K0
      have hX := br_n hX c45
      refine lv_aload_n C.1 C.2.1 dX7_bestFree_69 rfl (lv_at hl 5 rfl) ?_
      refine lv_iload C.1 C.2.1 dX7_bestFree_70 (lv_at hl 1 rfl) ?_
      obtain ⟨v47, hq, hX⟩ := bnd_st hX
      refine G_V0p (As := [.int v37]) (rest := []) C hW (c_C_Land_worthOf l D cs ad K hKS hEv t v37 v47 hq.symm) (cwV 1 C.2.2.2.2 gX7_bestFree_X3_worthOf rfl rfl rfl (by decide +kernel) ⟨Nat.le_of_ble_eq_true rfl, Nat.le_of_ble_eq_true rfl⟩) (C_recv hW 3 hKS.k3_0 rfl rfl) rfl hl.1 rfl (Nat.le_of_ble_eq_true rfl) dX7_bestFree_72 (fun H locs hW => ?_)
      refine lv_aload_n C.1 C.2.1 dX7_bestFree_75 rfl (lv_at hl 5 rfl) ?_
      refine lv_iload C.1 C.2.1 dX7_bestFree_76 (lv_at hl 3 rfl) ?_
      obtain ⟨v48, hq, hX⟩ := bnd_st hX
      refine G_V0p (As := [.int x4]) (rest := [.int v47]) C hW (c_C_Land_worthOf l D cs ad K hKS hEv t x4 v48 hq.symm) (cwV 1 C.2.2.2.2 gX7_bestFree_X3_worthOf rfl rfl rfl (by decide +kernel) ⟨Nat.le_of_ble_eq_true rfl, Nat.le_of_ble_eq_true rfl⟩) (C_recv hW 3 hKS.k3_0 rfl rfl) rfl hl.1 rfl (Nat.le_of_ble_eq_true rfl) dX7_bestFree_78 (fun H locs hW => ?_)
      refine lv_icmp_ne (tgt := 95) C.1 C.2.1 dX7_bestFree_81 (by decide) (fun c49 => ?_) (fun c49 => ?_)
      · have hX := br_n hX c49
        obtain ⟨v50, ev50⟩ : ∃ z : Int32, z = x5 + 1 := ⟨_, rfl⟩
        have hX := nm_st hX ev50
        refine lv_iinc (v := v50) (lv' := [(5, .int v50), (7, .int 0), (6, .int v37), (4, .int x4), (0, .ref (ad 7 x0)), (1, .ref (ad 3 0)), (2, .long x2)]) C.1 C.2.1 dX7_bestFree_95 hl (k := 2) rfl (by rw [ev50]; rfl) (by decide) rfl (fun ls hl => ?_)
        refine lv_goto (tgt := 6) C.1 C.2.1 dX7_bestFree_98 (by decide) ?_
        exact ih t v50 x4 x0 x2 H locs ls X hX hW (lv_sub hl [0, 3, 4, 5, 6] rfl) K0
      have hX := br_p hX c49
      refine lv_iload C.1 C.2.1 dX7_bestFree_84 (lv_at hl 1 rfl) ?_
      refine lv_iload C.1 C.2.1 dX7_bestFree_86 (lv_at hl 3 rfl) ?_
      refine lv_icmp_ge (tgt := 95) C.1 C.2.1 dX7_bestFree_88 (by decide) (fun c51 => ?_) (fun c51 => ?_)
      · have hX := br_p hX c51
        obtain ⟨v52, ev52⟩ : ∃ z : Int32, z = x5 + 1 := ⟨_, rfl⟩
        have hX := nm_st hX ev52
        refine lv_iinc (v := v52) (lv' := [(5, .int v52), (7, .int 0), (6, .int v37), (4, .int x4), (0, .ref (ad 7 x0)), (1, .ref (ad 3 0)), (2, .long x2)]) C.1 C.2.1 dX7_bestFree_95 hl (k := 2) rfl (by rw [ev52]; rfl) (by decide) rfl (fun ls hl => ?_)
        refine lv_goto (tgt := 6) C.1 C.2.1 dX7_bestFree_98 (by decide) ?_
        exact ih t v52 x4 x0 x2 H locs ls X hX hW (lv_sub hl [0, 3, 4, 5, 6] rfl) K0
      have hX := br_n hX c51
      refine lv_iload C.1 C.2.1 dX7_bestFree_91 (lv_at hl 1 rfl) ?_
      refine lv_istore (i := 4) (lv' := [(4, .int v37), (7, .int 0), (6, .int v37), (5, .int x5), (0, .ref (ad 7 x0)), (1, .ref (ad 3 0)), (2, .long x2)]) C.1 C.2.1 dX7_bestFree_93 hl (by decide) rfl (fun ls hl => ?_)
      obtain ⟨v53, ev53⟩ : ∃ z : Int32, z = x5 + 1 := ⟨_, rfl⟩
      have hX := nm_st hX ev53
      refine lv_iinc (v := v53) (lv' := [(5, .int v53), (4, .int v37), (7, .int 0), (6, .int v37), (0, .ref (ad 7 x0)), (1, .ref (ad 3 0)), (2, .long x2)]) C.1 C.2.1 dX7_bestFree_95 hl (k := 3) rfl (by rw [ev53]; rfl) (by decide) rfl (fun ls hl => ?_)
      refine lv_goto (tgt := 6) C.1 C.2.1 dX7_bestFree_98 (by decide) ?_
      exact ih t v53 v37 x0 x2 H locs ls X hX hW (lv_sub hl [0, 1, 4, 5, 6] rfl) K0
    have hX := br_p hX c38
    refine lv_iconst (v := 1) C.1 C.2.1 dX7_bestFree_36 (by decide) ?_
    refine lv_goto (tgt := 41) C.1 C.2.1 dX7_bestFree_37 (by decide) ?_
    refine lv_istore (i := 7) (lv' := [(7, .int 1), (6, .int v37), (5, .int x5), (4, .int x4), (0, .ref (ad 7 x0)), (1, .ref (ad 3 0)), (2, .long x2)]) C.1 C.2.1 dX7_bestFree_41 hl (by decide) rfl (fun ls hl => ?_)
    refine lv_iload C.1 C.2.1 dX7_bestFree_43 (lv_at hl 0 rfl) ?_
    refine lv_if_eq (tgt := 95) C.1 C.2.1 dX7_bestFree_45 (by decide) (fun c54 => ?_) (fun c54 => ?_)
    · have hX := br_p hX c54
      obtain ⟨v55, ev55⟩ : ∃ z : Int32, z = x5 + 1 := ⟨_, rfl⟩
      have hX := nm_st hX ev55
      refine lv_iinc (v := v55) (lv' := [(5, .int v55), (7, .int 1), (6, .int v37), (4, .int x4), (0, .ref (ad 7 x0)), (1, .ref (ad 3 0)), (2, .long x2)]) C.1 C.2.1 dX7_bestFree_95 hl (k := 2) rfl (by rw [ev55]; rfl) (by decide) rfl (fun ls hl => ?_)
      refine lv_goto (tgt := 6) C.1 C.2.1 dX7_bestFree_98 (by decide) ?_
      exact ih t v55 x4 x0 x2 H locs ls X hX hW (lv_sub hl [0, 3, 4, 5, 6] rfl) K0
    have hX := br_n hX c54
    refine lv_iload C.1 C.2.1 dX7_bestFree_48 (lv_at hl 3 rfl) ?_
    refine lv_iconst (v := -1) C.1 C.2.1 dX7_bestFree_50 (by decide) ?_
    refine lv_icmp_eq (tgt := 91) C.1 C.2.1 dX7_bestFree_51 (by decide) (fun c56 => ?_) (fun c56 => ?_)
    · have hX := br_p hX c56
      refine lv_iload C.1 C.2.1 dX7_bestFree_91 (lv_at hl 1 rfl) ?_
      refine lv_istore (i := 4) (lv' := [(4, .int v37), (7, .int 1), (6, .int v37), (5, .int x5), (0, .ref (ad 7 x0)), (1, .ref (ad 3 0)), (2, .long x2)]) C.1 C.2.1 dX7_bestFree_93 hl (by decide) rfl (fun ls hl => ?_)
      obtain ⟨v57, ev57⟩ : ∃ z : Int32, z = x5 + 1 := ⟨_, rfl⟩
      have hX := nm_st hX ev57
      refine lv_iinc (v := v57) (lv' := [(5, .int v57), (4, .int v37), (7, .int 1), (6, .int v37), (0, .ref (ad 7 x0)), (1, .ref (ad 3 0)), (2, .long x2)]) C.1 C.2.1 dX7_bestFree_95 hl (k := 3) rfl (by rw [ev57]; rfl) (by decide) rfl (fun ls hl => ?_)
      refine lv_goto (tgt := 6) C.1 C.2.1 dX7_bestFree_98 (by decide) ?_
      exact ih t v57 v37 x0 x2 H locs ls X hX hW (lv_sub hl [0, 1, 4, 5, 6] rfl) K0
    have hX := br_n hX c56
    refine lv_aload_n C.1 C.2.1 dX7_bestFree_54 rfl (lv_at hl 5 rfl) ?_
    refine lv_iload C.1 C.2.1 dX7_bestFree_55 (lv_at hl 1 rfl) ?_
    obtain ⟨v58, hq, hX⟩ := bnd_st hX
    refine G_V0p (As := [.int v37]) (rest := []) C hW (c_C_Land_worthOf l D cs ad K hKS hEv t v37 v58 hq.symm) (cwV 1 C.2.2.2.2 gX7_bestFree_X3_worthOf rfl rfl rfl (by decide +kernel) ⟨Nat.le_of_ble_eq_true rfl, Nat.le_of_ble_eq_true rfl⟩) (C_recv hW 3 hKS.k3_0 rfl rfl) rfl hl.1 rfl (Nat.le_of_ble_eq_true rfl) dX7_bestFree_57 (fun H locs hW => ?_)
    refine lv_aload_n C.1 C.2.1 dX7_bestFree_60 rfl (lv_at hl 5 rfl) ?_
    refine lv_iload C.1 C.2.1 dX7_bestFree_61 (lv_at hl 3 rfl) ?_
    obtain ⟨v59, hq, hX⟩ := bnd_st hX
    refine G_V0p (As := [.int x4]) (rest := [.int v58]) C hW (c_C_Land_worthOf l D cs ad K hKS hEv t x4 v59 hq.symm) (cwV 1 C.2.2.2.2 gX7_bestFree_X3_worthOf rfl rfl rfl (by decide +kernel) ⟨Nat.le_of_ble_eq_true rfl, Nat.le_of_ble_eq_true rfl⟩) (C_recv hW 3 hKS.k3_0 rfl rfl) rfl hl.1 rfl (Nat.le_of_ble_eq_true rfl) dX7_bestFree_63 (fun H locs hW => ?_)
    refine lv_icmp_gt (tgt := 91) C.1 C.2.1 dX7_bestFree_66 (by decide) (fun c60 => ?_) (fun c60 => ?_)
    · have hX := br_p hX c60
      refine lv_iload C.1 C.2.1 dX7_bestFree_91 (lv_at hl 1 rfl) ?_
      refine lv_istore (i := 4) (lv' := [(4, .int v37), (7, .int 1), (6, .int v37), (5, .int x5), (0, .ref (ad 7 x0)), (1, .ref (ad 3 0)), (2, .long x2)]) C.1 C.2.1 dX7_bestFree_93 hl (by decide) rfl (fun ls hl => ?_)
      obtain ⟨v61, ev61⟩ : ∃ z : Int32, z = x5 + 1 := ⟨_, rfl⟩
      have hX := nm_st hX ev61
      refine lv_iinc (v := v61) (lv' := [(5, .int v61), (4, .int v37), (7, .int 1), (6, .int v37), (0, .ref (ad 7 x0)), (1, .ref (ad 3 0)), (2, .long x2)]) C.1 C.2.1 dX7_bestFree_95 hl (k := 3) rfl (by rw [ev61]; rfl) (by decide) rfl (fun ls hl => ?_)
      refine lv_goto (tgt := 6) C.1 C.2.1 dX7_bestFree_98 (by decide) ?_
      exact ih t v61 v37 x0 x2 H locs ls X hX hW (lv_sub hl [0, 1, 4, 5, 6] rfl) K0
    have hX := br_n hX c60
    refine lv_aload_n C.1 C.2.1 dX7_bestFree_69 rfl (lv_at hl 5 rfl) ?_
    refine lv_iload C.1 C.2.1 dX7_bestFree_70 (lv_at hl 1 rfl) ?_
    obtain ⟨v62, hq, hX⟩ := bnd_st hX
    refine G_V0p (As := [.int v37]) (rest := []) C hW (c_C_Land_worthOf l D cs ad K hKS hEv t v37 v62 hq.symm) (cwV 1 C.2.2.2.2 gX7_bestFree_X3_worthOf rfl rfl rfl (by decide +kernel) ⟨Nat.le_of_ble_eq_true rfl, Nat.le_of_ble_eq_true rfl⟩) (C_recv hW 3 hKS.k3_0 rfl rfl) rfl hl.1 rfl (Nat.le_of_ble_eq_true rfl) dX7_bestFree_72 (fun H locs hW => ?_)
    refine lv_aload_n C.1 C.2.1 dX7_bestFree_75 rfl (lv_at hl 5 rfl) ?_
    refine lv_iload C.1 C.2.1 dX7_bestFree_76 (lv_at hl 3 rfl) ?_
    obtain ⟨v63, hq, hX⟩ := bnd_st hX
    refine G_V0p (As := [.int x4]) (rest := [.int v62]) C hW (c_C_Land_worthOf l D cs ad K hKS hEv t x4 v63 hq.symm) (cwV 1 C.2.2.2.2 gX7_bestFree_X3_worthOf rfl rfl rfl (by decide +kernel) ⟨Nat.le_of_ble_eq_true rfl, Nat.le_of_ble_eq_true rfl⟩) (C_recv hW 3 hKS.k3_0 rfl rfl) rfl hl.1 rfl (Nat.le_of_ble_eq_true rfl) dX7_bestFree_78 (fun H locs hW => ?_)
    refine lv_icmp_ne (tgt := 95) C.1 C.2.1 dX7_bestFree_81 (by decide) (fun c64 => ?_) (fun c64 => ?_)
    · have hX := br_n hX c64
      obtain ⟨v65, ev65⟩ : ∃ z : Int32, z = x5 + 1 := ⟨_, rfl⟩
      have hX := nm_st hX ev65
      refine lv_iinc (v := v65) (lv' := [(5, .int v65), (7, .int 1), (6, .int v37), (4, .int x4), (0, .ref (ad 7 x0)), (1, .ref (ad 3 0)), (2, .long x2)]) C.1 C.2.1 dX7_bestFree_95 hl (k := 2) rfl (by rw [ev65]; rfl) (by decide) rfl (fun ls hl => ?_)
      refine lv_goto (tgt := 6) C.1 C.2.1 dX7_bestFree_98 (by decide) ?_
      exact ih t v65 x4 x0 x2 H locs ls X hX hW (lv_sub hl [0, 3, 4, 5, 6] rfl) K0
    have hX := br_p hX c64
    refine lv_iload C.1 C.2.1 dX7_bestFree_84 (lv_at hl 1 rfl) ?_
    refine lv_iload C.1 C.2.1 dX7_bestFree_86 (lv_at hl 3 rfl) ?_
    refine lv_icmp_ge (tgt := 95) C.1 C.2.1 dX7_bestFree_88 (by decide) (fun c66 => ?_) (fun c66 => ?_)
    · have hX := br_p hX c66
      obtain ⟨v67, ev67⟩ : ∃ z : Int32, z = x5 + 1 := ⟨_, rfl⟩
      have hX := nm_st hX ev67
      refine lv_iinc (v := v67) (lv' := [(5, .int v67), (7, .int 1), (6, .int v37), (4, .int x4), (0, .ref (ad 7 x0)), (1, .ref (ad 3 0)), (2, .long x2)]) C.1 C.2.1 dX7_bestFree_95 hl (k := 2) rfl (by rw [ev67]; rfl) (by decide) rfl (fun ls hl => ?_)
      refine lv_goto (tgt := 6) C.1 C.2.1 dX7_bestFree_98 (by decide) ?_
      exact ih t v67 x4 x0 x2 H locs ls X hX hW (lv_sub hl [0, 3, 4, 5, 6] rfl) K0
    have hX := br_n hX c66
    refine lv_iload C.1 C.2.1 dX7_bestFree_91 (lv_at hl 1 rfl) ?_
    refine lv_istore (i := 4) (lv' := [(4, .int v37), (7, .int 1), (6, .int v37), (5, .int x5), (0, .ref (ad 7 x0)), (1, .ref (ad 3 0)), (2, .long x2)]) C.1 C.2.1 dX7_bestFree_93 hl (by decide) rfl (fun ls hl => ?_)
    obtain ⟨v68, ev68⟩ : ∃ z : Int32, z = x5 + 1 := ⟨_, rfl⟩
    have hX := nm_st hX ev68
    refine lv_iinc (v := v68) (lv' := [(5, .int v68), (4, .int v37), (7, .int 1), (6, .int v37), (0, .ref (ad 7 x0)), (1, .ref (ad 3 0)), (2, .long x2)]) C.1 C.2.1 dX7_bestFree_95 hl (k := 3) rfl (by rw [ev68]; rfl) (by decide) rfl (fun ls hl => ?_)
    refine lv_goto (tgt := 6) C.1 C.2.1 dX7_bestFree_98 (by decide) ?_
    exact ih t v68 v37 x0 x2 H locs ls X hX hW (lv_sub hl [0, 1, 4, 5, 6] rfl) K0
def C_Person_bestFree (K : List (Nat × Nat)) (t : TH) (x0 : Nat) (x2 : Int64) : Option (Int32) := bnd (C_Person_bestFree_L6 100000 K t 0 (-1) x0 x2) (fun q => nm2 q (fun v69 v70 => some v70))
set_option maxHeartbeats 4000000 in
set_option maxRecDepth 100000 in
theorem c_C_Person_bestFree {Ev : EvT} {ek ev : Nat → Nat} {tp : Nat} (l : Launch) (D : va_G) (cs : Nat → ClassId) (ad : AD) (K : List (Nat × Nat)) (hKS : KS K) (hEv : EvC Ev ek ev tp) (t : TH) (x0 : Nat) (x2 : Int64) (X : Int32) (hX : some X = C_Person_bestFree K t x0 x2) : cGi Ev l D (tyC cs) (wC cs ad K) yX7_bestFree wsX7_bestFree rm_C_Person_bestFree 0 0 [.ref (ad 7 x0), .ref (ad 3 0), .long x2] t (fun r u => r = X ∧ u = t) := by
  refine G_ini (cc := cX7_bestFree) (maxL := 8) (ret := some .int) (by decide) rfl (Nat.le_of_ble_eq_true rfl) ?_
  intro p e s m below meth c A ls C hr hlk hini hA hW hl
  have C : Cx p s m _ c cX7_bestFree 8 wsX7_bestFree RX7 := C
  have hl : lv_has ls 8 [(0, .ref (ad 7 x0)), (1, .ref (ad 3 0)), (2, .long x2)] := hl
  have hin7 : ∀ w ∈ wsX70, w ∈ wsX7_bestFree := fun w hw => List.mem_cons_of_mem _ (List.mem_append_left _ (List.mem_append_right _ hw))
  have f7_4 : (Cond.fieldLink RX7 47 (TX7 4).1 (TX7 4).2.1 (TX7 4).2.2.1).before _ s = true := C.2.2.2.2 _ (List.mem_of_getElem? (i := 1) rfl)
  obtain ⟨H, hH⟩ : ∃ H, H = s.heap := ⟨_, rfl⟩
  obtain ⟨locs, hlo⟩ : ∃ z : List Loc, z = [] := ⟨_, rfl⟩
  have hW : GW Ev D (tyC cs) (wC cs ad K) A s t H locs := by rw [hH, hlo]; exact hW
  rw [show W p l e rm_C_Person_bestFree s m _ below meth c s.heap [] = W p l e rm_C_Person_bestFree s m _ below meth c H locs from by rw [hH, hlo]]
  unfold C_Person_bestFree at hX
  refine lv_iconst (v := -1) C.1 C.2.1 dX7_bestFree_0 (by decide) ?_
  refine lv_istore (i := 4) (lv' := [(4, .int (-1)), (0, .ref (ad 7 x0)), (1, .ref (ad 3 0)), (2, .long x2)]) C.1 C.2.1 dX7_bestFree_1 hl (by decide) rfl (fun ls hl => ?_)
  refine lv_iconst (v := 0) C.1 C.2.1 dX7_bestFree_3 (by decide) ?_
  refine lv_istore (i := 5) (lv' := [(5, .int 0), (4, .int (-1)), (0, .ref (ad 7 x0)), (1, .ref (ad 3 0)), (2, .long x2)]) C.1 C.2.1 dX7_bestFree_4 hl (by decide) rfl (fun ls hl => ?_)
  obtain ⟨q, hq, hX⟩ := bnd_st hX
  refine r_C_Person_bestFree_L6 C hKS hEv 100000 t 0 (-1) x0 x2 H locs ls q hq.symm hW (lv_sub hl [0, 1, 2, 3, 4] rfl) ?_
  intro v69 v70 H locs ls hq hW hl
  subst hq
  have hX := nm2_st hX rfl
  refine lv_iload C.1 C.2.1 dX7_bestFree_101 (lv_at hl 1 rfl) ?_
  exact G_reti C hr hlk hA hW ⟨(Option.some.inj hX).symm, rfl⟩ dX7_bestFree_103
abbrev rm_C_Person_penceFor : Room := { frames := 0, cells := 0, slots := 0, locals := 0 }
def C_Person_penceFor_L2 : Nat → List (Nat × Nat) → TH → Int32 → Nat → Int32 → Option (Nat × Int32 × Int32)
  | 0, _, _, _, _, _ => none
  | n + 1, K, t, x2, x0, x1 => chkP ((7, x0) ∈ K) (if (nI (tN t 17 x0)) ≤ x2 then some (1, x2, 0) else if (nI (tN t 18 x0)) ≤ x2 then some (1, x2, 0) else chkI x2 (tN t 17 x0) (if (tS t 17 x0 x2.toNatClampNeg) = x1 then chkI x2 (tN t 18 x0) (some (0, x2, (tS t 18 x0 x2.toNatClampNeg))) else nm (x2 + 1) (fun v10 => C_Person_penceFor_L2 n K t v10 x0 x1)))
set_option maxHeartbeats 4000000 in
set_option maxRecDepth 100000 in
theorem r_C_Person_penceFor_L2 {p : Program} {l : Launch} {e : Env} {s : State} {m : MethodId} {args : Array Value} {below : List Frame} {meth : Method} {c : Code} {Q : State → Prop} {Ev : EvT} {D : va_G} {cs : Nat → ClassId} {ad : AD} {A : Nat → Prop} {ek ev : Nat → Nat} {tp : Nat} (C : Cx p s m args c cX7_penceFor 3 wsX7_penceFor RX7) {K : List (Nat × Nat)} (hKS : KS K) (hEv : EvC Ev ek ev tp) : ∀ (n : Nat) (t : TH) (x2 : Int32) (x0 : Nat) (x1 : Int32) (H : Heap) (locs : List Loc) (ls : Array Slot) (X : Nat × Int32 × Int32), some X = C_Person_penceFor_L2 n K t x2 x0 x1 → GW Ev D (tyC cs) (wC cs ad K) A s t H locs → lv_has ls 3 [(2, .int x2), (0, .ref (ad 7 x0)), (1, .int x1)] → (∀ (z2 : Int32) (w0 : Int32) (H : Heap) (locs : List Loc) (ls : Array Slot), X = (0, z2, w0) → GW Ev D (tyC cs) (wC cs ad K) A s t H locs → lv_has ls 3 [(2, .int z2), (0, .ref (ad 7 x0)), (1, .int x1)] → W p l e rm_C_Person_penceFor s m args below meth c H locs 0 0 Q (F0 m 36 ls [.int w0])) → (∀ (z2 : Int32) (w0 : Int32) (H : Heap) (locs : List Loc) (ls : Array Slot), X = (1, z2, w0) → GW Ev D (tyC cs) (wC cs ad K) A s t H locs → lv_has ls 3 [(2, .int z2), (0, .ref (ad 7 x0)), (1, .int x1)] → W p l e rm_C_Person_penceFor s m args below meth c H locs 0 0 Q (F0 m 43 ls [])) → W p l e rm_C_Person_penceFor s m args below meth c H locs 0 0 Q (F0 m 2 ls []) := by
  have hin7 : ∀ w ∈ wsX70, w ∈ wsX7_penceFor := fun w hw => List.mem_cons_of_mem _ (List.mem_append_right _ hw)
  have f7_4 : (Cond.fieldLink RX7 47 (TX7 4).1 (TX7 4).2.1 (TX7 4).2.2.1).before _ s = true := C.2.2.2.2 _ (List.mem_of_getElem? (i := 1) rfl)
  have f7_5 : (Cond.fieldLink RX7 51 (TX7 5).1 (TX7 5).2.1 (TX7 5).2.2.1).before _ s = true := C.2.2.2.2 _ (List.mem_of_getElem? (i := 2) rfl)
  intro n
  induction n with
  | zero =>
    intro t x2 x0 x1 H locs ls X hX hW hl K0 K1
    cases hX
  | succ n ih =>
    intro t x2 x0 x1 H locs ls X hX hW hl K0 K1
    unfold C_Person_penceFor_L2 at hX
    refine lv_iload_n C.1 C.2.1 dX7_penceFor_2 rfl (lv_at hl 0 rfl) ?_
    refine lv_aload_n C.1 C.2.1 dX7_penceFor_3 rfl (lv_at hl 1 rfl) ?_
    obtain ⟨hk6, hX⟩ := chkP_st hX
    refine C_get C hW 7 rfl hin7 hk6 rfl 4 (by decide) rfl f7_4 dX7_penceFor_4 ?_
    refine C_alen C hW (hKS.2 _ hk6).1 rfl 1 rfl dX7_penceFor_7 ?_
    refine lv_icmp_ge (tgt := 43) C.1 C.2.1 dX7_penceFor_8 (by decide) (fun c7 => ?_) (fun c7 => ?_)
    · have hX := br_p hX c7
      exact K1 x2 0 H locs ls (Option.some.inj hX) hW (lv_sub hl [0, 1, 2] rfl)
    have hX := br_n hX c7
    refine lv_iload_n C.1 C.2.1 dX7_penceFor_11 rfl (lv_at hl 0 rfl) ?_
    refine lv_aload_n C.1 C.2.1 dX7_penceFor_12 rfl (lv_at hl 1 rfl) ?_
    refine C_get C hW 7 rfl hin7 hk6 rfl 5 (by decide) rfl f7_5 dX7_penceFor_13 ?_
    refine C_alen C hW (hKS.2 _ hk6).2 rfl 1 rfl dX7_penceFor_16 ?_
    refine lv_icmp_ge (tgt := 43) C.1 C.2.1 dX7_penceFor_17 (by decide) (fun c8 => ?_) (fun c8 => ?_)
    · have hX := br_p hX c8
      exact K1 x2 0 H locs ls (Option.some.inj hX) hW (lv_sub hl [0, 1, 2] rfl)
    have hX := br_n hX c8
    refine lv_aload_n C.1 C.2.1 dX7_penceFor_20 rfl (lv_at hl 1 rfl) ?_
    refine C_get C hW 7 rfl hin7 hk6 rfl 4 (by decide) rfl f7_4 dX7_penceFor_21 ?_
    refine lv_iload_n C.1 C.2.1 dX7_penceFor_24 rfl (lv_at hl 0 rfl) ?_
    obtain ⟨hi, hX⟩ := chkI_st hX
    refine C_ldI C hW (hKS.2 _ hk6).1 rfl hi dX7_penceFor_25 ?_
    refine lv_iload_n C.1 C.2.1 dX7_penceFor_26 rfl (lv_at hl 2 rfl) ?_
    refine lv_icmp_ne (tgt := 37) C.1 C.2.1 dX7_penceFor_27 (by decide) (fun c9 => ?_) (fun c9 => ?_)
    · have hX := br_n hX c9
      obtain ⟨v10, ev10⟩ : ∃ z : Int32, z = x2 + 1 := ⟨_, rfl⟩
      have hX := nm_st hX ev10
      refine lv_iinc (v := v10) (lv' := [(2, .int v10), (0, .ref (ad 7 x0)), (1, .int x1)]) C.1 C.2.1 dX7_penceFor_37 hl (k := 0) rfl (by rw [ev10]; rfl) (by decide) rfl (fun ls hl => ?_)
      refine lv_goto (tgt := 2) C.1 C.2.1 dX7_penceFor_40 (by decide) ?_
      exact ih t v10 x0 x1 H locs ls X hX hW (lv_sub hl [0, 1, 2] rfl) K0 K1
    have hX := br_p hX c9
    refine lv_aload_n C.1 C.2.1 dX7_penceFor_30 rfl (lv_at hl 1 rfl) ?_
    refine C_get C hW 7 rfl hin7 hk6 rfl 5 (by decide) rfl f7_5 dX7_penceFor_31 ?_
    refine lv_iload_n C.1 C.2.1 dX7_penceFor_34 rfl (lv_at hl 0 rfl) ?_
    obtain ⟨hi, hX⟩ := chkI_st hX
    refine C_ldI C hW (hKS.2 _ hk6).2 rfl hi dX7_penceFor_35 ?_
    exact K0 x2 (tS t 18 x0 x2.toNatClampNeg) H locs ls (Option.some.inj hX) hW (lv_sub hl [0, 1, 2] rfl)
def C_Person_penceFor (K : List (Nat × Nat)) (t : TH) (x0 : Nat) (x1 : Int32) : Option (Int32) := bnd (C_Person_penceFor_L2 100000 K t 0 x0 x1) (fun q => nm2 q (fun j q => nm2 q (fun v11 v12 => if j = 0 then some v12 else if j = 1 then some 0 else none)))
set_option maxHeartbeats 4000000 in
set_option maxRecDepth 100000 in
theorem c_C_Person_penceFor {Ev : EvT} {ek ev : Nat → Nat} {tp : Nat} (l : Launch) (D : va_G) (cs : Nat → ClassId) (ad : AD) (K : List (Nat × Nat)) (hKS : KS K) (hEv : EvC Ev ek ev tp) (t : TH) (x0 : Nat) (x1 : Int32) (X : Int32) (hX : some X = C_Person_penceFor K t x0 x1) : cGi Ev l D (tyC cs) (wC cs ad K) yX7_penceFor wsX7_penceFor rm_C_Person_penceFor 0 0 [.ref (ad 7 x0), .int x1] t (fun r u => r = X ∧ u = t) := by
  refine G_ini (cc := cX7_penceFor) (maxL := 3) (ret := some .int) (by decide) rfl (Nat.le_of_ble_eq_true rfl) ?_
  intro p e s m below meth c A ls C hr hlk hini hA hW hl
  have C : Cx p s m _ c cX7_penceFor 3 wsX7_penceFor RX7 := C
  have hl : lv_has ls 3 [(0, .ref (ad 7 x0)), (1, .int x1)] := hl
  have hin7 : ∀ w ∈ wsX70, w ∈ wsX7_penceFor := fun w hw => List.mem_cons_of_mem _ (List.mem_append_right _ hw)
  have f7_4 : (Cond.fieldLink RX7 47 (TX7 4).1 (TX7 4).2.1 (TX7 4).2.2.1).before _ s = true := C.2.2.2.2 _ (List.mem_of_getElem? (i := 1) rfl)
  have f7_5 : (Cond.fieldLink RX7 51 (TX7 5).1 (TX7 5).2.1 (TX7 5).2.2.1).before _ s = true := C.2.2.2.2 _ (List.mem_of_getElem? (i := 2) rfl)
  obtain ⟨H, hH⟩ : ∃ H, H = s.heap := ⟨_, rfl⟩
  obtain ⟨locs, hlo⟩ : ∃ z : List Loc, z = [] := ⟨_, rfl⟩
  have hW : GW Ev D (tyC cs) (wC cs ad K) A s t H locs := by rw [hH, hlo]; exact hW
  rw [show W p l e rm_C_Person_penceFor s m _ below meth c s.heap [] = W p l e rm_C_Person_penceFor s m _ below meth c H locs from by rw [hH, hlo]]
  unfold C_Person_penceFor at hX
  refine lv_iconst (v := 0) C.1 C.2.1 dX7_penceFor_0 (by decide) ?_
  refine lv_istore_n (i := 2) (lv' := [(2, .int 0), (0, .ref (ad 7 x0)), (1, .int x1)]) C.1 C.2.1 dX7_penceFor_1 rfl hl (by decide) rfl (fun ls hl => ?_)
  obtain ⟨q, hq, hX⟩ := bnd_st hX
  refine r_C_Person_penceFor_L2 C hKS hEv 100000 t 0 x0 x1 H locs ls q hq.symm hW (lv_sub hl [0, 1, 2] rfl) ?_ ?_
  · intro v11 v12 H locs ls hq hW hl
    subst hq
    have hX := nm2_st hX rfl
    have hX := nm2_st hX rfl
    have hX := br_p hX rfl
    exact G_reti C hr hlk hA hW ⟨(Option.some.inj hX).symm, rfl⟩ dX7_penceFor_36
  intro v13 v14 H locs ls hq hW hl
  subst hq
  have hX := nm2_st hX rfl
  have hX := nm2_st hX rfl
  have hX := br_n hX (by decide)
  have hX := br_p hX rfl
  refine lv_iconst (v := 0) C.1 C.2.1 dX7_penceFor_43 (by decide) ?_
  exact G_reti C hr hlk hA hW ⟨(Option.some.inj hX).symm, rfl⟩ dX7_penceFor_44
abbrev rm_C_Person_rankOf : Room := { frames := 0, cells := 0, slots := 0, locals := 0 }
def C_Person_rankOf_L4 : Nat → List (Nat × Nat) → TH → Int32 → Int32 → Nat → Int32 → Option (Int32 × Int32)
  | 0, _, _, _, _, _, _ => none
  | n + 1, K, t, x3, x2, x0, x1 => chkP ((7, x0) ∈ K) (if (nI (tN t 17 x0)) ≤ x3 then some (x3, x2) else chkI x3 (tN t 17 x0) (if x1 ≤ (tS t 17 x0 x3.toNatClampNeg) then nm (x3 + 1) (fun v10 => C_Person_rankOf_L4 n K t v10 x2 x0 x1) else nm (x2 + 1) (fun v11 => nm (x3 + 1) (fun v12 => C_Person_rankOf_L4 n K t v12 v11 x0 x1))))
set_option maxHeartbeats 4000000 in
set_option maxRecDepth 100000 in
theorem r_C_Person_rankOf_L4 {p : Program} {l : Launch} {e : Env} {s : State} {m : MethodId} {args : Array Value} {below : List Frame} {meth : Method} {c : Code} {Q : State → Prop} {Ev : EvT} {D : va_G} {cs : Nat → ClassId} {ad : AD} {A : Nat → Prop} {ek ev : Nat → Nat} {tp : Nat} (C : Cx p s m args c cX7_rankOf 4 wsX7_rankOf RX7) {K : List (Nat × Nat)} (hKS : KS K) (hEv : EvC Ev ek ev tp) : ∀ (n : Nat) (t : TH) (x3 : Int32) (x2 : Int32) (x0 : Nat) (x1 : Int32) (H : Heap) (locs : List Loc) (ls : Array Slot) (X : Int32 × Int32), some X = C_Person_rankOf_L4 n K t x3 x2 x0 x1 → GW Ev D (tyC cs) (wC cs ad K) A s t H locs → lv_has ls 4 [(3, .int x3), (2, .int x2), (0, .ref (ad 7 x0)), (1, .int x1)] → (∀ (z3 : Int32) (z2 : Int32) (H : Heap) (locs : List Loc) (ls : Array Slot), X = (z3, z2) → GW Ev D (tyC cs) (wC cs ad K) A s t H locs → lv_has ls 4 [(3, .int z3), (2, .int z2), (0, .ref (ad 7 x0)), (1, .int x1)] → W p l e rm_C_Person_rankOf s m args below meth c H locs 0 0 Q (F0 m 32 ls [])) → W p l e rm_C_Person_rankOf s m args below meth c H locs 0 0 Q (F0 m 4 ls []) := by
  have hin7 : ∀ w ∈ wsX70, w ∈ wsX7_rankOf := fun w hw => List.mem_cons_of_mem _ (List.mem_append_right _ hw)
  have f7_4 : (Cond.fieldLink RX7 47 (TX7 4).1 (TX7 4).2.1 (TX7 4).2.2.1).before _ s = true := C.2.2.2.2 _ (List.mem_of_getElem? (i := 1) rfl)
  intro n
  induction n with
  | zero =>
    intro t x3 x2 x0 x1 H locs ls X hX hW hl K0
    cases hX
  | succ n ih =>
    intro t x3 x2 x0 x1 H locs ls X hX hW hl K0
    unfold C_Person_rankOf_L4 at hX
    refine lv_iload_n C.1 C.2.1 dX7_rankOf_4 rfl (lv_at hl 0 rfl) ?_
    refine lv_aload_n C.1 C.2.1 dX7_rankOf_5 rfl (lv_at hl 2 rfl) ?_
    obtain ⟨hk7, hX⟩ := chkP_st hX
    refine C_get C hW 7 rfl hin7 hk7 rfl 4 (by decide) rfl f7_4 dX7_rankOf_6 ?_
    refine C_alen C hW (hKS.2 _ hk7).1 rfl 1 rfl dX7_rankOf_9 ?_
    refine lv_icmp_ge (tgt := 32) C.1 C.2.1 dX7_rankOf_10 (by decide) (fun c8 => ?_) (fun c8 => ?_)
    · have hX := br_p hX c8
      exact K0 x3 x2 H locs ls (Option.some.inj hX) hW (lv_sub hl [0, 1, 2, 3] rfl)
    have hX := br_n hX c8
    refine lv_aload_n C.1 C.2.1 dX7_rankOf_13 rfl (lv_at hl 2 rfl) ?_
    refine C_get C hW 7 rfl hin7 hk7 rfl 4 (by decide) rfl f7_4 dX7_rankOf_14 ?_
    refine lv_iload_n C.1 C.2.1 dX7_rankOf_17 rfl (lv_at hl 0 rfl) ?_
    obtain ⟨hi, hX⟩ := chkI_st hX
    refine C_ldI C hW (hKS.2 _ hk7).1 rfl hi dX7_rankOf_18 ?_
    refine lv_iload_n C.1 C.2.1 dX7_rankOf_19 rfl (lv_at hl 3 rfl) ?_
    refine lv_icmp_ge (tgt := 26) C.1 C.2.1 dX7_rankOf_20 (by decide) (fun c9 => ?_) (fun c9 => ?_)
    · have hX := br_p hX c9
      obtain ⟨v10, ev10⟩ : ∃ z : Int32, z = x3 + 1 := ⟨_, rfl⟩
      have hX := nm_st hX ev10
      refine lv_iinc (v := v10) (lv' := [(3, .int v10), (2, .int x2), (0, .ref (ad 7 x0)), (1, .int x1)]) C.1 C.2.1 dX7_rankOf_26 hl (k := 0) rfl (by rw [ev10]; rfl) (by decide) rfl (fun ls hl => ?_)
      refine lv_goto (tgt := 4) C.1 C.2.1 dX7_rankOf_29 (by decide) ?_
      exact ih t v10 x2 x0 x1 H locs ls X hX hW (lv_sub hl [0, 1, 2, 3] rfl) K0
    have hX := br_n hX c9
    obtain ⟨v11, ev11⟩ : ∃ z : Int32, z = x2 + 1 := ⟨_, rfl⟩
    have hX := nm_st hX ev11
    refine lv_iinc (v := v11) (lv' := [(2, .int v11), (3, .int x3), (0, .ref (ad 7 x0)), (1, .int x1)]) C.1 C.2.1 dX7_rankOf_23 hl (k := 1) rfl (by rw [ev11]; rfl) (by decide) rfl (fun ls hl => ?_)
    obtain ⟨v12, ev12⟩ : ∃ z : Int32, z = x3 + 1 := ⟨_, rfl⟩
    have hX := nm_st hX ev12
    refine lv_iinc (v := v12) (lv' := [(3, .int v12), (2, .int v11), (0, .ref (ad 7 x0)), (1, .int x1)]) C.1 C.2.1 dX7_rankOf_26 hl (k := 1) rfl (by rw [ev12]; rfl) (by decide) rfl (fun ls hl => ?_)
    refine lv_goto (tgt := 4) C.1 C.2.1 dX7_rankOf_29 (by decide) ?_
    exact ih t v12 v11 x0 x1 H locs ls X hX hW (lv_sub hl [0, 1, 2, 3] rfl) K0
def C_Person_rankOf (K : List (Nat × Nat)) (t : TH) (x0 : Nat) (x1 : Int32) : Option (Int32) := bnd (C_Person_rankOf_L4 100000 K t 0 0 x0 x1) (fun q => nm2 q (fun v13 v14 => some v14))
set_option maxHeartbeats 4000000 in
set_option maxRecDepth 100000 in
theorem c_C_Person_rankOf {Ev : EvT} {ek ev : Nat → Nat} {tp : Nat} (l : Launch) (D : va_G) (cs : Nat → ClassId) (ad : AD) (K : List (Nat × Nat)) (hKS : KS K) (hEv : EvC Ev ek ev tp) (t : TH) (x0 : Nat) (x1 : Int32) (X : Int32) (hX : some X = C_Person_rankOf K t x0 x1) : cGi Ev l D (tyC cs) (wC cs ad K) yX7_rankOf wsX7_rankOf rm_C_Person_rankOf 0 0 [.ref (ad 7 x0), .int x1] t (fun r u => r = X ∧ u = t) := by
  refine G_ini (cc := cX7_rankOf) (maxL := 4) (ret := some .int) (by decide) rfl (Nat.le_of_ble_eq_true rfl) ?_
  intro p e s m below meth c A ls C hr hlk hini hA hW hl
  have C : Cx p s m _ c cX7_rankOf 4 wsX7_rankOf RX7 := C
  have hl : lv_has ls 4 [(0, .ref (ad 7 x0)), (1, .int x1)] := hl
  have hin7 : ∀ w ∈ wsX70, w ∈ wsX7_rankOf := fun w hw => List.mem_cons_of_mem _ (List.mem_append_right _ hw)
  have f7_4 : (Cond.fieldLink RX7 47 (TX7 4).1 (TX7 4).2.1 (TX7 4).2.2.1).before _ s = true := C.2.2.2.2 _ (List.mem_of_getElem? (i := 1) rfl)
  obtain ⟨H, hH⟩ : ∃ H, H = s.heap := ⟨_, rfl⟩
  obtain ⟨locs, hlo⟩ : ∃ z : List Loc, z = [] := ⟨_, rfl⟩
  have hW : GW Ev D (tyC cs) (wC cs ad K) A s t H locs := by rw [hH, hlo]; exact hW
  rw [show W p l e rm_C_Person_rankOf s m _ below meth c s.heap [] = W p l e rm_C_Person_rankOf s m _ below meth c H locs from by rw [hH, hlo]]
  unfold C_Person_rankOf at hX
  refine lv_iconst (v := 0) C.1 C.2.1 dX7_rankOf_0 (by decide) ?_
  refine lv_istore_n (i := 2) (lv' := [(2, .int 0), (0, .ref (ad 7 x0)), (1, .int x1)]) C.1 C.2.1 dX7_rankOf_1 rfl hl (by decide) rfl (fun ls hl => ?_)
  refine lv_iconst (v := 0) C.1 C.2.1 dX7_rankOf_2 (by decide) ?_
  refine lv_istore_n (i := 3) (lv' := [(3, .int 0), (2, .int 0), (0, .ref (ad 7 x0)), (1, .int x1)]) C.1 C.2.1 dX7_rankOf_3 rfl hl (by decide) rfl (fun ls hl => ?_)
  obtain ⟨q, hq, hX⟩ := bnd_st hX
  refine r_C_Person_rankOf_L4 C hKS hEv 100000 t 0 0 x0 x1 H locs ls q hq.symm hW (lv_sub hl [0, 1, 2, 3] rfl) ?_
  intro v13 v14 H locs ls hq hW hl
  subst hq
  have hX := nm2_st hX rfl
  refine lv_iload_n C.1 C.2.1 dX7_rankOf_32 rfl (lv_at hl 1 rfl) ?_
  exact G_reti C hr hlk hA hW ⟨(Option.some.inj hX).symm, rfl⟩ dX7_rankOf_33
abbrev rm_C_Person_knownOfRank : Room := { frames := 1, cells := 0, slots := 0, locals := 23 }
def C_Person_knownOfRank_L2 : Nat → List (Nat × Nat) → TH → Int32 → Nat → Int32 → Option (Nat × Int32 × Int32)
  | 0, _, _, _, _, _ => none
  | n + 1, K, t, x2, x0, x1 => chkP ((7, x0) ∈ K) (if (nI (tN t 17 x0)) ≤ x2 then some (1, x2, 0) else chkI x2 (tN t 17 x0) (bnd (C_Person_rankOf K t x0 (tS t 17 x0 x2.toNatClampNeg)) (fun v8 => if v8 = x1 then chkI x2 (tN t 17 x0) (some (0, x2, (tS t 17 x0 x2.toNatClampNeg))) else nm (x2 + 1) (fun v10 => C_Person_knownOfRank_L2 n K t v10 x0 x1))))
set_option maxHeartbeats 4000000 in
set_option maxRecDepth 100000 in
theorem r_C_Person_knownOfRank_L2 {p : Program} {l : Launch} {e : Env} {s : State} {m : MethodId} {args : Array Value} {below : List Frame} {meth : Method} {c : Code} {Q : State → Prop} {Ev : EvT} {D : va_G} {cs : Nat → ClassId} {ad : AD} {A : Nat → Prop} {ek ev : Nat → Nat} {tp : Nat} (C : Cx p s m args c cX7_knownOfRank 3 wsX7_knownOfRank RX7) {K : List (Nat × Nat)} (hKS : KS K) (hEv : EvC Ev ek ev tp) : ∀ (n : Nat) (t : TH) (x2 : Int32) (x0 : Nat) (x1 : Int32) (H : Heap) (locs : List Loc) (ls : Array Slot) (X : Nat × Int32 × Int32), some X = C_Person_knownOfRank_L2 n K t x2 x0 x1 → GW Ev D (tyC cs) (wC cs ad K) A s t H locs → lv_has ls 3 [(2, .int x2), (0, .ref (ad 7 x0)), (1, .int x1)] → (∀ (z2 : Int32) (w0 : Int32) (H : Heap) (locs : List Loc) (ls : Array Slot), X = (0, z2, w0) → GW Ev D (tyC cs) (wC cs ad K) A s t H locs → lv_has ls 3 [(2, .int z2), (0, .ref (ad 7 x0)), (1, .int x1)] → W p l e rm_C_Person_knownOfRank s m args below meth c H locs 0 0 Q (F0 m 31 ls [.int w0])) → (∀ (z2 : Int32) (w0 : Int32) (H : Heap) (locs : List Loc) (ls : Array Slot), X = (1, z2, w0) → GW Ev D (tyC cs) (wC cs ad K) A s t H locs → lv_has ls 3 [(2, .int z2), (0, .ref (ad 7 x0)), (1, .int x1)] → W p l e rm_C_Person_knownOfRank s m args below meth c H locs 0 0 Q (F0 m 38 ls [])) → W p l e rm_C_Person_knownOfRank s m args below meth c H locs 0 0 Q (F0 m 2 ls []) := by
  have hin7 : ∀ w ∈ wsX70, w ∈ wsX7_knownOfRank := fun w hw => List.mem_cons_of_mem _ (List.mem_append_right _ hw)
  have f7_4 : (Cond.fieldLink RX7 47 (TX7 4).1 (TX7 4).2.1 (TX7 4).2.2.1).before _ s = true := C.2.2.2.2 _ (List.mem_of_getElem? (i := 1) rfl)
  intro n
  induction n with
  | zero =>
    intro t x2 x0 x1 H locs ls X hX hW hl K0 K1
    cases hX
  | succ n ih =>
    intro t x2 x0 x1 H locs ls X hX hW hl K0 K1
    unfold C_Person_knownOfRank_L2 at hX
    refine lv_iload_n C.1 C.2.1 dX7_knownOfRank_2 rfl (lv_at hl 0 rfl) ?_
    refine lv_aload_n C.1 C.2.1 dX7_knownOfRank_3 rfl (lv_at hl 1 rfl) ?_
    obtain ⟨hk6, hX⟩ := chkP_st hX
    refine C_get C hW 7 rfl hin7 hk6 rfl 4 (by decide) rfl f7_4 dX7_knownOfRank_4 ?_
    refine C_alen C hW (hKS.2 _ hk6).1 rfl 1 rfl dX7_knownOfRank_7 ?_
    refine lv_icmp_ge (tgt := 38) C.1 C.2.1 dX7_knownOfRank_8 (by decide) (fun c7 => ?_) (fun c7 => ?_)
    · have hX := br_p hX c7
      exact K1 x2 0 H locs ls (Option.some.inj hX) hW (lv_sub hl [0, 1, 2] rfl)
    have hX := br_n hX c7
    refine lv_aload_n C.1 C.2.1 dX7_knownOfRank_11 rfl (lv_at hl 1 rfl) ?_
    refine lv_aload_n C.1 C.2.1 dX7_knownOfRank_12 rfl (lv_at hl 1 rfl) ?_
    refine C_get C hW 7 rfl hin7 hk6 rfl 4 (by decide) rfl f7_4 dX7_knownOfRank_13 ?_
    refine lv_iload_n C.1 C.2.1 dX7_knownOfRank_16 rfl (lv_at hl 0 rfl) ?_
    obtain ⟨hi, hX⟩ := chkI_st hX
    refine C_ldI C hW (hKS.2 _ hk6).1 rfl hi dX7_knownOfRank_17 ?_
    obtain ⟨v8, hq, hX⟩ := bnd_st hX
    refine G_V0p (As := [.int (tS t 17 x0 x2.toNatClampNeg)]) (rest := []) C hW (c_C_Person_rankOf l D cs ad K hKS hEv t x0 (tS t 17 x0 x2.toNatClampNeg) v8 hq.symm) (cwV 1 C.2.2.2.2 gX7_knownOfRank_X7_rankOf rfl rfl rfl (by decide +kernel) ⟨Nat.le_of_ble_eq_true rfl, Nat.le_of_ble_eq_true rfl⟩) (C_recv hW 7 hk6 rfl rfl) rfl hl.1 rfl (Nat.le_of_ble_eq_true rfl) dX7_knownOfRank_18 (fun H locs hW => ?_)
    refine lv_iload_n C.1 C.2.1 dX7_knownOfRank_21 rfl (lv_at hl 2 rfl) ?_
    refine lv_icmp_ne (tgt := 32) C.1 C.2.1 dX7_knownOfRank_22 (by decide) (fun c9 => ?_) (fun c9 => ?_)
    · have hX := br_n hX c9
      obtain ⟨v10, ev10⟩ : ∃ z : Int32, z = x2 + 1 := ⟨_, rfl⟩
      have hX := nm_st hX ev10
      refine lv_iinc (v := v10) (lv' := [(2, .int v10), (0, .ref (ad 7 x0)), (1, .int x1)]) C.1 C.2.1 dX7_knownOfRank_32 hl (k := 0) rfl (by rw [ev10]; rfl) (by decide) rfl (fun ls hl => ?_)
      refine lv_goto (tgt := 2) C.1 C.2.1 dX7_knownOfRank_35 (by decide) ?_
      exact ih t v10 x0 x1 H locs ls X hX hW (lv_sub hl [0, 1, 2] rfl) K0 K1
    have hX := br_p hX c9
    refine lv_aload_n C.1 C.2.1 dX7_knownOfRank_25 rfl (lv_at hl 1 rfl) ?_
    refine C_get C hW 7 rfl hin7 hk6 rfl 4 (by decide) rfl f7_4 dX7_knownOfRank_26 ?_
    refine lv_iload_n C.1 C.2.1 dX7_knownOfRank_29 rfl (lv_at hl 0 rfl) ?_
    obtain ⟨hi, hX⟩ := chkI_st hX
    refine C_ldI C hW (hKS.2 _ hk6).1 rfl hi dX7_knownOfRank_30 ?_
    exact K0 x2 (tS t 17 x0 x2.toNatClampNeg) H locs ls (Option.some.inj hX) hW (lv_sub hl [0, 1, 2] rfl)
def C_Person_knownOfRank (K : List (Nat × Nat)) (t : TH) (x0 : Nat) (x1 : Int32) : Option (Int32) := bnd (C_Person_knownOfRank_L2 100000 K t 0 x0 x1) (fun q => nm2 q (fun j q => nm2 q (fun v11 v12 => if j = 0 then some v12 else if j = 1 then some (-1) else none)))
set_option maxHeartbeats 4000000 in
set_option maxRecDepth 100000 in
theorem c_C_Person_knownOfRank {Ev : EvT} {ek ev : Nat → Nat} {tp : Nat} (l : Launch) (D : va_G) (cs : Nat → ClassId) (ad : AD) (K : List (Nat × Nat)) (hKS : KS K) (hEv : EvC Ev ek ev tp) (t : TH) (x0 : Nat) (x1 : Int32) (X : Int32) (hX : some X = C_Person_knownOfRank K t x0 x1) : cGi Ev l D (tyC cs) (wC cs ad K) yX7_knownOfRank wsX7_knownOfRank rm_C_Person_knownOfRank 0 0 [.ref (ad 7 x0), .int x1] t (fun r u => r = X ∧ u = t) := by
  refine G_ini (cc := cX7_knownOfRank) (maxL := 3) (ret := some .int) (by decide) rfl (Nat.le_of_ble_eq_true rfl) ?_
  intro p e s m below meth c A ls C hr hlk hini hA hW hl
  have C : Cx p s m _ c cX7_knownOfRank 3 wsX7_knownOfRank RX7 := C
  have hl : lv_has ls 3 [(0, .ref (ad 7 x0)), (1, .int x1)] := hl
  have hin7 : ∀ w ∈ wsX70, w ∈ wsX7_knownOfRank := fun w hw => List.mem_cons_of_mem _ (List.mem_append_right _ hw)
  have f7_4 : (Cond.fieldLink RX7 47 (TX7 4).1 (TX7 4).2.1 (TX7 4).2.2.1).before _ s = true := C.2.2.2.2 _ (List.mem_of_getElem? (i := 1) rfl)
  obtain ⟨H, hH⟩ : ∃ H, H = s.heap := ⟨_, rfl⟩
  obtain ⟨locs, hlo⟩ : ∃ z : List Loc, z = [] := ⟨_, rfl⟩
  have hW : GW Ev D (tyC cs) (wC cs ad K) A s t H locs := by rw [hH, hlo]; exact hW
  rw [show W p l e rm_C_Person_knownOfRank s m _ below meth c s.heap [] = W p l e rm_C_Person_knownOfRank s m _ below meth c H locs from by rw [hH, hlo]]
  unfold C_Person_knownOfRank at hX
  refine lv_iconst (v := 0) C.1 C.2.1 dX7_knownOfRank_0 (by decide) ?_
  refine lv_istore_n (i := 2) (lv' := [(2, .int 0), (0, .ref (ad 7 x0)), (1, .int x1)]) C.1 C.2.1 dX7_knownOfRank_1 rfl hl (by decide) rfl (fun ls hl => ?_)
  obtain ⟨q, hq, hX⟩ := bnd_st hX
  refine r_C_Person_knownOfRank_L2 C hKS hEv 100000 t 0 x0 x1 H locs ls q hq.symm hW (lv_sub hl [0, 1, 2] rfl) ?_ ?_
  · intro v11 v12 H locs ls hq hW hl
    subst hq
    have hX := nm2_st hX rfl
    have hX := nm2_st hX rfl
    have hX := br_p hX rfl
    exact G_reti C hr hlk hA hW ⟨(Option.some.inj hX).symm, rfl⟩ dX7_knownOfRank_31
  intro v13 v14 H locs ls hq hW hl
  subst hq
  have hX := nm2_st hX rfl
  have hX := nm2_st hX rfl
  have hX := br_n hX (by decide)
  have hX := br_p hX rfl
  refine lv_iconst (v := -1) C.1 C.2.1 dX7_knownOfRank_38 (by decide) ?_
  exact G_reti C hr hlk hA hW ⟨(Option.some.inj hX).symm, rfl⟩ dX7_knownOfRank_39
abbrev rm_C_People_at : Room := { frames := 0, cells := 0, slots := 0, locals := 0 }
def C_People_at (K : List (Nat × Nat)) (t : TH) (x1 : Int32) : Option (Option Nat) := if x1 < 0 then some none else if (tS t 6 1 0) ≤ x1 then some none else if (nI (tN t 15 1)) ≤ x1 then some none else chkI x1 (tN t 15 1) (nm (tP t 15 1 x1.toNatClampNeg) (fun v4 => some v4))
set_option maxHeartbeats 4000000 in
set_option maxRecDepth 100000 in
theorem c_C_People_at {Ev : EvT} {ek ev : Nat → Nat} {tp : Nat} (l : Launch) (D : va_G) (cs : Nat → ClassId) (ad : AD) (K : List (Nat × Nat)) (hKS : KS K) (hEv : EvC Ev ek ev tp) (t : TH) (x1 : Int32) (X : Option Nat) (hX : some X = C_People_at K t x1) : cGe Ev (ad 7) l D (tyC cs) (wC cs ad K) yX6_at wsX6_at rm_C_People_at 0 0 [.ref (ad 6 0), .int x1] t (fun r u => r = X ∧ u = t) := by
  refine G_ine (cc := cX6_at) (maxL := 2) (ret := some (.object "LandRun$Person")) (by decide) rfl (Nat.le_of_ble_eq_true rfl) ?_
  intro p e s m below meth c A ls C hr hlk hini hA hW hl
  have C : Cx p s m _ c cX6_at 2 wsX6_at RX6 := C
  have hl : lv_has ls 2 [(0, .ref (ad 6 0)), (1, .int x1)] := hl
  have hin6 : ∀ w ∈ wsX60, w ∈ wsX6_at := fun w hw => List.mem_cons_of_mem _ (List.mem_append_right _ hw)
  have f6_0 : (Cond.fieldLink RX6 11 (TX6 0).1 (TX6 0).2.1 (TX6 0).2.2.1).before _ s = true := C.2.2.2.2 _ (List.mem_of_getElem? (i := 2) rfl)
  have f6_1 : (Cond.fieldLink RX6 17 (TX6 1).1 (TX6 1).2.1 (TX6 1).2.2.1).before _ s = true := C.2.2.2.2 _ (List.mem_of_getElem? (i := 1) rfl)
  obtain ⟨H, hH⟩ : ∃ H, H = s.heap := ⟨_, rfl⟩
  obtain ⟨locs, hlo⟩ : ∃ z : List Loc, z = [] := ⟨_, rfl⟩
  have hW : GW Ev D (tyC cs) (wC cs ad K) A s t H locs := by rw [hH, hlo]; exact hW
  rw [show W p l e rm_C_People_at s m _ below meth c s.heap [] = W p l e rm_C_People_at s m _ below meth c H locs from by rw [hH, hlo]]
  unfold C_People_at at hX
  refine lv_iload_n C.1 C.2.1 dX6_at_0 rfl (lv_at hl 1 rfl) ?_
  refine lv_if_lt (tgt := 30) C.1 C.2.1 dX6_at_1 (by decide) (fun c1 => ?_) (fun c1 => ?_)
  · have hX := br_p hX c1
    refine lv_null C.1 C.2.1 dX6_at_30 ?_
    exact G_rete (g := ad 7) (r := none) C hr (Or.inl ⟨_, rfl⟩) hlk hA hW ⟨(Option.some.inj hX).symm, rfl⟩ dX6_at_31
  have hX := br_n hX c1
  refine lv_iload_n C.1 C.2.1 dX6_at_4 rfl (lv_at hl 1 rfl) ?_
  refine lv_aload_n C.1 C.2.1 dX6_at_5 rfl (lv_at hl 0 rfl) ?_
  refine C_get C hW 6 rfl hin6 hKS.k6_0 rfl 1 (by decide) rfl f6_1 dX6_at_6 ?_
  refine lv_icmp_ge (tgt := 30) C.1 C.2.1 dX6_at_9 (by decide) (fun c2 => ?_) (fun c2 => ?_)
  · have hX := br_p hX c2
    refine lv_null C.1 C.2.1 dX6_at_30 ?_
    exact G_rete (g := ad 7) (r := none) C hr (Or.inl ⟨_, rfl⟩) hlk hA hW ⟨(Option.some.inj hX).symm, rfl⟩ dX6_at_31
  have hX := br_n hX c2
  refine lv_iload_n C.1 C.2.1 dX6_at_12 rfl (lv_at hl 1 rfl) ?_
  refine lv_aload_n C.1 C.2.1 dX6_at_13 rfl (lv_at hl 0 rfl) ?_
  refine C_get C hW 6 rfl hin6 hKS.k6_0 rfl 0 (by decide) rfl f6_0 dX6_at_14 ?_
  refine C_alen C hW hKS.k15_1 rfl 4 rfl dX6_at_17 ?_
  refine lv_icmp_ge (tgt := 30) C.1 C.2.1 dX6_at_18 (by decide) (fun c3 => ?_) (fun c3 => ?_)
  · have hX := br_p hX c3
    refine lv_null C.1 C.2.1 dX6_at_30 ?_
    exact G_rete (g := ad 7) (r := none) C hr (Or.inl ⟨_, rfl⟩) hlk hA hW ⟨(Option.some.inj hX).symm, rfl⟩ dX6_at_31
  have hX := br_n hX c3
  refine lv_aload_n C.1 C.2.1 dX6_at_21 rfl (lv_at hl 0 rfl) ?_
  refine C_get C hW 6 rfl hin6 hKS.k6_0 rfl 0 (by decide) rfl f6_0 dX6_at_22 ?_
  refine lv_iload_n C.1 C.2.1 dX6_at_25 rfl (lv_at hl 1 rfl) ?_
  obtain ⟨hi, hX⟩ := chkI_st hX
  refine C_ldQ (k3 := 7) (f := tP t 15 1) C hW hKS.k15_1 rfl 4 rfl hi dX6_at_26 (fun v4 ev4 => ?_)
  have hX := nm_st hX ev4
  refine lv_goto (tgt := 31) C.1 C.2.1 dX6_at_27 (by decide) ?_
  exact G_rete (g := ad 7) (r := v4) C hr (Or.inl ⟨_, rfl⟩) hlk hA hW ⟨(Option.some.inj hX).symm, rfl⟩ dX6_at_31
abbrev rm_C_People_drawLots : Room := { frames := 2, cells := 0, slots := 0, locals := 48 }
def C_People_drawLots_L2 : Nat → List (Nat × Nat) → TH → Int32 → Option (TH × Int32)
  | 0, _, _, _ => none
  | n + 1, K, t, x3 => if (tS t 6 1 0) ≤ x3 then some (t, x3) else bnd (C_People_at K t x3) (fun v9 => opt v9 (nm (x3 + 1) (fun v11 => C_People_drawLots_L2 n K t v11)) (fun j10 => chkP ((7, j10) ∈ K) (nm (uS t 7 13 j10 (-1)) (fun t13 => nm (x3 + 1) (fun v14 => C_People_drawLots_L2 n K t13 v14)))))
set_option maxHeartbeats 4000000 in
set_option maxRecDepth 100000 in
theorem r_C_People_drawLots_L2 {p : Program} {l : Launch} {e : Env} {s : State} {m : MethodId} {args : Array Value} {below : List Frame} {meth : Method} {c : Code} {Q : State → Prop} {Ev : EvT} {D : va_G} {cs : Nat → ClassId} {ad : AD} {A : Nat → Prop} {ek ev : Nat → Nat} {tp : Nat} (C : Cx p s m args c cX6_drawLots 8 wsX6_drawLots RX6) {K : List (Nat × Nat)} (hKS : KS K) (hEv : EvC Ev ek ev tp) : ∀ (n : Nat) (t : TH) (x3 : Int32) (H : Heap) (locs : List Loc) (ls : Array Slot) (X : TH × Int32), some X = C_People_drawLots_L2 n K t x3 → GW Ev D (tyC cs) (wC cs ad K) A s t H locs → lv_has ls 8 [(3, .int x3), (0, .ref (ad 6 0)), (1, .ref (ad 9 0)), (2, .ref (ad 3 0))] → (∀ (τ : TH) (z3 : Int32) (H : Heap) (locs : List Loc) (ls : Array Slot), X = (τ, z3) → GW Ev D (tyC cs) (wC cs ad K) A s τ H locs → lv_has ls 8 [(3, .int z3), (0, .ref (ad 6 0)), (1, .ref (ad 9 0)), (2, .ref (ad 3 0))] → W p l e rm_C_People_drawLots s m args below meth c H locs 0 0 Q (F0 m 34 ls [])) → W p l e rm_C_People_drawLots s m args below meth c H locs 0 0 Q (F0 m 2 ls []) := by
  have hin6 : ∀ w ∈ wsX60, w ∈ wsX6_drawLots := fun w hw => List.mem_cons_of_mem _ (List.mem_append_left _ (List.mem_append_left _ (List.mem_append_left _ (List.mem_append_right _ hw))))
  have hin7 : ∀ w ∈ wsX70, w ∈ wsX6_drawLots := fun w hw => List.mem_cons_of_mem _ (List.mem_append_left _ (List.mem_append_left _ (List.mem_append_right _ hw)))
  have f6_1 : (Cond.fieldLink RX6 17 (TX6 1).1 (TX6 1).2.1 (TX6 1).2.2.1).before _ s = true := C.2.2.2.2 _ (List.mem_of_getElem? (i := 1) rfl)
  have f7_13 : (Cond.fieldLink RX6 28 (TX7 13).1 (TX7 13).2.1 (TX7 13).2.2.1).before _ s = true := C.2.2.2.2 _ (List.mem_of_getElem? (i := 2) rfl)
  intro n
  induction n with
  | zero =>
    intro t x3 H locs ls X hX hW hl K0
    cases hX
  | succ n ih =>
    intro t x3 H locs ls X hX hW hl K0
    unfold C_People_drawLots_L2 at hX
    refine lv_iload_n C.1 C.2.1 dX6_drawLots_2 rfl (lv_at hl 0 rfl) ?_
    refine lv_aload_n C.1 C.2.1 dX6_drawLots_3 rfl (lv_at hl 1 rfl) ?_
    refine C_get C hW 6 rfl hin6 hKS.k6_0 rfl 1 (by decide) rfl f6_1 dX6_drawLots_4 ?_
    refine lv_icmp_ge (tgt := 34) C.1 C.2.1 dX6_drawLots_7 (by decide) (fun c8 => ?_) (fun c8 => ?_)
    · have hX := br_p hX c8
      exact K0 t x3 H locs ls (Option.some.inj hX) hW (lv_sub hl [0, 1, 2, 3] rfl)
    have hX := br_n hX c8
    refine lv_aload_n C.1 C.2.1 dX6_drawLots_10 rfl (lv_at hl 1 rfl) ?_
    refine lv_iload_n C.1 C.2.1 dX6_drawLots_11 rfl (lv_at hl 0 rfl) ?_
    obtain ⟨v9, hq, hX⟩ := bnd_st hX
    refine G_V0r (As := [.int x3]) (rest := []) C hW (c_C_People_at l D cs ad K hKS hEv t x3 v9 hq.symm) (cwV 1 C.2.2.2.2 gX6_drawLots_X6_at rfl rfl rfl (by decide +kernel) ⟨Nat.le_of_ble_eq_true rfl, Nat.le_of_ble_eq_true rfl⟩) (C_recv hW 6 hKS.k6_0 rfl rfl) rfl hl.1 rfl (Nat.le_of_ble_eq_true rfl) dX6_drawLots_12 (fun H locs hW => ?_)
    refine lv_astoreQ (i := 4) (lv' := [(4, va_re (ad 7) v9), (3, .int x3), (0, .ref (ad 6 0)), (1, .ref (ad 9 0)), (2, .ref (ad 3 0))]) C.1 C.2.1 dX6_drawLots_15 hl (by decide) rfl (fun ls hl => ?_)
    refine lv_aloadQ C.1 C.2.1 dX6_drawLots_17 (lv_at hl 0 rfl) ?_
    refine lv_ifnullQ (tgt := 28) C.1 C.2.1 dX6_drawLots_19 (by decide) (fun hj10 => ?_) (fun j10 hj10 => ?_)
    · have hX := opt_n hX hj10
      obtain ⟨v11, ev11⟩ : ∃ z : Int32, z = x3 + 1 := ⟨_, rfl⟩
      have hX := nm_st hX ev11
      refine lv_iinc (v := v11) (lv' := [(3, .int v11), (4, va_re (ad 7) v9), (0, .ref (ad 6 0)), (1, .ref (ad 9 0)), (2, .ref (ad 3 0))]) C.1 C.2.1 dX6_drawLots_28 hl (k := 1) rfl (by rw [ev11]; rfl) (by decide) rfl (fun ls hl => ?_)
      refine lv_goto (tgt := 2) C.1 C.2.1 dX6_drawLots_31 (by decide) ?_
      exact ih t v11 H locs ls X hX hW (lv_sub hl [0, 2, 3, 4] rfl) K0
    have hX := opt_s hX hj10
    refine lv_aloadQ C.1 C.2.1 dX6_drawLots_22 (lv_at hl 0 rfl) ?_
    refine lv_iconst (v := -1) C.1 C.2.1 dX6_drawLots_24 (by decide) ?_
    rw [show va_re (ad 7) v9 = .ref (ad 7 j10) from by rw [hj10]; rfl]
    obtain ⟨hk12, hX⟩ := chkP_st hX
    obtain ⟨t13, et13⟩ : ∃ z, z = uS t 7 13 j10 (-1) := ⟨_, rfl⟩
    refine C_put C hW 7 rfl hin7 tyX7 tyX7_ok nmX7 hk12 rfl 13 (by decide) rfl rfl rfl (Nat.le_of_ble_eq_true rfl) f7_13 dX6_drawLots_25 (t' := t13) (by rw [et13]; exact wr7_13) (by rw [et13]; exact ho_S (by decide)) (fun H locs hW => ?_)
    have hX := nm_st hX et13
    obtain ⟨v14, ev14⟩ : ∃ z : Int32, z = x3 + 1 := ⟨_, rfl⟩
    have hX := nm_st hX ev14
    refine lv_iinc (v := v14) (lv' := [(3, .int v14), (4, va_re (ad 7) v9), (0, .ref (ad 6 0)), (1, .ref (ad 9 0)), (2, .ref (ad 3 0))]) C.1 C.2.1 dX6_drawLots_28 hl (k := 1) rfl (by rw [ev14]; rfl) (by decide) rfl (fun ls hl => ?_)
    refine lv_goto (tgt := 2) C.1 C.2.1 dX6_drawLots_31 (by decide) ?_
    exact ih t13 v14 H locs ls X hX hW (lv_sub hl [0, 2, 3, 4] rfl) K0
def C_People_drawLots_L42 : Nat → List (Nat × Nat) → TH → Int32 → Int32 → Int64 → Option (TH × Int32 × Int32 × Int64)
  | 0, _, _, _, _, _ => none
  | n + 1, K, t, x6, x5, x3 => if (tS t 9 1 0) ≤ x6 then some (t, x6, x5, x3) else bnd (C_Tape_at K t x6) (fun v33 => bnd (C_People_at K t v33) (fun v34 => opt v34 (nm (x6 + 1) (fun v36 => C_People_drawLots_L42 n K t v36 x5 x3)) (fun j35 => chkP ((7, j35) ∈ K) (bnd (C_Person_bestFree K t j35 x3) (fun v38 => nm (uS t 7 13 j35 v38) (fun t39 => bnd (C_Land_worthOf K t39 (tS t39 7 13 j35)) (fun v40 => nm (x5 + v40) (fun v41 => if (tS t39 7 13 j35) = (-1) then nm (x3 ||| 0) (fun v45 => nm (x6 + 1) (fun v46 => C_People_drawLots_L42 n K t39 v46 v41 v45)) else nm (x3 ||| ((1 : Int64) <<< ((tS t39 7 13 j35).toInt64 &&& 63))) (fun v43 => nm (x6 + 1) (fun v44 => C_People_drawLots_L42 n K t39 v44 v41 v43))))))))))
set_option maxHeartbeats 4000000 in
set_option maxRecDepth 100000 in
theorem r_C_People_drawLots_L42 {p : Program} {l : Launch} {e : Env} {s : State} {m : MethodId} {args : Array Value} {below : List Frame} {meth : Method} {c : Code} {Q : State → Prop} {Ev : EvT} {D : va_G} {cs : Nat → ClassId} {ad : AD} {A : Nat → Prop} {ek ev : Nat → Nat} {tp : Nat} (C : Cx p s m args c cX6_drawLots 8 wsX6_drawLots RX6) {K : List (Nat × Nat)} (hKS : KS K) (hEv : EvC Ev ek ev tp) : ∀ (n : Nat) (t : TH) (x6 : Int32) (x5 : Int32) (x3 : Int64) (H : Heap) (locs : List Loc) (ls : Array Slot) (X : TH × Int32 × Int32 × Int64), some X = C_People_drawLots_L42 n K t x6 x5 x3 → GW Ev D (tyC cs) (wC cs ad K) A s t H locs → lv_has ls 8 [(6, .int x6), (5, .int x5), (3, .long x3), (0, .ref (ad 6 0)), (1, .ref (ad 9 0)), (2, .ref (ad 3 0))] → (∀ (τ : TH) (z6 : Int32) (z5 : Int32) (z3 : Int64) (H : Heap) (locs : List Loc) (ls : Array Slot), X = (τ, z6, z5, z3) → GW Ev D (tyC cs) (wC cs ad K) A s τ H locs → lv_has ls 8 [(6, .int z6), (5, .int z5), (3, .long z3), (0, .ref (ad 6 0)), (1, .ref (ad 9 0)), (2, .ref (ad 3 0))] → W p l e rm_C_People_drawLots s m args below meth c H locs 0 0 Q (F0 m 123 ls [])) → W p l e rm_C_People_drawLots s m args below meth c H locs 0 0 Q (F0 m 42 ls []) := by
  have hin6 : ∀ w ∈ wsX60, w ∈ wsX6_drawLots := fun w hw => List.mem_cons_of_mem _ (List.mem_append_left _ (List.mem_append_left _ (List.mem_append_left _ (List.mem_append_right _ hw))))
  have hin7 : ∀ w ∈ wsX70, w ∈ wsX6_drawLots := fun w hw => List.mem_cons_of_mem _ (List.mem_append_left _ (List.mem_append_left _ (List.mem_append_right _ hw)))
  have hin9 : ∀ w ∈ wsX90, w ∈ wsX6_drawLots := fun w hw => List.mem_cons_of_mem _ (List.mem_append_left _ (List.mem_append_right _ hw))
  have f6_1 : (Cond.fieldLink RX6 17 (TX6 1).1 (TX6 1).2.1 (TX6 1).2.2.1).before _ s = true := C.2.2.2.2 _ (List.mem_of_getElem? (i := 1) rfl)
  have f7_13 : (Cond.fieldLink RX6 28 (TX7 13).1 (TX7 13).2.1 (TX7 13).2.2.1).before _ s = true := C.2.2.2.2 _ (List.mem_of_getElem? (i := 2) rfl)
  have f9_1 : (Cond.fieldLink RX6 31 (TX9 1).1 (TX9 1).2.1 (TX9 1).2.2.1).before _ s = true := C.2.2.2.2 _ (List.mem_of_getElem? (i := 3) rfl)
  intro n
  induction n with
  | zero =>
    intro t x6 x5 x3 H locs ls X hX hW hl K0
    cases hX
  | succ n ih =>
    intro t x6 x5 x3 H locs ls X hX hW hl K0
    unfold C_People_drawLots_L42 at hX
    refine lv_iload C.1 C.2.1 dX6_drawLots_42 (lv_at hl 0 rfl) ?_
    refine lv_aload_n C.1 C.2.1 dX6_drawLots_44 rfl (lv_at hl 4 rfl) ?_
    refine C_get C hW 9 rfl hin9 hKS.k9_0 rfl 1 (by decide) rfl f9_1 dX6_drawLots_45 ?_
    refine lv_icmp_ge (tgt := 123) C.1 C.2.1 dX6_drawLots_48 (by decide) (fun c32 => ?_) (fun c32 => ?_)
    · have hX := br_p hX c32
      exact K0 t x6 x5 x3 H locs ls (Option.some.inj hX) hW (lv_sub hl [0, 1, 2, 3, 4, 5] rfl)
    have hX := br_n hX c32
    refine lv_aload_n C.1 C.2.1 dX6_drawLots_51 rfl (lv_at hl 3 rfl) ?_
    refine lv_aload_n C.1 C.2.1 dX6_drawLots_52 rfl (lv_at hl 4 rfl) ?_
    refine lv_iload C.1 C.2.1 dX6_drawLots_53 (lv_at hl 0 rfl) ?_
    obtain ⟨v33, hq, hX⟩ := bnd_st hX
    refine G_V0p (As := [.int x6]) (rest := [.ref (ad 6 0)]) C hW (c_C_Tape_at l D cs ad K hKS hEv t x6 v33 hq.symm) (cwV 1 C.2.2.2.2 gX6_drawLots_X9_at rfl rfl rfl (by decide +kernel) ⟨Nat.le_of_ble_eq_true rfl, Nat.le_of_ble_eq_true rfl⟩) (C_recv hW 9 hKS.k9_0 rfl rfl) rfl hl.1 rfl (Nat.le_of_ble_eq_true rfl) dX6_drawLots_55 (fun H locs hW => ?_)
    obtain ⟨v34, hq, hX⟩ := bnd_st hX
    refine G_V0r (As := [.int v33]) (rest := []) C hW (c_C_People_at l D cs ad K hKS hEv t v33 v34 hq.symm) (cwV 1 C.2.2.2.2 gX6_drawLots_X6_at rfl rfl rfl (by decide +kernel) ⟨Nat.le_of_ble_eq_true rfl, Nat.le_of_ble_eq_true rfl⟩) (C_recv hW 6 hKS.k6_0 rfl rfl) rfl hl.1 rfl (Nat.le_of_ble_eq_true rfl) dX6_drawLots_58 (fun H locs hW => ?_)
    refine lv_astoreQ (i := 7) (lv' := [(7, va_re (ad 7) v34), (6, .int x6), (5, .int x5), (3, .long x3), (0, .ref (ad 6 0)), (1, .ref (ad 9 0)), (2, .ref (ad 3 0))]) C.1 C.2.1 dX6_drawLots_61 hl (by decide) rfl (fun ls hl => ?_)
    refine lv_aloadQ C.1 C.2.1 dX6_drawLots_63 (lv_at hl 0 rfl) ?_
    refine lv_ifnullQ (tgt := 117) C.1 C.2.1 dX6_drawLots_65 (by decide) (fun hj35 => ?_) (fun j35 hj35 => ?_)
    · have hX := opt_n hX hj35
      obtain ⟨v36, ev36⟩ : ∃ z : Int32, z = x6 + 1 := ⟨_, rfl⟩
      have hX := nm_st hX ev36
      refine lv_iinc (v := v36) (lv' := [(6, .int v36), (7, va_re (ad 7) v34), (5, .int x5), (3, .long x3), (0, .ref (ad 6 0)), (1, .ref (ad 9 0)), (2, .ref (ad 3 0))]) C.1 C.2.1 dX6_drawLots_117 hl (k := 1) rfl (by rw [ev36]; rfl) (by decide) rfl (fun ls hl => ?_)
      refine lv_goto (tgt := 42) C.1 C.2.1 dX6_drawLots_120 (by decide) ?_
      exact ih t v36 x5 x3 H locs ls X hX hW (lv_sub hl [0, 2, 3, 4, 5, 6] rfl) K0
    have hX := opt_s hX hj35
    refine lv_aloadQ C.1 C.2.1 dX6_drawLots_68 (lv_at hl 0 rfl) ?_
    refine lv_aloadQ C.1 C.2.1 dX6_drawLots_70 (lv_at hl 0 rfl) ?_
    refine lv_aload_n C.1 C.2.1 dX6_drawLots_72 rfl (lv_at hl 6 rfl) ?_
    refine lv_lload_n C.1 C.2.1 dX6_drawLots_73 rfl (lv_at hl 3 rfl) ?_
    rw [show va_re (ad 7) v34 = .ref (ad 7 j35) from by rw [hj35]; rfl]
    obtain ⟨hk37, hX⟩ := chkP_st hX
    obtain ⟨v38, hq, hX⟩ := bnd_st hX
    refine G_V0p (As := [.ref (ad 3 0), .long x3]) (rest := [.ref (ad 7 j35)]) C hW (c_C_Person_bestFree l D cs ad K hKS hEv t j35 x3 v38 hq.symm) (cwV 2 C.2.2.2.2 gX6_drawLots_X7_bestFree rfl rfl rfl (by decide +kernel) ⟨Nat.le_of_ble_eq_true rfl, Nat.le_of_ble_eq_true rfl⟩) (C_recv hW 7 hk37 rfl rfl) rfl hl.1 rfl (Nat.le_of_ble_eq_true rfl) dX6_drawLots_74 (fun H locs hW => ?_)
    obtain ⟨t39, et39⟩ : ∃ z, z = uS t 7 13 j35 v38 := ⟨_, rfl⟩
    refine C_put C hW 7 rfl hin7 tyX7 tyX7_ok nmX7 hk37 rfl 13 (by decide) rfl rfl rfl (Nat.le_of_ble_eq_true rfl) f7_13 dX6_drawLots_77 (t' := t39) (by rw [et39]; exact wr7_13) (by rw [et39]; exact ho_S (by decide)) (fun H locs hW => ?_)
    have hX := nm_st hX et39
    refine lv_iload C.1 C.2.1 dX6_drawLots_80 (lv_at hl 2 rfl) ?_
    refine lv_aload_n C.1 C.2.1 dX6_drawLots_82 rfl (lv_at hl 6 rfl) ?_
    refine lv_aloadQ C.1 C.2.1 dX6_drawLots_83 (lv_at hl 0 rfl) ?_
    refine lv_topq hj35 ?_
    refine C_get C hW 7 rfl hin7 hk37 rfl 13 (by decide) rfl f7_13 dX6_drawLots_85 ?_
    obtain ⟨v40, hq, hX⟩ := bnd_st hX
    refine G_V0p (As := [.int (tS t39 7 13 j35)]) (rest := [.int x5]) C hW (c_C_Land_worthOf l D cs ad K hKS hEv t39 (tS t39 7 13 j35) v40 hq.symm) (cwV 1 C.2.2.2.2 gX6_drawLots_X3_worthOf rfl rfl rfl (by decide +kernel) ⟨Nat.le_of_ble_eq_true rfl, Nat.le_of_ble_eq_true rfl⟩) (C_recv hW 3 hKS.k3_0 rfl rfl) rfl hl.1 rfl (Nat.le_of_ble_eq_true rfl) dX6_drawLots_88 (fun H locs hW => ?_)
    refine lv_iadd C.1 C.2.1 dX6_drawLots_91 ?_
    refine lv_topi (fun v41 ev41 => ?_)
    have hX := nm_st hX ev41
    refine lv_istore (i := 5) (lv' := [(5, .int v41), (7, va_re (ad 7) v34), (6, .int x6), (3, .long x3), (0, .ref (ad 6 0)), (1, .ref (ad 9 0)), (2, .ref (ad 3 0))]) C.1 C.2.1 dX6_drawLots_92 hl (by decide) rfl (fun ls hl => ?_)
    refine lv_lload_n C.1 C.2.1 dX6_drawLots_94 rfl (lv_at hl 3 rfl) ?_
    refine lv_aloadQ C.1 C.2.1 dX6_drawLots_95 (lv_at hl 1 rfl) ?_
    refine lv_topq hj35 ?_
    refine C_get C hW 7 rfl hin7 hk37 rfl 13 (by decide) rfl f7_13 dX6_drawLots_97 ?_
    refine lv_iconst (v := -1) C.1 C.2.1 dX6_drawLots_100 (by decide) ?_
    refine lv_icmp_ne (tgt := 108) C.1 C.2.1 dX6_drawLots_101 (by decide) (fun c42 => ?_) (fun c42 => ?_)
    · have hX := br_n hX c42
      refine lv_lconst (v := 1) C.1 C.2.1 dX6_drawLots_108 (by decide) ?_
      refine lv_aloadQ C.1 C.2.1 dX6_drawLots_109 (lv_at hl 1 rfl) ?_
      refine lv_topq hj35 ?_
      refine C_get C hW 7 rfl hin7 hk37 rfl 13 (by decide) rfl f7_13 dX6_drawLots_111 ?_
      refine lv_lshl C.1 C.2.1 dX6_drawLots_114 rfl ?_
      refine lv_lor C.1 C.2.1 dX6_drawLots_115 ?_
      refine lv_topl (fun v43 ev43 => ?_)
      have hX := nm_st hX ev43
      refine lv_lstore_n (i := 3) (lv' := [(3, .long v43), (5, .int v41), (7, va_re (ad 7) v34), (6, .int x6), (0, .ref (ad 6 0)), (1, .ref (ad 9 0)), (2, .ref (ad 3 0))]) C.1 C.2.1 dX6_drawLots_116 rfl hl (by decide) rfl (fun ls hl => ?_)
      obtain ⟨v44, ev44⟩ : ∃ z : Int32, z = x6 + 1 := ⟨_, rfl⟩
      have hX := nm_st hX ev44
      refine lv_iinc (v := v44) (lv' := [(6, .int v44), (3, .long v43), (5, .int v41), (7, va_re (ad 7) v34), (0, .ref (ad 6 0)), (1, .ref (ad 9 0)), (2, .ref (ad 3 0))]) C.1 C.2.1 dX6_drawLots_117 hl (k := 3) rfl (by rw [ev44]; rfl) (by decide) rfl (fun ls hl => ?_)
      refine lv_goto (tgt := 42) C.1 C.2.1 dX6_drawLots_120 (by decide) ?_
      exact ih t39 v44 v41 v43 H locs ls X hX hW (lv_sub hl [0, 2, 1, 4, 5, 6] rfl) K0
    have hX := br_p hX c42
    refine lv_lconst (v := 0) C.1 C.2.1 dX6_drawLots_104 (by decide) ?_
    refine lv_goto (tgt := 115) C.1 C.2.1 dX6_drawLots_105 (by decide) ?_
    refine lv_lor C.1 C.2.1 dX6_drawLots_115 ?_
    refine lv_topl (fun v45 ev45 => ?_)
    have hX := nm_st hX ev45
    refine lv_lstore_n (i := 3) (lv' := [(3, .long v45), (5, .int v41), (7, va_re (ad 7) v34), (6, .int x6), (0, .ref (ad 6 0)), (1, .ref (ad 9 0)), (2, .ref (ad 3 0))]) C.1 C.2.1 dX6_drawLots_116 rfl hl (by decide) rfl (fun ls hl => ?_)
    obtain ⟨v46, ev46⟩ : ∃ z : Int32, z = x6 + 1 := ⟨_, rfl⟩
    have hX := nm_st hX ev46
    refine lv_iinc (v := v46) (lv' := [(6, .int v46), (3, .long v45), (5, .int v41), (7, va_re (ad 7) v34), (0, .ref (ad 6 0)), (1, .ref (ad 9 0)), (2, .ref (ad 3 0))]) C.1 C.2.1 dX6_drawLots_117 hl (k := 3) rfl (by rw [ev46]; rfl) (by decide) rfl (fun ls hl => ?_)
    refine lv_goto (tgt := 42) C.1 C.2.1 dX6_drawLots_120 (by decide) ?_
    exact ih t39 v46 v41 v45 H locs ls X hX hW (lv_sub hl [0, 2, 1, 4, 5, 6] rfl) K0
def C_People_drawLots (K : List (Nat × Nat)) (t : TH) : Option (Int32 × TH) := bnd (C_People_drawLots_L2 100000 K t 0) (fun q => nm2 q (fun t15 v16 => bnd (C_People_drawLots_L42 100000 K t15 0 0 0) (fun q => nm2 q (fun t47 q => nm2 q (fun v48 q => nm2 q (fun v49 v50 => some (v49, t47)))))))
set_option maxHeartbeats 4000000 in
set_option maxRecDepth 100000 in
theorem c_C_People_drawLots {Ev : EvT} {ek ev : Nat → Nat} {tp : Nat} (l : Launch) (D : va_G) (cs : Nat → ClassId) (ad : AD) (K : List (Nat × Nat)) (hKS : KS K) (hEv : EvC Ev ek ev tp) (t : TH) (X : Int32 × TH) (hX : some X = C_People_drawLots K t) : cGi Ev l D (tyC cs) (wC cs ad K) yX6_drawLots wsX6_drawLots rm_C_People_drawLots 0 0 [.ref (ad 6 0), .ref (ad 9 0), .ref (ad 3 0)] t (fun r u => (r, u) = X) := by
  refine G_ini (cc := cX6_drawLots) (maxL := 8) (ret := some .int) (by decide) rfl (Nat.le_of_ble_eq_true rfl) ?_
  intro p e s m below meth c A ls C hr hlk hini hA hW hl
  have C : Cx p s m _ c cX6_drawLots 8 wsX6_drawLots RX6 := C
  have hl : lv_has ls 8 [(0, .ref (ad 6 0)), (1, .ref (ad 9 0)), (2, .ref (ad 3 0))] := hl
  have hin6 : ∀ w ∈ wsX60, w ∈ wsX6_drawLots := fun w hw => List.mem_cons_of_mem _ (List.mem_append_left _ (List.mem_append_left _ (List.mem_append_left _ (List.mem_append_right _ hw))))
  have hin7 : ∀ w ∈ wsX70, w ∈ wsX6_drawLots := fun w hw => List.mem_cons_of_mem _ (List.mem_append_left _ (List.mem_append_left _ (List.mem_append_right _ hw)))
  have hin9 : ∀ w ∈ wsX90, w ∈ wsX6_drawLots := fun w hw => List.mem_cons_of_mem _ (List.mem_append_left _ (List.mem_append_right _ hw))
  have f6_1 : (Cond.fieldLink RX6 17 (TX6 1).1 (TX6 1).2.1 (TX6 1).2.2.1).before _ s = true := C.2.2.2.2 _ (List.mem_of_getElem? (i := 1) rfl)
  have f7_13 : (Cond.fieldLink RX6 28 (TX7 13).1 (TX7 13).2.1 (TX7 13).2.2.1).before _ s = true := C.2.2.2.2 _ (List.mem_of_getElem? (i := 2) rfl)
  have f9_1 : (Cond.fieldLink RX6 31 (TX9 1).1 (TX9 1).2.1 (TX9 1).2.2.1).before _ s = true := C.2.2.2.2 _ (List.mem_of_getElem? (i := 3) rfl)
  obtain ⟨H, hH⟩ : ∃ H, H = s.heap := ⟨_, rfl⟩
  obtain ⟨locs, hlo⟩ : ∃ z : List Loc, z = [] := ⟨_, rfl⟩
  have hW : GW Ev D (tyC cs) (wC cs ad K) A s t H locs := by rw [hH, hlo]; exact hW
  rw [show W p l e rm_C_People_drawLots s m _ below meth c s.heap [] = W p l e rm_C_People_drawLots s m _ below meth c H locs from by rw [hH, hlo]]
  unfold C_People_drawLots at hX
  refine lv_iconst (v := 0) C.1 C.2.1 dX6_drawLots_0 (by decide) ?_
  refine lv_istore_n (i := 3) (lv' := [(3, .int 0), (0, .ref (ad 6 0)), (1, .ref (ad 9 0)), (2, .ref (ad 3 0))]) C.1 C.2.1 dX6_drawLots_1 rfl hl (by decide) rfl (fun ls hl => ?_)
  obtain ⟨q, hq, hX⟩ := bnd_st hX
  refine r_C_People_drawLots_L2 C hKS hEv 100000 t 0 H locs ls q hq.symm hW (lv_sub hl [0, 1, 2, 3] rfl) ?_
  intro t15 v16 H locs ls hq hW hl
  subst hq
  have hX := nm2_st hX rfl
  refine lv_lconst (v := 0) C.1 C.2.1 dX6_drawLots_34 (by decide) ?_
  refine lv_lstore_n (i := 3) (lv' := [(3, .long 0), (0, .ref (ad 6 0)), (1, .ref (ad 9 0)), (2, .ref (ad 3 0))]) C.1 C.2.1 dX6_drawLots_35 rfl hl (by decide) rfl (fun ls hl => ?_)
  refine lv_iconst (v := 0) C.1 C.2.1 dX6_drawLots_36 (by decide) ?_
  refine lv_istore (i := 5) (lv' := [(5, .int 0), (3, .long 0), (0, .ref (ad 6 0)), (1, .ref (ad 9 0)), (2, .ref (ad 3 0))]) C.1 C.2.1 dX6_drawLots_37 hl (by decide) rfl (fun ls hl => ?_)
  refine lv_iconst (v := 0) C.1 C.2.1 dX6_drawLots_39 (by decide) ?_
  refine lv_istore (i := 6) (lv' := [(6, .int 0), (5, .int 0), (3, .long 0), (0, .ref (ad 6 0)), (1, .ref (ad 9 0)), (2, .ref (ad 3 0))]) C.1 C.2.1 dX6_drawLots_40 hl (by decide) rfl (fun ls hl => ?_)
  obtain ⟨q, hq, hX⟩ := bnd_st hX
  refine r_C_People_drawLots_L42 C hKS hEv 100000 t15 0 0 0 H locs ls q hq.symm hW (lv_sub hl [0, 1, 2, 3, 4, 5] rfl) ?_
  intro t47 v48 v49 v50 H locs ls hq hW hl
  subst hq
  have hX := nm2_st hX rfl
  have hX := nm2_st hX rfl
  have hX := nm2_st hX rfl
  refine lv_iload C.1 C.2.1 dX6_drawLots_123 (lv_at hl 1 rfl) ?_
  exact G_reti C hr hlk hA hW (Option.some.inj hX).symm dX6_drawLots_125
