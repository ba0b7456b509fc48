abbrev rm_N_X9_init : Room := { frames := 1, cells := 1, slots := 200, locals := 14 }
set_option maxHeartbeats 8000000 in
set_option maxRecDepth 100000 in
theorem c_N_X9_init {Ev : EvT} (l : Launch) (D : va_G) (cs : Nat → ClassId) (h : Nat)    : cGv Ev l D (tyM cs) idw yX9_init wsX9_init rm_N_X9_init 1 200 [.ref h] [(h, .inr (9, [.null, .int 0]))] (fun u => ∃ q1 : Nat, u = [(q1, .inl (cs 1, 200, .inl (fun _ => 0))), (h, .inr (9, [.ref q1, .int (0)]))]) := by
  refine G_inv (cc := cX9_init) (maxL := 1) (ret := none) (by decide) rfl (Nat.le_of_ble_eq_true rfl) ?_
  intro p e s m below meth c A ls C hr hlk hini hA hW hl
  have C : Cx p s m _ c cX9_init 1 wsX9_init RX9 := C
  have hl : lv_has ls 1 [(0, .ref h)] := hl
  have hin9 : ∀ w ∈ wsX90, w ∈ wsX9_init := fun w hw => List.mem_cons_of_mem _ (List.mem_append_right _ hw)
  have f9_0 : (Cond.fieldLink RX9 9 (TX9 0).1 (TX9 0).2.1 (TX9 0).2.2.1).before _ s = true := C.2.2.2.2 _ (List.mem_of_getElem? (i := 5) rfl)
  have f9_1 : (Cond.fieldLink RX9 15 (TX9 1).1 (TX9 1).2.1 (TX9 1).2.2.1).before _ s = true := C.2.2.2.2 _ (List.mem_of_getElem? (i := 6) rfl)
  obtain ⟨H, hH⟩ : ∃ H, H = s.heap := ⟨_, rfl⟩
  obtain ⟨locs, hlo⟩ : ∃ z : List Loc, z = [] := ⟨_, rfl⟩
  have hW : GW Ev D (tyM cs) idw A s [(h, .inr (9, [.null, .int 0]))] H locs := by rw [hH, hlo]; exact hW
  rw [show W p l e rm_N_X9_init s m _ below meth c s.heap [] = W p l e rm_N_X9_init s m _ below meth c H locs from by rw [hH, hlo]]
  refine lv_aload_n C.1 C.2.1 dX9_init_0 rfl (lv_at hl 0 rfl) ?_
  refine W.objInit C.1 C.2.1 C.2.2.2.1 (C.2.2.2.2 _ (List.mem_of_getElem? (i := 1) rfl)) (C.2.2.2.2 _ (List.mem_of_getElem? (i := 2) rfl)) (C.2.2.2.2 _ (List.mem_of_getElem? (i := 3) rfl)) rfl (hl.1.trans C.2.2.1.symm) rfl dX9_init_1 (Nat.le_of_ble_eq_true rfl) (Nat.le_of_ble_eq_true rfl) ?_
  refine W.eq (g2 := F0 m 4 ls []) rfl ?_
  refine lv_aload_n C.1 C.2.1 dX9_init_4 rfl (lv_at hl 0 rfl) ?_
  refine lv_sipush (v := 200) C.1 C.2.1 dX9_init_5 (by decide) ?_
  refine X_newI (N := 200) C hW (C.2.2.2.2 _ (List.mem_of_getElem? (i := 4) rfl)) (by decide) (by decide) (by decide) (Nat.le_of_ble_eq_true rfl) (Nat.le_of_ble_eq_true rfl) dX9_init_8 (fun q1 H hW => ?_)
  have hW : GW Ev D (tyM cs) idw A s [(q1, .inl (cs 1, 200, .inl (fun _ => 0))), (h, .inr (9, [.null, .int 0]))] H locs := hW
  refine W.widen (k := 1) (n := 200) (Nat.le_of_ble_eq_true rfl) (Nat.le_of_ble_eq_true rfl) ?_
  refine X_putF C (hini rfl) hW 1 9 rfl hin9 tyX9 tyX9_ok nmX9 rfl 0 (by decide) rfl rfl rfl rfl  (Nat.le_of_ble_eq_true rfl) f9_0 dX9_init_10 (fun H locs hW => ?_)
  have hW : GW Ev D (tyM cs) idw A s [(q1, .inl (cs 1, 200, .inl (fun _ => 0))), (h, .inr (9, [.ref q1, .int 0]))] H locs := hW
  refine lv_aload_n C.1 C.2.1 dX9_init_13 rfl (lv_at hl 0 rfl) ?_
  refine lv_iconst (v := 0) C.1 C.2.1 dX9_init_14 (by decide) ?_
  refine X_put C hW 1 9 rfl hin9 tyX9 tyX9_ok nmX9 rfl 1 (by decide) rfl rfl rfl  (Nat.le_of_ble_eq_true rfl) f9_1 dX9_init_15 (fun H locs hW => ?_)
  have hW : GW Ev D (tyM cs) idw A s [(q1, .inl (cs 1, 200, .inl (fun _ => 0))), (h, .inr (9, [.ref q1, .int (0)]))] H locs := hW
  exact G_retv C hr hlk hA hW ⟨q1, rfl⟩ dX9_init_18
abbrev rm_N_X3_init : Room := { frames := 1, cells := 3, slots := 192, locals := 14 }
set_option maxHeartbeats 8000000 in
set_option maxRecDepth 100000 in
theorem c_N_X3_init {Ev : EvT} (l : Launch) (D : va_G) (cs : Nat → ClassId) (h : Nat)   (ae7 : ∀ (A : Nat → Prop) (U : State) (H : Heap), Ev A U H → va_AO "LandRun$Person" U) : cGv Ev l D (tyM cs) idw yX3_init wsX3_init rm_N_X3_init 3 192 [.ref h] [(h, .inr (3, [.null, .null, .null, .int 0]))] (fun u => ∃ q1 : Nat, ∃ q2 : Nat, ∃ q3 : Nat, u = [(q3, .inl (cs 4, 64, .inr (.inr (.inr (.inr (fun _ => none)))))), (q2, .inl (cs 1, 64, .inl (fun _ => 0))), (q1, .inl (cs 1, 64, .inl (fun _ => 0))), (h, .inr (3, [.ref q1, .ref q2, .ref q3, .int (0)]))]) := by
  refine G_inv (cc := cX3_init) (maxL := 1) (ret := none) (by decide) rfl (Nat.le_of_ble_eq_true rfl) ?_
  intro p e s m below meth c A ls C hr hlk hini hA hW hl
  have C : Cx p s m _ c cX3_init 1 wsX3_init RX3 := C
  have hl : lv_has ls 1 [(0, .ref h)] := hl
  have ao7 := ae7 A s s.heap hW.2.2.2.2.2.1
  have hin3 : ∀ w ∈ wsX30, w ∈ wsX3_init := fun w hw => List.mem_cons_of_mem _ (List.mem_append_right _ hw)
  have f3_0 : (Cond.fieldLink RX3 9 (TX3 0).1 (TX3 0).2.1 (TX3 0).2.2.1).before _ s = true := C.2.2.2.2 _ (List.mem_of_getElem? (i := 5) rfl)
  have f3_1 : (Cond.fieldLink RX3 15 (TX3 1).1 (TX3 1).2.1 (TX3 1).2.2.1).before _ s = true := C.2.2.2.2 _ (List.mem_of_getElem? (i := 6) rfl)
  have f3_2 : (Cond.fieldLink RX3 20 (TX3 2).1 (TX3 2).2.1 (TX3 2).2.2.1).before _ s = true := C.2.2.2.2 _ (List.mem_of_getElem? (i := 8) rfl)
  have f3_3 : (Cond.fieldLink RX3 24 (TX3 3).1 (TX3 3).2.1 (TX3 3).2.2.1).before _ s = true := C.2.2.2.2 _ (List.mem_of_getElem? (i := 9) rfl)
  obtain ⟨H, hH⟩ : ∃ H, H = s.heap := ⟨_, rfl⟩
  obtain ⟨locs, hlo⟩ : ∃ z : List Loc, z = [] := ⟨_, rfl⟩
  have hW : GW Ev D (tyM cs) idw A s [(h, .inr (3, [.null, .null, .null, .int 0]))] H locs := by rw [hH, hlo]; exact hW
  rw [show W p l e rm_N_X3_init s m _ below meth c s.heap [] = W p l e rm_N_X3_init s m _ below meth c H locs from by rw [hH, hlo]]
  refine lv_aload_n C.1 C.2.1 dX3_init_0 rfl (lv_at hl 0 rfl) ?_
  refine W.objInit C.1 C.2.1 C.2.2.2.1 (C.2.2.2.2 _ (List.mem_of_getElem? (i := 1) rfl)) (C.2.2.2.2 _ (List.mem_of_getElem? (i := 2) rfl)) (C.2.2.2.2 _ (List.mem_of_getElem? (i := 3) rfl)) rfl (hl.1.trans C.2.2.1.symm) rfl dX3_init_1 (Nat.le_of_ble_eq_true rfl) (Nat.le_of_ble_eq_true rfl) ?_
  refine W.eq (g2 := F0 m 4 ls []) rfl ?_
  refine lv_aload_n C.1 C.2.1 dX3_init_4 rfl (lv_at hl 0 rfl) ?_
  refine lv_bipush (v := 64) C.1 C.2.1 dX3_init_5 (by decide) ?_
  refine X_newI (N := 64) C hW (C.2.2.2.2 _ (List.mem_of_getElem? (i := 4) rfl)) (by decide) (by decide) (by decide) (Nat.le_of_ble_eq_true rfl) (Nat.le_of_ble_eq_true rfl) dX3_init_7 (fun q1 H hW => ?_)
  have hW : GW Ev D (tyM cs) idw A s [(q1, .inl (cs 1, 64, .inl (fun _ => 0))), (h, .inr (3, [.null, .null, .null, .int 0]))] H locs := hW
  refine W.widen (k := 1) (n := 64) (Nat.le_of_ble_eq_true rfl) (Nat.le_of_ble_eq_true rfl) ?_
  refine X_putF C (hini rfl) hW 1 3 rfl hin3 tyX3 tyX3_ok nmX3 rfl 0 (by decide) rfl rfl rfl rfl  (Nat.le_of_ble_eq_true rfl) f3_0 dX3_init_9 (fun H locs hW => ?_)
  have hW : GW Ev D (tyM cs) idw A s [(q1, .inl (cs 1, 64, .inl (fun _ => 0))), (h, .inr (3, [.ref q1, .null, .null, .int 0]))] H locs := hW
  refine lv_aload_n C.1 C.2.1 dX3_init_12 rfl (lv_at hl 0 rfl) ?_
  refine lv_bipush (v := 64) C.1 C.2.1 dX3_init_13 (by decide) ?_
  refine X_newI (N := 64) C hW (C.2.2.2.2 _ (List.mem_of_getElem? (i := 4) rfl)) (by decide) (by decide) (by decide) (Nat.le_of_ble_eq_true rfl) (Nat.le_of_ble_eq_true rfl) dX3_init_15 (fun q2 H hW => ?_)
  have hW : GW Ev D (tyM cs) idw A s [(q2, .inl (cs 1, 64, .inl (fun _ => 0))), (q1, .inl (cs 1, 64, .inl (fun _ => 0))), (h, .inr (3, [.ref q1, .null, .null, .int 0]))] H locs := hW
  refine W.widen (k := 2) (n := 128) (Nat.le_of_ble_eq_true rfl) (Nat.le_of_ble_eq_true rfl) ?_
  refine X_putF C (hini rfl) hW 2 3 rfl hin3 tyX3 tyX3_ok nmX3 rfl 1 (by decide) rfl rfl rfl rfl  (Nat.le_of_ble_eq_true rfl) f3_1 dX3_init_17 (fun H locs hW => ?_)
  have hW : GW Ev D (tyM cs) idw A s [(q2, .inl (cs 1, 64, .inl (fun _ => 0))), (q1, .inl (cs 1, 64, .inl (fun _ => 0))), (h, .inr (3, [.ref q1, .ref q2, .null, .int 0]))] H locs := hW
  refine lv_aload_n C.1 C.2.1 dX3_init_20 rfl (lv_at hl 0 rfl) ?_
  refine lv_bipush (v := 64) C.1 C.2.1 dX3_init_21 (by decide) ?_
  refine X_newP (N := 64) C hW (C.2.2.2.2 _ (List.mem_of_getElem? (i := 7) rfl)) ao7 (by decide) (by decide) (by decide) (Nat.le_of_ble_eq_true rfl) (Nat.le_of_ble_eq_true rfl) dX3_init_23 (fun q3 H hW => ?_)
  have hW : GW Ev D (tyM cs) idw A s [(q3, .inl (cs 4, 64, .inr (.inr (.inr (.inr (fun _ => none)))))), (q2, .inl (cs 1, 64, .inl (fun _ => 0))), (q1, .inl (cs 1, 64, .inl (fun _ => 0))), (h, .inr (3, [.ref q1, .ref q2, .null, .int 0]))] H locs := hW
  refine W.widen (k := 3) (n := 192) (Nat.le_of_ble_eq_true rfl) (Nat.le_of_ble_eq_true rfl) ?_
  refine X_putF C (hini rfl) hW 3 3 rfl hin3 tyX3 tyX3_ok nmX3 rfl 2 (by decide) rfl rfl rfl rfl  (Nat.le_of_ble_eq_true rfl) f3_2 dX3_init_26 (fun H locs hW => ?_)
  have hW : GW Ev D (tyM cs) idw A s [(q3, .inl (cs 4, 64, .inr (.inr (.inr (.inr (fun _ => none)))))), (q2, .inl (cs 1, 64, .inl (fun _ => 0))), (q1, .inl (cs 1, 64, .inl (fun _ => 0))), (h, .inr (3, [.ref q1, .ref q2, .ref q3, .int 0]))] H locs := hW
  refine lv_aload_n C.1 C.2.1 dX3_init_29 rfl (lv_at hl 0 rfl) ?_
  refine lv_iconst (v := 0) C.1 C.2.1 dX3_init_30 (by decide) ?_
  refine X_put C hW 3 3 rfl hin3 tyX3 tyX3_ok nmX3 rfl 3 (by decide) rfl rfl rfl  (Nat.le_of_ble_eq_true rfl) f3_3 dX3_init_31 (fun H locs hW => ?_)
  have hW : GW Ev D (tyM cs) idw A s [(q3, .inl (cs 4, 64, .inr (.inr (.inr (.inr (fun _ => none)))))), (q2, .inl (cs 1, 64, .inl (fun _ => 0))), (q1, .inl (cs 1, 64, .inl (fun _ => 0))), (h, .inr (3, [.ref q1, .ref q2, .ref q3, .int (0)]))] H locs := hW
  exact G_retv C hr hlk hA hW ⟨q1, q2, q3, rfl⟩ dX3_init_34
abbrev rm_N_X6_init : Room := { frames := 1, cells := 1, slots := 30, locals := 14 }
set_option maxHeartbeats 8000000 in
set_option maxRecDepth 100000 in
theorem c_N_X6_init {Ev : EvT} (l : Launch) (D : va_G) (cs : Nat → ClassId) (h : Nat)   (ae7 : ∀ (A : Nat → Prop) (U : State) (H : Heap), Ev A U H → va_AO "LandRun$Person" U) : cGv Ev l D (tyM cs) idw yX6_init wsX6_init rm_N_X6_init 1 30 [.ref h] [(h, .inr (6, [.null, .int 0]))] (fun u => ∃ q1 : Nat, u = [(q1, .inl (cs 4, 30, .inr (.inr (.inr (.inr (fun _ => none)))))), (h, .inr (6, [.ref q1, .int (0)]))]) := by
  refine G_inv (cc := cX6_init) (maxL := 1) (ret := none) (by decide) rfl (Nat.le_of_ble_eq_true rfl) ?_
  intro p e s m below meth c A ls C hr hlk hini hA hW hl
  have C : Cx p s m _ c cX6_init 1 wsX6_init RX6 := C
  have hl : lv_has ls 1 [(0, .ref h)] := hl
  have ao7 := ae7 A s s.heap hW.2.2.2.2.2.1
  have hin6 : ∀ w ∈ wsX60, w ∈ wsX6_init := fun w hw => List.mem_cons_of_mem _ (List.mem_append_right _ hw)
  have f6_0 : (Cond.fieldLink RX6 11 (TX6 0).1 (TX6 0).2.1 (TX6 0).2.2.1).before _ s = true := C.2.2.2.2 _ (List.mem_of_getElem? (i := 5) rfl)
  have f6_1 : (Cond.fieldLink RX6 17 (TX6 1).1 (TX6 1).2.1 (TX6 1).2.2.1).before _ s = true := C.2.2.2.2 _ (List.mem_of_getElem? (i := 6) rfl)
  obtain ⟨H, hH⟩ : ∃ H, H = s.heap := ⟨_, rfl⟩
  obtain ⟨locs, hlo⟩ : ∃ z : List Loc, z = [] := ⟨_, rfl⟩
  have hW : GW Ev D (tyM cs) idw A s [(h, .inr (6, [.null, .int 0]))] H locs := by rw [hH, hlo]; exact hW
  rw [show W p l e rm_N_X6_init s m _ below meth c s.heap [] = W p l e rm_N_X6_init s m _ below meth c H locs from by rw [hH, hlo]]
  refine lv_aload_n C.1 C.2.1 dX6_init_0 rfl (lv_at hl 0 rfl) ?_
  refine W.objInit C.1 C.2.1 C.2.2.2.1 (C.2.2.2.2 _ (List.mem_of_getElem? (i := 1) rfl)) (C.2.2.2.2 _ (List.mem_of_getElem? (i := 2) rfl)) (C.2.2.2.2 _ (List.mem_of_getElem? (i := 3) rfl)) rfl (hl.1.trans C.2.2.1.symm) rfl dX6_init_1 (Nat.le_of_ble_eq_true rfl) (Nat.le_of_ble_eq_true rfl) ?_
  refine W.eq (g2 := F0 m 4 ls []) rfl ?_
  refine lv_aload_n C.1 C.2.1 dX6_init_4 rfl (lv_at hl 0 rfl) ?_
  refine lv_bipush (v := 30) C.1 C.2.1 dX6_init_5 (by decide) ?_
  refine X_newP (N := 30) C hW (C.2.2.2.2 _ (List.mem_of_getElem? (i := 4) rfl)) ao7 (by decide) (by decide) (by decide) (Nat.le_of_ble_eq_true rfl) (Nat.le_of_ble_eq_true rfl) dX6_init_7 (fun q1 H hW => ?_)
  have hW : GW Ev D (tyM cs) idw A s [(q1, .inl (cs 4, 30, .inr (.inr (.inr (.inr (fun _ => none)))))), (h, .inr (6, [.null, .int 0]))] H locs := hW
  refine W.widen (k := 1) (n := 30) (Nat.le_of_ble_eq_true rfl) (Nat.le_of_ble_eq_true rfl) ?_
  refine X_putF C (hini rfl) hW 1 6 rfl hin6 tyX6 tyX6_ok nmX6 rfl 0 (by decide) rfl rfl rfl rfl  (Nat.le_of_ble_eq_true rfl) f6_0 dX6_init_10 (fun H locs hW => ?_)
  have hW : GW Ev D (tyM cs) idw A s [(q1, .inl (cs 4, 30, .inr (.inr (.inr (.inr (fun _ => none)))))), (h, .inr (6, [.ref q1, .int 0]))] H locs := hW
  refine lv_aload_n C.1 C.2.1 dX6_init_13 rfl (lv_at hl 0 rfl) ?_
  refine lv_iconst (v := 0) C.1 C.2.1 dX6_init_14 (by decide) ?_
  refine X_put C hW 1 6 rfl hin6 tyX6 tyX6_ok nmX6 rfl 1 (by decide) rfl rfl rfl  (Nat.le_of_ble_eq_true rfl) f6_1 dX6_init_15 (fun H locs hW => ?_)
  have hW : GW Ev D (tyM cs) idw A s [(q1, .inl (cs 4, 30, .inr (.inr (.inr (.inr (fun _ => none)))))), (h, .inr (6, [.ref q1, .int (0)]))] H locs := hW
  exact G_retv C hr hlk hA hW ⟨q1, rfl⟩ dX6_init_18
abbrev rm_N_X8_init : Room := { frames := 1, cells := 0, slots := 0, locals := 14 }
set_option maxHeartbeats 8000000 in
set_option maxRecDepth 100000 in
theorem c_N_X8_init {Ev : EvT} (l : Launch) (D : va_G) (cs : Nat → ClassId) (h : Nat) (a1 : Nat) (a2 : Nat)   : cGv Ev l D (tyM cs) idw yX8_init wsX8_init rm_N_X8_init 0 0 [.ref h, .ref a1, .ref a2] [(h, .inr (8, [.null, .null, .int 0, .int 0]))] (fun u => u = [(h, .inr (8, [.ref a1, .ref a2, .int (0), .int (0)]))]) := by
  refine G_inv (cc := cX8_init) (maxL := 3) (ret := none) (by decide) rfl (Nat.le_of_ble_eq_true rfl) ?_
  intro p e s m below meth c A ls C hr hlk hini hA hW hl
  have C : Cx p s m _ c cX8_init 3 wsX8_init RX8 := C
  have hl : lv_has ls 3 [(0, .ref h), (1, .ref a1), (2, .ref a2)] := hl
  have hin8 : ∀ w ∈ wsX80, w ∈ wsX8_init := fun w hw => List.mem_cons_of_mem _ (List.mem_append_right _ hw)
  have f8_0 : (Cond.fieldLink RX8 19 (TX8 0).1 (TX8 0).2.1 (TX8 0).2.2.1).before _ s = true := C.2.2.2.2 _ (List.mem_of_getElem? (i := 6) rfl)
  have f8_1 : (Cond.fieldLink RX8 23 (TX8 1).1 (TX8 1).2.1 (TX8 1).2.2.1).before _ s = true := C.2.2.2.2 _ (List.mem_of_getElem? (i := 7) rfl)
  have f8_2 : (Cond.fieldLink RX8 9 (TX8 2).1 (TX8 2).2.1 (TX8 2).2.2.1).before _ s = true := C.2.2.2.2 _ (List.mem_of_getElem? (i := 4) rfl)
  have f8_3 : (Cond.fieldLink RX8 15 (TX8 3).1 (TX8 3).2.1 (TX8 3).2.2.1).before _ s = true := C.2.2.2.2 _ (List.mem_of_getElem? (i := 5) rfl)
  obtain ⟨H, hH⟩ : ∃ H, H = s.heap := ⟨_, rfl⟩
  obtain ⟨locs, hlo⟩ : ∃ z : List Loc, z = [] := ⟨_, rfl⟩
  have hW : GW Ev D (tyM cs) idw A s [(h, .inr (8, [.null, .null, .int 0, .int 0]))] H locs := by rw [hH, hlo]; exact hW
  rw [show W p l e rm_N_X8_init s m _ below meth c s.heap [] = W p l e rm_N_X8_init s m _ below meth c H locs from by rw [hH, hlo]]
  refine lv_aload_n C.1 C.2.1 dX8_init_0 rfl (lv_at hl 0 rfl) ?_
  refine W.objInit C.1 C.2.1 C.2.2.2.1 (C.2.2.2.2 _ (List.mem_of_getElem? (i := 1) rfl)) (C.2.2.2.2 _ (List.mem_of_getElem? (i := 2) rfl)) (C.2.2.2.2 _ (List.mem_of_getElem? (i := 3) rfl)) rfl (hl.1.trans C.2.2.1.symm) rfl dX8_init_1 (Nat.le_of_ble_eq_true rfl) (Nat.le_of_ble_eq_true rfl) ?_
  refine W.eq (g2 := F0 m 4 ls []) rfl ?_
  refine lv_aload_n C.1 C.2.1 dX8_init_4 rfl (lv_at hl 0 rfl) ?_
  refine lv_iconst (v := 0) C.1 C.2.1 dX8_init_5 (by decide) ?_
  refine X_put C hW 0 8 rfl hin8 tyX8 tyX8_ok nmX8 rfl 2 (by decide) rfl rfl rfl  (Nat.le_of_ble_eq_true rfl) f8_2 dX8_init_6 (fun H locs hW => ?_)
  have hW : GW Ev D (tyM cs) idw A s [(h, .inr (8, [.null, .null, .int (0), .int 0]))] H locs := hW
  refine lv_aload_n C.1 C.2.1 dX8_init_9 rfl (lv_at hl 0 rfl) ?_
  refine lv_iconst (v := 0) C.1 C.2.1 dX8_init_10 (by decide) ?_
  refine X_put C hW 0 8 rfl hin8 tyX8 tyX8_ok nmX8 rfl 3 (by decide) rfl rfl rfl  (Nat.le_of_ble_eq_true rfl) f8_3 dX8_init_11 (fun H locs hW => ?_)
  have hW : GW Ev D (tyM cs) idw A s [(h, .inr (8, [.null, .null, .int (0), .int (0)]))] H locs := hW
  refine lv_aload_n C.1 C.2.1 dX8_init_14 rfl (lv_at hl 0 rfl) ?_
  refine lv_aload_n C.1 C.2.1 dX8_init_15 rfl (lv_at hl 1 rfl) ?_
  refine X_putF C (hini rfl) hW 0 8 rfl hin8 tyX8 tyX8_ok nmX8 rfl 0 (by decide) rfl rfl rfl rfl  (Nat.le_of_ble_eq_true rfl) f8_0 dX8_init_16 (fun H locs hW => ?_)
  have hW : GW Ev D (tyM cs) idw A s [(h, .inr (8, [.ref a1, .null, .int (0), .int (0)]))] H locs := hW
  refine lv_aload_n C.1 C.2.1 dX8_init_19 rfl (lv_at hl 0 rfl) ?_
  refine lv_aload_n C.1 C.2.1 dX8_init_20 rfl (lv_at hl 2 rfl) ?_
  refine X_putF C (hini rfl) hW 0 8 rfl hin8 tyX8 tyX8_ok nmX8 rfl 1 (by decide) rfl rfl rfl rfl  (Nat.le_of_ble_eq_true rfl) f8_1 dX8_init_21 (fun H locs hW => ?_)
  have hW : GW Ev D (tyM cs) idw A s [(h, .inr (8, [.ref a1, .ref a2, .int (0), .int (0)]))] H locs := hW
  exact G_retv C hr hlk hA hW rfl dX8_init_24
abbrev rm_N_X4_init : Room := { frames := 1, cells := 0, slots := 0, locals := 14 }
set_option maxHeartbeats 8000000 in
set_option maxRecDepth 100000 in
theorem c_N_X4_init {Ev : EvT} (l : Launch) (D : va_G) (cs : Nat → ClassId) (h : Nat)    : cGv Ev l D (tyM cs) idw yX4_init wsX4_init rm_N_X4_init 0 0 [.ref h] [(h, .inr (4, [.int 0, .int 0, .int 0, .int 0, .int 0, .int 0]))] (fun u => u = [(h, .inr (4, [.int (0), .int (0), .int (0), .int (999), .int (2), .int (0)]))]) := by
  refine G_inv (cc := cX4_init) (maxL := 1) (ret := none) (by decide) rfl (Nat.le_of_ble_eq_true rfl) ?_
  intro p e s m below meth c A ls C hr hlk hini hA hW hl
  have C : Cx p s m _ c cX4_init 1 wsX4_init RX4 := C
  have hl : lv_has ls 1 [(0, .ref h)] := hl
  have hin4 : ∀ w ∈ wsX40, w ∈ wsX4_init := fun w hw => List.mem_cons_of_mem _ (List.mem_append_right _ hw)
  have f4_0 : (Cond.fieldLink RX4 9 (TX4 0).1 (TX4 0).2.1 (TX4 0).2.2.1).before _ s = true := C.2.2.2.2 _ (List.mem_of_getElem? (i := 4) rfl)
  have f4_1 : (Cond.fieldLink RX4 15 (TX4 1).1 (TX4 1).2.1 (TX4 1).2.2.1).before _ s = true := C.2.2.2.2 _ (List.mem_of_getElem? (i := 5) rfl)
  have f4_2 : (Cond.fieldLink RX4 19 (TX4 2).1 (TX4 2).2.1 (TX4 2).2.2.1).before _ s = true := C.2.2.2.2 _ (List.mem_of_getElem? (i := 6) rfl)
  have f4_3 : (Cond.fieldLink RX4 22 (TX4 3).1 (TX4 3).2.1 (TX4 3).2.2.1).before _ s = true := C.2.2.2.2 _ (List.mem_of_getElem? (i := 7) rfl)
  have f4_4 : (Cond.fieldLink RX4 25 (TX4 4).1 (TX4 4).2.1 (TX4 4).2.2.1).before _ s = true := C.2.2.2.2 _ (List.mem_of_getElem? (i := 8) rfl)
  have f4_5 : (Cond.fieldLink RX4 28 (TX4 5).1 (TX4 5).2.1 (TX4 5).2.2.1).before _ s = true := C.2.2.2.2 _ (List.mem_of_getElem? (i := 9) rfl)
  obtain ⟨H, hH⟩ : ∃ H, H = s.heap := ⟨_, rfl⟩
  obtain ⟨locs, hlo⟩ : ∃ z : List Loc, z = [] := ⟨_, rfl⟩
  have hW : GW Ev D (tyM cs) idw A s [(h, .inr (4, [.int 0, .int 0, .int 0, .int 0, .int 0, .int 0]))] H locs := by rw [hH, hlo]; exact hW
  rw [show W p l e rm_N_X4_init s m _ below meth c s.heap [] = W p l e rm_N_X4_init s m _ below meth c H locs from by rw [hH, hlo]]
  refine lv_aload_n C.1 C.2.1 dX4_init_0 rfl (lv_at hl 0 rfl) ?_
  refine W.objInit C.1 C.2.1 C.2.2.2.1 (C.2.2.2.2 _ (List.mem_of_getElem? (i := 1) rfl)) (C.2.2.2.2 _ (List.mem_of_getElem? (i := 2) rfl)) (C.2.2.2.2 _ (List.mem_of_getElem? (i := 3) rfl)) rfl (hl.1.trans C.2.2.1.symm) rfl dX4_init_1 (Nat.le_of_ble_eq_true rfl) (Nat.le_of_ble_eq_true rfl) ?_
  refine W.eq (g2 := F0 m 4 ls []) rfl ?_
  refine lv_aload_n C.1 C.2.1 dX4_init_4 rfl (lv_at hl 0 rfl) ?_
  refine lv_iconst (v := 0) C.1 C.2.1 dX4_init_5 (by decide) ?_
  refine X_put C hW 0 4 rfl hin4 tyX4 tyX4_ok nmX4 rfl 0 (by decide) rfl rfl rfl  (Nat.le_of_ble_eq_true rfl) f4_0 dX4_init_6 (fun H locs hW => ?_)
  have hW : GW Ev D (tyM cs) idw A s [(h, .inr (4, [.int (0), .int 0, .int 0, .int 0, .int 0, .int 0]))] H locs := hW
  refine lv_aload_n C.1 C.2.1 dX4_init_9 rfl (lv_at hl 0 rfl) ?_
  refine lv_iconst (v := 0) C.1 C.2.1 dX4_init_10 (by decide) ?_
  refine X_put C hW 0 4 rfl hin4 tyX4 tyX4_ok nmX4 rfl 1 (by decide) rfl rfl rfl  (Nat.le_of_ble_eq_true rfl) f4_1 dX4_init_11 (fun H locs hW => ?_)
  have hW : GW Ev D (tyM cs) idw A s [(h, .inr (4, [.int (0), .int (0), .int 0, .int 0, .int 0, .int 0]))] H locs := hW
  refine lv_aload_n C.1 C.2.1 dX4_init_14 rfl (lv_at hl 0 rfl) ?_
  refine lv_iconst (v := 0) C.1 C.2.1 dX4_init_15 (by decide) ?_
  refine X_put C hW 0 4 rfl hin4 tyX4 tyX4_ok nmX4 rfl 2 (by decide) rfl rfl rfl  (Nat.le_of_ble_eq_true rfl) f4_2 dX4_init_16 (fun H locs hW => ?_)
  have hW : GW Ev D (tyM cs) idw A s [(h, .inr (4, [.int (0), .int (0), .int (0), .int 0, .int 0, .int 0]))] H locs := hW
  refine lv_aload_n C.1 C.2.1 dX4_init_19 rfl (lv_at hl 0 rfl) ?_
  refine lv_sipush (v := 999) C.1 C.2.1 dX4_init_20 (by decide) ?_
  refine X_put C hW 0 4 rfl hin4 tyX4 tyX4_ok nmX4 rfl 3 (by decide) rfl rfl rfl  (Nat.le_of_ble_eq_true rfl) f4_3 dX4_init_23 (fun H locs hW => ?_)
  have hW : GW Ev D (tyM cs) idw A s [(h, .inr (4, [.int (0), .int (0), .int (0), .int (999), .int 0, .int 0]))] H locs := hW
  refine lv_aload_n C.1 C.2.1 dX4_init_26 rfl (lv_at hl 0 rfl) ?_
  refine lv_iconst (v := 2) C.1 C.2.1 dX4_init_27 (by decide) ?_
  refine X_put C hW 0 4 rfl hin4 tyX4 tyX4_ok nmX4 rfl 4 (by decide) rfl rfl rfl  (Nat.le_of_ble_eq_true rfl) f4_4 dX4_init_28 (fun H locs hW => ?_)
  have hW : GW Ev D (tyM cs) idw A s [(h, .inr (4, [.int (0), .int (0), .int (0), .int (999), .int (2), .int 0]))] H locs := hW
  refine lv_aload_n C.1 C.2.1 dX4_init_31 rfl (lv_at hl 0 rfl) ?_
  refine lv_iconst (v := 0) C.1 C.2.1 dX4_init_32 (by decide) ?_
  refine X_put C hW 0 4 rfl hin4 tyX4 tyX4_ok nmX4 rfl 5 (by decide) rfl rfl rfl  (Nat.le_of_ble_eq_true rfl) f4_5 dX4_init_33 (fun H locs hW => ?_)
  have hW : GW Ev D (tyM cs) idw A s [(h, .inr (4, [.int (0), .int (0), .int (0), .int (999), .int (2), .int (0)]))] H locs := hW
  exact G_retv C hr hlk hA hW rfl dX4_init_36
abbrev rm_N_X5_init : Room := { frames := 2, cells := 1, slots := 6, locals := 34 }
set_option maxHeartbeats 8000000 in
set_option maxRecDepth 100000 in
theorem c_N_X5_init {Ev : EvT} (l : Launch) (D : va_G) (cs : Nat → ClassId) (h : Nat) (a1 : Nat)  (ne11 : ∀ (A : Nat → Prop) (U : State) (H : Heap), Ev A U H → va_Nw (.methodLinkNest RX5 11 yX4_init "LandRun") U) : cGv Ev l D (tyM cs) idw yX5_init wsX5_init rm_N_X5_init 1 6 [.ref h, .ref a1] [(h, .inr (5, [.null, .null, .int 0, .int 0, .int 0, .int 0, .int 0, .int 0, .int 0]))] (fun u => ∃ q1 : Nat, u = [(q1, .inr (4, [.int (0), .int (0), .int (0), .int (999), .int (2), .int (0)])), (h, .inr (5, [.ref a1, .ref q1, .int (0), .int (0), .int (0), .int (4), .int (0), .int (-1), .int (0)]))]) := by
  refine G_inv (cc := cX5_init) (maxL := 2) (ret := none) (by decide) rfl (Nat.le_of_ble_eq_true rfl) ?_
  intro p e s m below meth c A ls C hr hlk hini hA hW hl
  have C : Cx p s m _ c cX5_init 2 wsX5_init RX5 := C
  have hl : lv_has ls 2 [(0, .ref h), (1, .ref a1)] := hl
  have nl11 := ne11 A s s.heap hW.2.2.2.2.2.1
  have hin4 : ∀ w ∈ wsX40, w ∈ wsX5_init := fun w hw => List.mem_cons_of_mem _ (List.mem_append_left _ (List.mem_append_right _ hw))
  have hin5 : ∀ w ∈ wsX50, w ∈ wsX5_init := fun w hw => List.mem_cons_of_mem _ (List.mem_append_right _ hw)
  have f5_0 : (Cond.fieldLink RX5 40 (TX5 0).1 (TX5 0).2.1 (TX5 0).2.2.1).before _ s = true := C.2.2.2.2 _ (List.mem_of_getElem? (i := 15) rfl)
  have f5_1 : (Cond.fieldLink RX5 12 (TX5 1).1 (TX5 1).2.1 (TX5 1).2.2.1).before _ s = true := C.2.2.2.2 _ (List.mem_of_getElem? (i := 7) rfl)
  have f5_2 : (Cond.fieldLink RX5 18 (TX5 2).1 (TX5 2).2.1 (TX5 2).2.2.1).before _ s = true := C.2.2.2.2 _ (List.mem_of_getElem? (i := 8) rfl)
  have f5_3 : (Cond.fieldLink RX5 22 (TX5 3).1 (TX5 3).2.1 (TX5 3).2.2.1).before _ s = true := C.2.2.2.2 _ (List.mem_of_getElem? (i := 9) rfl)
  have f5_4 : (Cond.fieldLink RX5 25 (TX5 4).1 (TX5 4).2.1 (TX5 4).2.2.1).before _ s = true := C.2.2.2.2 _ (List.mem_of_getElem? (i := 10) rfl)
  have f5_5 : (Cond.fieldLink RX5 28 (TX5 5).1 (TX5 5).2.1 (TX5 5).2.2.1).before _ s = true := C.2.2.2.2 _ (List.mem_of_getElem? (i := 11) rfl)
  have f5_6 : (Cond.fieldLink RX5 31 (TX5 6).1 (TX5 6).2.1 (TX5 6).2.2.1).before _ s = true := C.2.2.2.2 _ (List.mem_of_getElem? (i := 12) rfl)
  have f5_7 : (Cond.fieldLink RX5 34 (TX5 7).1 (TX5 7).2.1 (TX5 7).2.2.1).before _ s = true := C.2.2.2.2 _ (List.mem_of_getElem? (i := 13) rfl)
  have f5_8 : (Cond.fieldLink RX5 37 (TX5 8).1 (TX5 8).2.1 (TX5 8).2.2.1).before _ s = true := C.2.2.2.2 _ (List.mem_of_getElem? (i := 14) rfl)
  obtain ⟨H, hH⟩ : ∃ H, H = s.heap := ⟨_, rfl⟩
  obtain ⟨locs, hlo⟩ : ∃ z : List Loc, z = [] := ⟨_, rfl⟩
  have hW : GW Ev D (tyM cs) idw A s [(h, .inr (5, [.null, .null, .int 0, .int 0, .int 0, .int 0, .int 0, .int 0, .int 0]))] H locs := by rw [hH, hlo]; exact hW
  rw [show W p l e rm_N_X5_init s m _ below meth c s.heap [] = W p l e rm_N_X5_init s m _ below meth c H locs from by rw [hH, hlo]]
  refine lv_aload_n C.1 C.2.1 dX5_init_0 rfl (lv_at hl 0 rfl) ?_
  refine W.objInit C.1 C.2.1 C.2.2.2.1 (C.2.2.2.2 _ (List.mem_of_getElem? (i := 1) rfl)) (C.2.2.2.2 _ (List.mem_of_getElem? (i := 2) rfl)) (C.2.2.2.2 _ (List.mem_of_getElem? (i := 3) rfl)) rfl (hl.1.trans C.2.2.1.symm) rfl dX5_init_1 (Nat.le_of_ble_eq_true rfl) (Nat.le_of_ble_eq_true rfl) ?_
  refine W.eq (g2 := F0 m 4 ls []) rfl ?_
  refine lv_aload_n C.1 C.2.1 dX5_init_4 rfl (lv_at hl 0 rfl) ?_
  refine X_new (fs := [.int 0, .int 0, .int 0, .int 0, .int 0, .int 0]) C hW 4 rfl hin4 tyX4 tyX4_ok (C.2.2.2.2 _ (List.mem_of_getElem? (i := 4) rfl)) (C.2.2.2.2 _ (List.mem_of_getElem? (i := 5) rfl)) (C.2.2.2.2 _ (List.mem_of_getElem? (i := 6) rfl)) (fun j hj => by rcases (show j = 0 ∨ j = 1 ∨ j = 2 ∨ j = 3 ∨ j = 4 ∨ j = 5 by omega) with rfl | rfl | rfl | rfl | rfl | rfl <;> rfl) (Nat.le_of_ble_eq_true rfl) (Nat.le_of_ble_eq_true rfl) dX5_init_5 (fun q1 H hW => ?_)
  have hW : GW Ev D (tyM cs) idw A s [(q1, .inr (4, [.int 0, .int 0, .int 0, .int 0, .int 0, .int 0])), (h, .inr (5, [.null, .null, .int 0, .int 0, .int 0, .int 0, .int 0, .int 0, .int 0]))] H locs := hW
  refine W.widen (k := 1) (n := 6) (Nat.le_of_ble_eq_true rfl) (Nat.le_of_ble_eq_true rfl) ?_
  refine lv_dup C.1 C.2.1 dX5_init_8 rfl ?_
  refine X_IN (w := idw) (σ := [(q1, .inr (4, [.int 0, .int 0, .int 0, .int 0, .int 0, .int 0]))]) (wr := [(h, .inr (5, [.null, .null, .int 0, .int 0, .int 0, .int 0, .int 0, .int 0, .int 0]))]) (As := []) (rest := [.ref q1, .ref h]) C hW (c_N_X4_init l D cs q1 ) ⟨va_cnB 0 C.2.2.2.2 gX5_init_X4_init_n11 rfl rfl rfl nl11 (C.2.2.2.2 _ (List.mem_of_getElem? (i := 6) rfl)) (by decide +kernel) ⟨Nat.le_of_ble_eq_true rfl, Nat.le_of_ble_eq_true rfl⟩, rfl, (C.2.2.2.2 _ (List.mem_of_getElem? (i := 16) rfl))⟩ rfl hl.1 rfl (Nat.le_of_ble_eq_true rfl) dX5_init_9 ⟨Nat.le_of_ble_eq_true rfl, Nat.le_of_ble_eq_true rfl⟩ (fun u H locs hu hW => ?_)
  subst hu
  have hW : GW Ev D (tyM cs) idw A s [(q1, .inr (4, [.int (0), .int (0), .int (0), .int (999), .int (2), .int (0)])), (h, .inr (5, [.null, .null, .int 0, .int 0, .int 0, .int 0, .int 0, .int 0, .int 0]))] H locs := hW
  refine W.widen (k := 1) (n := 6) (Nat.le_of_ble_eq_true rfl) (Nat.le_of_ble_eq_true rfl) ?_
  refine X_putF C (hini rfl) hW 1 5 rfl hin5 tyX5 tyX5_ok nmX5 rfl 1 (by decide) rfl rfl rfl rfl  (Nat.le_of_ble_eq_true rfl) f5_1 dX5_init_12 (fun H locs hW => ?_)
  have hW : GW Ev D (tyM cs) idw A s [(q1, .inr (4, [.int (0), .int (0), .int (0), .int (999), .int (2), .int (0)])), (h, .inr (5, [.null, .ref q1, .int 0, .int 0, .int 0, .int 0, .int 0, .int 0, .int 0]))] H locs := hW
  refine lv_aload_n C.1 C.2.1 dX5_init_15 rfl (lv_at hl 0 rfl) ?_
  refine lv_iconst (v := 0) C.1 C.2.1 dX5_init_16 (by decide) ?_
  refine X_put C hW 1 5 rfl hin5 tyX5 tyX5_ok nmX5 rfl 2 (by decide) rfl rfl rfl  (Nat.le_of_ble_eq_true rfl) f5_2 dX5_init_17 (fun H locs hW => ?_)
  have hW : GW Ev D (tyM cs) idw A s [(q1, .inr (4, [.int (0), .int (0), .int (0), .int (999), .int (2), .int (0)])), (h, .inr (5, [.null, .ref q1, .int (0), .int 0, .int 0, .int 0, .int 0, .int 0, .int 0]))] H locs := hW
  refine lv_aload_n C.1 C.2.1 dX5_init_20 rfl (lv_at hl 0 rfl) ?_
  refine lv_iconst (v := 0) C.1 C.2.1 dX5_init_21 (by decide) ?_
  refine X_put C hW 1 5 rfl hin5 tyX5 tyX5_ok nmX5 rfl 3 (by decide) rfl rfl rfl  (Nat.le_of_ble_eq_true rfl) f5_3 dX5_init_22 (fun H locs hW => ?_)
  have hW : GW Ev D (tyM cs) idw A s [(q1, .inr (4, [.int (0), .int (0), .int (0), .int (999), .int (2), .int (0)])), (h, .inr (5, [.null, .ref q1, .int (0), .int (0), .int 0, .int 0, .int 0, .int 0, .int 0]))] H locs := hW
  refine lv_aload_n C.1 C.2.1 dX5_init_25 rfl (lv_at hl 0 rfl) ?_
  refine lv_iconst (v := 0) C.1 C.2.1 dX5_init_26 (by decide) ?_
  refine X_put C hW 1 5 rfl hin5 tyX5 tyX5_ok nmX5 rfl 4 (by decide) rfl rfl rfl  (Nat.le_of_ble_eq_true rfl) f5_4 dX5_init_27 (fun H locs hW => ?_)
  have hW : GW Ev D (tyM cs) idw A s [(q1, .inr (4, [.int (0), .int (0), .int (0), .int (999), .int (2), .int (0)])), (h, .inr (5, [.null, .ref q1, .int (0), .int (0), .int (0), .int 0, .int 0, .int 0, .int 0]))] H locs := hW
  refine lv_aload_n C.1 C.2.1 dX5_init_30 rfl (lv_at hl 0 rfl) ?_
  refine lv_iconst (v := 4) C.1 C.2.1 dX5_init_31 (by decide) ?_
  refine X_put C hW 1 5 rfl hin5 tyX5 tyX5_ok nmX5 rfl 5 (by decide) rfl rfl rfl  (Nat.le_of_ble_eq_true rfl) f5_5 dX5_init_32 (fun H locs hW => ?_)
  have hW : GW Ev D (tyM cs) idw A s [(q1, .inr (4, [.int (0), .int (0), .int (0), .int (999), .int (2), .int (0)])), (h, .inr (5, [.null, .ref q1, .int (0), .int (0), .int (0), .int (4), .int 0, .int 0, .int 0]))] H locs := hW
  refine lv_aload_n C.1 C.2.1 dX5_init_35 rfl (lv_at hl 0 rfl) ?_
  refine lv_iconst (v := 0) C.1 C.2.1 dX5_init_36 (by decide) ?_
  refine X_put C hW 1 5 rfl hin5 tyX5 tyX5_ok nmX5 rfl 6 (by decide) rfl rfl rfl  (Nat.le_of_ble_eq_true rfl) f5_6 dX5_init_37 (fun H locs hW => ?_)
  have hW : GW Ev D (tyM cs) idw A s [(q1, .inr (4, [.int (0), .int (0), .int (0), .int (999), .int (2), .int (0)])), (h, .inr (5, [.null, .ref q1, .int (0), .int (0), .int (0), .int (4), .int (0), .int 0, .int 0]))] H locs := hW
  refine lv_aload_n C.1 C.2.1 dX5_init_40 rfl (lv_at hl 0 rfl) ?_
  refine lv_iconst (v := -1) C.1 C.2.1 dX5_init_41 (by decide) ?_
  refine X_put C hW 1 5 rfl hin5 tyX5 tyX5_ok nmX5 rfl 7 (by decide) rfl rfl rfl  (Nat.le_of_ble_eq_true rfl) f5_7 dX5_init_42 (fun H locs hW => ?_)
  have hW : GW Ev D (tyM cs) idw A s [(q1, .inr (4, [.int (0), .int (0), .int (0), .int (999), .int (2), .int (0)])), (h, .inr (5, [.null, .ref q1, .int (0), .int (0), .int (0), .int (4), .int (0), .int (-1), .int 0]))] H locs := hW
  refine lv_aload_n C.1 C.2.1 dX5_init_45 rfl (lv_at hl 0 rfl) ?_
  refine lv_iconst (v := 0) C.1 C.2.1 dX5_init_46 (by decide) ?_
  refine X_put C hW 1 5 rfl hin5 tyX5 tyX5_ok nmX5 rfl 8 (by decide) rfl rfl rfl  (Nat.le_of_ble_eq_true rfl) f5_8 dX5_init_47 (fun H locs hW => ?_)
  have hW : GW Ev D (tyM cs) idw A s [(q1, .inr (4, [.int (0), .int (0), .int (0), .int (999), .int (2), .int (0)])), (h, .inr (5, [.null, .ref q1, .int (0), .int (0), .int (0), .int (4), .int (0), .int (-1), .int (0)]))] H locs := hW
  refine lv_aload_n C.1 C.2.1 dX5_init_50 rfl (lv_at hl 0 rfl) ?_
  refine lv_aload_n C.1 C.2.1 dX5_init_51 rfl (lv_at hl 1 rfl) ?_
  refine X_putF C (hini rfl) hW 1 5 rfl hin5 tyX5 tyX5_ok nmX5 rfl 0 (by decide) rfl rfl rfl rfl  (Nat.le_of_ble_eq_true rfl) f5_0 dX5_init_52 (fun H locs hW => ?_)
  have hW : GW Ev D (tyM cs) idw A s [(q1, .inr (4, [.int (0), .int (0), .int (0), .int (999), .int (2), .int (0)])), (h, .inr (5, [.ref a1, .ref q1, .int (0), .int (0), .int (0), .int (4), .int (0), .int (-1), .int (0)]))] H locs := hW
  exact G_retv C hr hlk hA hW ⟨q1, rfl⟩ dX5_init_55
abbrev rm_N_X2_init : Room := { frames := 1, cells := 2, slots := 120, locals := 14 }
set_option maxHeartbeats 8000000 in
set_option maxRecDepth 100000 in
theorem c_N_X2_init {Ev : EvT} (l : Launch) (D : va_G) (cs : Nat → ClassId) (h : Nat) (a1 : Nat)  (ae1 : ∀ (A : Nat → Prop) (U : State) (H : Heap), Ev A U H → va_AO "LandRun$Claim" U) : cGv Ev l D (tyM cs) idw yX2_init wsX2_init rm_N_X2_init 2 120 [.ref h, .ref a1] [(h, .inr (2, [.null, .null, .null, .int 0, .int 0, .int 0]))] (fun u => ∃ q1 : Nat, ∃ q2 : Nat, u = [(q2, .inl (cs 5, 60, .inr (.inr (.inr (.inr (fun _ => none)))))), (q1, .inl (cs 5, 60, .inr (.inr (.inr (.inr (fun _ => none)))))), (h, .inr (2, [.ref a1, .ref q1, .ref q2, .int (0), .int (0), .int (0)]))]) := by
  refine G_inv (cc := cX2_init) (maxL := 2) (ret := none) (by decide) rfl (Nat.le_of_ble_eq_true rfl) ?_
  intro p e s m below meth c A ls C hr hlk hini hA hW hl
  have C : Cx p s m _ c cX2_init 2 wsX2_init RX2 := C
  have hl : lv_has ls 2 [(0, .ref h), (1, .ref a1)] := hl
  have ao1 := ae1 A s s.heap hW.2.2.2.2.2.1
  have hin2 : ∀ w ∈ wsX20, w ∈ wsX2_init := fun w hw => List.mem_cons_of_mem _ (List.mem_append_right _ hw)
  have f2_0 : (Cond.fieldLink RX2 30 (TX2 0).1 (TX2 0).2.1 (TX2 0).2.2.1).before _ s = true := C.2.2.2.2 _ (List.mem_of_getElem? (i := 10) rfl)
  have f2_1 : (Cond.fieldLink RX2 11 (TX2 1).1 (TX2 1).2.1 (TX2 1).2.2.1).before _ s = true := C.2.2.2.2 _ (List.mem_of_getElem? (i := 5) rfl)
  have f2_2 : (Cond.fieldLink RX2 17 (TX2 2).1 (TX2 2).2.1 (TX2 2).2.2.1).before _ s = true := C.2.2.2.2 _ (List.mem_of_getElem? (i := 6) rfl)
  have f2_3 : (Cond.fieldLink RX2 20 (TX2 3).1 (TX2 3).2.1 (TX2 3).2.2.1).before _ s = true := C.2.2.2.2 _ (List.mem_of_getElem? (i := 7) rfl)
  have f2_4 : (Cond.fieldLink RX2 24 (TX2 4).1 (TX2 4).2.1 (TX2 4).2.2.1).before _ s = true := C.2.2.2.2 _ (List.mem_of_getElem? (i := 8) rfl)
  have f2_5 : (Cond.fieldLink RX2 27 (TX2 5).1 (TX2 5).2.1 (TX2 5).2.2.1).before _ s = true := C.2.2.2.2 _ (List.mem_of_getElem? (i := 9) rfl)
  obtain ⟨H, hH⟩ : ∃ H, H = s.heap := ⟨_, rfl⟩
  obtain ⟨locs, hlo⟩ : ∃ z : List Loc, z = [] := ⟨_, rfl⟩
  have hW : GW Ev D (tyM cs) idw A s [(h, .inr (2, [.null, .null, .null, .int 0, .int 0, .int 0]))] H locs := by rw [hH, hlo]; exact hW
  rw [show W p l e rm_N_X2_init s m _ below meth c s.heap [] = W p l e rm_N_X2_init s m _ below meth c H locs from by rw [hH, hlo]]
  refine lv_aload_n C.1 C.2.1 dX2_init_0 rfl (lv_at hl 0 rfl) ?_
  refine W.objInit C.1 C.2.1 C.2.2.2.1 (C.2.2.2.2 _ (List.mem_of_getElem? (i := 1) rfl)) (C.2.2.2.2 _ (List.mem_of_getElem? (i := 2) rfl)) (C.2.2.2.2 _ (List.mem_of_getElem? (i := 3) rfl)) rfl (hl.1.trans C.2.2.1.symm) rfl dX2_init_1 (Nat.le_of_ble_eq_true rfl) (Nat.le_of_ble_eq_true rfl) ?_
  refine W.eq (g2 := F0 m 4 ls []) rfl ?_
  refine lv_aload_n C.1 C.2.1 dX2_init_4 rfl (lv_at hl 0 rfl) ?_
  refine lv_bipush (v := 60) C.1 C.2.1 dX2_init_5 (by decide) ?_
  refine X_newC (N := 60) C hW (C.2.2.2.2 _ (List.mem_of_getElem? (i := 4) rfl)) ao1 (by decide) (by decide) (by decide) (Nat.le_of_ble_eq_true rfl) (Nat.le_of_ble_eq_true rfl) dX2_init_7 (fun q1 H hW => ?_)
  have hW : GW Ev D (tyM cs) idw A s [(q1, .inl (cs 5, 60, .inr (.inr (.inr (.inr (fun _ => none)))))), (h, .inr (2, [.null, .null, .null, .int 0, .int 0, .int 0]))] H locs := hW
  refine W.widen (k := 1) (n := 60) (Nat.le_of_ble_eq_true rfl) (Nat.le_of_ble_eq_true rfl) ?_
  refine X_putF C (hini rfl) hW 1 2 rfl hin2 tyX2 tyX2_ok nmX2 rfl 1 (by decide) rfl rfl rfl rfl  (Nat.le_of_ble_eq_true rfl) f2_1 dX2_init_10 (fun H locs hW => ?_)
  have hW : GW Ev D (tyM cs) idw A s [(q1, .inl (cs 5, 60, .inr (.inr (.inr (.inr (fun _ => none)))))), (h, .inr (2, [.null, .ref q1, .null, .int 0, .int 0, .int 0]))] H locs := hW
  refine lv_aload_n C.1 C.2.1 dX2_init_13 rfl (lv_at hl 0 rfl) ?_
  refine lv_bipush (v := 60) C.1 C.2.1 dX2_init_14 (by decide) ?_
  refine X_newC (N := 60) C hW (C.2.2.2.2 _ (List.mem_of_getElem? (i := 4) rfl)) ao1 (by decide) (by decide) (by decide) (Nat.le_of_ble_eq_true rfl) (Nat.le_of_ble_eq_true rfl) dX2_init_16 (fun q2 H hW => ?_)
  have hW : GW Ev D (tyM cs) idw A s [(q2, .inl (cs 5, 60, .inr (.inr (.inr (.inr (fun _ => none)))))), (q1, .inl (cs 5, 60, .inr (.inr (.inr (.inr (fun _ => none)))))), (h, .inr (2, [.null, .ref q1, .null, .int 0, .int 0, .int 0]))] H locs := hW
  refine W.widen (k := 2) (n := 120) (Nat.le_of_ble_eq_true rfl) (Nat.le_of_ble_eq_true rfl) ?_
  refine X_putF C (hini rfl) hW 2 2 rfl hin2 tyX2 tyX2_ok nmX2 rfl 2 (by decide) rfl rfl rfl rfl  (Nat.le_of_ble_eq_true rfl) f2_2 dX2_init_19 (fun H locs hW => ?_)
  have hW : GW Ev D (tyM cs) idw A s [(q2, .inl (cs 5, 60, .inr (.inr (.inr (.inr (fun _ => none)))))), (q1, .inl (cs 5, 60, .inr (.inr (.inr (.inr (fun _ => none)))))), (h, .inr (2, [.null, .ref q1, .ref q2, .int 0, .int 0, .int 0]))] H locs := hW
  refine lv_aload_n C.1 C.2.1 dX2_init_22 rfl (lv_at hl 0 rfl) ?_
  refine lv_iconst (v := 0) C.1 C.2.1 dX2_init_23 (by decide) ?_
  refine X_put C hW 2 2 rfl hin2 tyX2 tyX2_ok nmX2 rfl 3 (by decide) rfl rfl rfl  (Nat.le_of_ble_eq_true rfl) f2_3 dX2_init_24 (fun H locs hW => ?_)
  have hW : GW Ev D (tyM cs) idw A s [(q2, .inl (cs 5, 60, .inr (.inr (.inr (.inr (fun _ => none)))))), (q1, .inl (cs 5, 60, .inr (.inr (.inr (.inr (fun _ => none)))))), (h, .inr (2, [.null, .ref q1, .ref q2, .int (0), .int 0, .int 0]))] H locs := hW
  refine lv_aload_n C.1 C.2.1 dX2_init_27 rfl (lv_at hl 0 rfl) ?_
  refine lv_iconst (v := 0) C.1 C.2.1 dX2_init_28 (by decide) ?_
  refine X_put C hW 2 2 rfl hin2 tyX2 tyX2_ok nmX2 rfl 4 (by decide) rfl rfl rfl  (Nat.le_of_ble_eq_true rfl) f2_4 dX2_init_29 (fun H locs hW => ?_)
  have hW : GW Ev D (tyM cs) idw A s [(q2, .inl (cs 5, 60, .inr (.inr (.inr (.inr (fun _ => none)))))), (q1, .inl (cs 5, 60, .inr (.inr (.inr (.inr (fun _ => none)))))), (h, .inr (2, [.null, .ref q1, .ref q2, .int (0), .int (0), .int 0]))] H locs := hW
  refine lv_aload_n C.1 C.2.1 dX2_init_32 rfl (lv_at hl 0 rfl) ?_
  refine lv_iconst (v := 0) C.1 C.2.1 dX2_init_33 (by decide) ?_
  refine X_put C hW 2 2 rfl hin2 tyX2 tyX2_ok nmX2 rfl 5 (by decide) rfl rfl rfl  (Nat.le_of_ble_eq_true rfl) f2_5 dX2_init_34 (fun H locs hW => ?_)
  have hW : GW Ev D (tyM cs) idw A s [(q2, .inl (cs 5, 60, .inr (.inr (.inr (.inr (fun _ => none)))))), (q1, .inl (cs 5, 60, .inr (.inr (.inr (.inr (fun _ => none)))))), (h, .inr (2, [.null, .ref q1, .ref q2, .int (0), .int (0), .int (0)]))] H locs := hW
  refine lv_aload_n C.1 C.2.1 dX2_init_37 rfl (lv_at hl 0 rfl) ?_
  refine lv_aload_n C.1 C.2.1 dX2_init_38 rfl (lv_at hl 1 rfl) ?_
  refine X_putF C (hini rfl) hW 2 2 rfl hin2 tyX2 tyX2_ok nmX2 rfl 0 (by decide) rfl rfl rfl rfl  (Nat.le_of_ble_eq_true rfl) f2_0 dX2_init_39 (fun H locs hW => ?_)
  have hW : GW Ev D (tyM cs) idw A s [(q2, .inl (cs 5, 60, .inr (.inr (.inr (.inr (fun _ => none)))))), (q1, .inl (cs 5, 60, .inr (.inr (.inr (.inr (fun _ => none)))))), (h, .inr (2, [.ref a1, .ref q1, .ref q2, .int (0), .int (0), .int (0)]))] H locs := hW
  exact G_retv C hr hlk hA hW ⟨q1, q2, rfl⟩ dX2_init_42
abbrev rm_N_X0_init : Room := { frames := 1, cells := 2, slots := 264, locals := 14 }
set_option maxHeartbeats 8000000 in
set_option maxRecDepth 100000 in
theorem c_N_X0_init {Ev : EvT} (l : Launch) (D : va_G) (cs : Nat → ClassId) (h : Nat) (a1 : Nat)   : cGv Ev l D (tyM cs) idw yX0_init wsX0_init rm_N_X0_init 2 264 [.ref h, .ref a1] [(h, .inr (0, [.null, .null, .null]))] (fun u => ∃ q1 : Nat, ∃ q2 : Nat, u = [(q2, .inl (cs 2, 8, .inr (.inl (fun _ => 0)))), (q1, .inl (cs 2, 256, .inr (.inl (fun _ => 0)))), (h, .inr (0, [.ref a1, .ref q1, .ref q2]))]) := by
  refine G_inv (cc := cX0_init) (maxL := 2) (ret := none) (by decide) rfl (Nat.le_of_ble_eq_true rfl) ?_
  intro p e s m below meth c A ls C hr hlk hini hA hW hl
  have C : Cx p s m _ c cX0_init 2 wsX0_init RX0 := C
  have hl : lv_has ls 2 [(0, .ref h), (1, .ref a1)] := hl
  have hin0 : ∀ w ∈ wsX00, w ∈ wsX0_init := fun w hw => List.mem_cons_of_mem _ (List.mem_append_right _ hw)
  have f0_0 : (Cond.fieldLink RX0 18 (TX0 0).1 (TX0 0).2.1 (TX0 0).2.2.1).before _ s = true := C.2.2.2.2 _ (List.mem_of_getElem? (i := 7) rfl)
  have f0_1 : (Cond.fieldLink RX0 9 (TX0 1).1 (TX0 1).2.1 (TX0 1).2.2.1).before _ s = true := C.2.2.2.2 _ (List.mem_of_getElem? (i := 5) rfl)
  have f0_2 : (Cond.fieldLink RX0 15 (TX0 2).1 (TX0 2).2.1 (TX0 2).2.2.1).before _ s = true := C.2.2.2.2 _ (List.mem_of_getElem? (i := 6) rfl)
  obtain ⟨H, hH⟩ : ∃ H, H = s.heap := ⟨_, rfl⟩
  obtain ⟨locs, hlo⟩ : ∃ z : List Loc, z = [] := ⟨_, rfl⟩
  have hW : GW Ev D (tyM cs) idw A s [(h, .inr (0, [.null, .null, .null]))] H locs := by rw [hH, hlo]; exact hW
  rw [show W p l e rm_N_X0_init s m _ below meth c s.heap [] = W p l e rm_N_X0_init s m _ below meth c H locs from by rw [hH, hlo]]
  refine lv_aload_n C.1 C.2.1 dX0_init_0 rfl (lv_at hl 0 rfl) ?_
  refine W.objInit C.1 C.2.1 C.2.2.2.1 (C.2.2.2.2 _ (List.mem_of_getElem? (i := 1) rfl)) (C.2.2.2.2 _ (List.mem_of_getElem? (i := 2) rfl)) (C.2.2.2.2 _ (List.mem_of_getElem? (i := 3) rfl)) rfl (hl.1.trans C.2.2.1.symm) rfl dX0_init_1 (Nat.le_of_ble_eq_true rfl) (Nat.le_of_ble_eq_true rfl) ?_
  refine W.eq (g2 := F0 m 4 ls []) rfl ?_
  refine lv_aload_n C.1 C.2.1 dX0_init_4 rfl (lv_at hl 0 rfl) ?_
  refine lv_sipush (v := 256) C.1 C.2.1 dX0_init_5 (by decide) ?_
  refine X_newJ (N := 256) C hW (C.2.2.2.2 _ (List.mem_of_getElem? (i := 4) rfl)) (by decide) (by decide) (by decide) (Nat.le_of_ble_eq_true rfl) (Nat.le_of_ble_eq_true rfl) dX0_init_8 (fun q1 H hW => ?_)
  have hW : GW Ev D (tyM cs) idw A s [(q1, .inl (cs 2, 256, .inr (.inl (fun _ => 0)))), (h, .inr (0, [.null, .null, .null]))] H locs := hW
  refine W.widen (k := 1) (n := 256) (Nat.le_of_ble_eq_true rfl) (Nat.le_of_ble_eq_true rfl) ?_
  refine X_putF C (hini rfl) hW 1 0 rfl hin0 tyX0 tyX0_ok nmX0 rfl 1 (by decide) rfl rfl rfl rfl  (Nat.le_of_ble_eq_true rfl) f0_1 dX0_init_10 (fun H locs hW => ?_)
  have hW : GW Ev D (tyM cs) idw A s [(q1, .inl (cs 2, 256, .inr (.inl (fun _ => 0)))), (h, .inr (0, [.null, .ref q1, .null]))] H locs := hW
  refine lv_aload_n C.1 C.2.1 dX0_init_13 rfl (lv_at hl 0 rfl) ?_
  refine lv_bipush (v := 8) C.1 C.2.1 dX0_init_14 (by decide) ?_
  refine X_newJ (N := 8) C hW (C.2.2.2.2 _ (List.mem_of_getElem? (i := 4) rfl)) (by decide) (by decide) (by decide) (Nat.le_of_ble_eq_true rfl) (Nat.le_of_ble_eq_true rfl) dX0_init_16 (fun q2 H hW => ?_)
  have hW : GW Ev D (tyM cs) idw A s [(q2, .inl (cs 2, 8, .inr (.inl (fun _ => 0)))), (q1, .inl (cs 2, 256, .inr (.inl (fun _ => 0)))), (h, .inr (0, [.null, .ref q1, .null]))] H locs := hW
  refine W.widen (k := 2) (n := 264) (Nat.le_of_ble_eq_true rfl) (Nat.le_of_ble_eq_true rfl) ?_
  refine X_putF C (hini rfl) hW 2 0 rfl hin0 tyX0 tyX0_ok nmX0 rfl 2 (by decide) rfl rfl rfl rfl  (Nat.le_of_ble_eq_true rfl) f0_2 dX0_init_18 (fun H locs hW => ?_)
  have hW : GW Ev D (tyM cs) idw A s [(q2, .inl (cs 2, 8, .inr (.inl (fun _ => 0)))), (q1, .inl (cs 2, 256, .inr (.inl (fun _ => 0)))), (h, .inr (0, [.null, .ref q1, .ref q2]))] H locs := hW
  refine lv_aload_n C.1 C.2.1 dX0_init_21 rfl (lv_at hl 0 rfl) ?_
  refine lv_aload_n C.1 C.2.1 dX0_init_22 rfl (lv_at hl 1 rfl) ?_
  refine X_putF C (hini rfl) hW 2 0 rfl hin0 tyX0 tyX0_ok nmX0 rfl 0 (by decide) rfl rfl rfl rfl  (Nat.le_of_ble_eq_true rfl) f0_0 dX0_init_23 (fun H locs hW => ?_)
  have hW : GW Ev D (tyM cs) idw A s [(q2, .inl (cs 2, 8, .inr (.inl (fun _ => 0)))), (q1, .inl (cs 2, 256, .inr (.inl (fun _ => 0)))), (h, .inr (0, [.ref a1, .ref q1, .ref q2]))] H locs := hW
  exact G_retv C hr hlk hA hW ⟨q1, q2, rfl⟩ dX0_init_26
abbrev rm_N_X11_init : Room := { frames := 3, cells := 18, slots := 848, locals := 55 }
set_option maxHeartbeats 8000000 in
set_option maxRecDepth 100000 in
theorem c_N_X11_init {Ev : EvT} (l : Launch) (D : va_G) (cs : Nat → ClassId) (h : Nat)   (ne9 : ∀ (A : Nat → Prop) (U : State) (H : Heap), Ev A U H → va_Nw (.methodLinkNest RX11 9 yX9_init "LandRun") U) (ne18 : ∀ (A : Nat → Prop) (U : State) (H : Heap), Ev A U H → va_Nw (.methodLinkNest RX11 18 yX3_init "LandRun") U) (ne25 : ∀ (A : Nat → Prop) (U : State) (H : Heap), Ev A U H → va_Nw (.methodLinkNest RX11 25 yX6_init "LandRun") U) (ne41 : ∀ (A : Nat → Prop) (U : State) (H : Heap), Ev A U H → va_Nw (.methodLinkNest RX11 41 yX4_init "LandRun") U) (ae7 : ∀ (A : Nat → Prop) (U : State) (H : Heap), Ev A U H → va_AO "LandRun$Person" U) (ne11 : ∀ (A : Nat → Prop) (U : State) (H : Heap), Ev A U H → va_Nw (.methodLinkNest RX5 11 yX4_init "LandRun") U) (ae1 : ∀ (A : Nat → Prop) (U : State) (H : Heap), Ev A U H → va_AO "LandRun$Claim" U) : cGv Ev l D (tyM cs) idw yX11_init wsX11_init rm_N_X11_init 18 848 [.ref h] [(h, .inr (11, [.null, .null, .null, .null, .null, .null, .null, .null, .int 0]))] (fun u => ∃ q1 : Nat, ∃ q2 : Nat, ∃ q3 : Nat, ∃ q4 : Nat, ∃ q5 : Nat, ∃ q6 : Nat, ∃ q7 : Nat, ∃ q8 : Nat, ∃ q9 : Nat, ∃ q10 : Nat, ∃ q11 : Nat, ∃ q12 : Nat, ∃ q13 : Nat, ∃ q14 : Nat, ∃ q15 : Nat, ∃ q16 : Nat, ∃ q17 : Nat, ∃ q18 : Nat, u = [(q18, .inl (cs 2, 8, .inr (.inl (fun _ => 0)))), (q17, .inl (cs 2, 256, .inr (.inl (fun _ => 0)))), (q16, .inr (0, [.ref q7, .ref q17, .ref q18])), (q15, .inl (cs 5, 60, .inr (.inr (.inr (.inr (fun _ => none)))))), (q14, .inl (cs 5, 60, .inr (.inr (.inr (.inr (fun _ => none)))))), (q13, .inr (2, [.ref q10, .ref q14, .ref q15, .int (0), .int (0), .int (0)])), (q12, .inr (4, [.int (0), .int (0), .int (0), .int (999), .int (2), .int (0)])), (q11, .inr (5, [.ref q1, .ref q12, .int (0), .int (0), .int (0), .int (4), .int (0), .int (-1), .int (0)])), (q10, .inr (4, [.int (0), .int (0), .int (0), .int (999), .int (2), .int (0)])), (q9, .inr (8, [.ref q3, .ref q7, .int (0), .int (0)])), (q8, .inl (cs 4, 30, .inr (.inr (.inr (.inr (fun _ => none)))))), (q7, .inr (6, [.ref q8, .int (0)])), (q6, .inl (cs 4, 64, .inr (.inr (.inr (.inr (fun _ => none)))))), (q5, .inl (cs 1, 64, .inl (fun _ => 0))), (q4, .inl (cs 1, 64, .inl (fun _ => 0))), (q3, .inr (3, [.ref q4, .ref q5, .ref q6, .int (0)])), (q2, .inl (cs 1, 200, .inl (fun _ => 0))), (q1, .inr (9, [.ref q2, .int (0)])), (h, .inr (11, [.ref q1, .ref q3, .ref q7, .ref q9, .ref q10, .ref q11, .ref q13, .ref q16, .int (0)]))]) := by
  refine G_inv (cc := cX11_init) (maxL := 1) (ret := none) (by decide) rfl (Nat.le_of_ble_eq_true rfl) ?_
  intro p e s m below meth c A ls C hr hlk hini hA hW hl
  have C : Cx p s m _ c cX11_init 1 wsX11_init RX11 := C
  have hl : lv_has ls 1 [(0, .ref h)] := hl
  have nl9 := ne9 A s s.heap hW.2.2.2.2.2.1
  have nl18 := ne18 A s s.heap hW.2.2.2.2.2.1
  have nl25 := ne25 A s s.heap hW.2.2.2.2.2.1
  have nl41 := ne41 A s s.heap hW.2.2.2.2.2.1
  have hin0 : ∀ w ∈ wsX00, w ∈ wsX11_init := fun w hw => List.mem_cons_of_mem _ (List.mem_append_right _ hw)
  have hin2 : ∀ w ∈ wsX20, w ∈ wsX11_init := fun w hw => List.mem_cons_of_mem _ (List.mem_append_left _ (List.mem_append_right _ hw))
  have hin3 : ∀ w ∈ wsX30, w ∈ wsX11_init := fun w hw => List.mem_cons_of_mem _ (List.mem_append_left _ (List.mem_append_left _ (List.mem_append_left _ (List.mem_append_left _ (List.mem_append_left _ (List.mem_append_left _ (List.mem_append_right _ hw)))))))
  have hin4 : ∀ w ∈ wsX40, w ∈ wsX11_init := fun w hw => List.mem_cons_of_mem _ (List.mem_append_left _ (List.mem_append_left _ (List.mem_append_left _ (List.mem_append_right _ hw))))
  have hin5 : ∀ w ∈ wsX50, w ∈ wsX11_init := fun w hw => List.mem_cons_of_mem _ (List.mem_append_left _ (List.mem_append_left _ (List.mem_append_right _ hw)))
  have hin6 : ∀ w ∈ wsX60, w ∈ wsX11_init := fun w hw => List.mem_cons_of_mem _ (List.mem_append_left _ (List.mem_append_left _ (List.mem_append_left _ (List.mem_append_left _ (List.mem_append_left _ (List.mem_append_right _ hw))))))
  have hin8 : ∀ w ∈ wsX80, w ∈ wsX11_init := fun w hw => List.mem_cons_of_mem _ (List.mem_append_left _ (List.mem_append_left _ (List.mem_append_left _ (List.mem_append_left _ (List.mem_append_right _ hw)))))
  have hin9 : ∀ w ∈ wsX90, w ∈ wsX11_init := fun w hw => List.mem_cons_of_mem _ (List.mem_append_left _ (List.mem_append_left _ (List.mem_append_left _ (List.mem_append_left _ (List.mem_append_left _ (List.mem_append_left _ (List.mem_append_left _ (List.mem_append_left _ (List.mem_append_right _ hw)))))))))
  have hin11 : ∀ w ∈ wsX110, w ∈ wsX11_init := fun w hw => List.mem_cons_of_mem _ (List.mem_append_left _ (List.mem_append_left _ (List.mem_append_left _ (List.mem_append_left _ (List.mem_append_left _ (List.mem_append_left _ (List.mem_append_left _ (List.mem_append_right _ hw))))))))
  have f11_0 : (Cond.fieldLink RX11 10 (TX11 0).1 (TX11 0).2.1 (TX11 0).2.2.1).before _ s = true := C.2.2.2.2 _ (List.mem_of_getElem? (i := 7) rfl)
  have f11_1 : (Cond.fieldLink RX11 19 (TX11 1).1 (TX11 1).2.1 (TX11 1).2.2.1).before _ s = true := C.2.2.2.2 _ (List.mem_of_getElem? (i := 11) rfl)
  have f11_2 : (Cond.fieldLink RX11 26 (TX11 2).1 (TX11 2).2.1 (TX11 2).2.2.1).before _ s = true := C.2.2.2.2 _ (List.mem_of_getElem? (i := 15) rfl)
  have f11_3 : (Cond.fieldLink RX11 35 (TX11 3).1 (TX11 3).2.1 (TX11 3).2.2.1).before _ s = true := C.2.2.2.2 _ (List.mem_of_getElem? (i := 19) rfl)
  have f11_4 : (Cond.fieldLink RX11 42 (TX11 4).1 (TX11 4).2.1 (TX11 4).2.2.1).before _ s = true := C.2.2.2.2 _ (List.mem_of_getElem? (i := 23) rfl)
  have f11_5 : (Cond.fieldLink RX11 51 (TX11 5).1 (TX11 5).2.1 (TX11 5).2.2.1).before _ s = true := C.2.2.2.2 _ (List.mem_of_getElem? (i := 27) rfl)
  have f11_6 : (Cond.fieldLink RX11 60 (TX11 6).1 (TX11 6).2.1 (TX11 6).2.2.1).before _ s = true := C.2.2.2.2 _ (List.mem_of_getElem? (i := 31) rfl)
  have f11_7 : (Cond.fieldLink RX11 69 (TX11 7).1 (TX11 7).2.1 (TX11 7).2.2.1).before _ s = true := C.2.2.2.2 _ (List.mem_of_getElem? (i := 35) rfl)
  have f11_8 : (Cond.fieldLink RX11 73 (TX11 8).1 (TX11 8).2.1 (TX11 8).2.2.1).before _ s = true := C.2.2.2.2 _ (List.mem_of_getElem? (i := 36) rfl)
  obtain ⟨H, hH⟩ : ∃ H, H = s.heap := ⟨_, rfl⟩
  obtain ⟨locs, hlo⟩ : ∃ z : List Loc, z = [] := ⟨_, rfl⟩
  have hW : GW Ev D (tyM cs) idw A s [(h, .inr (11, [.null, .null, .null, .null, .null, .null, .null, .null, .int 0]))] H locs := by rw [hH, hlo]; exact hW
  rw [show W p l e rm_N_X11_init s m _ below meth c s.heap [] = W p l e rm_N_X11_init s m _ below meth c H locs from by rw [hH, hlo]]
  refine lv_aload_n C.1 C.2.1 dX11_init_0 rfl (lv_at hl 0 rfl) ?_
  refine W.objInit C.1 C.2.1 C.2.2.2.1 (C.2.2.2.2 _ (List.mem_of_getElem? (i := 1) rfl)) (C.2.2.2.2 _ (List.mem_of_getElem? (i := 2) rfl)) (C.2.2.2.2 _ (List.mem_of_getElem? (i := 3) rfl)) rfl (hl.1.trans C.2.2.1.symm) rfl dX11_init_1 (Nat.le_of_ble_eq_true rfl) (Nat.le_of_ble_eq_true rfl) ?_
  refine W.eq (g2 := F0 m 4 ls []) rfl ?_
  refine lv_aload_n C.1 C.2.1 dX11_init_4 rfl (lv_at hl 0 rfl) ?_
  refine X_new (fs := [.null, .int 0]) C hW 9 rfl hin9 tyX9 tyX9_ok (C.2.2.2.2 _ (List.mem_of_getElem? (i := 4) rfl)) (C.2.2.2.2 _ (List.mem_of_getElem? (i := 5) rfl)) (C.2.2.2.2 _ (List.mem_of_getElem? (i := 6) rfl)) (fun j hj => by rcases (show j = 0 ∨ j = 1 by omega) with rfl | rfl <;> rfl) (Nat.le_of_ble_eq_true rfl) (Nat.le_of_ble_eq_true rfl) dX11_init_5 (fun q1 H hW => ?_)
  have hW : GW Ev D (tyM cs) idw A s [(q1, .inr (9, [.null, .int 0])), (h, .inr (11, [.null, .null, .null, .null, .null, .null, .null, .null, .int 0]))] H locs := hW
  refine W.widen (k := 1) (n := 2) (Nat.le_of_ble_eq_true rfl) (Nat.le_of_ble_eq_true rfl) ?_
  refine lv_dup C.1 C.2.1 dX11_init_8 rfl ?_
  refine X_IN (w := idw) (σ := [(q1, .inr (9, [.null, .int 0]))]) (wr := [(h, .inr (11, [.null, .null, .null, .null, .null, .null, .null, .null, .int 0]))]) (As := []) (rest := [.ref q1, .ref h]) C hW (c_N_X9_init l D cs q1 ) ⟨va_cnB 0 C.2.2.2.2 gX11_init_X9_init_n9 rfl rfl rfl nl9 (C.2.2.2.2 _ (List.mem_of_getElem? (i := 6) rfl)) (by decide +kernel) ⟨Nat.le_of_ble_eq_true rfl, Nat.le_of_ble_eq_true rfl⟩, rfl, (C.2.2.2.2 _ (List.mem_of_getElem? (i := 37) rfl))⟩ rfl hl.1 rfl (Nat.le_of_ble_eq_true rfl) dX11_init_9 ⟨Nat.le_of_ble_eq_true rfl, Nat.le_of_ble_eq_true rfl⟩ (fun u H locs hu hW => ?_)
  obtain ⟨q2, hu⟩ := hu
  subst hu
  have hW : GW Ev D (tyM cs) idw A s [(q2, .inl (cs 1, 200, .inl (fun _ => 0))), (q1, .inr (9, [.ref q2, .int (0)])), (h, .inr (11, [.null, .null, .null, .null, .null, .null, .null, .null, .int 0]))] H locs := hW
  refine W.widen (k := 2) (n := 202) (Nat.le_of_ble_eq_true rfl) (Nat.le_of_ble_eq_true rfl) ?_
  refine X_putF C (hini rfl) hW 2 11 rfl hin11 tyX11 tyX11_ok nmX11 rfl 0 (by decide) rfl rfl rfl rfl  (Nat.le_of_ble_eq_true rfl) f11_0 dX11_init_12 (fun H locs hW => ?_)
  have hW : GW Ev D (tyM cs) idw A s [(q2, .inl (cs 1, 200, .inl (fun _ => 0))), (q1, .inr (9, [.ref q2, .int (0)])), (h, .inr (11, [.ref q1, .null, .null, .null, .null, .null, .null, .null, .int 0]))] H locs := hW
  refine lv_aload_n C.1 C.2.1 dX11_init_15 rfl (lv_at hl 0 rfl) ?_
  refine X_new (fs := [.null, .null, .null, .int 0]) C hW 3 rfl hin3 tyX3 tyX3_ok (C.2.2.2.2 _ (List.mem_of_getElem? (i := 8) rfl)) (C.2.2.2.2 _ (List.mem_of_getElem? (i := 9) rfl)) (C.2.2.2.2 _ (List.mem_of_getElem? (i := 10) rfl)) (fun j hj => by rcases (show j = 0 ∨ j = 1 ∨ j = 2 ∨ j = 3 by omega) with rfl | rfl | rfl | rfl <;> rfl) (Nat.le_of_ble_eq_true rfl) (Nat.le_of_ble_eq_true rfl) dX11_init_16 (fun q3 H hW => ?_)
  have hW : GW Ev D (tyM cs) idw A s [(q3, .inr (3, [.null, .null, .null, .int 0])), (q2, .inl (cs 1, 200, .inl (fun _ => 0))), (q1, .inr (9, [.ref q2, .int (0)])), (h, .inr (11, [.ref q1, .null, .null, .null, .null, .null, .null, .null, .int 0]))] H locs := hW
  refine W.widen (k := 3) (n := 206) (Nat.le_of_ble_eq_true rfl) (Nat.le_of_ble_eq_true rfl) ?_
  refine lv_dup C.1 C.2.1 dX11_init_19 rfl ?_
  refine X_IN (w := idw) (σ := [(q3, .inr (3, [.null, .null, .null, .int 0]))]) (wr := [(q2, .inl (cs 1, 200, .inl (fun _ => 0))), (q1, .inr (9, [.ref q2, .int (0)])), (h, .inr (11, [.ref q1, .null, .null, .null, .null, .null, .null, .null, .int 0]))]) (As := []) (rest := [.ref q3, .ref h]) C hW (c_N_X3_init l D cs q3  ae7) ⟨va_cnB 0 C.2.2.2.2 gX11_init_X3_init_n18 rfl rfl rfl nl18 (C.2.2.2.2 _ (List.mem_of_getElem? (i := 10) rfl)) (by decide +kernel) ⟨Nat.le_of_ble_eq_true rfl, Nat.le_of_ble_eq_true rfl⟩, rfl, (C.2.2.2.2 _ (List.mem_of_getElem? (i := 43) rfl))⟩ rfl hl.1 rfl (Nat.le_of_ble_eq_true rfl) dX11_init_20 ⟨Nat.le_of_ble_eq_true rfl, Nat.le_of_ble_eq_true rfl⟩ (fun u H locs hu hW => ?_)
  obtain ⟨q4, q5, q6, hu⟩ := hu
  subst hu
  have hW : GW Ev D (tyM cs) idw A s [(q6, .inl (cs 4, 64, .inr (.inr (.inr (.inr (fun _ => none)))))), (q5, .inl (cs 1, 64, .inl (fun _ => 0))), (q4, .inl (cs 1, 64, .inl (fun _ => 0))), (q3, .inr (3, [.ref q4, .ref q5, .ref q6, .int (0)])), (q2, .inl (cs 1, 200, .inl (fun _ => 0))), (q1, .inr (9, [.ref q2, .int (0)])), (h, .inr (11, [.ref q1, .null, .null, .null, .null, .null, .null, .null, .int 0]))] H locs := hW
  refine W.widen (k := 6) (n := 398) (Nat.le_of_ble_eq_true rfl) (Nat.le_of_ble_eq_true rfl) ?_
  refine X_putF C (hini rfl) hW 6 11 rfl hin11 tyX11 tyX11_ok nmX11 rfl 1 (by decide) rfl rfl rfl rfl  (Nat.le_of_ble_eq_true rfl) f11_1 dX11_init_23 (fun H locs hW => ?_)
  have hW : GW Ev D (tyM cs) idw A s [(q6, .inl (cs 4, 64, .inr (.inr (.inr (.inr (fun _ => none)))))), (q5, .inl (cs 1, 64, .inl (fun _ => 0))), (q4, .inl (cs 1, 64, .inl (fun _ => 0))), (q3, .inr (3, [.ref q4, .ref q5, .ref q6, .int (0)])), (q2, .inl (cs 1, 200, .inl (fun _ => 0))), (q1, .inr (9, [.ref q2, .int (0)])), (h, .inr (11, [.ref q1, .ref q3, .null, .null, .null, .null, .null, .null, .int 0]))] H locs := hW
  refine lv_aload_n C.1 C.2.1 dX11_init_26 rfl (lv_at hl 0 rfl) ?_
  refine X_new (fs := [.null, .int 0]) C hW 6 rfl hin6 tyX6 tyX6_ok (C.2.2.2.2 _ (List.mem_of_getElem? (i := 12) rfl)) (C.2.2.2.2 _ (List.mem_of_getElem? (i := 13) rfl)) (C.2.2.2.2 _ (List.mem_of_getElem? (i := 14) rfl)) (fun j hj => by rcases (show j = 0 ∨ j = 1 by omega) with rfl | rfl <;> rfl) (Nat.le_of_ble_eq_true rfl) (Nat.le_of_ble_eq_true rfl) dX11_init_27 (fun q7 H hW => ?_)
  have hW : GW Ev D (tyM cs) idw A s [(q7, .inr (6, [.null, .int 0])), (q6, .inl (cs 4, 64, .inr (.inr (.inr (.inr (fun _ => none)))))), (q5, .inl (cs 1, 64, .inl (fun _ => 0))), (q4, .inl (cs 1, 64, .inl (fun _ => 0))), (q3, .inr (3, [.ref q4, .ref q5, .ref q6, .int (0)])), (q2, .inl (cs 1, 200, .inl (fun _ => 0))), (q1, .inr (9, [.ref q2, .int (0)])), (h, .inr (11, [.ref q1, .ref q3, .null, .null, .null, .null, .null, .null, .int 0]))] H locs := hW
  refine W.widen (k := 7) (n := 400) (Nat.le_of_ble_eq_true rfl) (Nat.le_of_ble_eq_true rfl) ?_
  refine lv_dup C.1 C.2.1 dX11_init_30 rfl ?_
  refine X_IN (w := idw) (σ := [(q7, .inr (6, [.null, .int 0]))]) (wr := [(q6, .inl (cs 4, 64, .inr (.inr (.inr (.inr (fun _ => none)))))), (q5, .inl (cs 1, 64, .inl (fun _ => 0))), (q4, .inl (cs 1, 64, .inl (fun _ => 0))), (q3, .inr (3, [.ref q4, .ref q5, .ref q6, .int (0)])), (q2, .inl (cs 1, 200, .inl (fun _ => 0))), (q1, .inr (9, [.ref q2, .int (0)])), (h, .inr (11, [.ref q1, .ref q3, .null, .null, .null, .null, .null, .null, .int 0]))]) (As := []) (rest := [.ref q7, .ref h]) C hW (c_N_X6_init l D cs q7  ae7) ⟨va_cnB 0 C.2.2.2.2 gX11_init_X6_init_n25 rfl rfl rfl nl25 (C.2.2.2.2 _ (List.mem_of_getElem? (i := 14) rfl)) (by decide +kernel) ⟨Nat.le_of_ble_eq_true rfl, Nat.le_of_ble_eq_true rfl⟩, rfl, (C.2.2.2.2 _ (List.mem_of_getElem? (i := 51) rfl))⟩ rfl hl.1 rfl (Nat.le_of_ble_eq_true rfl) dX11_init_31 ⟨Nat.le_of_ble_eq_true rfl, Nat.le_of_ble_eq_true rfl⟩ (fun u H locs hu hW => ?_)
  obtain ⟨q8, hu⟩ := hu
  subst hu
  have hW : GW Ev D (tyM cs) idw A s [(q8, .inl (cs 4, 30, .inr (.inr (.inr (.inr (fun _ => none)))))), (q7, .inr (6, [.ref q8, .int (0)])), (q6, .inl (cs 4, 64, .inr (.inr (.inr (.inr (fun _ => none)))))), (q5, .inl (cs 1, 64, .inl (fun _ => 0))), (q4, .inl (cs 1, 64, .inl (fun _ => 0))), (q3, .inr (3, [.ref q4, .ref q5, .ref q6, .int (0)])), (q2, .inl (cs 1, 200, .inl (fun _ => 0))), (q1, .inr (9, [.ref q2, .int (0)])), (h, .inr (11, [.ref q1, .ref q3, .null, .null, .null, .null, .null, .null, .int 0]))] H locs := hW
  refine W.widen (k := 8) (n := 430) (Nat.le_of_ble_eq_true rfl) (Nat.le_of_ble_eq_true rfl) ?_
  refine X_putF C (hini rfl) hW 8 11 rfl hin11 tyX11 tyX11_ok nmX11 rfl 2 (by decide) rfl rfl rfl rfl  (Nat.le_of_ble_eq_true rfl) f11_2 dX11_init_34 (fun H locs hW => ?_)
  have hW : GW Ev D (tyM cs) idw A s [(q8, .inl (cs 4, 30, .inr (.inr (.inr (.inr (fun _ => none)))))), (q7, .inr (6, [.ref q8, .int (0)])), (q6, .inl (cs 4, 64, .inr (.inr (.inr (.inr (fun _ => none)))))), (q5, .inl (cs 1, 64, .inl (fun _ => 0))), (q4, .inl (cs 1, 64, .inl (fun _ => 0))), (q3, .inr (3, [.ref q4, .ref q5, .ref q6, .int (0)])), (q2, .inl (cs 1, 200, .inl (fun _ => 0))), (q1, .inr (9, [.ref q2, .int (0)])), (h, .inr (11, [.ref q1, .ref q3, .ref q7, .null, .null, .null, .null, .null, .int 0]))] H locs := hW
  refine lv_aload_n C.1 C.2.1 dX11_init_37 rfl (lv_at hl 0 rfl) ?_
  refine X_new (fs := [.null, .null, .int 0, .int 0]) C hW 8 rfl hin8 tyX8 tyX8_ok (C.2.2.2.2 _ (List.mem_of_getElem? (i := 16) rfl)) (C.2.2.2.2 _ (List.mem_of_getElem? (i := 17) rfl)) (C.2.2.2.2 _ (List.mem_of_getElem? (i := 18) rfl)) (fun j hj => by rcases (show j = 0 ∨ j = 1 ∨ j = 2 ∨ j = 3 by omega) with rfl | rfl | rfl | rfl <;> rfl) (Nat.le_of_ble_eq_true rfl) (Nat.le_of_ble_eq_true rfl) dX11_init_38 (fun q9 H hW => ?_)
  have hW : GW Ev D (tyM cs) idw A s [(q9, .inr (8, [.null, .null, .int 0, .int 0])), (q8, .inl (cs 4, 30, .inr (.inr (.inr (.inr (fun _ => none)))))), (q7, .inr (6, [.ref q8, .int (0)])), (q6, .inl (cs 4, 64, .inr (.inr (.inr (.inr (fun _ => none)))))), (q5, .inl (cs 1, 64, .inl (fun _ => 0))), (q4, .inl (cs 1, 64, .inl (fun _ => 0))), (q3, .inr (3, [.ref q4, .ref q5, .ref q6, .int (0)])), (q2, .inl (cs 1, 200, .inl (fun _ => 0))), (q1, .inr (9, [.ref q2, .int (0)])), (h, .inr (11, [.ref q1, .ref q3, .ref q7, .null, .null, .null, .null, .null, .int 0]))] H locs := hW
  refine W.widen (k := 9) (n := 434) (Nat.le_of_ble_eq_true rfl) (Nat.le_of_ble_eq_true rfl) ?_
  refine lv_dup C.1 C.2.1 dX11_init_41 rfl ?_
  refine lv_aload_n C.1 C.2.1 dX11_init_42 rfl (lv_at hl 0 rfl) ?_
  refine X_get C hW 9 11 rfl hin11 rfl 1 (by decide) rfl f11_1 dX11_init_43 ?_
  refine lv_aload_n C.1 C.2.1 dX11_init_46 rfl (lv_at hl 0 rfl) ?_
  refine X_get C hW 9 11 rfl hin11 rfl 2 (by decide) rfl f11_2 dX11_init_47 ?_
  refine X_I (w := idw) (σ := [(q9, .inr (8, [.null, .null, .int 0, .int 0]))]) (wr := [(q8, .inl (cs 4, 30, .inr (.inr (.inr (.inr (fun _ => none)))))), (q7, .inr (6, [.ref q8, .int (0)])), (q6, .inl (cs 4, 64, .inr (.inr (.inr (.inr (fun _ => none)))))), (q5, .inl (cs 1, 64, .inl (fun _ => 0))), (q4, .inl (cs 1, 64, .inl (fun _ => 0))), (q3, .inr (3, [.ref q4, .ref q5, .ref q6, .int (0)])), (q2, .inl (cs 1, 200, .inl (fun _ => 0))), (q1, .inr (9, [.ref q2, .int (0)])), (h, .inr (11, [.ref q1, .ref q3, .ref q7, .null, .null, .null, .null, .null, .int 0]))]) (As := [.ref q3, .ref q7]) (rest := [.ref q9, .ref h]) C hW (c_N_X8_init l D cs q9 q3 q7) (cwI 2 C.2.2.2.2 gX11_init_X8_init rfl rfl rfl (C.2.2.2.2 _ (List.mem_of_getElem? (i := 18) rfl)) (C.2.2.2.2 _ (List.mem_of_getElem? (i := 57) rfl)) (C.2.2.2.2 _ (List.mem_of_getElem? (i := 58) rfl)) rfl (by decide +kernel) ⟨Nat.le_of_ble_eq_true rfl, Nat.le_of_ble_eq_true rfl⟩) rfl hl.1 rfl (Nat.le_of_ble_eq_true rfl) dX11_init_50 ⟨Nat.le_of_ble_eq_true rfl, Nat.le_of_ble_eq_true rfl⟩ (fun u H locs hu hW => ?_)
  subst hu
  have hW : GW Ev D (tyM cs) idw A s [(q9, .inr (8, [.ref q3, .ref q7, .int (0), .int (0)])), (q8, .inl (cs 4, 30, .inr (.inr (.inr (.inr (fun _ => none)))))), (q7, .inr (6, [.ref q8, .int (0)])), (q6, .inl (cs 4, 64, .inr (.inr (.inr (.inr (fun _ => none)))))), (q5, .inl (cs 1, 64, .inl (fun _ => 0))), (q4, .inl (cs 1, 64, .inl (fun _ => 0))), (q3, .inr (3, [.ref q4, .ref q5, .ref q6, .int (0)])), (q2, .inl (cs 1, 200, .inl (fun _ => 0))), (q1, .inr (9, [.ref q2, .int (0)])), (h, .inr (11, [.ref q1, .ref q3, .ref q7, .null, .null, .null, .null, .null, .int 0]))] H locs := hW
  refine W.widen (k := 9) (n := 434) (Nat.le_of_ble_eq_true rfl) (Nat.le_of_ble_eq_true rfl) ?_
  refine X_putF C (hini rfl) hW 9 11 rfl hin11 tyX11 tyX11_ok nmX11 rfl 3 (by decide) rfl rfl rfl rfl  (Nat.le_of_ble_eq_true rfl) f11_3 dX11_init_53 (fun H locs hW => ?_)
  have hW : GW Ev D (tyM cs) idw A s [(q9, .inr (8, [.ref q3, .ref q7, .int (0), .int (0)])), (q8, .inl (cs 4, 30, .inr (.inr (.inr (.inr (fun _ => none)))))), (q7, .inr (6, [.ref q8, .int (0)])), (q6, .inl (cs 4, 64, .inr (.inr (.inr (.inr (fun _ => none)))))), (q5, .inl (cs 1, 64, .inl (fun _ => 0))), (q4, .inl (cs 1, 64, .inl (fun _ => 0))), (q3, .inr (3, [.ref q4, .ref q5, .ref q6, .int (0)])), (q2, .inl (cs 1, 200, .inl (fun _ => 0))), (q1, .inr (9, [.ref q2, .int (0)])), (h, .inr (11, [.ref q1, .ref q3, .ref q7, .ref q9, .null, .null, .null, .null, .int 0]))] H locs := hW
  refine lv_aload_n C.1 C.2.1 dX11_init_56 rfl (lv_at hl 0 rfl) ?_
  refine X_new (fs := [.int 0, .int 0, .int 0, .int 0, .int 0, .int 0]) C hW 4 rfl hin4 tyX4 tyX4_ok (C.2.2.2.2 _ (List.mem_of_getElem? (i := 20) rfl)) (C.2.2.2.2 _ (List.mem_of_getElem? (i := 21) rfl)) (C.2.2.2.2 _ (List.mem_of_getElem? (i := 22) rfl)) (fun j hj => by rcases (show j = 0 ∨ j = 1 ∨ j = 2 ∨ j = 3 ∨ j = 4 ∨ j = 5 by omega) with rfl | rfl | rfl | rfl | rfl | rfl <;> rfl) (Nat.le_of_ble_eq_true rfl) (Nat.le_of_ble_eq_true rfl) dX11_init_57 (fun q10 H hW => ?_)
  have hW : GW Ev D (tyM cs) idw A s [(q10, .inr (4, [.int 0, .int 0, .int 0, .int 0, .int 0, .int 0])), (q9, .inr (8, [.ref q3, .ref q7, .int (0), .int (0)])), (q8, .inl (cs 4, 30, .inr (.inr (.inr (.inr (fun _ => none)))))), (q7, .inr (6, [.ref q8, .int (0)])), (q6, .inl (cs 4, 64, .inr (.inr (.inr (.inr (fun _ => none)))))), (q5, .inl (cs 1, 64, .inl (fun _ => 0))), (q4, .inl (cs 1, 64, .inl (fun _ => 0))), (q3, .inr (3, [.ref q4, .ref q5, .ref q6, .int (0)])), (q2, .inl (cs 1, 200, .inl (fun _ => 0))), (q1, .inr (9, [.ref q2, .int (0)])), (h, .inr (11, [.ref q1, .ref q3, .ref q7, .ref q9, .null, .null, .null, .null, .int 0]))] H locs := hW
  refine W.widen (k := 10) (n := 440) (Nat.le_of_ble_eq_true rfl) (Nat.le_of_ble_eq_true rfl) ?_
  refine lv_dup C.1 C.2.1 dX11_init_60 rfl ?_
  refine X_IN (w := idw) (σ := [(q10, .inr (4, [.int 0, .int 0, .int 0, .int 0, .int 0, .int 0]))]) (wr := [(q9, .inr (8, [.ref q3, .ref q7, .int (0), .int (0)])), (q8, .inl (cs 4, 30, .inr (.inr (.inr (.inr (fun _ => none)))))), (q7, .inr (6, [.ref q8, .int (0)])), (q6, .inl (cs 4, 64, .inr (.inr (.inr (.inr (fun _ => none)))))), (q5, .inl (cs 1, 64, .inl (fun _ => 0))), (q4, .inl (cs 1, 64, .inl (fun _ => 0))), (q3, .inr (3, [.ref q4, .ref q5, .ref q6, .int (0)])), (q2, .inl (cs 1, 200, .inl (fun _ => 0))), (q1, .inr (9, [.ref q2, .int (0)])), (h, .inr (11, [.ref q1, .ref q3, .ref q7, .ref q9, .null, .null, .null, .null, .int 0]))]) (As := []) (rest := [.ref q10, .ref h]) C hW (c_N_X4_init l D cs q10 ) ⟨va_cnB 0 C.2.2.2.2 gX11_init_X4_init_n41 rfl rfl rfl nl41 (C.2.2.2.2 _ (List.mem_of_getElem? (i := 22) rfl)) (by decide +kernel) ⟨Nat.le_of_ble_eq_true rfl, Nat.le_of_ble_eq_true rfl⟩, rfl, (C.2.2.2.2 _ (List.mem_of_getElem? (i := 65) rfl))⟩ rfl hl.1 rfl (Nat.le_of_ble_eq_true rfl) dX11_init_61 ⟨Nat.le_of_ble_eq_true rfl, Nat.le_of_ble_eq_true rfl⟩ (fun u H locs hu hW => ?_)
  subst hu
  have hW : GW Ev D (tyM cs) idw A s [(q10, .inr (4, [.int (0), .int (0), .int (0), .int (999), .int (2), .int (0)])), (q9, .inr (8, [.ref q3, .ref q7, .int (0), .int (0)])), (q8, .inl (cs 4, 30, .inr (.inr (.inr (.inr (fun _ => none)))))), (q7, .inr (6, [.ref q8, .int (0)])), (q6, .inl (cs 4, 64, .inr (.inr (.inr (.inr (fun _ => none)))))), (q5, .inl (cs 1, 64, .inl (fun _ => 0))), (q4, .inl (cs 1, 64, .inl (fun _ => 0))), (q3, .inr (3, [.ref q4, .ref q5, .ref q6, .int (0)])), (q2, .inl (cs 1, 200, .inl (fun _ => 0))), (q1, .inr (9, [.ref q2, .int (0)])), (h, .inr (11, [.ref q1, .ref q3, .ref q7, .ref q9, .null, .null, .null, .null, .int 0]))] H locs := hW
  refine W.widen (k := 10) (n := 440) (Nat.le_of_ble_eq_true rfl) (Nat.le_of_ble_eq_true rfl) ?_
  refine X_putF C (hini rfl) hW 10 11 rfl hin11 tyX11 tyX11_ok nmX11 rfl 4 (by decide) rfl rfl rfl rfl  (Nat.le_of_ble_eq_true rfl) f11_4 dX11_init_64 (fun H locs hW => ?_)
  have hW : GW Ev D (tyM cs) idw A s [(q10, .inr (4, [.int (0), .int (0), .int (0), .int (999), .int (2), .int (0)])), (q9, .inr (8, [.ref q3, .ref q7, .int (0), .int (0)])), (q8, .inl (cs 4, 30, .inr (.inr (.inr (.inr (fun _ => none)))))), (q7, .inr (6, [.ref q8, .int (0)])), (q6, .inl (cs 4, 64, .inr (.inr (.inr (.inr (fun _ => none)))))), (q5, .inl (cs 1, 64, .inl (fun _ => 0))), (q4, .inl (cs 1, 64, .inl (fun _ => 0))), (q3, .inr (3, [.ref q4, .ref q5, .ref q6, .int (0)])), (q2, .inl (cs 1, 200, .inl (fun _ => 0))), (q1, .inr (9, [.ref q2, .int (0)])), (h, .inr (11, [.ref q1, .ref q3, .ref q7, .ref q9, .ref q10, .null, .null, .null, .int 0]))] H locs := hW
  refine lv_aload_n C.1 C.2.1 dX11_init_67 rfl (lv_at hl 0 rfl) ?_
  refine X_new (fs := [.null, .null, .int 0, .int 0, .int 0, .int 0, .int 0, .int 0, .int 0]) C hW 5 rfl hin5 tyX5 tyX5_ok (C.2.2.2.2 _ (List.mem_of_getElem? (i := 24) rfl)) (C.2.2.2.2 _ (List.mem_of_getElem? (i := 25) rfl)) (C.2.2.2.2 _ (List.mem_of_getElem? (i := 26) rfl)) (fun j hj => by rcases (show j = 0 ∨ j = 1 ∨ j = 2 ∨ j = 3 ∨ j = 4 ∨ j = 5 ∨ j = 6 ∨ j = 7 ∨ j = 8 by omega) with rfl | rfl | rfl | rfl | rfl | rfl | rfl | rfl | rfl <;> rfl) (Nat.le_of_ble_eq_true rfl) (Nat.le_of_ble_eq_true rfl) dX11_init_68 (fun q11 H hW => ?_)
  have hW : GW Ev D (tyM cs) idw A s [(q11, .inr (5, [.null, .null, .int 0, .int 0, .int 0, .int 0, .int 0, .int 0, .int 0])), (q10, .inr (4, [.int (0), .int (0), .int (0), .int (999), .int (2), .int (0)])), (q9, .inr (8, [.ref q3, .ref q7, .int (0), .int (0)])), (q8, .inl (cs 4, 30, .inr (.inr (.inr (.inr (fun _ => none)))))), (q7, .inr (6, [.ref q8, .int (0)])), (q6, .inl (cs 4, 64, .inr (.inr (.inr (.inr (fun _ => none)))))), (q5, .inl (cs 1, 64, .inl (fun _ => 0))), (q4, .inl (cs 1, 64, .inl (fun _ => 0))), (q3, .inr (3, [.ref q4, .ref q5, .ref q6, .int (0)])), (q2, .inl (cs 1, 200, .inl (fun _ => 0))), (q1, .inr (9, [.ref q2, .int (0)])), (h, .inr (11, [.ref q1, .ref q3, .ref q7, .ref q9, .ref q10, .null, .null, .null, .int 0]))] H locs := hW
  refine W.widen (k := 11) (n := 449) (Nat.le_of_ble_eq_true rfl) (Nat.le_of_ble_eq_true rfl) ?_
  refine lv_dup C.1 C.2.1 dX11_init_71 rfl ?_
  refine lv_aload_n C.1 C.2.1 dX11_init_72 rfl (lv_at hl 0 rfl) ?_
  refine X_get C hW 11 11 rfl hin11 rfl 0 (by decide) rfl f11_0 dX11_init_73 ?_
  refine X_I (w := idw) (σ := [(q11, .inr (5, [.null, .null, .int 0, .int 0, .int 0, .int 0, .int 0, .int 0, .int 0]))]) (wr := [(q10, .inr (4, [.int (0), .int (0), .int (0), .int (999), .int (2), .int (0)])), (q9, .inr (8, [.ref q3, .ref q7, .int (0), .int (0)])), (q8, .inl (cs 4, 30, .inr (.inr (.inr (.inr (fun _ => none)))))), (q7, .inr (6, [.ref q8, .int (0)])), (q6, .inl (cs 4, 64, .inr (.inr (.inr (.inr (fun _ => none)))))), (q5, .inl (cs 1, 64, .inl (fun _ => 0))), (q4, .inl (cs 1, 64, .inl (fun _ => 0))), (q3, .inr (3, [.ref q4, .ref q5, .ref q6, .int (0)])), (q2, .inl (cs 1, 200, .inl (fun _ => 0))), (q1, .inr (9, [.ref q2, .int (0)])), (h, .inr (11, [.ref q1, .ref q3, .ref q7, .ref q9, .ref q10, .null, .null, .null, .int 0]))]) (As := [.ref q1]) (rest := [.ref q11, .ref h]) C hW (c_N_X5_init l D cs q11 q1 ne11) (cwI 1 C.2.2.2.2 gX11_init_X5_init rfl rfl rfl (C.2.2.2.2 _ (List.mem_of_getElem? (i := 26) rfl)) (C.2.2.2.2 _ (List.mem_of_getElem? (i := 74) rfl)) (C.2.2.2.2 _ (List.mem_of_getElem? (i := 75) rfl)) rfl (by decide +kernel) ⟨Nat.le_of_ble_eq_true rfl, Nat.le_of_ble_eq_true rfl⟩) rfl hl.1 rfl (Nat.le_of_ble_eq_true rfl) dX11_init_76 ⟨Nat.le_of_ble_eq_true rfl, Nat.le_of_ble_eq_true rfl⟩ (fun u H locs hu hW => ?_)
  obtain ⟨q12, hu⟩ := hu
  subst hu
  have hW : GW Ev D (tyM cs) idw A s [(q12, .inr (4, [.int (0), .int (0), .int (0), .int (999), .int (2), .int (0)])), (q11, .inr (5, [.ref q1, .ref q12, .int (0), .int (0), .int (0), .int (4), .int (0), .int (-1), .int (0)])), (q10, .inr (4, [.int (0), .int (0), .int (0), .int (999), .int (2), .int (0)])), (q9, .inr (8, [.ref q3, .ref q7, .int (0), .int (0)])), (q8, .inl (cs 4, 30, .inr (.inr (.inr (.inr (fun _ => none)))))), (q7, .inr (6, [.ref q8, .int (0)])), (q6, .inl (cs 4, 64, .inr (.inr (.inr (.inr (fun _ => none)))))), (q5, .inl (cs 1, 64, .inl (fun _ => 0))), (q4, .inl (cs 1, 64, .inl (fun _ => 0))), (q3, .inr (3, [.ref q4, .ref q5, .ref q6, .int (0)])), (q2, .inl (cs 1, 200, .inl (fun _ => 0))), (q1, .inr (9, [.ref q2, .int (0)])), (h, .inr (11, [.ref q1, .ref q3, .ref q7, .ref q9, .ref q10, .null, .null, .null, .int 0]))] H locs := hW
  refine W.widen (k := 12) (n := 455) (Nat.le_of_ble_eq_true rfl) (Nat.le_of_ble_eq_true rfl) ?_
  refine X_putF C (hini rfl) hW 12 11 rfl hin11 tyX11 tyX11_ok nmX11 rfl 5 (by decide) rfl rfl rfl rfl  (Nat.le_of_ble_eq_true rfl) f11_5 dX11_init_79 (fun H locs hW => ?_)
  have hW : GW Ev D (tyM cs) idw A s [(q12, .inr (4, [.int (0), .int (0), .int (0), .int (999), .int (2), .int (0)])), (q11, .inr (5, [.ref q1, .ref q12, .int (0), .int (0), .int (0), .int (4), .int (0), .int (-1), .int (0)])), (q10, .inr (4, [.int (0), .int (0), .int (0), .int (999), .int (2), .int (0)])), (q9, .inr (8, [.ref q3, .ref q7, .int (0), .int (0)])), (q8, .inl (cs 4, 30, .inr (.inr (.inr (.inr (fun _ => none)))))), (q7, .inr (6, [.ref q8, .int (0)])), (q6, .inl (cs 4, 64, .inr (.inr (.inr (.inr (fun _ => none)))))), (q5, .inl (cs 1, 64, .inl (fun _ => 0))), (q4, .inl (cs 1, 64, .inl (fun _ => 0))), (q3, .inr (3, [.ref q4, .ref q5, .ref q6, .int (0)])), (q2, .inl (cs 1, 200, .inl (fun _ => 0))), (q1, .inr (9, [.ref q2, .int (0)])), (h, .inr (11, [.ref q1, .ref q3, .ref q7, .ref q9, .ref q10, .ref q11, .null, .null, .int 0]))] H locs := hW
  refine lv_aload_n C.1 C.2.1 dX11_init_82 rfl (lv_at hl 0 rfl) ?_
  refine X_new (fs := [.null, .null, .null, .int 0, .int 0, .int 0]) C hW 2 rfl hin2 tyX2 tyX2_ok (C.2.2.2.2 _ (List.mem_of_getElem? (i := 28) rfl)) (C.2.2.2.2 _ (List.mem_of_getElem? (i := 29) rfl)) (C.2.2.2.2 _ (List.mem_of_getElem? (i := 30) rfl)) (fun j hj => by rcases (show j = 0 ∨ j = 1 ∨ j = 2 ∨ j = 3 ∨ j = 4 ∨ j = 5 by omega) with rfl | rfl | rfl | rfl | rfl | rfl <;> rfl) (Nat.le_of_ble_eq_true rfl) (Nat.le_of_ble_eq_true rfl) dX11_init_83 (fun q13 H hW => ?_)
  have hW : GW Ev D (tyM cs) idw A s [(q13, .inr (2, [.null, .null, .null, .int 0, .int 0, .int 0])), (q12, .inr (4, [.int (0), .int (0), .int (0), .int (999), .int (2), .int (0)])), (q11, .inr (5, [.ref q1, .ref q12, .int (0), .int (0), .int (0), .int (4), .int (0), .int (-1), .int (0)])), (q10, .inr (4, [.int (0), .int (0), .int (0), .int (999), .int (2), .int (0)])), (q9, .inr (8, [.ref q3, .ref q7, .int (0), .int (0)])), (q8, .inl (cs 4, 30, .inr (.inr (.inr (.inr (fun _ => none)))))), (q7, .inr (6, [.ref q8, .int (0)])), (q6, .inl (cs 4, 64, .inr (.inr (.inr (.inr (fun _ => none)))))), (q5, .inl (cs 1, 64, .inl (fun _ => 0))), (q4, .inl (cs 1, 64, .inl (fun _ => 0))), (q3, .inr (3, [.ref q4, .ref q5, .ref q6, .int (0)])), (q2, .inl (cs 1, 200, .inl (fun _ => 0))), (q1, .inr (9, [.ref q2, .int (0)])), (h, .inr (11, [.ref q1, .ref q3, .ref q7, .ref q9, .ref q10, .ref q11, .null, .null, .int 0]))] H locs := hW
  refine W.widen (k := 13) (n := 461) (Nat.le_of_ble_eq_true rfl) (Nat.le_of_ble_eq_true rfl) ?_
  refine lv_dup C.1 C.2.1 dX11_init_86 rfl ?_
  refine lv_aload_n C.1 C.2.1 dX11_init_87 rfl (lv_at hl 0 rfl) ?_
  refine X_get C hW 13 11 rfl hin11 rfl 4 (by decide) rfl f11_4 dX11_init_88 ?_
  refine X_I (w := idw) (σ := [(q13, .inr (2, [.null, .null, .null, .int 0, .int 0, .int 0]))]) (wr := [(q12, .inr (4, [.int (0), .int (0), .int (0), .int (999), .int (2), .int (0)])), (q11, .inr (5, [.ref q1, .ref q12, .int (0), .int (0), .int (0), .int (4), .int (0), .int (-1), .int (0)])), (q10, .inr (4, [.int (0), .int (0), .int (0), .int (999), .int (2), .int (0)])), (q9, .inr (8, [.ref q3, .ref q7, .int (0), .int (0)])), (q8, .inl (cs 4, 30, .inr (.inr (.inr (.inr (fun _ => none)))))), (q7, .inr (6, [.ref q8, .int (0)])), (q6, .inl (cs 4, 64, .inr (.inr (.inr (.inr (fun _ => none)))))), (q5, .inl (cs 1, 64, .inl (fun _ => 0))), (q4, .inl (cs 1, 64, .inl (fun _ => 0))), (q3, .inr (3, [.ref q4, .ref q5, .ref q6, .int (0)])), (q2, .inl (cs 1, 200, .inl (fun _ => 0))), (q1, .inr (9, [.ref q2, .int (0)])), (h, .inr (11, [.ref q1, .ref q3, .ref q7, .ref q9, .ref q10, .ref q11, .null, .null, .int 0]))]) (As := [.ref q10]) (rest := [.ref q13, .ref h]) C hW (c_N_X2_init l D cs q13 q10 ae1) (cwI 1 C.2.2.2.2 gX11_init_X2_init rfl rfl rfl (C.2.2.2.2 _ (List.mem_of_getElem? (i := 30) rfl)) (C.2.2.2.2 _ (List.mem_of_getElem? (i := 88) rfl)) (C.2.2.2.2 _ (List.mem_of_getElem? (i := 89) rfl)) rfl (by decide +kernel) ⟨Nat.le_of_ble_eq_true rfl, Nat.le_of_ble_eq_true rfl⟩) rfl hl.1 rfl (Nat.le_of_ble_eq_true rfl) dX11_init_91 ⟨Nat.le_of_ble_eq_true rfl, Nat.le_of_ble_eq_true rfl⟩ (fun u H locs hu hW => ?_)
  obtain ⟨q14, q15, hu⟩ := hu
  subst hu
  have hW : GW Ev D (tyM cs) idw A s [(q15, .inl (cs 5, 60, .inr (.inr (.inr (.inr (fun _ => none)))))), (q14, .inl (cs 5, 60, .inr (.inr (.inr (.inr (fun _ => none)))))), (q13, .inr (2, [.ref q10, .ref q14, .ref q15, .int (0), .int (0), .int (0)])), (q12, .inr (4, [.int (0), .int (0), .int (0), .int (999), .int (2), .int (0)])), (q11, .inr (5, [.ref q1, .ref q12, .int (0), .int (0), .int (0), .int (4), .int (0), .int (-1), .int (0)])), (q10, .inr (4, [.int (0), .int (0), .int (0), .int (999), .int (2), .int (0)])), (q9, .inr (8, [.ref q3, .ref q7, .int (0), .int (0)])), (q8, .inl (cs 4, 30, .inr (.inr (.inr (.inr (fun _ => none)))))), (q7, .inr (6, [.ref q8, .int (0)])), (q6, .inl (cs 4, 64, .inr (.inr (.inr (.inr (fun _ => none)))))), (q5, .inl (cs 1, 64, .inl (fun _ => 0))), (q4, .inl (cs 1, 64, .inl (fun _ => 0))), (q3, .inr (3, [.ref q4, .ref q5, .ref q6, .int (0)])), (q2, .inl (cs 1, 200, .inl (fun _ => 0))), (q1, .inr (9, [.ref q2, .int (0)])), (h, .inr (11, [.ref q1, .ref q3, .ref q7, .ref q9, .ref q10, .ref q11, .null, .null, .int 0]))] H locs := hW
  refine W.widen (k := 15) (n := 581) (Nat.le_of_ble_eq_true rfl) (Nat.le_of_ble_eq_true rfl) ?_
  refine X_putF C (hini rfl) hW 15 11 rfl hin11 tyX11 tyX11_ok nmX11 rfl 6 (by decide) rfl rfl rfl rfl  (Nat.le_of_ble_eq_true rfl) f11_6 dX11_init_94 (fun H locs hW => ?_)
  have hW : GW Ev D (tyM cs) idw A s [(q15, .inl (cs 5, 60, .inr (.inr (.inr (.inr (fun _ => none)))))), (q14, .inl (cs 5, 60, .inr (.inr (.inr (.inr (fun _ => none)))))), (q13, .inr (2, [.ref q10, .ref q14, .ref q15, .int (0), .int (0), .int (0)])), (q12, .inr (4, [.int (0), .int (0), .int (0), .int (999), .int (2), .int (0)])), (q11, .inr (5, [.ref q1, .ref q12, .int (0), .int (0), .int (0), .int (4), .int (0), .int (-1), .int (0)])), (q10, .inr (4, [.int (0), .int (0), .int (0), .int (999), .int (2), .int (0)])), (q9, .inr (8, [.ref q3, .ref q7, .int (0), .int (0)])), (q8, .inl (cs 4, 30, .inr (.inr (.inr (.inr (fun _ => none)))))), (q7, .inr (6, [.ref q8, .int (0)])), (q6, .inl (cs 4, 64, .inr (.inr (.inr (.inr (fun _ => none)))))), (q5, .inl (cs 1, 64, .inl (fun _ => 0))), (q4, .inl (cs 1, 64, .inl (fun _ => 0))), (q3, .inr (3, [.ref q4, .ref q5, .ref q6, .int (0)])), (q2, .inl (cs 1, 200, .inl (fun _ => 0))), (q1, .inr (9, [.ref q2, .int (0)])), (h, .inr (11, [.ref q1, .ref q3, .ref q7, .ref q9, .ref q10, .ref q11, .ref q13, .null, .int 0]))] H locs := hW
  refine lv_aload_n C.1 C.2.1 dX11_init_97 rfl (lv_at hl 0 rfl) ?_
  refine X_new (fs := [.null, .null, .null]) C hW 0 rfl hin0 tyX0 tyX0_ok (C.2.2.2.2 _ (List.mem_of_getElem? (i := 32) rfl)) (C.2.2.2.2 _ (List.mem_of_getElem? (i := 33) rfl)) (C.2.2.2.2 _ (List.mem_of_getElem? (i := 34) rfl)) (fun j hj => by rcases (show j = 0 ∨ j = 1 ∨ j = 2 by omega) with rfl | rfl | rfl <;> rfl) (Nat.le_of_ble_eq_true rfl) (Nat.le_of_ble_eq_true rfl) dX11_init_98 (fun q16 H hW => ?_)
  have hW : GW Ev D (tyM cs) idw A s [(q16, .inr (0, [.null, .null, .null])), (q15, .inl (cs 5, 60, .inr (.inr (.inr (.inr (fun _ => none)))))), (q14, .inl (cs 5, 60, .inr (.inr (.inr (.inr (fun _ => none)))))), (q13, .inr (2, [.ref q10, .ref q14, .ref q15, .int (0), .int (0), .int (0)])), (q12, .inr (4, [.int (0), .int (0), .int (0), .int (999), .int (2), .int (0)])), (q11, .inr (5, [.ref q1, .ref q12, .int (0), .int (0), .int (0), .int (4), .int (0), .int (-1), .int (0)])), (q10, .inr (4, [.int (0), .int (0), .int (0), .int (999), .int (2), .int (0)])), (q9, .inr (8, [.ref q3, .ref q7, .int (0), .int (0)])), (q8, .inl (cs 4, 30, .inr (.inr (.inr (.inr (fun _ => none)))))), (q7, .inr (6, [.ref q8, .int (0)])), (q6, .inl (cs 4, 64, .inr (.inr (.inr (.inr (fun _ => none)))))), (q5, .inl (cs 1, 64, .inl (fun _ => 0))), (q4, .inl (cs 1, 64, .inl (fun _ => 0))), (q3, .inr (3, [.ref q4, .ref q5, .ref q6, .int (0)])), (q2, .inl (cs 1, 200, .inl (fun _ => 0))), (q1, .inr (9, [.ref q2, .int (0)])), (h, .inr (11, [.ref q1, .ref q3, .ref q7, .ref q9, .ref q10, .ref q11, .ref q13, .null, .int 0]))] H locs := hW
  refine W.widen (k := 16) (n := 584) (Nat.le_of_ble_eq_true rfl) (Nat.le_of_ble_eq_true rfl) ?_
  refine lv_dup C.1 C.2.1 dX11_init_101 rfl ?_
  refine lv_aload_n C.1 C.2.1 dX11_init_102 rfl (lv_at hl 0 rfl) ?_
  refine X_get C hW 16 11 rfl hin11 rfl 2 (by decide) rfl f11_2 dX11_init_103 ?_
  refine X_I (w := idw) (σ := [(q16, .inr (0, [.null, .null, .null]))]) (wr := [(q15, .inl (cs 5, 60, .inr (.inr (.inr (.inr (fun _ => none)))))), (q14, .inl (cs 5, 60, .inr (.inr (.inr (.inr (fun _ => none)))))), (q13, .inr (2, [.ref q10, .ref q14, .ref q15, .int (0), .int (0), .int (0)])), (q12, .inr (4, [.int (0), .int (0), .int (0), .int (999), .int (2), .int (0)])), (q11, .inr (5, [.ref q1, .ref q12, .int (0), .int (0), .int (0), .int (4), .int (0), .int (-1), .int (0)])), (q10, .inr (4, [.int (0), .int (0), .int (0), .int (999), .int (2), .int (0)])), (q9, .inr (8, [.ref q3, .ref q7, .int (0), .int (0)])), (q8, .inl (cs 4, 30, .inr (.inr (.inr (.inr (fun _ => none)))))), (q7, .inr (6, [.ref q8, .int (0)])), (q6, .inl (cs 4, 64, .inr (.inr (.inr (.inr (fun _ => none)))))), (q5, .inl (cs 1, 64, .inl (fun _ => 0))), (q4, .inl (cs 1, 64, .inl (fun _ => 0))), (q3, .inr (3, [.ref q4, .ref q5, .ref q6, .int (0)])), (q2, .inl (cs 1, 200, .inl (fun _ => 0))), (q1, .inr (9, [.ref q2, .int (0)])), (h, .inr (11, [.ref q1, .ref q3, .ref q7, .ref q9, .ref q10, .ref q11, .ref q13, .null, .int 0]))]) (As := [.ref q7]) (rest := [.ref q16, .ref h]) C hW (c_N_X0_init l D cs q16 q7) (cwI 1 C.2.2.2.2 gX11_init_X0_init rfl rfl rfl (C.2.2.2.2 _ (List.mem_of_getElem? (i := 34) rfl)) (C.2.2.2.2 _ (List.mem_of_getElem? (i := 99) rfl)) (C.2.2.2.2 _ (List.mem_of_getElem? (i := 100) rfl)) rfl (by decide +kernel) ⟨Nat.le_of_ble_eq_true rfl, Nat.le_of_ble_eq_true rfl⟩) rfl hl.1 rfl (Nat.le_of_ble_eq_true rfl) dX11_init_106 ⟨Nat.le_of_ble_eq_true rfl, Nat.le_of_ble_eq_true rfl⟩ (fun u H locs hu hW => ?_)
  obtain ⟨q17, q18, hu⟩ := hu
  subst hu
  have hW : GW Ev D (tyM cs) idw A s [(q18, .inl (cs 2, 8, .inr (.inl (fun _ => 0)))), (q17, .inl (cs 2, 256, .inr (.inl (fun _ => 0)))), (q16, .inr (0, [.ref q7, .ref q17, .ref q18])), (q15, .inl (cs 5, 60, .inr (.inr (.inr (.inr (fun _ => none)))))), (q14, .inl (cs 5, 60, .inr (.inr (.inr (.inr (fun _ => none)))))), (q13, .inr (2, [.ref q10, .ref q14, .ref q15, .int (0), .int (0), .int (0)])), (q12, .inr (4, [.int (0), .int (0), .int (0), .int (999), .int (2), .int (0)])), (q11, .inr (5, [.ref q1, .ref q12, .int (0), .int (0), .int (0), .int (4), .int (0), .int (-1), .int (0)])), (q10, .inr (4, [.int (0), .int (0), .int (0), .int (999), .int (2), .int (0)])), (q9, .inr (8, [.ref q3, .ref q7, .int (0), .int (0)])), (q8, .inl (cs 4, 30, .inr (.inr (.inr (.inr (fun _ => none)))))), (q7, .inr (6, [.ref q8, .int (0)])), (q6, .inl (cs 4, 64, .inr (.inr (.inr (.inr (fun _ => none)))))), (q5, .inl (cs 1, 64, .inl (fun _ => 0))), (q4, .inl (cs 1, 64, .inl (fun _ => 0))), (q3, .inr (3, [.ref q4, .ref q5, .ref q6, .int (0)])), (q2, .inl (cs 1, 200, .inl (fun _ => 0))), (q1, .inr (9, [.ref q2, .int (0)])), (h, .inr (11, [.ref q1, .ref q3, .ref q7, .ref q9, .ref q10, .ref q11, .ref q13, .null, .int 0]))] H locs := hW
  refine W.widen (k := 18) (n := 848) (Nat.le_of_ble_eq_true rfl) (Nat.le_of_ble_eq_true rfl) ?_
  refine X_putF C (hini rfl) hW 18 11 rfl hin11 tyX11 tyX11_ok nmX11 rfl 7 (by decide) rfl rfl rfl rfl  (Nat.le_of_ble_eq_true rfl) f11_7 dX11_init_109 (fun H locs hW => ?_)
  have hW : GW Ev D (tyM cs) idw A s [(q18, .inl (cs 2, 8, .inr (.inl (fun _ => 0)))), (q17, .inl (cs 2, 256, .inr (.inl (fun _ => 0)))), (q16, .inr (0, [.ref q7, .ref q17, .ref q18])), (q15, .inl (cs 5, 60, .inr (.inr (.inr (.inr (fun _ => none)))))), (q14, .inl (cs 5, 60, .inr (.inr (.inr (.inr (fun _ => none)))))), (q13, .inr (2, [.ref q10, .ref q14, .ref q15, .int (0), .int (0), .int (0)])), (q12, .inr (4, [.int (0), .int (0), .int (0), .int (999), .int (2), .int (0)])), (q11, .inr (5, [.ref q1, .ref q12, .int (0), .int (0), .int (0), .int (4), .int (0), .int (-1), .int (0)])), (q10, .inr (4, [.int (0), .int (0), .int (0), .int (999), .int (2), .int (0)])), (q9, .inr (8, [.ref q3, .ref q7, .int (0), .int (0)])), (q8, .inl (cs 4, 30, .inr (.inr (.inr (.inr (fun _ => none)))))), (q7, .inr (6, [.ref q8, .int (0)])), (q6, .inl (cs 4, 64, .inr (.inr (.inr (.inr (fun _ => none)))))), (q5, .inl (cs 1, 64, .inl (fun _ => 0))), (q4, .inl (cs 1, 64, .inl (fun _ => 0))), (q3, .inr (3, [.ref q4, .ref q5, .ref q6, .int (0)])), (q2, .inl (cs 1, 200, .inl (fun _ => 0))), (q1, .inr (9, [.ref q2, .int (0)])), (h, .inr (11, [.ref q1, .ref q3, .ref q7, .ref q9, .ref q10, .ref q11, .ref q13, .ref q16, .int 0]))] H locs := hW
  refine lv_aload_n C.1 C.2.1 dX11_init_112 rfl (lv_at hl 0 rfl) ?_
  refine lv_iconst (v := 0) C.1 C.2.1 dX11_init_113 (by decide) ?_
  refine X_put C hW 18 11 rfl hin11 tyX11 tyX11_ok nmX11 rfl 8 (by decide) rfl rfl rfl  (Nat.le_of_ble_eq_true rfl) f11_8 dX11_init_114 (fun H locs hW => ?_)
  have hW : GW Ev D (tyM cs) idw A s [(q18, .inl (cs 2, 8, .inr (.inl (fun _ => 0)))), (q17, .inl (cs 2, 256, .inr (.inl (fun _ => 0)))), (q16, .inr (0, [.ref q7, .ref q17, .ref q18])), (q15, .inl (cs 5, 60, .inr (.inr (.inr (.inr (fun _ => none)))))), (q14, .inl (cs 5, 60, .inr (.inr (.inr (.inr (fun _ => none)))))), (q13, .inr (2, [.ref q10, .ref q14, .ref q15, .int (0), .int (0), .int (0)])), (q12, .inr (4, [.int (0), .int (0), .int (0), .int (999), .int (2), .int (0)])), (q11, .inr (5, [.ref q1, .ref q12, .int (0), .int (0), .int (0), .int (4), .int (0), .int (-1), .int (0)])), (q10, .inr (4, [.int (0), .int (0), .int (0), .int (999), .int (2), .int (0)])), (q9, .inr (8, [.ref q3, .ref q7, .int (0), .int (0)])), (q8, .inl (cs 4, 30, .inr (.inr (.inr (.inr (fun _ => none)))))), (q7, .inr (6, [.ref q8, .int (0)])), (q6, .inl (cs 4, 64, .inr (.inr (.inr (.inr (fun _ => none)))))), (q5, .inl (cs 1, 64, .inl (fun _ => 0))), (q4, .inl (cs 1, 64, .inl (fun _ => 0))), (q3, .inr (3, [.ref q4, .ref q5, .ref q6, .int (0)])), (q2, .inl (cs 1, 200, .inl (fun _ => 0))), (q1, .inr (9, [.ref q2, .int (0)])), (h, .inr (11, [.ref q1, .ref q3, .ref q7, .ref q9, .ref q10, .ref q11, .ref q13, .ref q16, .int (0)]))] H locs := hW
  exact G_retv C hr hlk hA hW ⟨q1, q2, q3, q4, q5, q6, q7, q8, q9, q10, q11, q12, q13, q14, q15, q16, q17, q18, rfl⟩ dX11_init_117
