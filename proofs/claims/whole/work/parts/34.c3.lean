abbrev rm_C_Race_setOff : Room := { frames := 2, cells := 0, slots := 0, locals := 42 }
def C_Race_setOff (K : List (Nat × Nat)) (t : TH) (x1 : Nat) : Option (TH) := chkP ((7, x1) ∈ K) (bnd (C_Person_nextOnWay K t x1) (fun v2 => bnd (C_Land_roughOf K t v2) (fun v3 => nm (uS t 7 9 x1 ((tS t 8 3 0) + ((tS t 7 2 x1) * (1 + v3)))) (fun t4 => some t4))))
set_option maxHeartbeats 4000000 in
set_option maxRecDepth 100000 in
theorem c_C_Race_setOff {Ev : EvT} {ek ev : Nat → Nat} {tp : Nat} (l : Launch) (D : va_G) (cs : Nat → ClassId) (ad : AD) (K : List (Nat × Nat)) (hKS : KS K) (hEv : EvC Ev ek ev tp) (t : TH) (x1 : Nat) (X : TH) (hX : some X = C_Race_setOff K t x1) : cGv Ev l D (tyC cs) (wC cs ad K) yX8_setOff wsX8_setOff rm_C_Race_setOff 0 0 [.ref (ad 8 0), .ref (ad 7 x1)] t (fun u => u = X) := by
  refine G_inv (cc := cX8_setOff) (maxL := 2) (ret := none) (by decide) rfl (Nat.le_of_ble_eq_true rfl) ?_
  intro p e s m below meth c A ls C hr hlk hini hA hW hl
  have C : Cx p s m _ c cX8_setOff 2 wsX8_setOff RX8 := C
  have hl : lv_has ls 2 [(0, .ref (ad 8 0)), (1, .ref (ad 7 x1))] := hl
  have hin7 : ∀ w ∈ wsX70, w ∈ wsX8_setOff := fun w hw => List.mem_cons_of_mem _ (List.mem_append_left _ (List.mem_append_right _ hw))
  have hin8 : ∀ w ∈ wsX80, w ∈ wsX8_setOff := fun w hw => List.mem_cons_of_mem _ (List.mem_append_left _ (List.mem_append_left _ (List.mem_append_right _ hw)))
  have f7_2 : (Cond.fieldLink RX8 91 (TX7 2).1 (TX7 2).2.1 (TX7 2).2.2.1).before _ s = true := C.2.2.2.2 _ (List.mem_of_getElem? (i := 2) rfl)
  have f7_9 : (Cond.fieldLink RX8 55 (TX7 9).1 (TX7 9).2.1 (TX7 9).2.2.1).before _ s = true := C.2.2.2.2 _ (List.mem_of_getElem? (i := 4) rfl)
  have f8_0 : (Cond.fieldLink RX8 19 (TX8 0).1 (TX8 0).2.1 (TX8 0).2.2.1).before _ s = true := C.2.2.2.2 _ (List.mem_of_getElem? (i := 3) rfl)
  have f8_3 : (Cond.fieldLink RX8 15 (TX8 3).1 (TX8 3).2.1 (TX8 3).2.2.1).before _ s = true := C.2.2.2.2 _ (List.mem_of_getElem? (i := 1) rfl)
  obtain ⟨H, hH⟩ : ∃ H, H = s.heap := ⟨_, rfl⟩
  obtain ⟨locs, hlo⟩ : ∃ z : List Loc, z = [] := ⟨_, rfl⟩
  have hW : GW Ev D (tyC cs) (wC cs ad K) A s t H locs := by rw [hH, hlo]; exact hW
  rw [show W p l e rm_C_Race_setOff s m _ below meth c s.heap [] = W p l e rm_C_Race_setOff s m _ below meth c H locs from by rw [hH, hlo]]
  unfold C_Race_setOff at hX
  refine lv_aload_n C.1 C.2.1 dX8_setOff_0 rfl (lv_at hl 1 rfl) ?_
  refine lv_aload_n C.1 C.2.1 dX8_setOff_1 rfl (lv_at hl 0 rfl) ?_
  refine C_get C hW 8 rfl hin8 hKS.k8_0 rfl 3 (by decide) rfl f8_3 dX8_setOff_2 ?_
  refine lv_aload_n C.1 C.2.1 dX8_setOff_5 rfl (lv_at hl 1 rfl) ?_
  obtain ⟨hk1, hX⟩ := chkP_st hX
  refine C_get C hW 7 rfl hin7 hk1 rfl 2 (by decide) rfl f7_2 dX8_setOff_6 ?_
  refine lv_iconst (v := 1) C.1 C.2.1 dX8_setOff_9 (by decide) ?_
  refine lv_aload_n C.1 C.2.1 dX8_setOff_10 rfl (lv_at hl 0 rfl) ?_
  refine C_get C hW 8 rfl hin8 hKS.k8_0 rfl 0 (by decide) rfl f8_0 dX8_setOff_11 ?_
  refine lv_aload_n C.1 C.2.1 dX8_setOff_14 rfl (lv_at hl 1 rfl) ?_
  obtain ⟨v2, hq, hX⟩ := bnd_st hX
  refine G_V0p (As := []) (rest := [.ref (ad 3 0), .int 1, .int (tS t 7 2 x1), .int (tS t 8 3 0), .ref (ad 7 x1)]) C hW (c_C_Person_nextOnWay l D cs ad K hKS hEv t x1 v2 hq.symm) (cwV 0 C.2.2.2.2 gX8_setOff_X7_nextOnWay rfl rfl rfl (by decide +kernel) ⟨Nat.le_of_ble_eq_true rfl, Nat.le_of_ble_eq_true rfl⟩) (C_recv hW 7 hk1 rfl rfl) rfl hl.1 rfl (Nat.le_of_ble_eq_true rfl) dX8_setOff_15 (fun H locs hW => ?_)
  obtain ⟨v3, hq, hX⟩ := bnd_st hX
  refine G_V0p (As := [.int v2]) (rest := [.int 1, .int (tS t 7 2 x1), .int (tS t 8 3 0), .ref (ad 7 x1)]) C hW (c_C_Land_roughOf l D cs ad K hKS hEv t v2 v3 hq.symm) (cwV 1 C.2.2.2.2 gX8_setOff_X3_roughOf rfl rfl rfl (by decide +kernel) ⟨Nat.le_of_ble_eq_true rfl, Nat.le_of_ble_eq_true rfl⟩) (C_recv hW 3 hKS.k3_0 rfl rfl) rfl hl.1 rfl (Nat.le_of_ble_eq_true rfl) dX8_setOff_18 (fun H locs hW => ?_)
  refine lv_iadd C.1 C.2.1 dX8_setOff_21 ?_
  refine lv_imul C.1 C.2.1 dX8_setOff_22 ?_
  refine lv_iadd C.1 C.2.1 dX8_setOff_23 ?_
  obtain ⟨t4, et4⟩ : ∃ z, z = uS t 7 9 x1 ((tS t 8 3 0) + ((tS t 7 2 x1) * (1 + v3))) := ⟨_, rfl⟩
  refine C_put C hW 7 rfl hin7 tyX7 tyX7_ok nmX7 hk1 rfl 9 (by decide) rfl rfl rfl (Nat.le_of_ble_eq_true rfl) f7_9 dX8_setOff_24 (t' := t4) (by rw [et4]; exact wr7_9) (by rw [et4]; exact ho_S (by decide)) (fun H locs hW => ?_)
  have hX := nm_st hX et4
  exact G_retv C hr hlk hA hW (Option.some.inj hX).symm dX8_setOff_27
abbrev rm_C_Race_putStake : Room := { frames := 1, cells := 0, slots := 0, locals := 22 }
def C_Race_putStake (K : List (Nat × Nat)) (t : TH) (x1 : Nat) (x2 : Int32) : Option (TH) := bnd (C_Land_markStaked K t x2 x1) (fun t1 => chkP ((7, x1) ∈ K) (nm (uS t1 7 10 x1 x2) (fun t3 => nm (uS t3 7 11 x1 (tS t3 8 3 0)) (fun t4 => nm (uS t4 7 8 x1 (-1)) (fun t5 => some t5)))))
set_option maxHeartbeats 4000000 in
set_option maxRecDepth 100000 in
theorem c_C_Race_putStake {Ev : EvT} {ek ev : Nat → Nat} {tp : Nat} (l : Launch) (D : va_G) (cs : Nat → ClassId) (ad : AD) (K : List (Nat × Nat)) (hKS : KS K) (hEv : EvC Ev ek ev tp) (t : TH) (x1 : Nat) (x2 : Int32) (X : TH) (hX : some X = C_Race_putStake K t x1 x2) : cGv Ev l D (tyC cs) (wC cs ad K) yX8_putStake wsX8_putStake rm_C_Race_putStake 0 0 [.ref (ad 8 0), .ref (ad 7 x1), .int x2] t (fun u => u = X) := by
  refine G_inv (cc := cX8_putStake) (maxL := 3) (ret := none) (by decide) rfl (Nat.le_of_ble_eq_true rfl) ?_
  intro p e s m below meth c A ls C hr hlk hini hA hW hl
  have C : Cx p s m _ c cX8_putStake 3 wsX8_putStake RX8 := C
  have hl : lv_has ls 3 [(0, .ref (ad 8 0)), (1, .ref (ad 7 x1)), (2, .int x2)] := hl
  have hin7 : ∀ w ∈ wsX70, w ∈ wsX8_putStake := fun w hw => List.mem_cons_of_mem _ (List.mem_append_left _ (List.mem_append_right _ hw))
  have hin8 : ∀ w ∈ wsX80, w ∈ wsX8_putStake := fun w hw => List.mem_cons_of_mem _ (List.mem_append_left _ (List.mem_append_left _ (List.mem_append_right _ hw)))
  have f7_8 : (Cond.fieldLink RX8 50 (TX7 8).1 (TX7 8).2.1 (TX7 8).2.2.1).before _ s = true := C.2.2.2.2 _ (List.mem_of_getElem? (i := 5) rfl)
  have f7_10 : (Cond.fieldLink RX8 101 (TX7 10).1 (TX7 10).2.1 (TX7 10).2.2.1).before _ s = true := C.2.2.2.2 _ (List.mem_of_getElem? (i := 2) rfl)
  have f7_11 : (Cond.fieldLink RX8 104 (TX7 11).1 (TX7 11).2.1 (TX7 11).2.2.1).before _ s = true := C.2.2.2.2 _ (List.mem_of_getElem? (i := 4) rfl)
  have f8_0 : (Cond.fieldLink RX8 19 (TX8 0).1 (TX8 0).2.1 (TX8 0).2.2.1).before _ s = true := C.2.2.2.2 _ (List.mem_of_getElem? (i := 1) rfl)
  have f8_3 : (Cond.fieldLink RX8 15 (TX8 3).1 (TX8 3).2.1 (TX8 3).2.2.1).before _ s = true := C.2.2.2.2 _ (List.mem_of_getElem? (i := 3) rfl)
  obtain ⟨H, hH⟩ : ∃ H, H = s.heap := ⟨_, rfl⟩
  obtain ⟨locs, hlo⟩ : ∃ z : List Loc, z = [] := ⟨_, rfl⟩
  have hW : GW Ev D (tyC cs) (wC cs ad K) A s t H locs := by rw [hH, hlo]; exact hW
  rw [show W p l e rm_C_Race_putStake s m _ below meth c s.heap [] = W p l e rm_C_Race_putStake s m _ below meth c H locs from by rw [hH, hlo]]
  unfold C_Race_putStake at hX
  refine lv_aload_n C.1 C.2.1 dX8_putStake_0 rfl (lv_at hl 0 rfl) ?_
  refine C_get C hW 8 rfl hin8 hKS.k8_0 rfl 0 (by decide) rfl f8_0 dX8_putStake_1 ?_
  refine lv_iload_n C.1 C.2.1 dX8_putStake_4 rfl (lv_at hl 2 rfl) ?_
  refine lv_aload_n C.1 C.2.1 dX8_putStake_5 rfl (lv_at hl 1 rfl) ?_
  obtain ⟨t1, hq, hX⟩ := bnd_st hX
  refine G_V0u (As := [.int x2, .ref (ad 7 x1)]) (rest := []) C hW (c_C_Land_markStaked l D cs ad K hKS hEv t x2 x1 t1 hq.symm) (cwV 2 C.2.2.2.2 gX8_putStake_X3_markStaked rfl rfl rfl (by decide +kernel) ⟨Nat.le_of_ble_eq_true rfl, Nat.le_of_ble_eq_true rfl⟩) (C_recv hW 3 hKS.k3_0 rfl rfl) rfl hl.1 rfl (Nat.le_of_ble_eq_true rfl) dX8_putStake_6 (fun H locs hW => ?_)
  refine lv_aload_n C.1 C.2.1 dX8_putStake_9 rfl (lv_at hl 1 rfl) ?_
  refine lv_iload_n C.1 C.2.1 dX8_putStake_10 rfl (lv_at hl 2 rfl) ?_
  obtain ⟨hk2, hX⟩ := chkP_st hX
  obtain ⟨t3, et3⟩ : ∃ z, z = uS t1 7 10 x1 x2 := ⟨_, rfl⟩
  refine C_put C hW 7 rfl hin7 tyX7 tyX7_ok nmX7 hk2 rfl 10 (by decide) rfl rfl rfl (Nat.le_of_ble_eq_true rfl) f7_10 dX8_putStake_11 (t' := t3) (by rw [et3]; exact wr7_10) (by rw [et3]; exact ho_S (by decide)) (fun H locs hW => ?_)
  have hX := nm_st hX et3
  refine lv_aload_n C.1 C.2.1 dX8_putStake_14 rfl (lv_at hl 1 rfl) ?_
  refine lv_aload_n C.1 C.2.1 dX8_putStake_15 rfl (lv_at hl 0 rfl) ?_
  refine C_get C hW 8 rfl hin8 hKS.k8_0 rfl 3 (by decide) rfl f8_3 dX8_putStake_16 ?_
  obtain ⟨t4, et4⟩ : ∃ z, z = uS t3 7 11 x1 (tS t3 8 3 0) := ⟨_, rfl⟩
  refine C_put C hW 7 rfl hin7 tyX7 tyX7_ok nmX7 hk2 rfl 11 (by decide) rfl rfl rfl (Nat.le_of_ble_eq_true rfl) f7_11 dX8_putStake_19 (t' := t4) (by rw [et4]; exact wr7_11) (by rw [et4]; exact ho_S (by decide)) (fun H locs hW => ?_)
  have hX := nm_st hX et4
  refine lv_aload_n C.1 C.2.1 dX8_putStake_22 rfl (lv_at hl 1 rfl) ?_
  refine lv_iconst (v := -1) C.1 C.2.1 dX8_putStake_23 (by decide) ?_
  obtain ⟨t5, et5⟩ : ∃ z, z = uS t4 7 8 x1 (-1) := ⟨_, rfl⟩
  refine C_put C hW 7 rfl hin7 tyX7 tyX7_ok nmX7 hk2 rfl 8 (by decide) rfl rfl rfl (Nat.le_of_ble_eq_true rfl) f7_8 dX8_putStake_24 (t' := t5) (by rw [et5]; exact wr7_8) (by rw [et5]; exact ho_S (by decide)) (fun H locs hW => ?_)
  have hX := nm_st hX et5
  exact G_retv C hr hlk hA hW (Option.some.inj hX).symm dX8_putStake_27
abbrev rm_C_Race_chooseGoal : Room := { frames := 4, cells := 0, slots := 0, locals := 89 }
def C_Race_chooseGoal_L2 : Nat → List (Nat × Nat) → TH → Int32 → Nat → Option (Nat × TH × Int32)
  | 0, _, _, _, _ => none
  | n + 1, K, t, x2, x1 => if 12 < x2 then some (3, t, x2) else chkP ((7, x1) ∈ K) (bnd (C_Person_bestUnseen K t x1) (fun v16 => nm (uS t 7 8 x1 v16) (fun t17 => if v16 = (-1) then some (0, t17, x2) else bnd (C_Person_place K t17 x1) (fun v19 => if v16 = v19 then bnd (C_Land_stakerOf K t17 v16) (fun v21 => if v21 = (-1) then bnd (C_Race_putStake K t17 x1 v16) (fun t25 => some (2, t25, x2)) else bnd (C_Person_see K t17 x1 v16) (fun t23 => nm (x2 + 1) (fun v24 => C_Race_chooseGoal_L2 n K t23 v24 x1))) else bnd (C_Race_setOff K t17 x1) (fun t26 => some (1, t26, x2))))))
set_option maxHeartbeats 4000000 in
set_option maxRecDepth 100000 in
theorem r_C_Race_chooseGoal_L2 {p : Program} {l : Launch} {e : Env} {s : State} {m : MethodId} {args : Array Value} {below : List Frame} {meth : Method} {c : Code} {Q : State → Prop} {Ev : EvT} {D : va_G} {cs : Nat → ClassId} {ad : AD} {A : Nat → Prop} {ek ev : Nat → Nat} {tp : Nat} (C : Cx p s m args c cX8_chooseGoal 4 wsX8_chooseGoal RX8) {K : List (Nat × Nat)} (hKS : KS K) (hEv : EvC Ev ek ev tp) : ∀ (n : Nat) (t : TH) (x2 : Int32) (x1 : Nat) (H : Heap) (locs : List Loc) (ls : Array Slot) (X : Nat × TH × Int32), some X = C_Race_chooseGoal_L2 n K t x2 x1 → GW Ev D (tyC cs) (wC cs ad K) A s t H locs → lv_has ls 4 [(2, .int x2), (0, .ref (ad 8 0)), (1, .ref (ad 7 x1))] → (∀ (τ : TH) (z2 : Int32) (H : Heap) (locs : List Loc) (ls : Array Slot), X = (0, τ, z2) → GW Ev D (tyC cs) (wC cs ad K) A s τ H locs → lv_has ls 4 [(2, .int z2), (0, .ref (ad 8 0)), (1, .ref (ad 7 x1))] → W p l e rm_C_Race_chooseGoal s m args below meth c H locs 0 0 Q (F0 m 27 ls [])) → (∀ (τ : TH) (z2 : Int32) (H : Heap) (locs : List Loc) (ls : Array Slot), X = (1, τ, z2) → GW Ev D (tyC cs) (wC cs ad K) A s τ H locs → lv_has ls 4 [(2, .int z2), (0, .ref (ad 8 0)), (1, .ref (ad 7 x1))] → W p l e rm_C_Race_chooseGoal s m args below meth c H locs 0 0 Q (F0 m 41 ls [])) → (∀ (τ : TH) (z2 : Int32) (H : Heap) (locs : List Loc) (ls : Array Slot), X = (2, τ, z2) → GW Ev D (tyC cs) (wC cs ad K) A s τ H locs → lv_has ls 4 [(2, .int z2), (0, .ref (ad 8 0)), (1, .ref (ad 7 x1))] → W p l e rm_C_Race_chooseGoal s m args below meth c H locs 0 0 Q (F0 m 60 ls [])) → (∀ (τ : TH) (z2 : Int32) (H : Heap) (locs : List Loc) (ls : Array Slot), X = (3, τ, z2) → GW Ev D (tyC cs) (wC cs ad K) A s τ H locs → lv_has ls 4 [(2, .int z2), (0, .ref (ad 8 0)), (1, .ref (ad 7 x1))] → W p l e rm_C_Race_chooseGoal s m args below meth c H locs 0 0 Q (F0 m 72 ls [])) → W p l e rm_C_Race_chooseGoal s m args below meth c H locs 0 0 Q (F0 m 2 ls []) := by
  have hin7 : ∀ w ∈ wsX70, w ∈ wsX8_chooseGoal := fun w hw => List.mem_cons_of_mem _ (List.mem_append_left _ (List.mem_append_right _ hw))
  have hin8 : ∀ w ∈ wsX80, w ∈ wsX8_chooseGoal := fun w hw => List.mem_cons_of_mem _ (List.mem_append_left _ (List.mem_append_left _ (List.mem_append_right _ hw)))
  have f7_8 : (Cond.fieldLink RX8 50 (TX7 8).1 (TX7 8).2.1 (TX7 8).2.2.1).before _ s = true := C.2.2.2.2 _ (List.mem_of_getElem? (i := 2) rfl)
  have f8_0 : (Cond.fieldLink RX8 19 (TX8 0).1 (TX8 0).2.1 (TX8 0).2.2.1).before _ s = true := C.2.2.2.2 _ (List.mem_of_getElem? (i := 1) rfl)
  intro n
  induction n with
  | zero =>
    intro t x2 x1 H locs ls X hX hW hl K0 K1 K2 K3
    cases hX
  | succ n ih =>
    intro t x2 x1 H locs ls X hX hW hl K0 K1 K2 K3
    unfold C_Race_chooseGoal_L2 at hX
    refine lv_iload_n C.1 C.2.1 dX8_chooseGoal_2 rfl (lv_at hl 0 rfl) ?_
    refine lv_bipush (v := 12) C.1 C.2.1 dX8_chooseGoal_3 (by decide) ?_
    refine lv_icmp_gt (tgt := 72) C.1 C.2.1 dX8_chooseGoal_5 (by decide) (fun c14 => ?_) (fun c14 => ?_)
    · have hX := br_p hX c14
      exact K3 t x2 H locs ls (Option.some.inj hX) hW (lv_sub hl [0, 1, 2] rfl)
    have hX := br_n hX c14
    refine lv_aload_n C.1 C.2.1 dX8_chooseGoal_8 rfl (lv_at hl 2 rfl) ?_
    refine lv_aload_n C.1 C.2.1 dX8_chooseGoal_9 rfl (lv_at hl 1 rfl) ?_
    refine C_get C hW 8 rfl hin8 hKS.k8_0 rfl 0 (by decide) rfl f8_0 dX8_chooseGoal_10 ?_
    obtain ⟨hk15, hX⟩ := chkP_st hX
    obtain ⟨v16, hq, hX⟩ := bnd_st hX
    refine G_V0p (As := [.ref (ad 3 0)]) (rest := []) C hW (c_C_Person_bestUnseen l D cs ad K hKS hEv t x1 v16 hq.symm) (cwV 1 C.2.2.2.2 gX8_chooseGoal_X7_bestUnseen rfl rfl rfl (by decide +kernel) ⟨Nat.le_of_ble_eq_true rfl, Nat.le_of_ble_eq_true rfl⟩) (C_recv hW 7 hk15 rfl rfl) rfl hl.1 rfl (Nat.le_of_ble_eq_true rfl) dX8_chooseGoal_13 (fun H locs hW => ?_)
    refine lv_istore_n (i := 3) (lv' := [(3, .int v16), (2, .int x2), (0, .ref (ad 8 0)), (1, .ref (ad 7 x1))]) C.1 C.2.1 dX8_chooseGoal_16 rfl hl (by decide) rfl (fun ls hl => ?_)
    refine lv_aload_n C.1 C.2.1 dX8_chooseGoal_17 rfl (lv_at hl 3 rfl) ?_
    refine lv_iload_n C.1 C.2.1 dX8_chooseGoal_18 rfl (lv_at hl 0 rfl) ?_
    obtain ⟨t17, et17⟩ : ∃ z, z = uS t 7 8 x1 v16 := ⟨_, rfl⟩
    refine C_put C hW 7 rfl hin7 tyX7 tyX7_ok nmX7 hk15 rfl 8 (by decide) rfl rfl rfl (Nat.le_of_ble_eq_true rfl) f7_8 dX8_chooseGoal_19 (t' := t17) (by rw [et17]; exact wr7_8) (by rw [et17]; exact ho_S (by decide)) (fun H locs hW => ?_)
    have hX := nm_st hX et17
    refine lv_iload_n C.1 C.2.1 dX8_chooseGoal_22 rfl (lv_at hl 0 rfl) ?_
    refine lv_iconst (v := -1) C.1 C.2.1 dX8_chooseGoal_23 (by decide) ?_
    refine lv_icmp_ne (tgt := 28) C.1 C.2.1 dX8_chooseGoal_24 (by decide) (fun c18 => ?_) (fun c18 => ?_)
    · have hX := br_n hX c18
      refine lv_iload_n C.1 C.2.1 dX8_chooseGoal_28 rfl (lv_at hl 0 rfl) ?_
      refine lv_aload_n C.1 C.2.1 dX8_chooseGoal_29 rfl (lv_at hl 3 rfl) ?_
      obtain ⟨v19, hq, hX⟩ := bnd_st hX
      refine G_V0p (As := []) (rest := [.int v16]) C hW (c_C_Person_place l D cs ad K hKS hEv t17 x1 v19 hq.symm) (cwV 0 C.2.2.2.2 gX8_chooseGoal_X7_place rfl rfl rfl (by decide +kernel) ⟨Nat.le_of_ble_eq_true rfl, Nat.le_of_ble_eq_true rfl⟩) (C_recv hW 7 hk15 rfl rfl) rfl hl.1 rfl (Nat.le_of_ble_eq_true rfl) dX8_chooseGoal_30 (fun H locs hW => ?_)
      refine lv_icmp_eq (tgt := 42) C.1 C.2.1 dX8_chooseGoal_33 (by decide) (fun c20 => ?_) (fun c20 => ?_)
      · have hX := br_p hX c20
        refine lv_aload_n C.1 C.2.1 dX8_chooseGoal_42 rfl (lv_at hl 2 rfl) ?_
        refine C_get C hW 8 rfl hin8 hKS.k8_0 rfl 0 (by decide) rfl f8_0 dX8_chooseGoal_43 ?_
        refine lv_iload_n C.1 C.2.1 dX8_chooseGoal_46 rfl (lv_at hl 0 rfl) ?_
        obtain ⟨v21, hq, hX⟩ := bnd_st hX
        refine G_V0p (As := [.int v16]) (rest := []) C hW (c_C_Land_stakerOf l D cs ad K hKS hEv t17 v16 v21 hq.symm) (cwV 1 C.2.2.2.2 gX8_chooseGoal_X3_stakerOf rfl rfl rfl (by decide +kernel) ⟨Nat.le_of_ble_eq_true rfl, Nat.le_of_ble_eq_true rfl⟩) (C_recv hW 3 hKS.k3_0 rfl rfl) rfl hl.1 rfl (Nat.le_of_ble_eq_true rfl) dX8_chooseGoal_47 (fun H locs hW => ?_)
        refine lv_iconst (v := -1) C.1 C.2.1 dX8_chooseGoal_50 (by decide) ?_
        refine lv_icmp_ne (tgt := 61) C.1 C.2.1 dX8_chooseGoal_51 (by decide) (fun c22 => ?_) (fun c22 => ?_)
        · have hX := br_n hX c22
          refine lv_aload_n C.1 C.2.1 dX8_chooseGoal_61 rfl (lv_at hl 3 rfl) ?_
          refine lv_iload_n C.1 C.2.1 dX8_chooseGoal_62 rfl (lv_at hl 0 rfl) ?_
          obtain ⟨t23, hq, hX⟩ := bnd_st hX
          refine G_V0u (As := [.int v16]) (rest := []) C hW (c_C_Person_see l D cs ad K hKS hEv t17 x1 v16 t23 hq.symm) (cwV 1 C.2.2.2.2 gX8_chooseGoal_X7_see rfl rfl rfl (by decide +kernel) ⟨Nat.le_of_ble_eq_true rfl, Nat.le_of_ble_eq_true rfl⟩) (C_recv hW 7 hk15 rfl rfl) rfl hl.1 rfl (Nat.le_of_ble_eq_true rfl) dX8_chooseGoal_63 (fun H locs hW => ?_)
          obtain ⟨v24, ev24⟩ : ∃ z : Int32, z = x2 + 1 := ⟨_, rfl⟩
          have hX := nm_st hX ev24
          refine lv_iinc (v := v24) (lv' := [(2, .int v24), (3, .int v16), (0, .ref (ad 8 0)), (1, .ref (ad 7 x1))]) C.1 C.2.1 dX8_chooseGoal_66 hl (k := 1) rfl (by rw [ev24]; rfl) (by decide) rfl (fun ls hl => ?_)
          refine lv_goto (tgt := 2) C.1 C.2.1 dX8_chooseGoal_69 (by decide) ?_
          exact ih t23 v24 x1 H locs ls X hX hW (lv_sub hl [0, 2, 3] rfl) K0 K1 K2 K3
        have hX := br_p hX c22
        refine lv_aload_n C.1 C.2.1 dX8_chooseGoal_54 rfl (lv_at hl 2 rfl) ?_
        refine lv_aload_n C.1 C.2.1 dX8_chooseGoal_55 rfl (lv_at hl 3 rfl) ?_
        refine lv_iload_n C.1 C.2.1 dX8_chooseGoal_56 rfl (lv_at hl 0 rfl) ?_
        obtain ⟨t25, hq, hX⟩ := bnd_st hX
        refine G_V0u (As := [.ref (ad 7 x1), .int v16]) (rest := []) C hW (c_C_Race_putStake l D cs ad K hKS hEv t17 x1 v16 t25 hq.symm) (cwV 2 C.2.2.2.2 gX8_chooseGoal_X8_putStake rfl rfl rfl (by decide +kernel) ⟨Nat.le_of_ble_eq_true rfl, Nat.le_of_ble_eq_true rfl⟩) (C_recv hW 8 hKS.k8_0 rfl rfl) rfl hl.1 rfl (Nat.le_of_ble_eq_true rfl) dX8_chooseGoal_57 (fun H locs hW => ?_)
        exact K2 t25 x2 H locs ls (Option.some.inj hX) hW (lv_sub hl [1, 2, 3] rfl)
      have hX := br_n hX c20
      refine lv_aload_n C.1 C.2.1 dX8_chooseGoal_36 rfl (lv_at hl 2 rfl) ?_
      refine lv_aload_n C.1 C.2.1 dX8_chooseGoal_37 rfl (lv_at hl 3 rfl) ?_
      obtain ⟨t26, hq, hX⟩ := bnd_st hX
      refine G_V0u (As := [.ref (ad 7 x1)]) (rest := []) C hW (c_C_Race_setOff l D cs ad K hKS hEv t17 x1 t26 hq.symm) (cwV 1 C.2.2.2.2 gX8_chooseGoal_X8_setOff rfl rfl rfl (by decide +kernel) ⟨Nat.le_of_ble_eq_true rfl, Nat.le_of_ble_eq_true rfl⟩) (C_recv hW 8 hKS.k8_0 rfl rfl) rfl hl.1 rfl (Nat.le_of_ble_eq_true rfl) dX8_chooseGoal_38 (fun H locs hW => ?_)
      exact K1 t26 x2 H locs ls (Option.some.inj hX) hW (lv_sub hl [1, 2, 3] rfl)
    have hX := br_p hX c18
    exact K0 t17 x2 H locs ls (Option.some.inj hX) hW (lv_sub hl [1, 2, 3] rfl)
def C_Race_chooseGoal (K : List (Nat × Nat)) (t : TH) (x1 : Nat) : Option (TH) := bnd (C_Race_chooseGoal_L2 100000 K t 0 x1) (fun q => nm2 q (fun j q => nm2 q (fun t27 v28 => if j = 0 then some t27 else if j = 1 then some t27 else if j = 2 then some t27 else if j = 3 then some t27 else none)))
set_option maxHeartbeats 4000000 in
set_option maxRecDepth 100000 in
theorem c_C_Race_chooseGoal {Ev : EvT} {ek ev : Nat → Nat} {tp : Nat} (l : Launch) (D : va_G) (cs : Nat → ClassId) (ad : AD) (K : List (Nat × Nat)) (hKS : KS K) (hEv : EvC Ev ek ev tp) (t : TH) (x1 : Nat) (X : TH) (hX : some X = C_Race_chooseGoal K t x1) : cGv Ev l D (tyC cs) (wC cs ad K) yX8_chooseGoal wsX8_chooseGoal rm_C_Race_chooseGoal 0 0 [.ref (ad 8 0), .ref (ad 7 x1)] t (fun u => u = X) := by
  refine G_inv (cc := cX8_chooseGoal) (maxL := 4) (ret := none) (by decide) rfl (Nat.le_of_ble_eq_true rfl) ?_
  intro p e s m below meth c A ls C hr hlk hini hA hW hl
  have C : Cx p s m _ c cX8_chooseGoal 4 wsX8_chooseGoal RX8 := C
  have hl : lv_has ls 4 [(0, .ref (ad 8 0)), (1, .ref (ad 7 x1))] := hl
  have hin7 : ∀ w ∈ wsX70, w ∈ wsX8_chooseGoal := fun w hw => List.mem_cons_of_mem _ (List.mem_append_left _ (List.mem_append_right _ hw))
  have hin8 : ∀ w ∈ wsX80, w ∈ wsX8_chooseGoal := fun w hw => List.mem_cons_of_mem _ (List.mem_append_left _ (List.mem_append_left _ (List.mem_append_right _ hw)))
  have f7_8 : (Cond.fieldLink RX8 50 (TX7 8).1 (TX7 8).2.1 (TX7 8).2.2.1).before _ s = true := C.2.2.2.2 _ (List.mem_of_getElem? (i := 2) rfl)
  have f8_0 : (Cond.fieldLink RX8 19 (TX8 0).1 (TX8 0).2.1 (TX8 0).2.2.1).before _ s = true := C.2.2.2.2 _ (List.mem_of_getElem? (i := 1) rfl)
  obtain ⟨H, hH⟩ : ∃ H, H = s.heap := ⟨_, rfl⟩
  obtain ⟨locs, hlo⟩ : ∃ z : List Loc, z = [] := ⟨_, rfl⟩
  have hW : GW Ev D (tyC cs) (wC cs ad K) A s t H locs := by rw [hH, hlo]; exact hW
  rw [show W p l e rm_C_Race_chooseGoal s m _ below meth c s.heap [] = W p l e rm_C_Race_chooseGoal s m _ below meth c H locs from by rw [hH, hlo]]
  unfold C_Race_chooseGoal at hX
  refine lv_iconst (v := 0) C.1 C.2.1 dX8_chooseGoal_0 (by decide) ?_
  refine lv_istore_n (i := 2) (lv' := [(2, .int 0), (0, .ref (ad 8 0)), (1, .ref (ad 7 x1))]) C.1 C.2.1 dX8_chooseGoal_1 rfl hl (by decide) rfl (fun ls hl => ?_)
  obtain ⟨q, hq, hX⟩ := bnd_st hX
  refine r_C_Race_chooseGoal_L2 C hKS hEv 100000 t 0 x1 H locs ls q hq.symm hW (lv_sub hl [0, 1, 2] rfl) ?_ ?_ ?_ ?_
  · intro t27 v28 H locs ls hq hW hl
    subst hq
    have hX := nm2_st hX rfl
    have hX := nm2_st hX rfl
    have hX := br_p hX rfl
    exact G_retv C hr hlk hA hW (Option.some.inj hX).symm dX8_chooseGoal_27
  · intro t29 v30 H locs ls hq hW hl
    subst hq
    have hX := nm2_st hX rfl
    have hX := nm2_st hX rfl
    have hX := br_n hX (by decide)
    have hX := br_p hX rfl
    exact G_retv C hr hlk hA hW (Option.some.inj hX).symm dX8_chooseGoal_41
  · intro t31 v32 H locs ls hq hW hl
    subst hq
    have hX := nm2_st hX rfl
    have hX := nm2_st hX rfl
    have hX := br_n hX (by decide)
    have hX := br_n hX (by decide)
    have hX := br_p hX rfl
    exact G_retv C hr hlk hA hW (Option.some.inj hX).symm dX8_chooseGoal_60
  intro t33 v34 H locs ls hq hW hl
  subst hq
  have hX := nm2_st hX rfl
  have hX := nm2_st hX rfl
  have hX := br_n hX (by decide)
  have hX := br_n hX (by decide)
  have hX := br_n hX (by decide)
  have hX := br_p hX rfl
  exact G_retv C hr hlk hA hW (Option.some.inj hX).symm dX8_chooseGoal_72
abbrev rm_C_Race_begin : Room := { frames := 5, cells := 0, slots := 0, locals := 112 }
def C_Race_begin_L7 : Nat → List (Nat × Nat) → TH → Int32 → Option (TH × Int32)
  | 0, _, _, _ => none
  | n + 1, K, t, x1 => if (tS t 6 1 0) ≤ x1 then some (t, x1) else bnd (C_People_at K t x1) (fun v9 => opt v9 (nm (x1 + 1) (fun v11 => C_Race_begin_L7 n K t v11)) (fun j10 => bnd (C_Race_chooseGoal K t j10) (fun t12 => nm (x1 + 1) (fun v13 => C_Race_begin_L7 n K t12 v13))))
set_option maxHeartbeats 4000000 in
set_option maxRecDepth 100000 in
theorem r_C_Race_begin_L7 {p : Program} {l : Launch} {e : Env} {s : State} {m : MethodId} {args : Array Value} {below : List Frame} {meth : Method} {c : Code} {Q : State → Prop} {Ev : EvT} {D : va_G} {cs : Nat → ClassId} {ad : AD} {A : Nat → Prop} {ek ev : Nat → Nat} {tp : Nat} (C : Cx p s m args c cX8_begin 3 wsX8_begin RX8) {K : List (Nat × Nat)} (hKS : KS K) (hEv : EvC Ev ek ev tp) : ∀ (n : Nat) (t : TH) (x1 : Int32) (H : Heap) (locs : List Loc) (ls : Array Slot) (X : TH × Int32), some X = C_Race_begin_L7 n K t x1 → GW Ev D (tyC cs) (wC cs ad K) A s t H locs → lv_has ls 3 [(1, .int x1), (0, .ref (ad 8 0))] → (∀ (τ : TH) (z1 : Int32) (H : Heap) (locs : List Loc) (ls : Array Slot), X = (τ, z1) → GW Ev D (tyC cs) (wC cs ad K) A s τ H locs → lv_has ls 3 [(1, .int z1), (0, .ref (ad 8 0))] → W p l e rm_C_Race_begin s m args below meth c H locs 0 0 Q (F0 m 42 ls [])) → W p l e rm_C_Race_begin s m args below meth c H locs 0 0 Q (F0 m 7 ls []) := by
  have hin6 : ∀ w ∈ wsX60, w ∈ wsX8_begin := fun w hw => List.mem_cons_of_mem _ (List.mem_append_left _ (List.mem_append_left _ (List.mem_append_right _ hw)))
  have hin8 : ∀ w ∈ wsX80, w ∈ wsX8_begin := fun w hw => List.mem_cons_of_mem _ (List.mem_append_left _ (List.mem_append_left _ (List.mem_append_left _ (List.mem_append_right _ hw))))
  have f6_1 : (Cond.fieldLink RX8 27 (TX6 1).1 (TX6 1).2.1 (TX6 1).2.2.1).before _ s = true := C.2.2.2.2 _ (List.mem_of_getElem? (i := 3) rfl)
  have f8_1 : (Cond.fieldLink RX8 23 (TX8 1).1 (TX8 1).2.1 (TX8 1).2.2.1).before _ s = true := C.2.2.2.2 _ (List.mem_of_getElem? (i := 2) rfl)
  have f8_2 : (Cond.fieldLink RX8 9 (TX8 2).1 (TX8 2).2.1 (TX8 2).2.2.1).before _ s = true := C.2.2.2.2 _ (List.mem_of_getElem? (i := 1) rfl)
  intro n
  induction n with
  | zero =>
    intro t x1 H locs ls X hX hW hl K0
    cases hX
  | succ n ih =>
    intro t x1 H locs ls X hX hW hl K0
    unfold C_Race_begin_L7 at hX
    refine lv_iload_n C.1 C.2.1 dX8_begin_7 rfl (lv_at hl 0 rfl) ?_
    refine lv_aload_n C.1 C.2.1 dX8_begin_8 rfl (lv_at hl 1 rfl) ?_
    refine C_get C hW 8 rfl hin8 hKS.k8_0 rfl 1 (by decide) rfl f8_1 dX8_begin_9 ?_
    refine C_get C hW 6 rfl hin6 hKS.k6_0 rfl 1 (by decide) rfl f6_1 dX8_begin_12 ?_
    refine lv_icmp_ge (tgt := 42) C.1 C.2.1 dX8_begin_15 (by decide) (fun c8 => ?_) (fun c8 => ?_)
    · have hX := br_p hX c8
      exact K0 t x1 H locs ls (Option.some.inj hX) hW (lv_sub hl [0, 1] rfl)
    have hX := br_n hX c8
    refine lv_aload_n C.1 C.2.1 dX8_begin_18 rfl (lv_at hl 1 rfl) ?_
    refine C_get C hW 8 rfl hin8 hKS.k8_0 rfl 1 (by decide) rfl f8_1 dX8_begin_19 ?_
    refine lv_iload_n C.1 C.2.1 dX8_begin_22 rfl (lv_at hl 0 rfl) ?_
    obtain ⟨v9, hq, hX⟩ := bnd_st hX
    refine G_V0r (As := [.int x1]) (rest := []) C hW (c_C_People_at l D cs ad K hKS hEv t x1 v9 hq.symm) (cwV 1 C.2.2.2.2 gX8_begin_X6_at rfl rfl rfl (by decide +kernel) ⟨Nat.le_of_ble_eq_true rfl, Nat.le_of_ble_eq_true rfl⟩) (C_recv hW 6 hKS.k6_0 rfl rfl) rfl hl.1 rfl (Nat.le_of_ble_eq_true rfl) dX8_begin_23 (fun H locs hW => ?_)
    refine lv_astore_nQ (i := 2) (lv' := [(2, va_re (ad 7) v9), (1, .int x1), (0, .ref (ad 8 0))]) C.1 C.2.1 dX8_begin_26 rfl hl (by decide) rfl (fun ls hl => ?_)
    refine lv_aload_nQ C.1 C.2.1 dX8_begin_27 rfl (lv_at hl 0 rfl) ?_
    refine lv_ifnullQ (tgt := 36) C.1 C.2.1 dX8_begin_28 (by decide) (fun hj10 => ?_) (fun j10 hj10 => ?_)
    · have hX := opt_n hX hj10
      obtain ⟨v11, ev11⟩ : ∃ z : Int32, z = x1 + 1 := ⟨_, rfl⟩
      have hX := nm_st hX ev11
      refine lv_iinc (v := v11) (lv' := [(1, .int v11), (2, va_re (ad 7) v9), (0, .ref (ad 8 0))]) C.1 C.2.1 dX8_begin_36 hl (k := 1) rfl (by rw [ev11]; rfl) (by decide) rfl (fun ls hl => ?_)
      refine lv_goto (tgt := 7) C.1 C.2.1 dX8_begin_39 (by decide) ?_
      exact ih t v11 H locs ls X hX hW (lv_sub hl [0, 2] rfl) K0
    have hX := opt_s hX hj10
    refine lv_aload_n C.1 C.2.1 dX8_begin_31 rfl (lv_at hl 2 rfl) ?_
    refine lv_aload_nQ C.1 C.2.1 dX8_begin_32 rfl (lv_at hl 0 rfl) ?_
    rw [show va_re (ad 7) v9 = .ref (ad 7 j10) from by rw [hj10]; rfl]
    obtain ⟨t12, hq, hX⟩ := bnd_st hX
    refine G_V0u (As := [.ref (ad 7 j10)]) (rest := []) C hW (c_C_Race_chooseGoal l D cs ad K hKS hEv t j10 t12 hq.symm) (cwV 1 C.2.2.2.2 gX8_begin_X8_chooseGoal rfl rfl rfl (by decide +kernel) ⟨Nat.le_of_ble_eq_true rfl, Nat.le_of_ble_eq_true rfl⟩) (C_recv hW 8 hKS.k8_0 rfl rfl) rfl hl.1 rfl (Nat.le_of_ble_eq_true rfl) dX8_begin_33 (fun H locs hW => ?_)
    obtain ⟨v13, ev13⟩ : ∃ z : Int32, z = x1 + 1 := ⟨_, rfl⟩
    have hX := nm_st hX ev13
    refine lv_iinc (v := v13) (lv' := [(1, .int v13), (2, va_re (ad 7) v9), (0, .ref (ad 8 0))]) C.1 C.2.1 dX8_begin_36 hl (k := 1) rfl (by rw [ev13]; rfl) (by decide) rfl (fun ls hl => ?_)
    refine lv_goto (tgt := 7) C.1 C.2.1 dX8_begin_39 (by decide) ?_
    exact ih t12 v13 H locs ls X hX hW (lv_sub hl [0, 2] rfl) K0
def C_Race_begin (K : List (Nat × Nat)) (t : TH) : Option (TH) := nm (uS t 8 2 0 1) (fun t1 => bnd (C_Race_begin_L7 100000 K t1 0) (fun q => nm2 q (fun t14 v15 => some t14)))
set_option maxHeartbeats 4000000 in
set_option maxRecDepth 100000 in
theorem c_C_Race_begin {Ev : EvT} {ek ev : Nat → Nat} {tp : Nat} (l : Launch) (D : va_G) (cs : Nat → ClassId) (ad : AD) (K : List (Nat × Nat)) (hKS : KS K) (hEv : EvC Ev ek ev tp) (t : TH) (X : TH) (hX : some X = C_Race_begin K t) : cGv Ev l D (tyC cs) (wC cs ad K) yX8_begin wsX8_begin rm_C_Race_begin 0 0 [.ref (ad 8 0)] t (fun u => u = X) := by
  refine G_inv (cc := cX8_begin) (maxL := 3) (ret := none) (by decide) rfl (Nat.le_of_ble_eq_true rfl) ?_
  intro p e s m below meth c A ls C hr hlk hini hA hW hl
  have C : Cx p s m _ c cX8_begin 3 wsX8_begin RX8 := C
  have hl : lv_has ls 3 [(0, .ref (ad 8 0))] := hl
  have hin6 : ∀ w ∈ wsX60, w ∈ wsX8_begin := fun w hw => List.mem_cons_of_mem _ (List.mem_append_left _ (List.mem_append_left _ (List.mem_append_right _ hw)))
  have hin8 : ∀ w ∈ wsX80, w ∈ wsX8_begin := fun w hw => List.mem_cons_of_mem _ (List.mem_append_left _ (List.mem_append_left _ (List.mem_append_left _ (List.mem_append_right _ hw))))
  have f6_1 : (Cond.fieldLink RX8 27 (TX6 1).1 (TX6 1).2.1 (TX6 1).2.2.1).before _ s = true := C.2.2.2.2 _ (List.mem_of_getElem? (i := 3) rfl)
  have f8_1 : (Cond.fieldLink RX8 23 (TX8 1).1 (TX8 1).2.1 (TX8 1).2.2.1).before _ s = true := C.2.2.2.2 _ (List.mem_of_getElem? (i := 2) rfl)
  have f8_2 : (Cond.fieldLink RX8 9 (TX8 2).1 (TX8 2).2.1 (TX8 2).2.2.1).before _ s = true := C.2.2.2.2 _ (List.mem_of_getElem? (i := 1) rfl)
  obtain ⟨H, hH⟩ : ∃ H, H = s.heap := ⟨_, rfl⟩
  obtain ⟨locs, hlo⟩ : ∃ z : List Loc, z = [] := ⟨_, rfl⟩
  have hW : GW Ev D (tyC cs) (wC cs ad K) A s t H locs := by rw [hH, hlo]; exact hW
  rw [show W p l e rm_C_Race_begin s m _ below meth c s.heap [] = W p l e rm_C_Race_begin s m _ below meth c H locs from by rw [hH, hlo]]
  unfold C_Race_begin at hX
  refine lv_aload_n C.1 C.2.1 dX8_begin_0 rfl (lv_at hl 0 rfl) ?_
  refine lv_iconst (v := 1) C.1 C.2.1 dX8_begin_1 (by decide) ?_
  obtain ⟨t1, et1⟩ : ∃ z, z = uS t 8 2 0 1 := ⟨_, rfl⟩
  refine C_put C hW 8 rfl hin8 tyX8 tyX8_ok nmX8 hKS.k8_0 rfl 2 (by decide) rfl rfl rfl (Nat.le_of_ble_eq_true rfl) f8_2 dX8_begin_2 (t' := t1) (by rw [et1]; exact wr8_2) (by rw [et1]; exact ho_S (by decide)) (fun H locs hW => ?_)
  have hX := nm_st hX et1
  refine lv_iconst (v := 0) C.1 C.2.1 dX8_begin_5 (by decide) ?_
  refine lv_istore_n (i := 1) (lv' := [(1, .int 0), (0, .ref (ad 8 0))]) C.1 C.2.1 dX8_begin_6 rfl hl (by decide) rfl (fun ls hl => ?_)
  obtain ⟨q, hq, hX⟩ := bnd_st hX
  refine r_C_Race_begin_L7 C hKS hEv 100000 t1 0 H locs ls q hq.symm hW (lv_sub hl [0, 1] rfl) ?_
  intro t14 v15 H locs ls hq hW hl
  subst hq
  have hX := nm2_st hX rfl
  exact G_retv C hr hlk hA hW (Option.some.inj hX).symm dX8_begin_42
abbrev rm_C_Race_nextArrival : Room := { frames := 1, cells := 0, slots := 0, locals := 21 }
def C_Race_nextArrival_L4 : Nat → List (Nat × Nat) → TH → Int32 → Int32 → Int32 → Option (Int32 × Int32)
  | 0, _, _, _, _, _ => none
  | n + 1, K, t, x3, x2, x1 => if (tS t 6 1 0) ≤ x3 then some (x3, x2) else bnd (C_People_at K t x3) (fun v13 => opt v13 (nm (x3 + 1) (fun v15 => C_Race_nextArrival_L4 n K t v15 x2 x1)) (fun j14 => chkP ((7, j14) ∈ K) (if (tS t 7 8 j14) = (-1) then nm (x3 + 1) (fun v18 => C_Race_nextArrival_L4 n K t v18 x2 x1) else if (tS t 7 9 j14) ≤ (tS t 8 3 0) then nm (x3 + 1) (fun v20 => C_Race_nextArrival_L4 n K t v20 x2 x1) else nm (if (tS t 7 9 j14) < x2 then tS t 7 9 j14 else x2) (fun v21 => nm (x3 + 1) (fun v22 => C_Race_nextArrival_L4 n K t v22 v21 x1)))))
set_option maxHeartbeats 4000000 in
set_option maxRecDepth 100000 in
theorem r_C_Race_nextArrival_L4 {p : Program} {l : Launch} {e : Env} {s : State} {m : MethodId} {args : Array Value} {below : List Frame} {meth : Method} {c : Code} {Q : State → Prop} {Ev : EvT} {D : va_G} {cs : Nat → ClassId} {ad : AD} {A : Nat → Prop} {ek ev : Nat → Nat} {tp : Nat} (C : Cx p s m args c cX8_nextArrival 5 wsX8_nextArrival RX8) {K : List (Nat × Nat)} (hKS : KS K) (hEv : EvC Ev ek ev tp) : ∀ (n : Nat) (t : TH) (x3 : Int32) (x2 : Int32) (x1 : Int32) (H : Heap) (locs : List Loc) (ls : Array Slot) (X : Int32 × Int32), some X = C_Race_nextArrival_L4 n K t x3 x2 x1 → GW Ev D (tyC cs) (wC cs ad K) A s t H locs → lv_has ls 5 [(3, .int x3), (2, .int x2), (0, .ref (ad 8 0)), (1, .int x1)] → (∀ (z3 : Int32) (z2 : Int32) (H : Heap) (locs : List Loc) (ls : Array Slot), X = (z3, z2) → GW Ev D (tyC cs) (wC cs ad K) A s t H locs → lv_has ls 5 [(3, .int z3), (2, .int z2), (0, .ref (ad 8 0)), (1, .int x1)] → W p l e rm_C_Race_nextArrival s m args below meth c H locs 0 0 Q (F0 m 67 ls [])) → W p l e rm_C_Race_nextArrival s m args below meth c H locs 0 0 Q (F0 m 4 ls []) := by
  have hin6 : ∀ w ∈ wsX60, w ∈ wsX8_nextArrival := fun w hw => List.mem_cons_of_mem _ (List.mem_append_left _ (List.mem_append_right _ hw))
  have hin7 : ∀ w ∈ wsX70, w ∈ wsX8_nextArrival := fun w hw => List.mem_cons_of_mem _ (List.mem_append_right _ hw)
  have hin8 : ∀ w ∈ wsX80, w ∈ wsX8_nextArrival := fun w hw => List.mem_cons_of_mem _ (List.mem_append_left _ (List.mem_append_left _ (List.mem_append_right _ hw)))
  have f6_1 : (Cond.fieldLink RX8 27 (TX6 1).1 (TX6 1).2.1 (TX6 1).2.2.1).before _ s = true := C.2.2.2.2 _ (List.mem_of_getElem? (i := 2) rfl)
  have f7_8 : (Cond.fieldLink RX8 50 (TX7 8).1 (TX7 8).2.1 (TX7 8).2.2.1).before _ s = true := C.2.2.2.2 _ (List.mem_of_getElem? (i := 3) rfl)
  have f7_9 : (Cond.fieldLink RX8 55 (TX7 9).1 (TX7 9).2.1 (TX7 9).2.2.1).before _ s = true := C.2.2.2.2 _ (List.mem_of_getElem? (i := 4) rfl)
  have f8_1 : (Cond.fieldLink RX8 23 (TX8 1).1 (TX8 1).2.1 (TX8 1).2.2.1).before _ s = true := C.2.2.2.2 _ (List.mem_of_getElem? (i := 1) rfl)
  have f8_3 : (Cond.fieldLink RX8 15 (TX8 3).1 (TX8 3).2.1 (TX8 3).2.2.1).before _ s = true := C.2.2.2.2 _ (List.mem_of_getElem? (i := 5) rfl)
  have m40_l : (Cond.methodLink RX8 40 Lib.Math.min.name).before _ s = true := C.2.2.2.2 _ (List.mem_of_getElem? (i := 6) rfl)
  have m40_s : (Cond.static Lib.Math.min.name).before _ s = true := C.2.2.2.2 _ (List.mem_of_getElem? (i := 7) rfl)
  have m40_i : (Cond.initialized "java/lang/Math").before _ s = true := C.2.2.2.2 _ (List.mem_of_getElem? (i := 8) rfl)
  have m40_c : (Cond.code Lib.Math.min.name Lib.Math.min.code 2 (some .int)).before _ s = true := C.2.2.2.2 _ (List.mem_of_getElem? (i := 9) rfl)
  intro n
  induction n with
  | zero =>
    intro t x3 x2 x1 H locs ls X hX hW hl K0
    cases hX
  | succ n ih =>
    intro t x3 x2 x1 H locs ls X hX hW hl K0
    unfold C_Race_nextArrival_L4 at hX
    refine lv_iload_n C.1 C.2.1 dX8_nextArrival_4 rfl (lv_at hl 0 rfl) ?_
    refine lv_aload_n C.1 C.2.1 dX8_nextArrival_5 rfl (lv_at hl 2 rfl) ?_
    refine C_get C hW 8 rfl hin8 hKS.k8_0 rfl 1 (by decide) rfl f8_1 dX8_nextArrival_6 ?_
    refine C_get C hW 6 rfl hin6 hKS.k6_0 rfl 1 (by decide) rfl f6_1 dX8_nextArrival_9 ?_
    refine lv_icmp_ge (tgt := 67) C.1 C.2.1 dX8_nextArrival_12 (by decide) (fun c12 => ?_) (fun c12 => ?_)
    · have hX := br_p hX c12
      exact K0 x3 x2 H locs ls (Option.some.inj hX) hW (lv_sub hl [0, 1, 2, 3] rfl)
    have hX := br_n hX c12
    refine lv_aload_n C.1 C.2.1 dX8_nextArrival_15 rfl (lv_at hl 2 rfl) ?_
    refine C_get C hW 8 rfl hin8 hKS.k8_0 rfl 1 (by decide) rfl f8_1 dX8_nextArrival_16 ?_
    refine lv_iload_n C.1 C.2.1 dX8_nextArrival_19 rfl (lv_at hl 0 rfl) ?_
    obtain ⟨v13, hq, hX⟩ := bnd_st hX
    refine G_V0r (As := [.int x3]) (rest := []) C hW (c_C_People_at l D cs ad K hKS hEv t x3 v13 hq.symm) (cwV 1 C.2.2.2.2 gX8_nextArrival_X6_at rfl rfl rfl (by decide +kernel) ⟨Nat.le_of_ble_eq_true rfl, Nat.le_of_ble_eq_true rfl⟩) (C_recv hW 6 hKS.k6_0 rfl rfl) rfl hl.1 rfl (Nat.le_of_ble_eq_true rfl) dX8_nextArrival_20 (fun H locs hW => ?_)
    refine lv_astoreQ (i := 4) (lv' := [(4, va_re (ad 7) v13), (3, .int x3), (2, .int x2), (0, .ref (ad 8 0)), (1, .int x1)]) C.1 C.2.1 dX8_nextArrival_23 hl (by decide) rfl (fun ls hl => ?_)
    refine lv_aloadQ C.1 C.2.1 dX8_nextArrival_25 (lv_at hl 0 rfl) ?_
    refine lv_ifnullQ (tgt := 61) C.1 C.2.1 dX8_nextArrival_27 (by decide) (fun hj14 => ?_) (fun j14 hj14 => ?_)
    · have hX := opt_n hX hj14
      obtain ⟨v15, ev15⟩ : ∃ z : Int32, z = x3 + 1 := ⟨_, rfl⟩
      have hX := nm_st hX ev15
      refine lv_iinc (v := v15) (lv' := [(3, .int v15), (4, va_re (ad 7) v13), (2, .int x2), (0, .ref (ad 8 0)), (1, .int x1)]) C.1 C.2.1 dX8_nextArrival_61 hl (k := 1) rfl (by rw [ev15]; rfl) (by decide) rfl (fun ls hl => ?_)
      refine lv_goto (tgt := 4) C.1 C.2.1 dX8_nextArrival_64 (by decide) ?_
      exact ih t v15 x2 x1 H locs ls X hX hW (lv_sub hl [0, 2, 3, 4] rfl) K0
    have hX := opt_s hX hj14
    refine lv_aloadQ C.1 C.2.1 dX8_nextArrival_30 (lv_at hl 0 rfl) ?_
    refine lv_topq hj14 ?_
    obtain ⟨hk16, hX⟩ := chkP_st hX
    refine C_get C hW 7 rfl hin7 hk16 rfl 8 (by decide) rfl f7_8 dX8_nextArrival_32 ?_
    refine lv_iconst (v := -1) C.1 C.2.1 dX8_nextArrival_35 (by decide) ?_
    refine lv_icmp_eq (tgt := 61) C.1 C.2.1 dX8_nextArrival_36 (by decide) (fun c17 => ?_) (fun c17 => ?_)
    · have hX := br_p hX c17
      obtain ⟨v18, ev18⟩ : ∃ z : Int32, z = x3 + 1 := ⟨_, rfl⟩
      have hX := nm_st hX ev18
      refine lv_iinc (v := v18) (lv' := [(3, .int v18), (4, va_re (ad 7) v13), (2, .int x2), (0, .ref (ad 8 0)), (1, .int x1)]) C.1 C.2.1 dX8_nextArrival_61 hl (k := 1) rfl (by rw [ev18]; rfl) (by decide) rfl (fun ls hl => ?_)
      refine lv_goto (tgt := 4) C.1 C.2.1 dX8_nextArrival_64 (by decide) ?_
      exact ih t v18 x2 x1 H locs ls X hX hW (lv_sub hl [0, 2, 3, 4] rfl) K0
    have hX := br_n hX c17
    refine lv_aloadQ C.1 C.2.1 dX8_nextArrival_39 (lv_at hl 0 rfl) ?_
    refine lv_topq hj14 ?_
    refine C_get C hW 7 rfl hin7 hk16 rfl 9 (by decide) rfl f7_9 dX8_nextArrival_41 ?_
    refine lv_aload_n C.1 C.2.1 dX8_nextArrival_44 rfl (lv_at hl 3 rfl) ?_
    refine C_get C hW 8 rfl hin8 hKS.k8_0 rfl 3 (by decide) rfl f8_3 dX8_nextArrival_45 ?_
    refine lv_icmp_le (tgt := 61) C.1 C.2.1 dX8_nextArrival_48 (by decide) (fun c19 => ?_) (fun c19 => ?_)
    · have hX := br_p hX c19
      obtain ⟨v20, ev20⟩ : ∃ z : Int32, z = x3 + 1 := ⟨_, rfl⟩
      have hX := nm_st hX ev20
      refine lv_iinc (v := v20) (lv' := [(3, .int v20), (4, va_re (ad 7) v13), (2, .int x2), (0, .ref (ad 8 0)), (1, .int x1)]) C.1 C.2.1 dX8_nextArrival_61 hl (k := 1) rfl (by rw [ev20]; rfl) (by decide) rfl (fun ls hl => ?_)
      refine lv_goto (tgt := 4) C.1 C.2.1 dX8_nextArrival_64 (by decide) ?_
      exact ih t v20 x2 x1 H locs ls X hX hW (lv_sub hl [0, 2, 3, 4] rfl) K0
    have hX := br_n hX c19
    refine lv_iload_n C.1 C.2.1 dX8_nextArrival_51 rfl (lv_at hl 2 rfl) ?_
    refine lv_aloadQ C.1 C.2.1 dX8_nextArrival_52 (lv_at hl 0 rfl) ?_
    refine lv_topq hj14 ?_
    refine C_get C hW 7 rfl hin7 hk16 rfl 9 (by decide) rfl f7_9 dX8_nextArrival_54 ?_
    refine va_mmin C.1 C.2.1 (C.2.2.1.trans hl.1.symm) C.2.2.2.1 m40_l m40_s m40_i m40_c (Nat.le_of_ble_eq_true rfl) (Nat.le_of_ble_eq_true rfl) (Nat.zero_le _) (Nat.zero_le _) dX8_nextArrival_57 ?_
    refine lv_topi (fun v21 ev21 => ?_)
    have hX := nm_st hX ev21
    refine lv_istore_n (i := 2) (lv' := [(2, .int v21), (4, va_re (ad 7) v13), (3, .int x3), (0, .ref (ad 8 0)), (1, .int x1)]) C.1 C.2.1 dX8_nextArrival_60 rfl hl (by decide) rfl (fun ls hl => ?_)
    obtain ⟨v22, ev22⟩ : ∃ z : Int32, z = x3 + 1 := ⟨_, rfl⟩
    have hX := nm_st hX ev22
    refine lv_iinc (v := v22) (lv' := [(3, .int v22), (2, .int v21), (4, va_re (ad 7) v13), (0, .ref (ad 8 0)), (1, .int x1)]) C.1 C.2.1 dX8_nextArrival_61 hl (k := 2) rfl (by rw [ev22]; rfl) (by decide) rfl (fun ls hl => ?_)
    refine lv_goto (tgt := 4) C.1 C.2.1 dX8_nextArrival_64 (by decide) ?_
    exact ih t v22 v21 x1 H locs ls X hX hW (lv_sub hl [0, 1, 3, 4] rfl) K0
def C_Race_nextArrival (K : List (Nat × Nat)) (t : TH) (x1 : Int32) : Option (Int32) := bnd (C_Race_nextArrival_L4 100000 K t 0 x1 x1) (fun q => nm2 q (fun v23 v24 => some v24))
set_option maxHeartbeats 4000000 in
set_option maxRecDepth 100000 in
theorem c_C_Race_nextArrival {Ev : EvT} {ek ev : Nat → Nat} {tp : Nat} (l : Launch) (D : va_G) (cs : Nat → ClassId) (ad : AD) (K : List (Nat × Nat)) (hKS : KS K) (hEv : EvC Ev ek ev tp) (t : TH) (x1 : Int32) (X : Int32) (hX : some X = C_Race_nextArrival K t x1) : cGi Ev l D (tyC cs) (wC cs ad K) yX8_nextArrival wsX8_nextArrival rm_C_Race_nextArrival 0 0 [.ref (ad 8 0), .int x1] t (fun r u => r = X ∧ u = t) := by
  refine G_ini (cc := cX8_nextArrival) (maxL := 5) (ret := some .int) (by decide) rfl (Nat.le_of_ble_eq_true rfl) ?_
  intro p e s m below meth c A ls C hr hlk hini hA hW hl
  have C : Cx p s m _ c cX8_nextArrival 5 wsX8_nextArrival RX8 := C
  have hl : lv_has ls 5 [(0, .ref (ad 8 0)), (1, .int x1)] := hl
  have hin6 : ∀ w ∈ wsX60, w ∈ wsX8_nextArrival := fun w hw => List.mem_cons_of_mem _ (List.mem_append_left _ (List.mem_append_right _ hw))
  have hin7 : ∀ w ∈ wsX70, w ∈ wsX8_nextArrival := fun w hw => List.mem_cons_of_mem _ (List.mem_append_right _ hw)
  have hin8 : ∀ w ∈ wsX80, w ∈ wsX8_nextArrival := fun w hw => List.mem_cons_of_mem _ (List.mem_append_left _ (List.mem_append_left _ (List.mem_append_right _ hw)))
  have f6_1 : (Cond.fieldLink RX8 27 (TX6 1).1 (TX6 1).2.1 (TX6 1).2.2.1).before _ s = true := C.2.2.2.2 _ (List.mem_of_getElem? (i := 2) rfl)
  have f7_8 : (Cond.fieldLink RX8 50 (TX7 8).1 (TX7 8).2.1 (TX7 8).2.2.1).before _ s = true := C.2.2.2.2 _ (List.mem_of_getElem? (i := 3) rfl)
  have f7_9 : (Cond.fieldLink RX8 55 (TX7 9).1 (TX7 9).2.1 (TX7 9).2.2.1).before _ s = true := C.2.2.2.2 _ (List.mem_of_getElem? (i := 4) rfl)
  have f8_1 : (Cond.fieldLink RX8 23 (TX8 1).1 (TX8 1).2.1 (TX8 1).2.2.1).before _ s = true := C.2.2.2.2 _ (List.mem_of_getElem? (i := 1) rfl)
  have f8_3 : (Cond.fieldLink RX8 15 (TX8 3).1 (TX8 3).2.1 (TX8 3).2.2.1).before _ s = true := C.2.2.2.2 _ (List.mem_of_getElem? (i := 5) rfl)
  have m40_l : (Cond.methodLink RX8 40 Lib.Math.min.name).before _ s = true := C.2.2.2.2 _ (List.mem_of_getElem? (i := 6) rfl)
  have m40_s : (Cond.static Lib.Math.min.name).before _ s = true := C.2.2.2.2 _ (List.mem_of_getElem? (i := 7) rfl)
  have m40_i : (Cond.initialized "java/lang/Math").before _ s = true := C.2.2.2.2 _ (List.mem_of_getElem? (i := 8) rfl)
  have m40_c : (Cond.code Lib.Math.min.name Lib.Math.min.code 2 (some .int)).before _ s = true := C.2.2.2.2 _ (List.mem_of_getElem? (i := 9) rfl)
  obtain ⟨H, hH⟩ : ∃ H, H = s.heap := ⟨_, rfl⟩
  obtain ⟨locs, hlo⟩ : ∃ z : List Loc, z = [] := ⟨_, rfl⟩
  have hW : GW Ev D (tyC cs) (wC cs ad K) A s t H locs := by rw [hH, hlo]; exact hW
  rw [show W p l e rm_C_Race_nextArrival s m _ below meth c s.heap [] = W p l e rm_C_Race_nextArrival s m _ below meth c H locs from by rw [hH, hlo]]
  unfold C_Race_nextArrival at hX
  refine lv_iload_n C.1 C.2.1 dX8_nextArrival_0 rfl (lv_at hl 1 rfl) ?_
  refine lv_istore_n (i := 2) (lv' := [(2, .int x1), (0, .ref (ad 8 0)), (1, .int x1)]) C.1 C.2.1 dX8_nextArrival_1 rfl hl (by decide) rfl (fun ls hl => ?_)
  refine lv_iconst (v := 0) C.1 C.2.1 dX8_nextArrival_2 (by decide) ?_
  refine lv_istore_n (i := 3) (lv' := [(3, .int 0), (2, .int x1), (0, .ref (ad 8 0)), (1, .int x1)]) C.1 C.2.1 dX8_nextArrival_3 rfl hl (by decide) rfl (fun ls hl => ?_)
  obtain ⟨q, hq, hX⟩ := bnd_st hX
  refine r_C_Race_nextArrival_L4 C hKS hEv 100000 t 0 x1 x1 H locs ls q hq.symm hW (lv_sub hl [0, 1, 2, 3] rfl) ?_
  intro v23 v24 H locs ls hq hW hl
  subst hq
  have hX := nm2_st hX rfl
  refine lv_iload_n C.1 C.2.1 dX8_nextArrival_67 rfl (lv_at hl 1 rfl) ?_
  exact G_reti C hr hlk hA hW ⟨(Option.some.inj hX).symm, rfl⟩ dX8_nextArrival_68
abbrev rm_C_Race_arrive : Room := { frames := 5, cells := 0, slots := 0, locals := 112 }
def C_Race_arrive (K : List (Nat × Nat)) (t : TH) (x1 : Nat) : Option (TH) := chkP ((7, x1) ∈ K) (bnd (C_Person_nextOnWay K t x1) (fun v2 => bnd (C_Person_moveTo K t x1 v2) (fun t3 => bnd (C_Land_stakerOf K t3 v2) (fun v4 => if v4 = (-1) then if (1 : Int32) = 0 then bnd (C_Person_see K t3 x1 v2) (fun t24 => if v2 = (tS t24 7 8 x1) then if (1 : Int32) = 0 then bnd (C_Race_chooseGoal K t24 x1) (fun t27 => some t27) else bnd (C_Race_putStake K t24 x1 v2) (fun t28 => some t28) else bnd (C_Race_setOff K t24 x1) (fun t29 => some t29)) else if v2 = (tS t3 7 8 x1) then if (1 : Int32) = 0 then bnd (C_Race_chooseGoal K t3 x1) (fun t21 => some t21) else bnd (C_Race_putStake K t3 x1 v2) (fun t22 => some t22) else bnd (C_Race_setOff K t3 x1) (fun t23 => some t23) else if (0 : Int32) = 0 then bnd (C_Person_see K t3 x1 v2) (fun t12 => if v2 = (tS t12 7 8 x1) then if (0 : Int32) = 0 then bnd (C_Race_chooseGoal K t12 x1) (fun t15 => some t15) else bnd (C_Race_putStake K t12 x1 v2) (fun t16 => some t16) else bnd (C_Race_setOff K t12 x1) (fun t17 => some t17)) else if v2 = (tS t3 7 8 x1) then if (0 : Int32) = 0 then bnd (C_Race_chooseGoal K t3 x1) (fun t9 => some t9) else bnd (C_Race_putStake K t3 x1 v2) (fun t10 => some t10) else bnd (C_Race_setOff K t3 x1) (fun t11 => some t11)))))
set_option maxHeartbeats 4000000 in
set_option maxRecDepth 100000 in
theorem c_C_Race_arrive {Ev : EvT} {ek ev : Nat → Nat} {tp : Nat} (l : Launch) (D : va_G) (cs : Nat → ClassId) (ad : AD) (K : List (Nat × Nat)) (hKS : KS K) (hEv : EvC Ev ek ev tp) (t : TH) (x1 : Nat) (X : TH) (hX : some X = C_Race_arrive K t x1) : cGv Ev l D (tyC cs) (wC cs ad K) yX8_arrive wsX8_arrive rm_C_Race_arrive 0 0 [.ref (ad 8 0), .ref (ad 7 x1)] t (fun u => u = X) := by
  refine G_inv (cc := cX8_arrive) (maxL := 4) (ret := none) (by decide) rfl (Nat.le_of_ble_eq_true rfl) ?_
  intro p e s m below meth c A ls C hr hlk hini hA hW hl
  have C : Cx p s m _ c cX8_arrive 4 wsX8_arrive RX8 := C
  have hl : lv_has ls 4 [(0, .ref (ad 8 0)), (1, .ref (ad 7 x1))] := hl
  have hin7 : ∀ w ∈ wsX70, w ∈ wsX8_arrive := fun w hw => List.mem_cons_of_mem _ (List.mem_append_left _ (List.mem_append_right _ hw))
  have hin8 : ∀ w ∈ wsX80, w ∈ wsX8_arrive := fun w hw => List.mem_cons_of_mem _ (List.mem_append_left _ (List.mem_append_left _ (List.mem_append_right _ hw)))
  have f7_8 : (Cond.fieldLink RX8 50 (TX7 8).1 (TX7 8).2.1 (TX7 8).2.2.1).before _ s = true := C.2.2.2.2 _ (List.mem_of_getElem? (i := 2) rfl)
  have f8_0 : (Cond.fieldLink RX8 19 (TX8 0).1 (TX8 0).2.1 (TX8 0).2.2.1).before _ s = true := C.2.2.2.2 _ (List.mem_of_getElem? (i := 1) rfl)
  obtain ⟨H, hH⟩ : ∃ H, H = s.heap := ⟨_, rfl⟩
  obtain ⟨locs, hlo⟩ : ∃ z : List Loc, z = [] := ⟨_, rfl⟩
  have hW : GW Ev D (tyC cs) (wC cs ad K) A s t H locs := by rw [hH, hlo]; exact hW
  rw [show W p l e rm_C_Race_arrive s m _ below meth c s.heap [] = W p l e rm_C_Race_arrive s m _ below meth c H locs from by rw [hH, hlo]]
  unfold C_Race_arrive at hX
  refine lv_aload_n C.1 C.2.1 dX8_arrive_0 rfl (lv_at hl 1 rfl) ?_
  obtain ⟨hk1, hX⟩ := chkP_st hX
  obtain ⟨v2, hq, hX⟩ := bnd_st hX
  refine G_V0p (As := []) (rest := []) C hW (c_C_Person_nextOnWay l D cs ad K hKS hEv t x1 v2 hq.symm) (cwV 0 C.2.2.2.2 gX8_arrive_X7_nextOnWay rfl rfl rfl (by decide +kernel) ⟨Nat.le_of_ble_eq_true rfl, Nat.le_of_ble_eq_true rfl⟩) (C_recv hW 7 hk1 rfl rfl) rfl hl.1 rfl (Nat.le_of_ble_eq_true rfl) dX8_arrive_1 (fun H locs hW => ?_)
  refine lv_istore_n (i := 2) (lv' := [(2, .int v2), (0, .ref (ad 8 0)), (1, .ref (ad 7 x1))]) C.1 C.2.1 dX8_arrive_4 rfl hl (by decide) rfl (fun ls hl => ?_)
  refine lv_aload_n C.1 C.2.1 dX8_arrive_5 rfl (lv_at hl 2 rfl) ?_
  refine lv_iload_n C.1 C.2.1 dX8_arrive_6 rfl (lv_at hl 0 rfl) ?_
  obtain ⟨t3, hq, hX⟩ := bnd_st hX
  refine G_V0u (As := [.int v2]) (rest := []) C hW (c_C_Person_moveTo l D cs ad K hKS hEv t x1 v2 t3 hq.symm) (cwV 1 C.2.2.2.2 gX8_arrive_X7_moveTo rfl rfl rfl (by decide +kernel) ⟨Nat.le_of_ble_eq_true rfl, Nat.le_of_ble_eq_true rfl⟩) (C_recv hW 7 hk1 rfl rfl) rfl hl.1 rfl (Nat.le_of_ble_eq_true rfl) dX8_arrive_7 (fun H locs hW => ?_)
  refine lv_aload_n C.1 C.2.1 dX8_arrive_10 rfl (lv_at hl 1 rfl) ?_
  refine C_get C hW 8 rfl hin8 hKS.k8_0 rfl 0 (by decide) rfl f8_0 dX8_arrive_11 ?_
  refine lv_iload_n C.1 C.2.1 dX8_arrive_14 rfl (lv_at hl 0 rfl) ?_
  obtain ⟨v4, hq, hX⟩ := bnd_st hX
  refine G_V0p (As := [.int v2]) (rest := []) C hW (c_C_Land_stakerOf l D cs ad K hKS hEv t3 v2 v4 hq.symm) (cwV 1 C.2.2.2.2 gX8_arrive_X3_stakerOf rfl rfl rfl (by decide +kernel) ⟨Nat.le_of_ble_eq_true rfl, Nat.le_of_ble_eq_true rfl⟩) (C_recv hW 3 hKS.k3_0 rfl rfl) rfl hl.1 rfl (Nat.le_of_ble_eq_true rfl) dX8_arrive_15 (fun H locs hW => ?_)
  refine lv_iconst (v := -1) C.1 C.2.1 dX8_arrive_18 (by decide) ?_
  refine lv_icmp_ne (tgt := 26) C.1 C.2.1 dX8_arrive_19 (by decide) (fun c5 => ?_) (fun c5 => ?_)
  · have hX := br_n hX c5
    refine lv_iconst (v := 0) C.1 C.2.1 dX8_arrive_26 (by decide) ?_
    refine lv_istore_n (i := 3) (lv' := [(3, .int 0), (2, .int v2), (0, .ref (ad 8 0)), (1, .ref (ad 7 x1))]) C.1 C.2.1 dX8_arrive_27 rfl hl (by decide) rfl (fun ls hl => ?_)
    refine lv_iload_n C.1 C.2.1 dX8_arrive_28 rfl (lv_at hl 0 rfl) ?_
    refine lv_if_ne (tgt := 37) C.1 C.2.1 dX8_arrive_29 (by decide) (fun c6 => ?_) (fun c6 => ?_)
    · have hX := br_n hX c6
      refine lv_iload_n C.1 C.2.1 dX8_arrive_37 rfl (lv_at hl 1 rfl) ?_
      refine lv_aload_n C.1 C.2.1 dX8_arrive_38 rfl (lv_at hl 3 rfl) ?_
      refine C_get C hW 7 rfl hin7 hk1 rfl 8 (by decide) rfl f7_8 dX8_arrive_39 ?_
      refine lv_icmp_eq (tgt := 53) C.1 C.2.1 dX8_arrive_42 (by decide) (fun c7 => ?_) (fun c7 => ?_)
      · have hX := br_p hX c7
        refine lv_iload_n C.1 C.2.1 dX8_arrive_53 rfl (lv_at hl 0 rfl) ?_
        refine lv_if_eq (tgt := 66) C.1 C.2.1 dX8_arrive_54 (by decide) (fun c8 => ?_) (fun c8 => ?_)
        · have hX := br_p hX c8
          refine lv_aload_n C.1 C.2.1 dX8_arrive_66 rfl (lv_at hl 2 rfl) ?_
          refine lv_aload_n C.1 C.2.1 dX8_arrive_67 rfl (lv_at hl 3 rfl) ?_
          obtain ⟨t9, hq, hX⟩ := bnd_st hX
          refine G_V0u (As := [.ref (ad 7 x1)]) (rest := []) C hW (c_C_Race_chooseGoal l D cs ad K hKS hEv t3 x1 t9 hq.symm) (cwV 1 C.2.2.2.2 gX8_arrive_X8_chooseGoal rfl rfl rfl (by decide +kernel) ⟨Nat.le_of_ble_eq_true rfl, Nat.le_of_ble_eq_true rfl⟩) (C_recv hW 8 hKS.k8_0 rfl rfl) rfl hl.1 rfl (Nat.le_of_ble_eq_true rfl) dX8_arrive_68 (fun H locs hW => ?_)
          exact G_retv C hr hlk hA hW (Option.some.inj hX).symm dX8_arrive_71
        have hX := br_n hX c8
        refine lv_aload_n C.1 C.2.1 dX8_arrive_57 rfl (lv_at hl 2 rfl) ?_
        refine lv_aload_n C.1 C.2.1 dX8_arrive_58 rfl (lv_at hl 3 rfl) ?_
        refine lv_iload_n C.1 C.2.1 dX8_arrive_59 rfl (lv_at hl 1 rfl) ?_
        obtain ⟨t10, hq, hX⟩ := bnd_st hX
        refine G_V0u (As := [.ref (ad 7 x1), .int v2]) (rest := []) C hW (c_C_Race_putStake l D cs ad K hKS hEv t3 x1 v2 t10 hq.symm) (cwV 2 C.2.2.2.2 gX8_arrive_X8_putStake rfl rfl rfl (by decide +kernel) ⟨Nat.le_of_ble_eq_true rfl, Nat.le_of_ble_eq_true rfl⟩) (C_recv hW 8 hKS.k8_0 rfl rfl) rfl hl.1 rfl (Nat.le_of_ble_eq_true rfl) dX8_arrive_60 (fun H locs hW => ?_)
        refine lv_goto (tgt := 71) C.1 C.2.1 dX8_arrive_63 (by decide) ?_
        exact G_retv C hr hlk hA hW (Option.some.inj hX).symm dX8_arrive_71
      have hX := br_n hX c7
      refine lv_aload_n C.1 C.2.1 dX8_arrive_45 rfl (lv_at hl 2 rfl) ?_
      refine lv_aload_n C.1 C.2.1 dX8_arrive_46 rfl (lv_at hl 3 rfl) ?_
      obtain ⟨t11, hq, hX⟩ := bnd_st hX
      refine G_V0u (As := [.ref (ad 7 x1)]) (rest := []) C hW (c_C_Race_setOff l D cs ad K hKS hEv t3 x1 t11 hq.symm) (cwV 1 C.2.2.2.2 gX8_arrive_X8_setOff rfl rfl rfl (by decide +kernel) ⟨Nat.le_of_ble_eq_true rfl, Nat.le_of_ble_eq_true rfl⟩) (C_recv hW 8 hKS.k8_0 rfl rfl) rfl hl.1 rfl (Nat.le_of_ble_eq_true rfl) dX8_arrive_47 (fun H locs hW => ?_)
      refine lv_goto (tgt := 71) C.1 C.2.1 dX8_arrive_50 (by decide) ?_
      exact G_retv C hr hlk hA hW (Option.some.inj hX).symm dX8_arrive_71
    have hX := br_p hX c6
    refine lv_aload_n C.1 C.2.1 dX8_arrive_32 rfl (lv_at hl 3 rfl) ?_
    refine lv_iload_n C.1 C.2.1 dX8_arrive_33 rfl (lv_at hl 1 rfl) ?_
    obtain ⟨t12, hq, hX⟩ := bnd_st hX
    refine G_V0u (As := [.int v2]) (rest := []) C hW (c_C_Person_see l D cs ad K hKS hEv t3 x1 v2 t12 hq.symm) (cwV 1 C.2.2.2.2 gX8_arrive_X7_see rfl rfl rfl (by decide +kernel) ⟨Nat.le_of_ble_eq_true rfl, Nat.le_of_ble_eq_true rfl⟩) (C_recv hW 7 hk1 rfl rfl) rfl hl.1 rfl (Nat.le_of_ble_eq_true rfl) dX8_arrive_34 (fun H locs hW => ?_)
    refine lv_iload_n C.1 C.2.1 dX8_arrive_37 rfl (lv_at hl 1 rfl) ?_
    refine lv_aload_n C.1 C.2.1 dX8_arrive_38 rfl (lv_at hl 3 rfl) ?_
    refine C_get C hW 7 rfl hin7 hk1 rfl 8 (by decide) rfl f7_8 dX8_arrive_39 ?_
    refine lv_icmp_eq (tgt := 53) C.1 C.2.1 dX8_arrive_42 (by decide) (fun c13 => ?_) (fun c13 => ?_)
    · have hX := br_p hX c13
      refine lv_iload_n C.1 C.2.1 dX8_arrive_53 rfl (lv_at hl 0 rfl) ?_
      refine lv_if_eq (tgt := 66) C.1 C.2.1 dX8_arrive_54 (by decide) (fun c14 => ?_) (fun c14 => ?_)
      · have hX := br_p hX c14
        refine lv_aload_n C.1 C.2.1 dX8_arrive_66 rfl (lv_at hl 2 rfl) ?_
        refine lv_aload_n C.1 C.2.1 dX8_arrive_67 rfl (lv_at hl 3 rfl) ?_
        obtain ⟨t15, hq, hX⟩ := bnd_st hX
        refine G_V0u (As := [.ref (ad 7 x1)]) (rest := []) C hW (c_C_Race_chooseGoal l D cs ad K hKS hEv t12 x1 t15 hq.symm) (cwV 1 C.2.2.2.2 gX8_arrive_X8_chooseGoal rfl rfl rfl (by decide +kernel) ⟨Nat.le_of_ble_eq_true rfl, Nat.le_of_ble_eq_true rfl⟩) (C_recv hW 8 hKS.k8_0 rfl rfl) rfl hl.1 rfl (Nat.le_of_ble_eq_true rfl) dX8_arrive_68 (fun H locs hW => ?_)
        exact G_retv C hr hlk hA hW (Option.some.inj hX).symm dX8_arrive_71
      have hX := br_n hX c14
      refine lv_aload_n C.1 C.2.1 dX8_arrive_57 rfl (lv_at hl 2 rfl) ?_
      refine lv_aload_n C.1 C.2.1 dX8_arrive_58 rfl (lv_at hl 3 rfl) ?_
      refine lv_iload_n C.1 C.2.1 dX8_arrive_59 rfl (lv_at hl 1 rfl) ?_
      obtain ⟨t16, hq, hX⟩ := bnd_st hX
      refine G_V0u (As := [.ref (ad 7 x1), .int v2]) (rest := []) C hW (c_C_Race_putStake l D cs ad K hKS hEv t12 x1 v2 t16 hq.symm) (cwV 2 C.2.2.2.2 gX8_arrive_X8_putStake rfl rfl rfl (by decide +kernel) ⟨Nat.le_of_ble_eq_true rfl, Nat.le_of_ble_eq_true rfl⟩) (C_recv hW 8 hKS.k8_0 rfl rfl) rfl hl.1 rfl (Nat.le_of_ble_eq_true rfl) dX8_arrive_60 (fun H locs hW => ?_)
      refine lv_goto (tgt := 71) C.1 C.2.1 dX8_arrive_63 (by decide) ?_
      exact G_retv C hr hlk hA hW (Option.some.inj hX).symm dX8_arrive_71
    have hX := br_n hX c13
    refine lv_aload_n C.1 C.2.1 dX8_arrive_45 rfl (lv_at hl 2 rfl) ?_
    refine lv_aload_n C.1 C.2.1 dX8_arrive_46 rfl (lv_at hl 3 rfl) ?_
    obtain ⟨t17, hq, hX⟩ := bnd_st hX
    refine G_V0u (As := [.ref (ad 7 x1)]) (rest := []) C hW (c_C_Race_setOff l D cs ad K hKS hEv t12 x1 t17 hq.symm) (cwV 1 C.2.2.2.2 gX8_arrive_X8_setOff rfl rfl rfl (by decide +kernel) ⟨Nat.le_of_ble_eq_true rfl, Nat.le_of_ble_eq_true rfl⟩) (C_recv hW 8 hKS.k8_0 rfl rfl) rfl hl.1 rfl (Nat.le_of_ble_eq_true rfl) dX8_arrive_47 (fun H locs hW => ?_)
    refine lv_goto (tgt := 71) C.1 C.2.1 dX8_arrive_50 (by decide) ?_
    exact G_retv C hr hlk hA hW (Option.some.inj hX).symm dX8_arrive_71
  have hX := br_p hX c5
  refine lv_iconst (v := 1) C.1 C.2.1 dX8_arrive_22 (by decide) ?_
  refine lv_goto (tgt := 27) C.1 C.2.1 dX8_arrive_23 (by decide) ?_
  refine lv_istore_n (i := 3) (lv' := [(3, .int 1), (2, .int v2), (0, .ref (ad 8 0)), (1, .ref (ad 7 x1))]) C.1 C.2.1 dX8_arrive_27 rfl hl (by decide) rfl (fun ls hl => ?_)
  refine lv_iload_n C.1 C.2.1 dX8_arrive_28 rfl (lv_at hl 0 rfl) ?_
  refine lv_if_ne (tgt := 37) C.1 C.2.1 dX8_arrive_29 (by decide) (fun c18 => ?_) (fun c18 => ?_)
  · have hX := br_n hX c18
    refine lv_iload_n C.1 C.2.1 dX8_arrive_37 rfl (lv_at hl 1 rfl) ?_
    refine lv_aload_n C.1 C.2.1 dX8_arrive_38 rfl (lv_at hl 3 rfl) ?_
    refine C_get C hW 7 rfl hin7 hk1 rfl 8 (by decide) rfl f7_8 dX8_arrive_39 ?_
    refine lv_icmp_eq (tgt := 53) C.1 C.2.1 dX8_arrive_42 (by decide) (fun c19 => ?_) (fun c19 => ?_)
    · have hX := br_p hX c19
      refine lv_iload_n C.1 C.2.1 dX8_arrive_53 rfl (lv_at hl 0 rfl) ?_
      refine lv_if_eq (tgt := 66) C.1 C.2.1 dX8_arrive_54 (by decide) (fun c20 => ?_) (fun c20 => ?_)
      · have hX := br_p hX c20
        refine lv_aload_n C.1 C.2.1 dX8_arrive_66 rfl (lv_at hl 2 rfl) ?_
        refine lv_aload_n C.1 C.2.1 dX8_arrive_67 rfl (lv_at hl 3 rfl) ?_
        obtain ⟨t21, hq, hX⟩ := bnd_st hX
        refine G_V0u (As := [.ref (ad 7 x1)]) (rest := []) C hW (c_C_Race_chooseGoal l D cs ad K hKS hEv t3 x1 t21 hq.symm) (cwV 1 C.2.2.2.2 gX8_arrive_X8_chooseGoal rfl rfl rfl (by decide +kernel) ⟨Nat.le_of_ble_eq_true rfl, Nat.le_of_ble_eq_true rfl⟩) (C_recv hW 8 hKS.k8_0 rfl rfl) rfl hl.1 rfl (Nat.le_of_ble_eq_true rfl) dX8_arrive_68 (fun H locs hW => ?_)
        exact G_retv C hr hlk hA hW (Option.some.inj hX).symm dX8_arrive_71
      have hX := br_n hX c20
      refine lv_aload_n C.1 C.2.1 dX8_arrive_57 rfl (lv_at hl 2 rfl) ?_
      refine lv_aload_n C.1 C.2.1 dX8_arrive_58 rfl (lv_at hl 3 rfl) ?_
      refine lv_iload_n C.1 C.2.1 dX8_arrive_59 rfl (lv_at hl 1 rfl) ?_
      obtain ⟨t22, hq, hX⟩ := bnd_st hX
      refine G_V0u (As := [.ref (ad 7 x1), .int v2]) (rest := []) C hW (c_C_Race_putStake l D cs ad K hKS hEv t3 x1 v2 t22 hq.symm) (cwV 2 C.2.2.2.2 gX8_arrive_X8_putStake rfl rfl rfl (by decide +kernel) ⟨Nat.le_of_ble_eq_true rfl, Nat.le_of_ble_eq_true rfl⟩) (C_recv hW 8 hKS.k8_0 rfl rfl) rfl hl.1 rfl (Nat.le_of_ble_eq_true rfl) dX8_arrive_60 (fun H locs hW => ?_)
      refine lv_goto (tgt := 71) C.1 C.2.1 dX8_arrive_63 (by decide) ?_
      exact G_retv C hr hlk hA hW (Option.some.inj hX).symm dX8_arrive_71
    have hX := br_n hX c19
    refine lv_aload_n C.1 C.2.1 dX8_arrive_45 rfl (lv_at hl 2 rfl) ?_
    refine lv_aload_n C.1 C.2.1 dX8_arrive_46 rfl (lv_at hl 3 rfl) ?_
    obtain ⟨t23, hq, hX⟩ := bnd_st hX
    refine G_V0u (As := [.ref (ad 7 x1)]) (rest := []) C hW (c_C_Race_setOff l D cs ad K hKS hEv t3 x1 t23 hq.symm) (cwV 1 C.2.2.2.2 gX8_arrive_X8_setOff rfl rfl rfl (by decide +kernel) ⟨Nat.le_of_ble_eq_true rfl, Nat.le_of_ble_eq_true rfl⟩) (C_recv hW 8 hKS.k8_0 rfl rfl) rfl hl.1 rfl (Nat.le_of_ble_eq_true rfl) dX8_arrive_47 (fun H locs hW => ?_)
    refine lv_goto (tgt := 71) C.1 C.2.1 dX8_arrive_50 (by decide) ?_
    exact G_retv C hr hlk hA hW (Option.some.inj hX).symm dX8_arrive_71
  have hX := br_p hX c18
  refine lv_aload_n C.1 C.2.1 dX8_arrive_32 rfl (lv_at hl 3 rfl) ?_
  refine lv_iload_n C.1 C.2.1 dX8_arrive_33 rfl (lv_at hl 1 rfl) ?_
  obtain ⟨t24, hq, hX⟩ := bnd_st hX
  refine G_V0u (As := [.int v2]) (rest := []) C hW (c_C_Person_see l D cs ad K hKS hEv t3 x1 v2 t24 hq.symm) (cwV 1 C.2.2.2.2 gX8_arrive_X7_see rfl rfl rfl (by decide +kernel) ⟨Nat.le_of_ble_eq_true rfl, Nat.le_of_ble_eq_true rfl⟩) (C_recv hW 7 hk1 rfl rfl) rfl hl.1 rfl (Nat.le_of_ble_eq_true rfl) dX8_arrive_34 (fun H locs hW => ?_)
  refine lv_iload_n C.1 C.2.1 dX8_arrive_37 rfl (lv_at hl 1 rfl) ?_
  refine lv_aload_n C.1 C.2.1 dX8_arrive_38 rfl (lv_at hl 3 rfl) ?_
  refine C_get C hW 7 rfl hin7 hk1 rfl 8 (by decide) rfl f7_8 dX8_arrive_39 ?_
  refine lv_icmp_eq (tgt := 53) C.1 C.2.1 dX8_arrive_42 (by decide) (fun c25 => ?_) (fun c25 => ?_)
  · have hX := br_p hX c25
    refine lv_iload_n C.1 C.2.1 dX8_arrive_53 rfl (lv_at hl 0 rfl) ?_
    refine lv_if_eq (tgt := 66) C.1 C.2.1 dX8_arrive_54 (by decide) (fun c26 => ?_) (fun c26 => ?_)
    · have hX := br_p hX c26
      refine lv_aload_n C.1 C.2.1 dX8_arrive_66 rfl (lv_at hl 2 rfl) ?_
      refine lv_aload_n C.1 C.2.1 dX8_arrive_67 rfl (lv_at hl 3 rfl) ?_
      obtain ⟨t27, hq, hX⟩ := bnd_st hX
      refine G_V0u (As := [.ref (ad 7 x1)]) (rest := []) C hW (c_C_Race_chooseGoal l D cs ad K hKS hEv t24 x1 t27 hq.symm) (cwV 1 C.2.2.2.2 gX8_arrive_X8_chooseGoal rfl rfl rfl (by decide +kernel) ⟨Nat.le_of_ble_eq_true rfl, Nat.le_of_ble_eq_true rfl⟩) (C_recv hW 8 hKS.k8_0 rfl rfl) rfl hl.1 rfl (Nat.le_of_ble_eq_true rfl) dX8_arrive_68 (fun H locs hW => ?_)
      exact G_retv C hr hlk hA hW (Option.some.inj hX).symm dX8_arrive_71
    have hX := br_n hX c26
    refine lv_aload_n C.1 C.2.1 dX8_arrive_57 rfl (lv_at hl 2 rfl) ?_
    refine lv_aload_n C.1 C.2.1 dX8_arrive_58 rfl (lv_at hl 3 rfl) ?_
    refine lv_iload_n C.1 C.2.1 dX8_arrive_59 rfl (lv_at hl 1 rfl) ?_
    obtain ⟨t28, hq, hX⟩ := bnd_st hX
    refine G_V0u (As := [.ref (ad 7 x1), .int v2]) (rest := []) C hW (c_C_Race_putStake l D cs ad K hKS hEv t24 x1 v2 t28 hq.symm) (cwV 2 C.2.2.2.2 gX8_arrive_X8_putStake rfl rfl rfl (by decide +kernel) ⟨Nat.le_of_ble_eq_true rfl, Nat.le_of_ble_eq_true rfl⟩) (C_recv hW 8 hKS.k8_0 rfl rfl) rfl hl.1 rfl (Nat.le_of_ble_eq_true rfl) dX8_arrive_60 (fun H locs hW => ?_)
    refine lv_goto (tgt := 71) C.1 C.2.1 dX8_arrive_63 (by decide) ?_
    exact G_retv C hr hlk hA hW (Option.some.inj hX).symm dX8_arrive_71
  have hX := br_n hX c25
  refine lv_aload_n C.1 C.2.1 dX8_arrive_45 rfl (lv_at hl 2 rfl) ?_
  refine lv_aload_n C.1 C.2.1 dX8_arrive_46 rfl (lv_at hl 3 rfl) ?_
  obtain ⟨t29, hq, hX⟩ := bnd_st hX
  refine G_V0u (As := [.ref (ad 7 x1)]) (rest := []) C hW (c_C_Race_setOff l D cs ad K hKS hEv t24 x1 t29 hq.symm) (cwV 1 C.2.2.2.2 gX8_arrive_X8_setOff rfl rfl rfl (by decide +kernel) ⟨Nat.le_of_ble_eq_true rfl, Nat.le_of_ble_eq_true rfl⟩) (C_recv hW 8 hKS.k8_0 rfl rfl) rfl hl.1 rfl (Nat.le_of_ble_eq_true rfl) dX8_arrive_47 (fun H locs hW => ?_)
  refine lv_goto (tgt := 71) C.1 C.2.1 dX8_arrive_50 (by decide) ?_
  exact G_retv C hr hlk hA hW (Option.some.inj hX).symm dX8_arrive_71
abbrev rm_C_Race_goOn : Room := { frames := 6, cells := 0, slots := 0, locals := 135 }
def C_Race_goOn_L40 : Nat → List (Nat × Nat) → TH → Int32 → Int32 → Int32 → Int32 → Option (TH × Int32)
  | 0, _, _, _, _, _, _ => none
  | n + 1, K, t, x4, x3, x2, x1 => if (tS t 6 1 0) ≤ x4 then some (t, x4) else bnd (C_People_at K t x4) (fun v18 => opt v18 (nm (x4 + 1) (fun v20 => C_Race_goOn_L40 n K t v20 x3 x2 x1)) (fun j19 => chkP ((7, j19) ∈ K) (if (tS t 7 8 j19) = (-1) then nm (x4 + 1) (fun v23 => C_Race_goOn_L40 n K t v23 x3 x2 x1) else if (tS t 7 9 j19) = (tS t 8 3 0) then bnd (C_Race_arrive K t j19) (fun t26 => nm (x4 + 1) (fun v27 => C_Race_goOn_L40 n K t26 v27 x3 x2 x1)) else nm (x4 + 1) (fun v25 => C_Race_goOn_L40 n K t v25 x3 x2 x1))))
set_option maxHeartbeats 4000000 in
set_option maxRecDepth 100000 in
theorem r_C_Race_goOn_L40 {p : Program} {l : Launch} {e : Env} {s : State} {m : MethodId} {args : Array Value} {below : List Frame} {meth : Method} {c : Code} {Q : State → Prop} {Ev : EvT} {D : va_G} {cs : Nat → ClassId} {ad : AD} {A : Nat → Prop} {ek ev : Nat → Nat} {tp : Nat} (C : Cx p s m args c cX8_goOn 6 wsX8_goOn RX8) {K : List (Nat × Nat)} (hKS : KS K) (hEv : EvC Ev ek ev tp) : ∀ (n : Nat) (t : TH) (x4 : Int32) (x3 : Int32) (x2 : Int32) (x1 : Int32) (H : Heap) (locs : List Loc) (ls : Array Slot) (X : TH × Int32), some X = C_Race_goOn_L40 n K t x4 x3 x2 x1 → GW Ev D (tyC cs) (wC cs ad K) A s t H locs → lv_has ls 6 [(4, .int x4), (3, .int x3), (2, .int x2), (0, .ref (ad 8 0)), (1, .int x1)] → (∀ (τ : TH) (z4 : Int32) (H : Heap) (locs : List Loc) (ls : Array Slot), X = (τ, z4) → GW Ev D (tyC cs) (wC cs ad K) A s τ H locs → lv_has ls 6 [(4, .int z4), (3, .int x3), (2, .int x2), (0, .ref (ad 8 0)), (1, .int x1)] → W p l e rm_C_Race_goOn s m args below meth c H locs 0 0 Q (F0 m 101 ls [])) → W p l e rm_C_Race_goOn s m args below meth c H locs 0 0 Q (F0 m 40 ls []) := by
  have hin6 : ∀ w ∈ wsX60, w ∈ wsX8_goOn := fun w hw => List.mem_cons_of_mem _ (List.mem_append_left _ (List.mem_append_left _ (List.mem_append_right _ hw)))
  have hin7 : ∀ w ∈ wsX70, w ∈ wsX8_goOn := fun w hw => List.mem_cons_of_mem _ (List.mem_append_left _ (List.mem_append_right _ hw))
  have hin8 : ∀ w ∈ wsX80, w ∈ wsX8_goOn := fun w hw => List.mem_cons_of_mem _ (List.mem_append_left _ (List.mem_append_left _ (List.mem_append_left _ (List.mem_append_right _ hw))))
  have f6_1 : (Cond.fieldLink RX8 27 (TX6 1).1 (TX6 1).2.1 (TX6 1).2.2.1).before _ s = true := C.2.2.2.2 _ (List.mem_of_getElem? (i := 7) rfl)
  have f7_8 : (Cond.fieldLink RX8 50 (TX7 8).1 (TX7 8).2.1 (TX7 8).2.2.1).before _ s = true := C.2.2.2.2 _ (List.mem_of_getElem? (i := 8) rfl)
  have f7_9 : (Cond.fieldLink RX8 55 (TX7 9).1 (TX7 9).2.1 (TX7 9).2.2.1).before _ s = true := C.2.2.2.2 _ (List.mem_of_getElem? (i := 9) rfl)
  have f8_1 : (Cond.fieldLink RX8 23 (TX8 1).1 (TX8 1).2.1 (TX8 1).2.2.1).before _ s = true := C.2.2.2.2 _ (List.mem_of_getElem? (i := 6) rfl)
  have f8_3 : (Cond.fieldLink RX8 15 (TX8 3).1 (TX8 3).2.1 (TX8 3).2.2.1).before _ s = true := C.2.2.2.2 _ (List.mem_of_getElem? (i := 1) rfl)
  have m40_l : (Cond.methodLink RX8 40 Lib.Math.min.name).before _ s = true := C.2.2.2.2 _ (List.mem_of_getElem? (i := 2) rfl)
  have m40_s : (Cond.static Lib.Math.min.name).before _ s = true := C.2.2.2.2 _ (List.mem_of_getElem? (i := 3) rfl)
  have m40_i : (Cond.initialized "java/lang/Math").before _ s = true := C.2.2.2.2 _ (List.mem_of_getElem? (i := 4) rfl)
  have m40_c : (Cond.code Lib.Math.min.name Lib.Math.min.code 2 (some .int)).before _ s = true := C.2.2.2.2 _ (List.mem_of_getElem? (i := 5) rfl)
  intro n
  induction n with
  | zero =>
    intro t x4 x3 x2 x1 H locs ls X hX hW hl K0
    cases hX
  | succ n ih =>
    intro t x4 x3 x2 x1 H locs ls X hX hW hl K0
    unfold C_Race_goOn_L40 at hX
    refine lv_iload C.1 C.2.1 dX8_goOn_40 (lv_at hl 0 rfl) ?_
    refine lv_aload_n C.1 C.2.1 dX8_goOn_42 rfl (lv_at hl 3 rfl) ?_
    refine C_get C hW 8 rfl hin8 hKS.k8_0 rfl 1 (by decide) rfl f8_1 dX8_goOn_43 ?_
    refine C_get C hW 6 rfl hin6 hKS.k6_0 rfl 1 (by decide) rfl f6_1 dX8_goOn_46 ?_
    refine lv_icmp_ge (tgt := 101) C.1 C.2.1 dX8_goOn_49 (by decide) (fun c17 => ?_) (fun c17 => ?_)
    · have hX := br_p hX c17
      exact K0 t x4 H locs ls (Option.some.inj hX) hW (lv_sub hl [0, 1, 2, 3, 4] rfl)
    have hX := br_n hX c17
    refine lv_aload_n C.1 C.2.1 dX8_goOn_52 rfl (lv_at hl 3 rfl) ?_
    refine C_get C hW 8 rfl hin8 hKS.k8_0 rfl 1 (by decide) rfl f8_1 dX8_goOn_53 ?_
    refine lv_iload C.1 C.2.1 dX8_goOn_56 (lv_at hl 0 rfl) ?_
    obtain ⟨v18, hq, hX⟩ := bnd_st hX
    refine G_V0r (As := [.int x4]) (rest := []) C hW (c_C_People_at l D cs ad K hKS hEv t x4 v18 hq.symm) (cwV 1 C.2.2.2.2 gX8_goOn_X6_at rfl rfl rfl (by decide +kernel) ⟨Nat.le_of_ble_eq_true rfl, Nat.le_of_ble_eq_true rfl⟩) (C_recv hW 6 hKS.k6_0 rfl rfl) rfl hl.1 rfl (Nat.le_of_ble_eq_true rfl) dX8_goOn_58 (fun H locs hW => ?_)
    refine lv_astoreQ (i := 5) (lv' := [(5, va_re (ad 7) v18), (4, .int x4), (3, .int x3), (2, .int x2), (0, .ref (ad 8 0)), (1, .int x1)]) C.1 C.2.1 dX8_goOn_61 hl (by decide) rfl (fun ls hl => ?_)
    refine lv_aloadQ C.1 C.2.1 dX8_goOn_63 (lv_at hl 0 rfl) ?_
    refine lv_ifnullQ (tgt := 95) C.1 C.2.1 dX8_goOn_65 (by decide) (fun hj19 => ?_) (fun j19 hj19 => ?_)
    · have hX := opt_n hX hj19
      obtain ⟨v20, ev20⟩ : ∃ z : Int32, z = x4 + 1 := ⟨_, rfl⟩
      have hX := nm_st hX ev20
      refine lv_iinc (v := v20) (lv' := [(4, .int v20), (5, va_re (ad 7) v18), (3, .int x3), (2, .int x2), (0, .ref (ad 8 0)), (1, .int x1)]) C.1 C.2.1 dX8_goOn_95 hl (k := 1) rfl (by rw [ev20]; rfl) (by decide) rfl (fun ls hl => ?_)
      refine lv_goto (tgt := 40) C.1 C.2.1 dX8_goOn_98 (by decide) ?_
      exact ih t v20 x3 x2 x1 H locs ls X hX hW (lv_sub hl [0, 2, 3, 4, 5] rfl) K0
    have hX := opt_s hX hj19
    refine lv_aloadQ C.1 C.2.1 dX8_goOn_68 (lv_at hl 0 rfl) ?_
    refine lv_topq hj19 ?_
    obtain ⟨hk21, hX⟩ := chkP_st hX
    refine C_get C hW 7 rfl hin7 hk21 rfl 8 (by decide) rfl f7_8 dX8_goOn_70 ?_
    refine lv_iconst (v := -1) C.1 C.2.1 dX8_goOn_73 (by decide) ?_
    refine lv_icmp_eq (tgt := 95) C.1 C.2.1 dX8_goOn_74 (by decide) (fun c22 => ?_) (fun c22 => ?_)
    · have hX := br_p hX c22
      obtain ⟨v23, ev23⟩ : ∃ z : Int32, z = x4 + 1 := ⟨_, rfl⟩
      have hX := nm_st hX ev23
      refine lv_iinc (v := v23) (lv' := [(4, .int v23), (5, va_re (ad 7) v18), (3, .int x3), (2, .int x2), (0, .ref (ad 8 0)), (1, .int x1)]) C.1 C.2.1 dX8_goOn_95 hl (k := 1) rfl (by rw [ev23]; rfl) (by decide) rfl (fun ls hl => ?_)
      refine lv_goto (tgt := 40) C.1 C.2.1 dX8_goOn_98 (by decide) ?_
      exact ih t v23 x3 x2 x1 H locs ls X hX hW (lv_sub hl [0, 2, 3, 4, 5] rfl) K0
    have hX := br_n hX c22
    refine lv_aloadQ C.1 C.2.1 dX8_goOn_77 (lv_at hl 0 rfl) ?_
    refine lv_topq hj19 ?_
    refine C_get C hW 7 rfl hin7 hk21 rfl 9 (by decide) rfl f7_9 dX8_goOn_79 ?_
    refine lv_aload_n C.1 C.2.1 dX8_goOn_82 rfl (lv_at hl 4 rfl) ?_
    refine C_get C hW 8 rfl hin8 hKS.k8_0 rfl 3 (by decide) rfl f8_3 dX8_goOn_83 ?_
    refine lv_icmp_ne (tgt := 95) C.1 C.2.1 dX8_goOn_86 (by decide) (fun c24 => ?_) (fun c24 => ?_)
    · have hX := br_n hX c24
      obtain ⟨v25, ev25⟩ : ∃ z : Int32, z = x4 + 1 := ⟨_, rfl⟩
      have hX := nm_st hX ev25
      refine lv_iinc (v := v25) (lv' := [(4, .int v25), (5, va_re (ad 7) v18), (3, .int x3), (2, .int x2), (0, .ref (ad 8 0)), (1, .int x1)]) C.1 C.2.1 dX8_goOn_95 hl (k := 1) rfl (by rw [ev25]; rfl) (by decide) rfl (fun ls hl => ?_)
      refine lv_goto (tgt := 40) C.1 C.2.1 dX8_goOn_98 (by decide) ?_
      exact ih t v25 x3 x2 x1 H locs ls X hX hW (lv_sub hl [0, 2, 3, 4, 5] rfl) K0
    have hX := br_p hX c24
    refine lv_aload_n C.1 C.2.1 dX8_goOn_89 rfl (lv_at hl 4 rfl) ?_
    refine lv_aloadQ C.1 C.2.1 dX8_goOn_90 (lv_at hl 0 rfl) ?_
    rw [show va_re (ad 7) v18 = .ref (ad 7 j19) from by rw [hj19]; rfl]
    obtain ⟨t26, hq, hX⟩ := bnd_st hX
    refine G_V0u (As := [.ref (ad 7 j19)]) (rest := []) C hW (c_C_Race_arrive l D cs ad K hKS hEv t j19 t26 hq.symm) (cwV 1 C.2.2.2.2 gX8_goOn_X8_arrive rfl rfl rfl (by decide +kernel) ⟨Nat.le_of_ble_eq_true rfl, Nat.le_of_ble_eq_true rfl⟩) (C_recv hW 8 hKS.k8_0 rfl rfl) rfl hl.1 rfl (Nat.le_of_ble_eq_true rfl) dX8_goOn_92 (fun H locs hW => ?_)
    obtain ⟨v27, ev27⟩ : ∃ z : Int32, z = x4 + 1 := ⟨_, rfl⟩
    have hX := nm_st hX ev27
    refine lv_iinc (v := v27) (lv' := [(4, .int v27), (5, va_re (ad 7) v18), (3, .int x3), (2, .int x2), (0, .ref (ad 8 0)), (1, .int x1)]) C.1 C.2.1 dX8_goOn_95 hl (k := 1) rfl (by rw [ev27]; rfl) (by decide) rfl (fun ls hl => ?_)
    refine lv_goto (tgt := 40) C.1 C.2.1 dX8_goOn_98 (by decide) ?_
    exact ih t26 v27 x3 x2 x1 H locs ls X hX hW (lv_sub hl [0, 2, 3, 4, 5] rfl) K0
def C_Race_goOn_L15 : Nat → List (Nat × Nat) → TH → Int32 → Int32 → Int32 → Option (TH × Int32)
  | 0, _, _, _, _, _ => none
  | n + 1, K, t, x3, x2, x1 => if x1 ≤ x3 then some (t, x3) else if x2 ≤ (tS t 8 3 0) then some (t, x3) else bnd (C_Race_nextArrival K t x2) (fun v33 => nm (uS t 8 3 0 v33) (fun t34 => bnd (C_Race_goOn_L40 100000 K t34 0 x3 x2 x1) (fun q => nm2 q (fun t35 v36 => nm (x3 + 1) (fun v37 => C_Race_goOn_L15 n K t35 v37 x2 x1)))))
set_option maxHeartbeats 4000000 in
set_option maxRecDepth 100000 in
theorem r_C_Race_goOn_L15 {p : Program} {l : Launch} {e : Env} {s : State} {m : MethodId} {args : Array Value} {below : List Frame} {meth : Method} {c : Code} {Q : State → Prop} {Ev : EvT} {D : va_G} {cs : Nat → ClassId} {ad : AD} {A : Nat → Prop} {ek ev : Nat → Nat} {tp : Nat} (C : Cx p s m args c cX8_goOn 6 wsX8_goOn RX8) {K : List (Nat × Nat)} (hKS : KS K) (hEv : EvC Ev ek ev tp) : ∀ (n : Nat) (t : TH) (x3 : Int32) (x2 : Int32) (x1 : Int32) (H : Heap) (locs : List Loc) (ls : Array Slot) (X : TH × Int32), some X = C_Race_goOn_L15 n K t x3 x2 x1 → GW Ev D (tyC cs) (wC cs ad K) A s t H locs → lv_has ls 6 [(3, .int x3), (2, .int x2), (0, .ref (ad 8 0)), (1, .int x1)] → (∀ (τ : TH) (z3 : Int32) (H : Heap) (locs : List Loc) (ls : Array Slot), X = (τ, z3) → GW Ev D (tyC cs) (wC cs ad K) A s τ H locs → lv_has ls 6 [(3, .int z3), (2, .int x2), (0, .ref (ad 8 0)), (1, .int x1)] → W p l e rm_C_Race_goOn s m args below meth c H locs 0 0 Q (F0 m 107 ls [])) → W p l e rm_C_Race_goOn s m args below meth c H locs 0 0 Q (F0 m 15 ls []) := by
  have hin6 : ∀ w ∈ wsX60, w ∈ wsX8_goOn := fun w hw => List.mem_cons_of_mem _ (List.mem_append_left _ (List.mem_append_left _ (List.mem_append_right _ hw)))
  have hin7 : ∀ w ∈ wsX70, w ∈ wsX8_goOn := fun w hw => List.mem_cons_of_mem _ (List.mem_append_left _ (List.mem_append_right _ hw))
  have hin8 : ∀ w ∈ wsX80, w ∈ wsX8_goOn := fun w hw => List.mem_cons_of_mem _ (List.mem_append_left _ (List.mem_append_left _ (List.mem_append_left _ (List.mem_append_right _ hw))))
  have f6_1 : (Cond.fieldLink RX8 27 (TX6 1).1 (TX6 1).2.1 (TX6 1).2.2.1).before _ s = true := C.2.2.2.2 _ (List.mem_of_getElem? (i := 7) rfl)
  have f7_8 : (Cond.fieldLink RX8 50 (TX7 8).1 (TX7 8).2.1 (TX7 8).2.2.1).before _ s = true := C.2.2.2.2 _ (List.mem_of_getElem? (i := 8) rfl)
  have f7_9 : (Cond.fieldLink RX8 55 (TX7 9).1 (TX7 9).2.1 (TX7 9).2.2.1).before _ s = true := C.2.2.2.2 _ (List.mem_of_getElem? (i := 9) rfl)
  have f8_1 : (Cond.fieldLink RX8 23 (TX8 1).1 (TX8 1).2.1 (TX8 1).2.2.1).before _ s = true := C.2.2.2.2 _ (List.mem_of_getElem? (i := 6) rfl)
  have f8_3 : (Cond.fieldLink RX8 15 (TX8 3).1 (TX8 3).2.1 (TX8 3).2.2.1).before _ s = true := C.2.2.2.2 _ (List.mem_of_getElem? (i := 1) rfl)
  have m40_l : (Cond.methodLink RX8 40 Lib.Math.min.name).before _ s = true := C.2.2.2.2 _ (List.mem_of_getElem? (i := 2) rfl)
  have m40_s : (Cond.static Lib.Math.min.name).before _ s = true := C.2.2.2.2 _ (List.mem_of_getElem? (i := 3) rfl)
  have m40_i : (Cond.initialized "java/lang/Math").before _ s = true := C.2.2.2.2 _ (List.mem_of_getElem? (i := 4) rfl)
  have m40_c : (Cond.code Lib.Math.min.name Lib.Math.min.code 2 (some .int)).before _ s = true := C.2.2.2.2 _ (List.mem_of_getElem? (i := 5) rfl)
  intro n
  induction n with
  | zero =>
    intro t x3 x2 x1 H locs ls X hX hW hl K0
    cases hX
  | succ n ih =>
    intro t x3 x2 x1 H locs ls X hX hW hl K0
    unfold C_Race_goOn_L15 at hX
    refine lv_iload_n C.1 C.2.1 dX8_goOn_15 rfl (lv_at hl 0 rfl) ?_
    refine lv_iload_n C.1 C.2.1 dX8_goOn_16 rfl (lv_at hl 3 rfl) ?_
    refine lv_icmp_ge (tgt := 107) C.1 C.2.1 dX8_goOn_17 (by decide) (fun c31 => ?_) (fun c31 => ?_)
    · have hX := br_p hX c31
      exact K0 t x3 H locs ls (Option.some.inj hX) hW (lv_sub hl [0, 1, 2, 3] rfl)
    have hX := br_n hX c31
    refine lv_aload_n C.1 C.2.1 dX8_goOn_20 rfl (lv_at hl 2 rfl) ?_
    refine C_get C hW 8 rfl hin8 hKS.k8_0 rfl 3 (by decide) rfl f8_3 dX8_goOn_21 ?_
    refine lv_iload_n C.1 C.2.1 dX8_goOn_24 rfl (lv_at hl 1 rfl) ?_
    refine lv_icmp_ge (tgt := 107) C.1 C.2.1 dX8_goOn_25 (by decide) (fun c32 => ?_) (fun c32 => ?_)
    · have hX := br_p hX c32
      exact K0 t x3 H locs ls (Option.some.inj hX) hW (lv_sub hl [0, 1, 2, 3] rfl)
    have hX := br_n hX c32
    refine lv_aload_n C.1 C.2.1 dX8_goOn_28 rfl (lv_at hl 2 rfl) ?_
    refine lv_aload_n C.1 C.2.1 dX8_goOn_29 rfl (lv_at hl 2 rfl) ?_
    refine lv_iload_n C.1 C.2.1 dX8_goOn_30 rfl (lv_at hl 1 rfl) ?_
    obtain ⟨v33, hq, hX⟩ := bnd_st hX
    refine G_V0p (As := [.int x2]) (rest := [.ref (ad 8 0)]) C hW (c_C_Race_nextArrival l D cs ad K hKS hEv t x2 v33 hq.symm) (cwV 1 C.2.2.2.2 gX8_goOn_X8_nextArrival rfl rfl rfl (by decide +kernel) ⟨Nat.le_of_ble_eq_true rfl, Nat.le_of_ble_eq_true rfl⟩) (C_recv hW 8 hKS.k8_0 rfl rfl) rfl hl.1 rfl (Nat.le_of_ble_eq_true rfl) dX8_goOn_31 (fun H locs hW => ?_)
    obtain ⟨t34, et34⟩ : ∃ z, z = uS t 8 3 0 v33 := ⟨_, rfl⟩
    refine C_put C hW 8 rfl hin8 tyX8 tyX8_ok nmX8 hKS.k8_0 rfl 3 (by decide) rfl rfl rfl (Nat.le_of_ble_eq_true rfl) f8_3 dX8_goOn_34 (t' := t34) (by rw [et34]; exact wr8_3) (by rw [et34]; exact ho_S (by decide)) (fun H locs hW => ?_)
    have hX := nm_st hX et34
    refine lv_iconst (v := 0) C.1 C.2.1 dX8_goOn_37 (by decide) ?_
    refine lv_istore (i := 4) (lv' := [(4, .int 0), (3, .int x3), (2, .int x2), (0, .ref (ad 8 0)), (1, .int x1)]) C.1 C.2.1 dX8_goOn_38 hl (by decide) rfl (fun ls hl => ?_)
    obtain ⟨q, hq, hX⟩ := bnd_st hX
    refine r_C_Race_goOn_L40 C hKS hEv 100000 t34 0 x3 x2 x1 H locs ls q hq.symm hW (lv_sub hl [0, 1, 2, 3, 4] rfl) ?_
    intro t35 v36 H locs ls hq hW hl
    subst hq
    have hX := nm2_st hX rfl
    obtain ⟨v37, ev37⟩ : ∃ z : Int32, z = x3 + 1 := ⟨_, rfl⟩
    have hX := nm_st hX ev37
    refine lv_iinc (v := v37) (lv' := [(3, .int v37), (4, .int v36), (2, .int x2), (0, .ref (ad 8 0)), (1, .int x1)]) C.1 C.2.1 dX8_goOn_101 hl (k := 1) rfl (by rw [ev37]; rfl) (by decide) rfl (fun ls hl => ?_)
    refine lv_goto (tgt := 15) C.1 C.2.1 dX8_goOn_104 (by decide) ?_
    exact ih t35 v37 x2 x1 H locs ls X hX hW (lv_sub hl [0, 2, 3, 4] rfl) K0
def C_Race_goOn (K : List (Nat × Nat)) (t : TH) (x1 : Int32) : Option (TH) := nm (if 9999 < ((tS t 8 3 0) + x1) then 9999 else (tS t 8 3 0) + x1) (fun v1 => bnd (C_Race_goOn_L15 100000 K t 0 v1 x1) (fun q => nm2 q (fun t38 v39 => some t38)))
set_option maxHeartbeats 4000000 in
set_option maxRecDepth 100000 in
theorem c_C_Race_goOn {Ev : EvT} {ek ev : Nat → Nat} {tp : Nat} (l : Launch) (D : va_G) (cs : Nat → ClassId) (ad : AD) (K : List (Nat × Nat)) (hKS : KS K) (hEv : EvC Ev ek ev tp) (t : TH) (x1 : Int32) (X : TH) (hX : some X = C_Race_goOn K t x1) : cGv Ev l D (tyC cs) (wC cs ad K) yX8_goOn wsX8_goOn rm_C_Race_goOn 0 0 [.ref (ad 8 0), .int x1] t (fun u => u = X) := by
  refine G_inv (cc := cX8_goOn) (maxL := 6) (ret := none) (by decide) rfl (Nat.le_of_ble_eq_true rfl) ?_
  intro p e s m below meth c A ls C hr hlk hini hA hW hl
  have C : Cx p s m _ c cX8_goOn 6 wsX8_goOn RX8 := C
  have hl : lv_has ls 6 [(0, .ref (ad 8 0)), (1, .int x1)] := hl
  have hin6 : ∀ w ∈ wsX60, w ∈ wsX8_goOn := fun w hw => List.mem_cons_of_mem _ (List.mem_append_left _ (List.mem_append_left _ (List.mem_append_right _ hw)))
  have hin7 : ∀ w ∈ wsX70, w ∈ wsX8_goOn := fun w hw => List.mem_cons_of_mem _ (List.mem_append_left _ (List.mem_append_right _ hw))
  have hin8 : ∀ w ∈ wsX80, w ∈ wsX8_goOn := fun w hw => List.mem_cons_of_mem _ (List.mem_append_left _ (List.mem_append_left _ (List.mem_append_left _ (List.mem_append_right _ hw))))
  have f6_1 : (Cond.fieldLink RX8 27 (TX6 1).1 (TX6 1).2.1 (TX6 1).2.2.1).before _ s = true := C.2.2.2.2 _ (List.mem_of_getElem? (i := 7) rfl)
  have f7_8 : (Cond.fieldLink RX8 50 (TX7 8).1 (TX7 8).2.1 (TX7 8).2.2.1).before _ s = true := C.2.2.2.2 _ (List.mem_of_getElem? (i := 8) rfl)
  have f7_9 : (Cond.fieldLink RX8 55 (TX7 9).1 (TX7 9).2.1 (TX7 9).2.2.1).before _ s = true := C.2.2.2.2 _ (List.mem_of_getElem? (i := 9) rfl)
  have f8_1 : (Cond.fieldLink RX8 23 (TX8 1).1 (TX8 1).2.1 (TX8 1).2.2.1).before _ s = true := C.2.2.2.2 _ (List.mem_of_getElem? (i := 6) rfl)
  have f8_3 : (Cond.fieldLink RX8 15 (TX8 3).1 (TX8 3).2.1 (TX8 3).2.2.1).before _ s = true := C.2.2.2.2 _ (List.mem_of_getElem? (i := 1) rfl)
  have m40_l : (Cond.methodLink RX8 40 Lib.Math.min.name).before _ s = true := C.2.2.2.2 _ (List.mem_of_getElem? (i := 2) rfl)
  have m40_s : (Cond.static Lib.Math.min.name).before _ s = true := C.2.2.2.2 _ (List.mem_of_getElem? (i := 3) rfl)
  have m40_i : (Cond.initialized "java/lang/Math").before _ s = true := C.2.2.2.2 _ (List.mem_of_getElem? (i := 4) rfl)
  have m40_c : (Cond.code Lib.Math.min.name Lib.Math.min.code 2 (some .int)).before _ s = true := C.2.2.2.2 _ (List.mem_of_getElem? (i := 5) rfl)
  obtain ⟨H, hH⟩ : ∃ H, H = s.heap := ⟨_, rfl⟩
  obtain ⟨locs, hlo⟩ : ∃ z : List Loc, z = [] := ⟨_, rfl⟩
  have hW : GW Ev D (tyC cs) (wC cs ad K) A s t H locs := by rw [hH, hlo]; exact hW
  rw [show W p l e rm_C_Race_goOn s m _ below meth c s.heap [] = W p l e rm_C_Race_goOn s m _ below meth c H locs from by rw [hH, hlo]]
  unfold C_Race_goOn at hX
  refine lv_aload_n C.1 C.2.1 dX8_goOn_0 rfl (lv_at hl 0 rfl) ?_
  refine C_get C hW 8 rfl hin8 hKS.k8_0 rfl 3 (by decide) rfl f8_3 dX8_goOn_1 ?_
  refine lv_iload_n C.1 C.2.1 dX8_goOn_4 rfl (lv_at hl 1 rfl) ?_
  refine lv_iadd C.1 C.2.1 dX8_goOn_5 ?_
  refine lv_sipush (v := 9999) C.1 C.2.1 dX8_goOn_6 (by decide) ?_
  refine va_mmin C.1 C.2.1 (C.2.2.1.trans hl.1.symm) C.2.2.2.1 m40_l m40_s m40_i m40_c (Nat.le_of_ble_eq_true rfl) (Nat.le_of_ble_eq_true rfl) (Nat.zero_le _) (Nat.zero_le _) dX8_goOn_9 ?_
  refine lv_topi (fun v1 ev1 => ?_)
  have hX := nm_st hX ev1
  refine lv_istore_n (i := 2) (lv' := [(2, .int v1), (0, .ref (ad 8 0)), (1, .int x1)]) C.1 C.2.1 dX8_goOn_12 rfl hl (by decide) rfl (fun ls hl => ?_)
  refine lv_iconst (v := 0) C.1 C.2.1 dX8_goOn_13 (by decide) ?_
  refine lv_istore_n (i := 3) (lv' := [(3, .int 0), (2, .int v1), (0, .ref (ad 8 0)), (1, .int x1)]) C.1 C.2.1 dX8_goOn_14 rfl hl (by decide) rfl (fun ls hl => ?_)
  obtain ⟨q, hq, hX⟩ := bnd_st hX
  refine r_C_Race_goOn_L15 C hKS hEv 100000 t 0 v1 x1 H locs ls q hq.symm hW (lv_sub hl [0, 1, 2, 3] rfl) ?_
  intro t38 v39 H locs ls hq hW hl
  subst hq
  have hX := nm2_st hX rfl
  exact G_retv C hr hlk hA hW (Option.some.inj hX).symm dX8_goOn_107
