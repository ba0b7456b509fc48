abbrev rm_M_four : Room := { frames := 0, cells := 0, slots := 0, locals := 0 }
def M_four_L3 : Nat → St → Int32 → Int32 → Option (St × Int32)
  | 0, _, _, _ => none
  | n + 1, σ, x2, x1 => if x2 < 0 then some (σ, x2) else chkI (σ.1 2 0) 200 (nm (s1 σ 1 (σ.1 2 0).toNatClampNeg (vp_nar .byte ((x1 >>> (x2 &&& 31)).toInt8.toInt32))) (fun σ6 => nm (s1 σ6 2 0 ((σ6.1 2 0) + 1)) (fun σ7 => nm (x2 + (-8)) (fun v8 => M_four_L3 n σ7 v8 x1))))
set_option maxHeartbeats 4000000 in
set_option maxRecDepth 100000 in
theorem r_M_four_L3 {p : Program} {l : Launch} {e : Env} {s : State} {m : MethodId} {args : Array Value} {below : List Frame} {meth : Method} {c : Code} {Q : State → Prop} {Ev : EvT} {D : va_G} {cs : Nat → ClassId} {h : Nat} {a : Nat → Nat} {A : Nat → Prop} (C : Cx p s m args c cX12_four 3 wsX12_four RX12) : ∀ (n : Nat) (σ : St) (x2 : Int32) (x1 : Int32) (H : Heap) (locs : List Loc) (ls : Array Slot) (X : St × Int32), some X = M_four_L3 n σ x2 x1 → GW Ev D (tyM cs) (wM h a cs) A s σ H locs → lv_has ls 3 [(2, .int x2), (0, .ref h), (1, .int x1)] → (∀ (τ : St) (z2 : Int32) (H : Heap) (locs : List Loc) (ls : Array Slot), X = (τ, z2) → GW Ev D (tyM cs) (wM h a cs) A s τ H locs → lv_has ls 3 [(2, .int z2), (0, .ref h), (1, .int x1)] → W p l e rm_M_four s m args below meth c H locs 0 0 Q (F0 m 36 ls [])) → W p l e rm_M_four s m args below meth c H locs 0 0 Q (F0 m 3 ls []) := by
  have hin : ∀ w ∈ wsX120, w ∈ wsX12_four := fun w hw => List.mem_cons_of_mem _ (List.mem_append_right _ hw)
  have f1 : (Cond.fieldLink RX12 7 (TX12 1).1 (TX12 1).2.1 (TX12 1).2.2.1).before _ s = true := C.2.2.2.2 _ (List.mem_of_getElem? (i := 1) rfl)
  have f2 : (Cond.fieldLink RX12 137 (TX12 2).1 (TX12 2).2.1 (TX12 2).2.2.1).before _ s = true := C.2.2.2.2 _ (List.mem_of_getElem? (i := 2) rfl)
  intro n
  induction n with
  | zero =>
    intro σ x2 x1 H locs ls X hX hW hl K0
    cases hX
  | succ n ih =>
    intro σ x2 x1 H locs ls X hX hW hl K0
    unfold M_four_L3 at hX
    refine lv_iload_n C.1 C.2.1 dX12_four_3 rfl (lv_at hl 0 rfl) ?_
    refine lv_if_lt (tgt := 36) C.1 C.2.1 dX12_four_4 (by decide) (fun c5 => ?_) (fun c5 => ?_)
    · have hX := br_p hX c5
      exact K0 σ x2 H locs ls (Option.some.inj hX) hW (lv_sub hl [0, 1, 2] rfl)
    have hX := br_n hX c5
    refine lv_aload_n C.1 C.2.1 dX12_four_7 rfl (lv_at hl 1 rfl) ?_
    refine M_geta C hin hW 1 rfl (by decide) f1 dX12_four_8 ?_
    refine lv_aload_n C.1 C.2.1 dX12_four_11 rfl (lv_at hl 1 rfl) ?_
    refine M_geti C hin hW 2 (by decide) f2 dX12_four_12 ?_
    refine lv_iload_n C.1 C.2.1 dX12_four_15 rfl (lv_at hl 2 rfl) ?_
    refine lv_iload_n C.1 C.2.1 dX12_four_16 rfl (lv_at hl 0 rfl) ?_
    refine lv_ishr C.1 C.2.1 dX12_four_17 ?_
    refine lv_i2b C.1 C.2.1 dX12_four_18 rfl ?_
    obtain ⟨hi, hX⟩ := chkI_st hX
    refine M_stB C hW 1 rfl hi dX12_four_19 (fun H locs σ6 eσ6 hW => ?_)
    have hX := nm_st hX eσ6
    refine lv_aload_n C.1 C.2.1 dX12_four_20 rfl (lv_at hl 1 rfl) ?_
    refine lv_dup C.1 C.2.1 dX12_four_21 rfl ?_
    refine M_geti C hin hW 2 (by decide) f2 dX12_four_22 ?_
    refine lv_iconst (v := 1) C.1 C.2.1 dX12_four_25 (by decide) ?_
    refine lv_iadd C.1 C.2.1 dX12_four_26 ?_
    refine M_puti C hin hW 2 rfl f2 dX12_four_27 (fun H locs σ7 eσ7 hW => ?_)
    have hX := nm_st hX eσ7
    obtain ⟨v8, ev8⟩ : ∃ z : Int32, z = x2 + (-8) := ⟨_, rfl⟩
    have hX := nm_st hX ev8
    refine lv_iinc (v := v8) (lv' := [(2, .int v8), (0, .ref h), (1, .int x1)]) C.1 C.2.1 dX12_four_30 hl (k := 0) rfl (by rw [ev8]; rfl) (by decide) rfl (fun ls hl => ?_)
    refine lv_goto (tgt := 3) C.1 C.2.1 dX12_four_33 (by decide) ?_
    exact ih σ7 v8 x1 H locs ls X hX hW (lv_sub hl [0, 1, 2] rfl) K0
def M_four (σ : St) (x1 : Int32) : Option (St) := bnd (M_four_L3 100000 σ 24 x1) (fun q => nm2 q (fun σ9 v10 => some σ9))
set_option maxHeartbeats 4000000 in
set_option maxRecDepth 100000 in
theorem c_M_four {Ev : EvT} (l : Launch) (D : va_G) (cs : Nat → ClassId) (h : Nat) (a : Nat → Nat) (σ : St) (x1 : Int32) (X : St) (hX : some X = M_four σ x1) : cGv Ev l D (tyM cs) (wM h a cs) yX12_four wsX12_four rm_M_four 0 0 [.ref h, .int x1] σ (fun u => u = X) := by
  refine G_inv (cc := cX12_four) (maxL := 3) (ret := none) (by decide) rfl (Nat.le_of_ble_eq_true rfl) ?_
  intro p e s m below meth c A ls C hr hlk hini hA hW hl
  have C : Cx p s m _ c cX12_four 3 wsX12_four RX12 := C
  have hl : lv_has ls 3 [(0, .ref h), (1, .int x1)] := hl
  have hin : ∀ w ∈ wsX120, w ∈ wsX12_four := fun w hw => List.mem_cons_of_mem _ (List.mem_append_right _ hw)
  have f1 : (Cond.fieldLink RX12 7 (TX12 1).1 (TX12 1).2.1 (TX12 1).2.2.1).before _ s = true := C.2.2.2.2 _ (List.mem_of_getElem? (i := 1) rfl)
  have f2 : (Cond.fieldLink RX12 137 (TX12 2).1 (TX12 2).2.1 (TX12 2).2.2.1).before _ s = true := C.2.2.2.2 _ (List.mem_of_getElem? (i := 2) rfl)
  obtain ⟨H, hH⟩ : ∃ H, H = s.heap := ⟨_, rfl⟩
  obtain ⟨locs, hlo⟩ : ∃ z : List Loc, z = [] := ⟨_, rfl⟩
  have hW : GW Ev D (tyM cs) (wM h a cs) A s σ H locs := by rw [hH, hlo]; exact hW
  rw [show W p l e rm_M_four s m _ below meth c s.heap [] = W p l e rm_M_four s m _ below meth c H locs from by rw [hH, hlo]]
  unfold M_four at hX
  refine lv_bipush (v := 24) C.1 C.2.1 dX12_four_0 (by decide) ?_
  refine lv_istore_n (lv' := [(2, .int 24), (0, .ref h), (1, .int x1)]) C.1 C.2.1 dX12_four_2 rfl hl (by decide) rfl (fun ls hl => ?_)
  obtain ⟨q, hq, hX⟩ := bnd_st hX
  refine r_M_four_L3 C 100000 σ 24 x1 H locs ls q hq.symm hW (lv_sub hl [0, 1, 2] rfl) ?_
  intro σ9 v10 H locs ls hq hW hl
  subst hq
  have hX := nm2_st hX rfl
  exact G_retv C hr hlk hA hW (Option.some.inj hX).symm dX12_four_36
abbrev rm_M_feed : Room := { frames := 1, cells := 0, slots := 0, locals := 22 }
def M_feed (σ : St) (x1 : Int32) (x2 : Int32) (x3 : Int32) (x4 : Int32) (x5 : Int32) : Option (Int32 × St) := nm (s1 σ 0 0 0) (fun σ1 => if ((σ1.1 2 0) + 20) ≤ 200 then bnd (M_four σ1 x1) (fun σ3 => bnd (M_four σ3 x2) (fun σ4 => bnd (M_four σ4 x3) (fun σ5 => bnd (M_four σ5 x4) (fun σ6 => bnd (M_four σ6 x5) (fun σ7 => some (σ7.1 2 0, σ7)))))) else some ((-1), σ1))
set_option maxHeartbeats 4000000 in
set_option maxRecDepth 100000 in
theorem c_M_feed {Ev : EvT} (l : Launch) (D : va_G) (cs : Nat → ClassId) (h : Nat) (a : Nat → Nat) (σ : St) (x1 : Int32) (x2 : Int32) (x3 : Int32) (x4 : Int32) (x5 : Int32) (X : Int32 × St) (hX : some X = M_feed σ x1 x2 x3 x4 x5) : cGi Ev l D (tyM cs) (wM h a cs) yX12_feed wsX12_feed rm_M_feed 0 0 [.ref h, .int x1, .int x2, .int x3, .int x4, .int x5] σ (fun r u => (r, u) = X) := by
  refine G_ini (cc := cX12_feed) (maxL := 6) (ret := some .int) (by decide) rfl (Nat.le_of_ble_eq_true rfl) ?_
  intro p e s m below meth c A ls C hr hlk hini hA hW hl
  have C : Cx p s m _ c cX12_feed 6 wsX12_feed RX12 := C
  have hl : lv_has ls 6 [(0, .ref h), (1, .int x1), (2, .int x2), (3, .int x3), (4, .int x4), (5, .int x5)] := hl
  have hin : ∀ w ∈ wsX120, w ∈ wsX12_feed := fun w hw => List.mem_cons_of_mem _ (List.mem_append_right _ hw)
  have f0 : (Cond.fieldLink RX12 133 (TX12 0).1 (TX12 0).2.1 (TX12 0).2.2.1).before _ s = true := C.2.2.2.2 _ (List.mem_of_getElem? (i := 1) rfl)
  have f2 : (Cond.fieldLink RX12 137 (TX12 2).1 (TX12 2).2.1 (TX12 2).2.2.1).before _ s = true := C.2.2.2.2 _ (List.mem_of_getElem? (i := 2) rfl)
  obtain ⟨H, hH⟩ : ∃ H, H = s.heap := ⟨_, rfl⟩
  obtain ⟨locs, hlo⟩ : ∃ z : List Loc, z = [] := ⟨_, rfl⟩
  have hW : GW Ev D (tyM cs) (wM h a cs) A s σ H locs := by rw [hH, hlo]; exact hW
  rw [show W p l e rm_M_feed s m _ below meth c s.heap [] = W p l e rm_M_feed s m _ below meth c H locs from by rw [hH, hlo]]
  unfold M_feed at hX
  refine lv_aload_n C.1 C.2.1 dX12_feed_0 rfl (lv_at hl 0 rfl) ?_
  refine lv_iconst (v := 0) C.1 C.2.1 dX12_feed_1 (by decide) ?_
  refine M_puti C hin hW 0 rfl f0 dX12_feed_2 (fun H locs σ1 eσ1 hW => ?_)
  have hX := nm_st hX eσ1
  refine lv_aload_n C.1 C.2.1 dX12_feed_5 rfl (lv_at hl 0 rfl) ?_
  refine M_geti C hin hW 2 (by decide) f2 dX12_feed_6 ?_
  refine lv_bipush (v := 20) C.1 C.2.1 dX12_feed_9 (by decide) ?_
  refine lv_iadd C.1 C.2.1 dX12_feed_11 ?_
  refine lv_sipush (v := 200) C.1 C.2.1 dX12_feed_12 (by decide) ?_
  refine lv_icmp_le (tgt := 20) C.1 C.2.1 dX12_feed_15 (by decide) (fun c2 => ?_) (fun c2 => ?_)
  · have hX := br_p hX c2
    refine lv_aload_n C.1 C.2.1 dX12_feed_20 rfl (lv_at hl 0 rfl) ?_
    refine lv_iload_n C.1 C.2.1 dX12_feed_21 rfl (lv_at hl 1 rfl) ?_
    obtain ⟨σ3, hq, hX⟩ := bnd_st hX
    refine G_V0u (As := [.int x1]) (rest := []) C hW (c_M_four l D cs h a σ1 x1 σ3 hq.symm) (cwV 1 C.2.2.2.2 gX12_feed_X12_four rfl rfl rfl (by decide +kernel) ⟨Nat.le_of_ble_eq_true rfl, Nat.le_of_ble_eq_true rfl⟩) (M_recv hW) rfl hl.1 rfl (Nat.le_of_ble_eq_true rfl) dX12_feed_22 (fun H locs hW => ?_)
    refine lv_aload_n C.1 C.2.1 dX12_feed_25 rfl (lv_at hl 0 rfl) ?_
    refine lv_iload_n C.1 C.2.1 dX12_feed_26 rfl (lv_at hl 2 rfl) ?_
    obtain ⟨σ4, hq, hX⟩ := bnd_st hX
    refine G_V0u (As := [.int x2]) (rest := []) C hW (c_M_four l D cs h a σ3 x2 σ4 hq.symm) (cwV 1 C.2.2.2.2 gX12_feed_X12_four rfl rfl rfl (by decide +kernel) ⟨Nat.le_of_ble_eq_true rfl, Nat.le_of_ble_eq_true rfl⟩) (M_recv hW) rfl hl.1 rfl (Nat.le_of_ble_eq_true rfl) dX12_feed_27 (fun H locs hW => ?_)
    refine lv_aload_n C.1 C.2.1 dX12_feed_30 rfl (lv_at hl 0 rfl) ?_
    refine lv_iload_n C.1 C.2.1 dX12_feed_31 rfl (lv_at hl 3 rfl) ?_
    obtain ⟨σ5, hq, hX⟩ := bnd_st hX
    refine G_V0u (As := [.int x3]) (rest := []) C hW (c_M_four l D cs h a σ4 x3 σ5 hq.symm) (cwV 1 C.2.2.2.2 gX12_feed_X12_four rfl rfl rfl (by decide +kernel) ⟨Nat.le_of_ble_eq_true rfl, Nat.le_of_ble_eq_true rfl⟩) (M_recv hW) rfl hl.1 rfl (Nat.le_of_ble_eq_true rfl) dX12_feed_32 (fun H locs hW => ?_)
    refine lv_aload_n C.1 C.2.1 dX12_feed_35 rfl (lv_at hl 0 rfl) ?_
    refine lv_iload C.1 C.2.1 dX12_feed_36 (lv_at hl 4 rfl) ?_
    obtain ⟨σ6, hq, hX⟩ := bnd_st hX
    refine G_V0u (As := [.int x4]) (rest := []) C hW (c_M_four l D cs h a σ5 x4 σ6 hq.symm) (cwV 1 C.2.2.2.2 gX12_feed_X12_four rfl rfl rfl (by decide +kernel) ⟨Nat.le_of_ble_eq_true rfl, Nat.le_of_ble_eq_true rfl⟩) (M_recv hW) rfl hl.1 rfl (Nat.le_of_ble_eq_true rfl) dX12_feed_38 (fun H locs hW => ?_)
    refine lv_aload_n C.1 C.2.1 dX12_feed_41 rfl (lv_at hl 0 rfl) ?_
    refine lv_iload C.1 C.2.1 dX12_feed_42 (lv_at hl 5 rfl) ?_
    obtain ⟨σ7, hq, hX⟩ := bnd_st hX
    refine G_V0u (As := [.int x5]) (rest := []) C hW (c_M_four l D cs h a σ6 x5 σ7 hq.symm) (cwV 1 C.2.2.2.2 gX12_feed_X12_four rfl rfl rfl (by decide +kernel) ⟨Nat.le_of_ble_eq_true rfl, Nat.le_of_ble_eq_true rfl⟩) (M_recv hW) rfl hl.1 rfl (Nat.le_of_ble_eq_true rfl) dX12_feed_44 (fun H locs hW => ?_)
    refine lv_aload_n C.1 C.2.1 dX12_feed_47 rfl (lv_at hl 0 rfl) ?_
    refine M_geti C hin hW 2 (by decide) f2 dX12_feed_48 ?_
    exact G_reti C hr hlk hA hW (Option.some.inj hX).symm dX12_feed_51
  have hX := br_n hX c2
  refine lv_iconst (v := -1) C.1 C.2.1 dX12_feed_18 (by decide) ?_
  exact G_reti C hr hlk hA hW (Option.some.inj hX).symm dX12_feed_19
abbrev rm_M_land : Room := { frames := 1, cells := 0, slots := 0, locals := 22 }
def M_land (σ : St) (x1 : Int32) (x2 : Int32) (x3 : Int32) : Option (Int32 × St) := nm (s1 σ 0 0 0) (fun σ1 => if (σ1.1 22 0) = 0 then bnd (M_isQuarter x1) (fun v3 => if v3 = 0 then some (0, σ1) else bnd (M_isIn x2 0 99) (fun v5 => if v5 = 0 then some (0, σ1) else bnd (M_isIn x3 0 3) (fun v7 => if v7 = 0 then some (0, σ1) else chkI x1 64 (nm (s1 σ1 5 x1.toNatClampNeg x2) (fun σ9 => chkI x1 64 (nm (s1 σ9 6 x1.toNatClampNeg x3) (fun σ10 => some (1, σ10)))))))) else some (0, σ1))
set_option maxHeartbeats 4000000 in
set_option maxRecDepth 100000 in
theorem c_M_land {Ev : EvT} (l : Launch) (D : va_G) (cs : Nat → ClassId) (h : Nat) (a : Nat → Nat) (σ : St) (x1 : Int32) (x2 : Int32) (x3 : Int32) (X : Int32 × St) (hX : some X = M_land σ x1 x2 x3) : cGi Ev l D (tyM cs) (wM h a cs) yX12_land wsX12_land rm_M_land 0 0 [.ref h, .int x1, .int x2, .int x3] σ (fun r u => (r, u) = X) := by
  refine G_ini (cc := cX12_land) (maxL := 4) (ret := some .boolean) (by decide) rfl (Nat.le_of_ble_eq_true rfl) ?_
  intro p e s m below meth c A ls C hr hlk hini hA hW hl
  have C : Cx p s m _ c cX12_land 4 wsX12_land RX12 := C
  have hl : lv_has ls 4 [(0, .ref h), (1, .int x1), (2, .int x2), (3, .int x3)] := hl
  have hin : ∀ w ∈ wsX120, w ∈ wsX12_land := fun w hw => List.mem_cons_of_mem _ (List.mem_append_right _ hw)
  have f0 : (Cond.fieldLink RX12 133 (TX12 0).1 (TX12 0).2.1 (TX12 0).2.2.1).before _ s = true := C.2.2.2.2 _ (List.mem_of_getElem? (i := 1) rfl)
  have f5 : (Cond.fieldLink RX12 13 (TX12 5).1 (TX12 5).2.1 (TX12 5).2.2.1).before _ s = true := C.2.2.2.2 _ (List.mem_of_getElem? (i := 3) rfl)
  have f6 : (Cond.fieldLink RX12 17 (TX12 6).1 (TX12 6).2.1 (TX12 6).2.2.1).before _ s = true := C.2.2.2.2 _ (List.mem_of_getElem? (i := 4) rfl)
  have f22 : (Cond.fieldLink RX12 153 (TX12 22).1 (TX12 22).2.1 (TX12 22).2.2.1).before _ s = true := C.2.2.2.2 _ (List.mem_of_getElem? (i := 2) rfl)
  obtain ⟨H, hH⟩ : ∃ H, H = s.heap := ⟨_, rfl⟩
  obtain ⟨locs, hlo⟩ : ∃ z : List Loc, z = [] := ⟨_, rfl⟩
  have hW : GW Ev D (tyM cs) (wM h a cs) A s σ H locs := by rw [hH, hlo]; exact hW
  rw [show W p l e rm_M_land s m _ below meth c s.heap [] = W p l e rm_M_land s m _ below meth c H locs from by rw [hH, hlo]]
  unfold M_land at hX
  refine lv_aload_n C.1 C.2.1 dX12_land_0 rfl (lv_at hl 0 rfl) ?_
  refine lv_iconst (v := 0) C.1 C.2.1 dX12_land_1 (by decide) ?_
  refine M_puti C hin hW 0 rfl f0 dX12_land_2 (fun H locs σ1 eσ1 hW => ?_)
  have hX := nm_st hX eσ1
  refine lv_aload_n C.1 C.2.1 dX12_land_5 rfl (lv_at hl 0 rfl) ?_
  refine M_geti C hin hW 22 (by decide) f22 dX12_land_6 ?_
  refine lv_if_ne (tgt := 38) C.1 C.2.1 dX12_land_9 (by decide) (fun c2 => ?_) (fun c2 => ?_)
  · have hX := br_n hX c2
    refine lv_iconst (v := 0) C.1 C.2.1 dX12_land_38 (by decide) ?_
    exact G_retz C hr hlk hA hW rfl (Option.some.inj hX).symm dX12_land_39
  have hX := br_p hX c2
  refine lv_iload_n C.1 C.2.1 dX12_land_12 rfl (lv_at hl 1 rfl) ?_
  obtain ⟨v3, hq, hX⟩ := bnd_st hX
  refine G_S0s (As := [.int x1]) (rest := []) C hW (c_M_isQuarter l D (tyM cs) (wM h a cs) σ1 x1 v3 hq.symm) (cwS 1 C.2.2.2.2 gX12_land_X12_isQuarter rfl rfl rfl (by decide +kernel) ⟨Nat.le_of_ble_eq_true rfl, Nat.le_of_ble_eq_true rfl⟩) rfl hl.1 rfl (Nat.le_of_ble_eq_true rfl) dX12_land_13 (fun H locs hW => ?_)
  refine lv_if_eq (tgt := 38) C.1 C.2.1 dX12_land_16 (by decide) (fun c4 => ?_) (fun c4 => ?_)
  · have hX := br_p hX c4
    refine lv_iconst (v := 0) C.1 C.2.1 dX12_land_38 (by decide) ?_
    exact G_retz C hr hlk hA hW rfl (Option.some.inj hX).symm dX12_land_39
  have hX := br_n hX c4
  refine lv_iload_n C.1 C.2.1 dX12_land_19 rfl (lv_at hl 2 rfl) ?_
  refine lv_iconst (v := 0) C.1 C.2.1 dX12_land_20 (by decide) ?_
  refine lv_bipush (v := 99) C.1 C.2.1 dX12_land_21 (by decide) ?_
  obtain ⟨v5, hq, hX⟩ := bnd_st hX
  refine G_S0s (As := [.int x2, .int 0, .int 99]) (rest := []) C hW (c_M_isIn l D (tyM cs) (wM h a cs) σ1 x2 0 99 v5 hq.symm) (cwS 3 C.2.2.2.2 gX12_land_X12_isIn rfl rfl rfl (by decide +kernel) ⟨Nat.le_of_ble_eq_true rfl, Nat.le_of_ble_eq_true rfl⟩) rfl hl.1 rfl (Nat.le_of_ble_eq_true rfl) dX12_land_23 (fun H locs hW => ?_)
  refine lv_if_eq (tgt := 38) C.1 C.2.1 dX12_land_26 (by decide) (fun c6 => ?_) (fun c6 => ?_)
  · have hX := br_p hX c6
    refine lv_iconst (v := 0) C.1 C.2.1 dX12_land_38 (by decide) ?_
    exact G_retz C hr hlk hA hW rfl (Option.some.inj hX).symm dX12_land_39
  have hX := br_n hX c6
  refine lv_iload_n C.1 C.2.1 dX12_land_29 rfl (lv_at hl 3 rfl) ?_
  refine lv_iconst (v := 0) C.1 C.2.1 dX12_land_30 (by decide) ?_
  refine lv_iconst (v := 3) C.1 C.2.1 dX12_land_31 (by decide) ?_
  obtain ⟨v7, hq, hX⟩ := bnd_st hX
  refine G_S0s (As := [.int x3, .int 0, .int 3]) (rest := []) C hW (c_M_isIn l D (tyM cs) (wM h a cs) σ1 x3 0 3 v7 hq.symm) (cwS 3 C.2.2.2.2 gX12_land_X12_isIn rfl rfl rfl (by decide +kernel) ⟨Nat.le_of_ble_eq_true rfl, Nat.le_of_ble_eq_true rfl⟩) rfl hl.1 rfl (Nat.le_of_ble_eq_true rfl) dX12_land_32 (fun H locs hW => ?_)
  refine lv_if_ne (tgt := 40) C.1 C.2.1 dX12_land_35 (by decide) (fun c8 => ?_) (fun c8 => ?_)
  · have hX := br_n hX c8
    refine lv_aload_n C.1 C.2.1 dX12_land_40 rfl (lv_at hl 0 rfl) ?_
    refine M_geta C hin hW 5 rfl (by decide) f5 dX12_land_41 ?_
    refine lv_iload_n C.1 C.2.1 dX12_land_44 rfl (lv_at hl 1 rfl) ?_
    refine lv_iload_n C.1 C.2.1 dX12_land_45 rfl (lv_at hl 2 rfl) ?_
    obtain ⟨hi, hX⟩ := chkI_st hX
    refine M_stI C hW 5 rfl hi dX12_land_46 (fun H locs σ9 eσ9 hW => ?_)
    have hX := nm_st hX eσ9
    refine lv_aload_n C.1 C.2.1 dX12_land_47 rfl (lv_at hl 0 rfl) ?_
    refine M_geta C hin hW 6 rfl (by decide) f6 dX12_land_48 ?_
    refine lv_iload_n C.1 C.2.1 dX12_land_51 rfl (lv_at hl 1 rfl) ?_
    refine lv_iload_n C.1 C.2.1 dX12_land_52 rfl (lv_at hl 3 rfl) ?_
    obtain ⟨hi, hX⟩ := chkI_st hX
    refine M_stI C hW 6 rfl hi dX12_land_53 (fun H locs σ10 eσ10 hW => ?_)
    have hX := nm_st hX eσ10
    refine lv_iconst (v := 1) C.1 C.2.1 dX12_land_54 (by decide) ?_
    exact G_retz C hr hlk hA hW rfl (Option.some.inj hX).symm dX12_land_55
  have hX := br_p hX c8
  refine lv_iconst (v := 0) C.1 C.2.1 dX12_land_38 (by decide) ?_
  exact G_retz C hr hlk hA hW rfl (Option.some.inj hX).symm dX12_land_39
abbrev rm_M_columnOf : Room := { frames := 0, cells := 0, slots := 0, locals := 0 }
def M_columnOf (σ : St) (x1 : Int32) : Option (Int32) := chkI x1 30 (if 0 ≤ (σ.1 8 x1.toNatClampNeg) then chkI x1 30 (some ((σ.1 8 x1.toNatClampNeg) - (σ.1 8 x1.toNatClampNeg) / 8 * 8)) else some (-1))
set_option maxHeartbeats 4000000 in
set_option maxRecDepth 100000 in
theorem c_M_columnOf {Ev : EvT} (l : Launch) (D : va_G) (cs : Nat → ClassId) (h : Nat) (a : Nat → Nat) (σ : St) (x1 : Int32) (X : Int32) (hX : some X = M_columnOf σ x1) : cGi Ev l D (tyM cs) (wM h a cs) yX12_columnOf wsX12_columnOf rm_M_columnOf 0 0 [.ref h, .int x1] σ (fun r u => r = X ∧ u = σ) := by
  refine G_ini (cc := cX12_columnOf) (maxL := 2) (ret := some .int) (by decide) rfl (Nat.le_of_ble_eq_true rfl) ?_
  intro p e s m below meth c A ls C hr hlk hini hA hW hl
  have C : Cx p s m _ c cX12_columnOf 2 wsX12_columnOf RX12 := C
  have hl : lv_has ls 2 [(0, .ref h), (1, .int x1)] := hl
  have hin : ∀ w ∈ wsX120, w ∈ wsX12_columnOf := fun w hw => List.mem_cons_of_mem _ (List.mem_append_right _ hw)
  have f8 : (Cond.fieldLink RX12 23 (TX12 8).1 (TX12 8).2.1 (TX12 8).2.2.1).before _ s = true := C.2.2.2.2 _ (List.mem_of_getElem? (i := 1) rfl)
  obtain ⟨H, hH⟩ : ∃ H, H = s.heap := ⟨_, rfl⟩
  obtain ⟨locs, hlo⟩ : ∃ z : List Loc, z = [] := ⟨_, rfl⟩
  have hW : GW Ev D (tyM cs) (wM h a cs) A s σ H locs := by rw [hH, hlo]; exact hW
  rw [show W p l e rm_M_columnOf s m _ below meth c s.heap [] = W p l e rm_M_columnOf s m _ below meth c H locs from by rw [hH, hlo]]
  unfold M_columnOf at hX
  refine lv_aload_n C.1 C.2.1 dX12_columnOf_0 rfl (lv_at hl 0 rfl) ?_
  refine M_geta C hin hW 8 rfl (by decide) f8 dX12_columnOf_1 ?_
  refine lv_iload_n C.1 C.2.1 dX12_columnOf_4 rfl (lv_at hl 1 rfl) ?_
  obtain ⟨hi, hX⟩ := chkI_st hX
  refine M_ldI C hW 8 rfl hi dX12_columnOf_5 ?_
  refine lv_if_ge (tgt := 13) C.1 C.2.1 dX12_columnOf_6 (by decide) (fun c1 => ?_) (fun c1 => ?_)
  · have hX := br_p hX c1
    refine lv_aload_n C.1 C.2.1 dX12_columnOf_13 rfl (lv_at hl 0 rfl) ?_
    refine M_geta C hin hW 8 rfl (by decide) f8 dX12_columnOf_14 ?_
    refine lv_iload_n C.1 C.2.1 dX12_columnOf_17 rfl (lv_at hl 1 rfl) ?_
    obtain ⟨hi, hX⟩ := chkI_st hX
    refine M_ldI C hW 8 rfl hi dX12_columnOf_18 ?_
    refine lv_bipush (v := 8) C.1 C.2.1 dX12_columnOf_19 (by decide) ?_
    refine lv_irem C.1 C.2.1 dX12_columnOf_21 (by decide) ?_
    exact G_reti C hr hlk hA hW ⟨(Option.some.inj hX).symm, rfl⟩ dX12_columnOf_22
  have hX := br_n hX c1
  refine lv_iconst (v := -1) C.1 C.2.1 dX12_columnOf_9 (by decide) ?_
  refine lv_goto (tgt := 22) C.1 C.2.1 dX12_columnOf_10 (by decide) ?_
  exact G_reti C hr hlk hA hW ⟨(Option.some.inj hX).symm, rfl⟩ dX12_columnOf_22
abbrev rm_M_far : Room := { frames := 1, cells := 0, slots := 0, locals := 21 }
def M_far (σ : St) (x1 : Int32) (x2 : Int32) : Option (Int32) := chkI x1 30 (nm ((x2 / 8) - (σ.1 9 x1.toNatClampNeg)) (fun v1 => bnd (M_columnOf σ x1) (fun v3 => nm ((x2 - x2 / 8 * 8) - v3) (fun v4 => if 0 ≤ v1 then if 0 ≤ v4 then some (v1 + v4) else some (v1 + (-v4)) else if 0 ≤ v4 then some ((-v1) + v4) else some ((-v1) + (-v4))))))
set_option maxHeartbeats 4000000 in
set_option maxRecDepth 100000 in
theorem c_M_far {Ev : EvT} (l : Launch) (D : va_G) (cs : Nat → ClassId) (h : Nat) (a : Nat → Nat) (σ : St) (x1 : Int32) (x2 : Int32) (X : Int32) (hX : some X = M_far σ x1 x2) : cGi Ev l D (tyM cs) (wM h a cs) yX12_far wsX12_far rm_M_far 0 0 [.ref h, .int x1, .int x2] σ (fun r u => r = X ∧ u = σ) := by
  refine G_ini (cc := cX12_far) (maxL := 5) (ret := some .int) (by decide) rfl (Nat.le_of_ble_eq_true rfl) ?_
  intro p e s m below meth c A ls C hr hlk hini hA hW hl
  have C : Cx p s m _ c cX12_far 5 wsX12_far RX12 := C
  have hl : lv_has ls 5 [(0, .ref h), (1, .int x1), (2, .int x2)] := hl
  have hin : ∀ w ∈ wsX120, w ∈ wsX12_far := fun w hw => List.mem_cons_of_mem _ (List.mem_append_right _ hw)
  have f9 : (Cond.fieldLink RX12 26 (TX12 9).1 (TX12 9).2.1 (TX12 9).2.2.1).before _ s = true := C.2.2.2.2 _ (List.mem_of_getElem? (i := 1) rfl)
  obtain ⟨H, hH⟩ : ∃ H, H = s.heap := ⟨_, rfl⟩
  obtain ⟨locs, hlo⟩ : ∃ z : List Loc, z = [] := ⟨_, rfl⟩
  have hW : GW Ev D (tyM cs) (wM h a cs) A s σ H locs := by rw [hH, hlo]; exact hW
  rw [show W p l e rm_M_far s m _ below meth c s.heap [] = W p l e rm_M_far s m _ below meth c H locs from by rw [hH, hlo]]
  unfold M_far at hX
  refine lv_iload_n C.1 C.2.1 dX12_far_0 rfl (lv_at hl 2 rfl) ?_
  refine lv_bipush (v := 8) C.1 C.2.1 dX12_far_1 (by decide) ?_
  refine lv_idiv C.1 C.2.1 dX12_far_3 (by decide) ?_
  refine lv_aload_n C.1 C.2.1 dX12_far_4 rfl (lv_at hl 0 rfl) ?_
  refine M_geta C hin hW 9 rfl (by decide) f9 dX12_far_5 ?_
  refine lv_iload_n C.1 C.2.1 dX12_far_8 rfl (lv_at hl 1 rfl) ?_
  obtain ⟨hi, hX⟩ := chkI_st hX
  refine M_ldI C hW 9 rfl hi dX12_far_9 ?_
  refine lv_isub C.1 C.2.1 dX12_far_10 ?_
  refine lv_topi (fun v1 ev1 => ?_)
  have hX := nm_st hX ev1
  refine lv_istore_n (lv' := [(3, .int v1), (0, .ref h), (1, .int x1), (2, .int x2)]) C.1 C.2.1 dX12_far_11 rfl hl (by decide) rfl (fun ls hl => ?_)
  refine lv_iload_n C.1 C.2.1 dX12_far_12 rfl (lv_at hl 3 rfl) ?_
  refine lv_bipush (v := 8) C.1 C.2.1 dX12_far_13 (by decide) ?_
  refine lv_irem C.1 C.2.1 dX12_far_15 (by decide) ?_
  refine lv_aload_n C.1 C.2.1 dX12_far_16 rfl (lv_at hl 1 rfl) ?_
  refine lv_iload_n C.1 C.2.1 dX12_far_17 rfl (lv_at hl 2 rfl) ?_
  obtain ⟨v3, hq, hX⟩ := bnd_st hX
  refine G_V0p (As := [.int x1]) (rest := [.int (x2 - x2 / 8 * 8)]) C hW (c_M_columnOf l D cs h a σ x1 v3 hq.symm) (cwV 1 C.2.2.2.2 gX12_far_X12_columnOf rfl rfl rfl (by decide +kernel) ⟨Nat.le_of_ble_eq_true rfl, Nat.le_of_ble_eq_true rfl⟩) (M_recv hW) rfl hl.1 rfl (Nat.le_of_ble_eq_true rfl) dX12_far_18 (fun H locs hW => ?_)
  refine lv_isub C.1 C.2.1 dX12_far_21 ?_
  refine lv_topi (fun v4 ev4 => ?_)
  have hX := nm_st hX ev4
  refine lv_istore (lv' := [(4, .int v4), (3, .int v1), (0, .ref h), (1, .int x1), (2, .int x2)]) C.1 C.2.1 dX12_far_22 hl (by decide) rfl (fun ls hl => ?_)
  refine lv_iload_n C.1 C.2.1 dX12_far_24 rfl (lv_at hl 1 rfl) ?_
  refine lv_if_ge (tgt := 33) C.1 C.2.1 dX12_far_25 (by decide) (fun c5 => ?_) (fun c5 => ?_)
  · have hX := br_p hX c5
    refine lv_iload_n C.1 C.2.1 dX12_far_33 rfl (lv_at hl 1 rfl) ?_
    refine lv_iload C.1 C.2.1 dX12_far_34 (lv_at hl 0 rfl) ?_
    refine lv_if_ge (tgt := 45) C.1 C.2.1 dX12_far_36 (by decide) (fun c6 => ?_) (fun c6 => ?_)
    · have hX := br_p hX c6
      refine lv_iload C.1 C.2.1 dX12_far_45 (lv_at hl 0 rfl) ?_
      refine lv_iadd C.1 C.2.1 dX12_far_47 ?_
      exact G_reti C hr hlk hA hW ⟨(Option.some.inj hX).symm, rfl⟩ dX12_far_48
    have hX := br_n hX c6
    refine lv_iload C.1 C.2.1 dX12_far_39 (lv_at hl 0 rfl) ?_
    refine lv_ineg C.1 C.2.1 dX12_far_41 ?_
    refine lv_goto (tgt := 47) C.1 C.2.1 dX12_far_42 (by decide) ?_
    refine lv_iadd C.1 C.2.1 dX12_far_47 ?_
    exact G_reti C hr hlk hA hW ⟨(Option.some.inj hX).symm, rfl⟩ dX12_far_48
  have hX := br_n hX c5
  refine lv_iload_n C.1 C.2.1 dX12_far_28 rfl (lv_at hl 1 rfl) ?_
  refine lv_ineg C.1 C.2.1 dX12_far_29 ?_
  refine lv_goto (tgt := 34) C.1 C.2.1 dX12_far_30 (by decide) ?_
  refine lv_iload C.1 C.2.1 dX12_far_34 (lv_at hl 0 rfl) ?_
  refine lv_if_ge (tgt := 45) C.1 C.2.1 dX12_far_36 (by decide) (fun c7 => ?_) (fun c7 => ?_)
  · have hX := br_p hX c7
    refine lv_iload C.1 C.2.1 dX12_far_45 (lv_at hl 0 rfl) ?_
    refine lv_iadd C.1 C.2.1 dX12_far_47 ?_
    exact G_reti C hr hlk hA hW ⟨(Option.some.inj hX).symm, rfl⟩ dX12_far_48
  have hX := br_n hX c7
  refine lv_iload C.1 C.2.1 dX12_far_39 (lv_at hl 0 rfl) ?_
  refine lv_ineg C.1 C.2.1 dX12_far_41 ?_
  refine lv_goto (tgt := 47) C.1 C.2.1 dX12_far_42 (by decide) ?_
  refine lv_iadd C.1 C.2.1 dX12_far_47 ?_
  exact G_reti C hr hlk hA hW ⟨(Option.some.inj hX).symm, rfl⟩ dX12_far_48
abbrev rm_M_isBetter : Room := { frames := 2, cells := 0, slots := 0, locals := 45 }
def M_isBetter (σ : St) (x1 : Int32) (x2 : Int32) (x3 : Int32) : Option (Int32) := if 0 ≤ x3 then chkI x2 64 (chkI x3 64 (if (σ.1 5 x2.toNatClampNeg) = (σ.1 5 x3.toNatClampNeg) then bnd (M_far σ x1 x2) (fun v4 => bnd (M_far σ x1 x3) (fun v6 => if v4 = v6 then if x3 ≤ x2 then some 0 else some 1 else bnd (M_far σ x1 x2) (fun v10 => bnd (M_far σ x1 x3) (fun v12 => if v12 ≤ v10 then some 0 else some 1)))) else chkI x2 64 (chkI x3 64 (if (σ.1 5 x2.toNatClampNeg) ≤ (σ.1 5 x3.toNatClampNeg) then some 0 else some 1)))) else some 1
set_option maxHeartbeats 4000000 in
set_option maxRecDepth 100000 in
theorem c_M_isBetter {Ev : EvT} (l : Launch) (D : va_G) (cs : Nat → ClassId) (h : Nat) (a : Nat → Nat) (σ : St) (x1 : Int32) (x2 : Int32) (x3 : Int32) (X : Int32) (hX : some X = M_isBetter σ x1 x2 x3) : cGi Ev l D (tyM cs) (wM h a cs) yX12_isBetter wsX12_isBetter rm_M_isBetter 0 0 [.ref h, .int x1, .int x2, .int x3] σ (fun r u => r = X ∧ u = σ) := by
  refine G_ini (cc := cX12_isBetter) (maxL := 4) (ret := some .boolean) (by decide) rfl (Nat.le_of_ble_eq_true rfl) ?_
  intro p e s m below meth c A ls C hr hlk hini hA hW hl
  have C : Cx p s m _ c cX12_isBetter 4 wsX12_isBetter RX12 := C
  have hl : lv_has ls 4 [(0, .ref h), (1, .int x1), (2, .int x2), (3, .int x3)] := hl
  have hin : ∀ w ∈ wsX120, w ∈ wsX12_isBetter := fun w hw => List.mem_cons_of_mem _ (List.mem_append_right _ hw)
  have f5 : (Cond.fieldLink RX12 13 (TX12 5).1 (TX12 5).2.1 (TX12 5).2.2.1).before _ s = true := C.2.2.2.2 _ (List.mem_of_getElem? (i := 1) rfl)
  obtain ⟨H, hH⟩ : ∃ H, H = s.heap := ⟨_, rfl⟩
  obtain ⟨locs, hlo⟩ : ∃ z : List Loc, z = [] := ⟨_, rfl⟩
  have hW : GW Ev D (tyM cs) (wM h a cs) A s σ H locs := by rw [hH, hlo]; exact hW
  rw [show W p l e rm_M_isBetter s m _ below meth c s.heap [] = W p l e rm_M_isBetter s m _ below meth c H locs from by rw [hH, hlo]]
  unfold M_isBetter at hX
  refine lv_iload_n C.1 C.2.1 dX12_isBetter_0 rfl (lv_at hl 3 rfl) ?_
  refine lv_if_ge (tgt := 6) C.1 C.2.1 dX12_isBetter_1 (by decide) (fun c1 => ?_) (fun c1 => ?_)
  · have hX := br_p hX c1
    refine lv_aload_n C.1 C.2.1 dX12_isBetter_6 rfl (lv_at hl 0 rfl) ?_
    refine M_geta C hin hW 5 rfl (by decide) f5 dX12_isBetter_7 ?_
    refine lv_iload_n C.1 C.2.1 dX12_isBetter_10 rfl (lv_at hl 2 rfl) ?_
    obtain ⟨hi, hX⟩ := chkI_st hX
    refine M_ldI C hW 5 rfl hi dX12_isBetter_11 ?_
    refine lv_aload_n C.1 C.2.1 dX12_isBetter_12 rfl (lv_at hl 0 rfl) ?_
    refine M_geta C hin hW 5 rfl (by decide) f5 dX12_isBetter_13 ?_
    refine lv_iload_n C.1 C.2.1 dX12_isBetter_16 rfl (lv_at hl 3 rfl) ?_
    obtain ⟨hi, hX⟩ := chkI_st hX
    refine M_ldI C hW 5 rfl hi dX12_isBetter_17 ?_
    refine lv_icmp_eq (tgt := 42) C.1 C.2.1 dX12_isBetter_18 (by decide) (fun c2 => ?_) (fun c2 => ?_)
    · have hX := br_p hX c2
      refine lv_aload_n C.1 C.2.1 dX12_isBetter_42 rfl (lv_at hl 0 rfl) ?_
      refine lv_iload_n C.1 C.2.1 dX12_isBetter_43 rfl (lv_at hl 1 rfl) ?_
      refine lv_iload_n C.1 C.2.1 dX12_isBetter_44 rfl (lv_at hl 2 rfl) ?_
      obtain ⟨v4, hq, hX⟩ := bnd_st hX
      refine G_V0p (As := [.int x1, .int x2]) (rest := []) C hW (c_M_far l D cs h a σ x1 x2 v4 hq.symm) (cwV 2 C.2.2.2.2 gX12_isBetter_X12_far rfl rfl rfl (by decide +kernel) ⟨Nat.le_of_ble_eq_true rfl, Nat.le_of_ble_eq_true rfl⟩) (M_recv hW) rfl hl.1 rfl (Nat.le_of_ble_eq_true rfl) dX12_isBetter_45 (fun H locs hW => ?_)
      refine lv_aload_n C.1 C.2.1 dX12_isBetter_48 rfl (lv_at hl 0 rfl) ?_
      refine lv_iload_n C.1 C.2.1 dX12_isBetter_49 rfl (lv_at hl 1 rfl) ?_
      refine lv_iload_n C.1 C.2.1 dX12_isBetter_50 rfl (lv_at hl 3 rfl) ?_
      obtain ⟨v6, hq, hX⟩ := bnd_st hX
      refine G_V0p (As := [.int x1, .int x3]) (rest := [.int v4]) C hW (c_M_far l D cs h a σ x1 x3 v6 hq.symm) (cwV 2 C.2.2.2.2 gX12_isBetter_X12_far rfl rfl rfl (by decide +kernel) ⟨Nat.le_of_ble_eq_true rfl, Nat.le_of_ble_eq_true rfl⟩) (M_recv hW) rfl hl.1 rfl (Nat.le_of_ble_eq_true rfl) dX12_isBetter_51 (fun H locs hW => ?_)
      refine lv_icmp_eq (tgt := 80) C.1 C.2.1 dX12_isBetter_54 (by decide) (fun c7 => ?_) (fun c7 => ?_)
      · have hX := br_p hX c7
        refine lv_iload_n C.1 C.2.1 dX12_isBetter_80 rfl (lv_at hl 2 rfl) ?_
        refine lv_iload_n C.1 C.2.1 dX12_isBetter_81 rfl (lv_at hl 3 rfl) ?_
        refine lv_icmp_ge (tgt := 89) C.1 C.2.1 dX12_isBetter_82 (by decide) (fun c8 => ?_) (fun c8 => ?_)
        · have hX := br_p hX c8
          refine lv_iconst (v := 0) C.1 C.2.1 dX12_isBetter_89 (by decide) ?_
          exact G_retz C hr hlk hA hW rfl ⟨(Option.some.inj hX).symm, rfl⟩ dX12_isBetter_90
        have hX := br_n hX c8
        refine lv_iconst (v := 1) C.1 C.2.1 dX12_isBetter_85 (by decide) ?_
        refine lv_goto (tgt := 90) C.1 C.2.1 dX12_isBetter_86 (by decide) ?_
        exact G_retz C hr hlk hA hW rfl ⟨(Option.some.inj hX).symm, rfl⟩ dX12_isBetter_90
      have hX := br_n hX c7
      refine lv_aload_n C.1 C.2.1 dX12_isBetter_57 rfl (lv_at hl 0 rfl) ?_
      refine lv_iload_n C.1 C.2.1 dX12_isBetter_58 rfl (lv_at hl 1 rfl) ?_
      refine lv_iload_n C.1 C.2.1 dX12_isBetter_59 rfl (lv_at hl 2 rfl) ?_
      obtain ⟨v10, hq, hX⟩ := bnd_st hX
      refine G_V0p (As := [.int x1, .int x2]) (rest := []) C hW (c_M_far l D cs h a σ x1 x2 v10 hq.symm) (cwV 2 C.2.2.2.2 gX12_isBetter_X12_far rfl rfl rfl (by decide +kernel) ⟨Nat.le_of_ble_eq_true rfl, Nat.le_of_ble_eq_true rfl⟩) (M_recv hW) rfl hl.1 rfl (Nat.le_of_ble_eq_true rfl) dX12_isBetter_60 (fun H locs hW => ?_)
      refine lv_aload_n C.1 C.2.1 dX12_isBetter_63 rfl (lv_at hl 0 rfl) ?_
      refine lv_iload_n C.1 C.2.1 dX12_isBetter_64 rfl (lv_at hl 1 rfl) ?_
      refine lv_iload_n C.1 C.2.1 dX12_isBetter_65 rfl (lv_at hl 3 rfl) ?_
      obtain ⟨v12, hq, hX⟩ := bnd_st hX
      refine G_V0p (As := [.int x1, .int x3]) (rest := [.int v10]) C hW (c_M_far l D cs h a σ x1 x3 v12 hq.symm) (cwV 2 C.2.2.2.2 gX12_isBetter_X12_far rfl rfl rfl (by decide +kernel) ⟨Nat.le_of_ble_eq_true rfl, Nat.le_of_ble_eq_true rfl⟩) (M_recv hW) rfl hl.1 rfl (Nat.le_of_ble_eq_true rfl) dX12_isBetter_66 (fun H locs hW => ?_)
      refine lv_icmp_ge (tgt := 76) C.1 C.2.1 dX12_isBetter_69 (by decide) (fun c13 => ?_) (fun c13 => ?_)
      · have hX := br_p hX c13
        refine lv_iconst (v := 0) C.1 C.2.1 dX12_isBetter_76 (by decide) ?_
        refine lv_goto (tgt := 90) C.1 C.2.1 dX12_isBetter_77 (by decide) ?_
        exact G_retz C hr hlk hA hW rfl ⟨(Option.some.inj hX).symm, rfl⟩ dX12_isBetter_90
      have hX := br_n hX c13
      refine lv_iconst (v := 1) C.1 C.2.1 dX12_isBetter_72 (by decide) ?_
      refine lv_goto (tgt := 90) C.1 C.2.1 dX12_isBetter_73 (by decide) ?_
      exact G_retz C hr hlk hA hW rfl ⟨(Option.some.inj hX).symm, rfl⟩ dX12_isBetter_90
    have hX := br_n hX c2
    refine lv_aload_n C.1 C.2.1 dX12_isBetter_21 rfl (lv_at hl 0 rfl) ?_
    refine M_geta C hin hW 5 rfl (by decide) f5 dX12_isBetter_22 ?_
    refine lv_iload_n C.1 C.2.1 dX12_isBetter_25 rfl (lv_at hl 2 rfl) ?_
    obtain ⟨hi, hX⟩ := chkI_st hX
    refine M_ldI C hW 5 rfl hi dX12_isBetter_26 ?_
    refine lv_aload_n C.1 C.2.1 dX12_isBetter_27 rfl (lv_at hl 0 rfl) ?_
    refine M_geta C hin hW 5 rfl (by decide) f5 dX12_isBetter_28 ?_
    refine lv_iload_n C.1 C.2.1 dX12_isBetter_31 rfl (lv_at hl 3 rfl) ?_
    obtain ⟨hi, hX⟩ := chkI_st hX
    refine M_ldI C hW 5 rfl hi dX12_isBetter_32 ?_
    refine lv_icmp_le (tgt := 40) C.1 C.2.1 dX12_isBetter_33 (by decide) (fun c14 => ?_) (fun c14 => ?_)
    · have hX := br_p hX c14
      refine lv_iconst (v := 0) C.1 C.2.1 dX12_isBetter_40 (by decide) ?_
      exact G_retz C hr hlk hA hW rfl ⟨(Option.some.inj hX).symm, rfl⟩ dX12_isBetter_41
    have hX := br_n hX c14
    refine lv_iconst (v := 1) C.1 C.2.1 dX12_isBetter_36 (by decide) ?_
    refine lv_goto (tgt := 41) C.1 C.2.1 dX12_isBetter_37 (by decide) ?_
    exact G_retz C hr hlk hA hW rfl ⟨(Option.some.inj hX).symm, rfl⟩ dX12_isBetter_41
  have hX := br_n hX c1
  refine lv_iconst (v := 1) C.1 C.2.1 dX12_isBetter_4 (by decide) ?_
  exact G_retz C hr hlk hA hW rfl ⟨(Option.some.inj hX).symm, rfl⟩ dX12_isBetter_5
abbrev rm_M_nextOf : Room := { frames := 1, cells := 0, slots := 0, locals := 21 }
def M_nextOf (σ : St) (x1 : Int32) : Option (Int32) := bnd (M_columnOf σ x1) (fun v2 => chkI x1 30 (nm ((σ.1 12 x1.toNatClampNeg) - (σ.1 12 x1.toNatClampNeg) / 8 * 8) (fun v3 => if v2 = v3 then chkI x1 30 (chkI x1 30 (chkI x1 30 (if ((σ.1 12 x1.toNatClampNeg) / 8) ≤ (σ.1 9 x1.toNatClampNeg) then some ((σ.1 8 x1.toNatClampNeg) + (-8)) else some ((σ.1 8 x1.toNatClampNeg) + 8)))) else chkI x1 30 (if v3 ≤ v2 then some (((8 * (σ.1 9 x1.toNatClampNeg)) + v2) + (-1)) else some (((8 * (σ.1 9 x1.toNatClampNeg)) + v2) + 1)))))
set_option maxHeartbeats 4000000 in
set_option maxRecDepth 100000 in
theorem c_M_nextOf {Ev : EvT} (l : Launch) (D : va_G) (cs : Nat → ClassId) (h : Nat) (a : Nat → Nat) (σ : St) (x1 : Int32) (X : Int32) (hX : some X = M_nextOf σ x1) : cGi Ev l D (tyM cs) (wM h a cs) yX12_nextOf wsX12_nextOf rm_M_nextOf 0 0 [.ref h, .int x1] σ (fun r u => r = X ∧ u = σ) := by
  refine G_ini (cc := cX12_nextOf) (maxL := 4) (ret := some .int) (by decide) rfl (Nat.le_of_ble_eq_true rfl) ?_
  intro p e s m below meth c A ls C hr hlk hini hA hW hl
  have C : Cx p s m _ c cX12_nextOf 4 wsX12_nextOf RX12 := C
  have hl : lv_has ls 4 [(0, .ref h), (1, .int x1)] := hl
  have hin : ∀ w ∈ wsX120, w ∈ wsX12_nextOf := fun w hw => List.mem_cons_of_mem _ (List.mem_append_right _ hw)
  have f8 : (Cond.fieldLink RX12 23 (TX12 8).1 (TX12 8).2.1 (TX12 8).2.2.1).before _ s = true := C.2.2.2.2 _ (List.mem_of_getElem? (i := 3) rfl)
  have f9 : (Cond.fieldLink RX12 26 (TX12 9).1 (TX12 9).2.1 (TX12 9).2.2.1).before _ s = true := C.2.2.2.2 _ (List.mem_of_getElem? (i := 2) rfl)
  have f12 : (Cond.fieldLink RX12 35 (TX12 12).1 (TX12 12).2.1 (TX12 12).2.2.1).before _ s = true := C.2.2.2.2 _ (List.mem_of_getElem? (i := 1) rfl)
  obtain ⟨H, hH⟩ : ∃ H, H = s.heap := ⟨_, rfl⟩
  obtain ⟨locs, hlo⟩ : ∃ z : List Loc, z = [] := ⟨_, rfl⟩
  have hW : GW Ev D (tyM cs) (wM h a cs) A s σ H locs := by rw [hH, hlo]; exact hW
  rw [show W p l e rm_M_nextOf s m _ below meth c s.heap [] = W p l e rm_M_nextOf s m _ below meth c H locs from by rw [hH, hlo]]
  unfold M_nextOf at hX
  refine lv_aload_n C.1 C.2.1 dX12_nextOf_0 rfl (lv_at hl 0 rfl) ?_
  refine lv_iload_n C.1 C.2.1 dX12_nextOf_1 rfl (lv_at hl 1 rfl) ?_
  obtain ⟨v2, hq, hX⟩ := bnd_st hX
  refine G_V0p (As := [.int x1]) (rest := []) C hW (c_M_columnOf l D cs h a σ x1 v2 hq.symm) (cwV 1 C.2.2.2.2 gX12_nextOf_X12_columnOf rfl rfl rfl (by decide +kernel) ⟨Nat.le_of_ble_eq_true rfl, Nat.le_of_ble_eq_true rfl⟩) (M_recv hW) rfl hl.1 rfl (Nat.le_of_ble_eq_true rfl) dX12_nextOf_2 (fun H locs hW => ?_)
  refine lv_istore_n (lv' := [(2, .int v2), (0, .ref h), (1, .int x1)]) C.1 C.2.1 dX12_nextOf_5 rfl hl (by decide) rfl (fun ls hl => ?_)
  refine lv_aload_n C.1 C.2.1 dX12_nextOf_6 rfl (lv_at hl 1 rfl) ?_
  refine M_geta C hin hW 12 rfl (by decide) f12 dX12_nextOf_7 ?_
  refine lv_iload_n C.1 C.2.1 dX12_nextOf_10 rfl (lv_at hl 2 rfl) ?_
  obtain ⟨hi, hX⟩ := chkI_st hX
  refine M_ldI C hW 12 rfl hi dX12_nextOf_11 ?_
  refine lv_bipush (v := 8) C.1 C.2.1 dX12_nextOf_12 (by decide) ?_
  refine lv_irem C.1 C.2.1 dX12_nextOf_14 (by decide) ?_
  refine lv_topi (fun v3 ev3 => ?_)
  have hX := nm_st hX ev3
  refine lv_istore_n (lv' := [(3, .int v3), (2, .int v2), (0, .ref h), (1, .int x1)]) C.1 C.2.1 dX12_nextOf_15 rfl hl (by decide) rfl (fun ls hl => ?_)
  refine lv_iload_n C.1 C.2.1 dX12_nextOf_16 rfl (lv_at hl 1 rfl) ?_
  refine lv_iload_n C.1 C.2.1 dX12_nextOf_17 rfl (lv_at hl 0 rfl) ?_
  refine lv_icmp_eq (tgt := 44) C.1 C.2.1 dX12_nextOf_18 (by decide) (fun c4 => ?_) (fun c4 => ?_)
  · have hX := br_p hX c4
    refine lv_aload_n C.1 C.2.1 dX12_nextOf_44 rfl (lv_at hl 2 rfl) ?_
    refine M_geta C hin hW 8 rfl (by decide) f8 dX12_nextOf_45 ?_
    refine lv_iload_n C.1 C.2.1 dX12_nextOf_48 rfl (lv_at hl 3 rfl) ?_
    obtain ⟨hi, hX⟩ := chkI_st hX
    refine M_ldI C hW 8 rfl hi dX12_nextOf_49 ?_
    refine lv_aload_n C.1 C.2.1 dX12_nextOf_50 rfl (lv_at hl 2 rfl) ?_
    refine M_geta C hin hW 12 rfl (by decide) f12 dX12_nextOf_51 ?_
    refine lv_iload_n C.1 C.2.1 dX12_nextOf_54 rfl (lv_at hl 3 rfl) ?_
    obtain ⟨hi, hX⟩ := chkI_st hX
    refine M_ldI C hW 12 rfl hi dX12_nextOf_55 ?_
    refine lv_bipush (v := 8) C.1 C.2.1 dX12_nextOf_56 (by decide) ?_
    refine lv_idiv C.1 C.2.1 dX12_nextOf_58 (by decide) ?_
    refine lv_aload_n C.1 C.2.1 dX12_nextOf_59 rfl (lv_at hl 2 rfl) ?_
    refine M_geta C hin hW 9 rfl (by decide) f9 dX12_nextOf_60 ?_
    refine lv_iload_n C.1 C.2.1 dX12_nextOf_63 rfl (lv_at hl 3 rfl) ?_
    obtain ⟨hi, hX⟩ := chkI_st hX
    refine M_ldI C hW 9 rfl hi dX12_nextOf_64 ?_
    refine lv_icmp_le (tgt := 73) C.1 C.2.1 dX12_nextOf_65 (by decide) (fun c5 => ?_) (fun c5 => ?_)
    · have hX := br_p hX c5
      refine lv_bipush (v := -8) C.1 C.2.1 dX12_nextOf_73 (by decide) ?_
      refine lv_iadd C.1 C.2.1 dX12_nextOf_75 ?_
      exact G_reti C hr hlk hA hW ⟨(Option.some.inj hX).symm, rfl⟩ dX12_nextOf_76
    have hX := br_n hX c5
    refine lv_bipush (v := 8) C.1 C.2.1 dX12_nextOf_68 (by decide) ?_
    refine lv_goto (tgt := 75) C.1 C.2.1 dX12_nextOf_70 (by decide) ?_
    refine lv_iadd C.1 C.2.1 dX12_nextOf_75 ?_
    exact G_reti C hr hlk hA hW ⟨(Option.some.inj hX).symm, rfl⟩ dX12_nextOf_76
  have hX := br_n hX c4
  refine lv_bipush (v := 8) C.1 C.2.1 dX12_nextOf_21 (by decide) ?_
  refine lv_aload_n C.1 C.2.1 dX12_nextOf_23 rfl (lv_at hl 2 rfl) ?_
  refine M_geta C hin hW 9 rfl (by decide) f9 dX12_nextOf_24 ?_
  refine lv_iload_n C.1 C.2.1 dX12_nextOf_27 rfl (lv_at hl 3 rfl) ?_
  obtain ⟨hi, hX⟩ := chkI_st hX
  refine M_ldI C hW 9 rfl hi dX12_nextOf_28 ?_
  refine lv_imul C.1 C.2.1 dX12_nextOf_29 ?_
  refine lv_iload_n C.1 C.2.1 dX12_nextOf_30 rfl (lv_at hl 1 rfl) ?_
  refine lv_iadd C.1 C.2.1 dX12_nextOf_31 ?_
  refine lv_iload_n C.1 C.2.1 dX12_nextOf_32 rfl (lv_at hl 0 rfl) ?_
  refine lv_iload_n C.1 C.2.1 dX12_nextOf_33 rfl (lv_at hl 1 rfl) ?_
  refine lv_icmp_le (tgt := 41) C.1 C.2.1 dX12_nextOf_34 (by decide) (fun c6 => ?_) (fun c6 => ?_)
  · have hX := br_p hX c6
    refine lv_iconst (v := -1) C.1 C.2.1 dX12_nextOf_41 (by decide) ?_
    refine lv_iadd C.1 C.2.1 dX12_nextOf_42 ?_
    exact G_reti C hr hlk hA hW ⟨(Option.some.inj hX).symm, rfl⟩ dX12_nextOf_43
  have hX := br_n hX c6
  refine lv_iconst (v := 1) C.1 C.2.1 dX12_nextOf_37 (by decide) ?_
  refine lv_goto (tgt := 42) C.1 C.2.1 dX12_nextOf_38 (by decide) ?_
  refine lv_iadd C.1 C.2.1 dX12_nextOf_42 ?_
  exact G_reti C hr hlk hA hW ⟨(Option.some.inj hX).symm, rfl⟩ dX12_nextOf_43
abbrev rm_M_setOut : Room := { frames := 2, cells := 0, slots := 0, locals := 44 }
def M_setOut (σ : St) (x1 : Int32) : Option (St) := chkI x1 30 (bnd (M_nextOf σ x1) (fun v2 => chkI v2 64 (chkI x1 30 (nm (s1 σ 13 x1.toNatClampNeg ((σ.1 21 0) + ((σ.1 10 x1.toNatClampNeg) * (1 + (σ.1 6 v2.toNatClampNeg))))) (fun σ3 => some σ3)))))
set_option maxHeartbeats 4000000 in
set_option maxRecDepth 100000 in
theorem c_M_setOut {Ev : EvT} (l : Launch) (D : va_G) (cs : Nat → ClassId) (h : Nat) (a : Nat → Nat) (σ : St) (x1 : Int32) (X : St) (hX : some X = M_setOut σ x1) : cGv Ev l D (tyM cs) (wM h a cs) yX12_setOut wsX12_setOut rm_M_setOut 0 0 [.ref h, .int x1] σ (fun u => u = X) := by
  refine G_inv (cc := cX12_setOut) (maxL := 2) (ret := none) (by decide) rfl (Nat.le_of_ble_eq_true rfl) ?_
  intro p e s m below meth c A ls C hr hlk hini hA hW hl
  have C : Cx p s m _ c cX12_setOut 2 wsX12_setOut RX12 := C
  have hl : lv_has ls 2 [(0, .ref h), (1, .int x1)] := hl
  have hin : ∀ w ∈ wsX120, w ∈ wsX12_setOut := fun w hw => List.mem_cons_of_mem _ (List.mem_append_right _ hw)
  have f6 : (Cond.fieldLink RX12 17 (TX12 6).1 (TX12 6).2.1 (TX12 6).2.2.1).before _ s = true := C.2.2.2.2 _ (List.mem_of_getElem? (i := 4) rfl)
  have f10 : (Cond.fieldLink RX12 29 (TX12 10).1 (TX12 10).2.1 (TX12 10).2.2.1).before _ s = true := C.2.2.2.2 _ (List.mem_of_getElem? (i := 3) rfl)
  have f13 : (Cond.fieldLink RX12 38 (TX12 13).1 (TX12 13).2.1 (TX12 13).2.2.1).before _ s = true := C.2.2.2.2 _ (List.mem_of_getElem? (i := 1) rfl)
  have f21 : (Cond.fieldLink RX12 176 (TX12 21).1 (TX12 21).2.1 (TX12 21).2.2.1).before _ s = true := C.2.2.2.2 _ (List.mem_of_getElem? (i := 2) rfl)
  obtain ⟨H, hH⟩ : ∃ H, H = s.heap := ⟨_, rfl⟩
  obtain ⟨locs, hlo⟩ : ∃ z : List Loc, z = [] := ⟨_, rfl⟩
  have hW : GW Ev D (tyM cs) (wM h a cs) A s σ H locs := by rw [hH, hlo]; exact hW
  rw [show W p l e rm_M_setOut s m _ below meth c s.heap [] = W p l e rm_M_setOut s m _ below meth c H locs from by rw [hH, hlo]]
  unfold M_setOut at hX
  refine lv_aload_n C.1 C.2.1 dX12_setOut_0 rfl (lv_at hl 0 rfl) ?_
  refine M_geta C hin hW 13 rfl (by decide) f13 dX12_setOut_1 ?_
  refine lv_iload_n C.1 C.2.1 dX12_setOut_4 rfl (lv_at hl 1 rfl) ?_
  refine lv_aload_n C.1 C.2.1 dX12_setOut_5 rfl (lv_at hl 0 rfl) ?_
  refine M_geti C hin hW 21 (by decide) f21 dX12_setOut_6 ?_
  refine lv_aload_n C.1 C.2.1 dX12_setOut_9 rfl (lv_at hl 0 rfl) ?_
  refine M_geta C hin hW 10 rfl (by decide) f10 dX12_setOut_10 ?_
  refine lv_iload_n C.1 C.2.1 dX12_setOut_13 rfl (lv_at hl 1 rfl) ?_
  obtain ⟨hi, hX⟩ := chkI_st hX
  refine M_ldI C hW 10 rfl hi dX12_setOut_14 ?_
  refine lv_iconst (v := 1) C.1 C.2.1 dX12_setOut_15 (by decide) ?_
  refine lv_aload_n C.1 C.2.1 dX12_setOut_16 rfl (lv_at hl 0 rfl) ?_
  refine M_geta C hin hW 6 rfl (by decide) f6 dX12_setOut_17 ?_
  refine lv_aload_n C.1 C.2.1 dX12_setOut_20 rfl (lv_at hl 0 rfl) ?_
  refine lv_iload_n C.1 C.2.1 dX12_setOut_21 rfl (lv_at hl 1 rfl) ?_
  obtain ⟨v2, hq, hX⟩ := bnd_st hX
  refine G_V0p (As := [.int x1]) (rest := [.ref ((a 6)), .int 1, .int (σ.1 10 x1.toNatClampNeg), .int (σ.1 21 0), .int x1, .ref ((a 13))]) C hW (c_M_nextOf l D cs h a σ x1 v2 hq.symm) (cwV 1 C.2.2.2.2 gX12_setOut_X12_nextOf rfl rfl rfl (by decide +kernel) ⟨Nat.le_of_ble_eq_true rfl, Nat.le_of_ble_eq_true rfl⟩) (M_recv hW) rfl hl.1 rfl (Nat.le_of_ble_eq_true rfl) dX12_setOut_22 (fun H locs hW => ?_)
  obtain ⟨hi, hX⟩ := chkI_st hX
  refine M_ldI C hW 6 rfl hi dX12_setOut_25 ?_
  refine lv_iadd C.1 C.2.1 dX12_setOut_26 ?_
  refine lv_imul C.1 C.2.1 dX12_setOut_27 ?_
  refine lv_iadd C.1 C.2.1 dX12_setOut_28 ?_
  obtain ⟨hi, hX⟩ := chkI_st hX
  refine M_stI C hW 13 rfl hi dX12_setOut_29 (fun H locs σ3 eσ3 hW => ?_)
  have hX := nm_st hX eσ3
  exact G_retv C hr hlk hA hW (Option.some.inj hX).symm dX12_setOut_30
abbrev rm_M_stakes : Room := { frames := 0, cells := 0, slots := 0, locals := 0 }
def M_stakes (σ : St) (x1 : Int32) : Option (St) := chkI x1 30 (chkI (σ.1 8 x1.toNatClampNeg) 64 (nm (s1 σ 7 (σ.1 8 x1.toNatClampNeg).toNatClampNeg x1) (fun σ1 => chkI x1 30 (chkI x1 30 (nm (s1 σ1 14 x1.toNatClampNeg (σ1.1 8 x1.toNatClampNeg)) (fun σ2 => chkI x1 30 (nm (s1 σ2 15 x1.toNatClampNeg (σ2.1 21 0)) (fun σ3 => chkI x1 30 (nm (s1 σ3 12 x1.toNatClampNeg (-1)) (fun σ4 => some σ4))))))))))
set_option maxHeartbeats 4000000 in
set_option maxRecDepth 100000 in
theorem c_M_stakes {Ev : EvT} (l : Launch) (D : va_G) (cs : Nat → ClassId) (h : Nat) (a : Nat → Nat) (σ : St) (x1 : Int32) (X : St) (hX : some X = M_stakes σ x1) : cGv Ev l D (tyM cs) (wM h a cs) yX12_stakes wsX12_stakes rm_M_stakes 0 0 [.ref h, .int x1] σ (fun u => u = X) := by
  refine G_inv (cc := cX12_stakes) (maxL := 2) (ret := none) (by decide) rfl (Nat.le_of_ble_eq_true rfl) ?_
  intro p e s m below meth c A ls C hr hlk hini hA hW hl
  have C : Cx p s m _ c cX12_stakes 2 wsX12_stakes RX12 := C
  have hl : lv_has ls 2 [(0, .ref h), (1, .int x1)] := hl
  have hin : ∀ w ∈ wsX120, w ∈ wsX12_stakes := fun w hw => List.mem_cons_of_mem _ (List.mem_append_right _ hw)
  have f7 : (Cond.fieldLink RX12 20 (TX12 7).1 (TX12 7).2.1 (TX12 7).2.2.1).before _ s = true := C.2.2.2.2 _ (List.mem_of_getElem? (i := 1) rfl)
  have f8 : (Cond.fieldLink RX12 23 (TX12 8).1 (TX12 8).2.1 (TX12 8).2.2.1).before _ s = true := C.2.2.2.2 _ (List.mem_of_getElem? (i := 2) rfl)
  have f12 : (Cond.fieldLink RX12 35 (TX12 12).1 (TX12 12).2.1 (TX12 12).2.2.1).before _ s = true := C.2.2.2.2 _ (List.mem_of_getElem? (i := 6) rfl)
  have f14 : (Cond.fieldLink RX12 41 (TX12 14).1 (TX12 14).2.1 (TX12 14).2.2.1).before _ s = true := C.2.2.2.2 _ (List.mem_of_getElem? (i := 3) rfl)
  have f15 : (Cond.fieldLink RX12 44 (TX12 15).1 (TX12 15).2.1 (TX12 15).2.2.1).before _ s = true := C.2.2.2.2 _ (List.mem_of_getElem? (i := 4) rfl)
  have f21 : (Cond.fieldLink RX12 176 (TX12 21).1 (TX12 21).2.1 (TX12 21).2.2.1).before _ s = true := C.2.2.2.2 _ (List.mem_of_getElem? (i := 5) rfl)
  obtain ⟨H, hH⟩ : ∃ H, H = s.heap := ⟨_, rfl⟩
  obtain ⟨locs, hlo⟩ : ∃ z : List Loc, z = [] := ⟨_, rfl⟩
  have hW : GW Ev D (tyM cs) (wM h a cs) A s σ H locs := by rw [hH, hlo]; exact hW
  rw [show W p l e rm_M_stakes s m _ below meth c s.heap [] = W p l e rm_M_stakes s m _ below meth c H locs from by rw [hH, hlo]]
  unfold M_stakes at hX
  refine lv_aload_n C.1 C.2.1 dX12_stakes_0 rfl (lv_at hl 0 rfl) ?_
  refine M_geta C hin hW 7 rfl (by decide) f7 dX12_stakes_1 ?_
  refine lv_aload_n C.1 C.2.1 dX12_stakes_4 rfl (lv_at hl 0 rfl) ?_
  refine M_geta C hin hW 8 rfl (by decide) f8 dX12_stakes_5 ?_
  refine lv_iload_n C.1 C.2.1 dX12_stakes_8 rfl (lv_at hl 1 rfl) ?_
  obtain ⟨hi, hX⟩ := chkI_st hX
  refine M_ldI C hW 8 rfl hi dX12_stakes_9 ?_
  refine lv_iload_n C.1 C.2.1 dX12_stakes_10 rfl (lv_at hl 1 rfl) ?_
  obtain ⟨hi, hX⟩ := chkI_st hX
  refine M_stI C hW 7 rfl hi dX12_stakes_11 (fun H locs σ1 eσ1 hW => ?_)
  have hX := nm_st hX eσ1
  refine lv_aload_n C.1 C.2.1 dX12_stakes_12 rfl (lv_at hl 0 rfl) ?_
  refine M_geta C hin hW 14 rfl (by decide) f14 dX12_stakes_13 ?_
  refine lv_iload_n C.1 C.2.1 dX12_stakes_16 rfl (lv_at hl 1 rfl) ?_
  refine lv_aload_n C.1 C.2.1 dX12_stakes_17 rfl (lv_at hl 0 rfl) ?_
  refine M_geta C hin hW 8 rfl (by decide) f8 dX12_stakes_18 ?_
  refine lv_iload_n C.1 C.2.1 dX12_stakes_21 rfl (lv_at hl 1 rfl) ?_
  obtain ⟨hi, hX⟩ := chkI_st hX
  refine M_ldI C hW 8 rfl hi dX12_stakes_22 ?_
  obtain ⟨hi, hX⟩ := chkI_st hX
  refine M_stI C hW 14 rfl hi dX12_stakes_23 (fun H locs σ2 eσ2 hW => ?_)
  have hX := nm_st hX eσ2
  refine lv_aload_n C.1 C.2.1 dX12_stakes_24 rfl (lv_at hl 0 rfl) ?_
  refine M_geta C hin hW 15 rfl (by decide) f15 dX12_stakes_25 ?_
  refine lv_iload_n C.1 C.2.1 dX12_stakes_28 rfl (lv_at hl 1 rfl) ?_
  refine lv_aload_n C.1 C.2.1 dX12_stakes_29 rfl (lv_at hl 0 rfl) ?_
  refine M_geti C hin hW 21 (by decide) f21 dX12_stakes_30 ?_
  obtain ⟨hi, hX⟩ := chkI_st hX
  refine M_stI C hW 15 rfl hi dX12_stakes_33 (fun H locs σ3 eσ3 hW => ?_)
  have hX := nm_st hX eσ3
  refine lv_aload_n C.1 C.2.1 dX12_stakes_34 rfl (lv_at hl 0 rfl) ?_
  refine M_geta C hin hW 12 rfl (by decide) f12 dX12_stakes_35 ?_
  refine lv_iload_n C.1 C.2.1 dX12_stakes_38 rfl (lv_at hl 1 rfl) ?_
  refine lv_iconst (v := -1) C.1 C.2.1 dX12_stakes_39 (by decide) ?_
  obtain ⟨hi, hX⟩ := chkI_st hX
  refine M_stI C hW 12 rfl hi dX12_stakes_40 (fun H locs σ4 eσ4 hW => ?_)
  have hX := nm_st hX eσ4
  exact G_retv C hr hlk hA hW (Option.some.inj hX).symm dX12_stakes_41
abbrev rm_M_manySeen : Room := { frames := 0, cells := 0, slots := 0, locals := 0 }
def M_manySeen_L4 : Nat → St → Int32 → Int32 → Int32 → Option (Int32 × Int32)
  | 0, _, _, _, _ => none
  | n + 1, σ, x3, x2, x1 => if 64 ≤ x3 then some (x3, x2) else chkI x1 30 (if (lg_cmp (((σ.2 18 x1.toNatClampNeg) >>> (x3.toInt64 &&& 63)) &&& 1) 1) = 0 then nm (x2 + 1) (fun v11 => nm (x3 + 1) (fun v12 => M_manySeen_L4 n σ v12 v11 x1)) else nm (x2 + 0) (fun v9 => nm (x3 + 1) (fun v10 => M_manySeen_L4 n σ v10 v9 x1)))
set_option maxHeartbeats 4000000 in
set_option maxRecDepth 100000 in
theorem r_M_manySeen_L4 {p : Program} {l : Launch} {e : Env} {s : State} {m : MethodId} {args : Array Value} {below : List Frame} {meth : Method} {c : Code} {Q : State → Prop} {Ev : EvT} {D : va_G} {cs : Nat → ClassId} {h : Nat} {a : Nat → Nat} {A : Nat → Prop} (C : Cx p s m args c cX12_manySeen 4 wsX12_manySeen RX12) : ∀ (n : Nat) (σ : St) (x3 : Int32) (x2 : Int32) (x1 : Int32) (H : Heap) (locs : List Loc) (ls : Array Slot) (X : Int32 × Int32), some X = M_manySeen_L4 n σ x3 x2 x1 → GW Ev D (tyM cs) (wM h a cs) A s σ H locs → lv_has ls 4 [(3, .int x3), (2, .int x2), (0, .ref h), (1, .int x1)] → (∀ (z3 : Int32) (z2 : Int32) (H : Heap) (locs : List Loc) (ls : Array Slot), X = (z3, z2) → GW Ev D (tyM cs) (wM h a cs) A s σ H locs → lv_has ls 4 [(3, .int z3), (2, .int z2), (0, .ref h), (1, .int x1)] → W p l e rm_M_manySeen s m args below meth c H locs 0 0 Q (F0 m 39 ls [])) → W p l e rm_M_manySeen s m args below meth c H locs 0 0 Q (F0 m 4 ls []) := by
  have hin : ∀ w ∈ wsX120, w ∈ wsX12_manySeen := fun w hw => List.mem_cons_of_mem _ (List.mem_append_right _ hw)
  have f18 : (Cond.fieldLink RX12 53 (TX12 18).1 (TX12 18).2.1 (TX12 18).2.2.1).before _ s = true := C.2.2.2.2 _ (List.mem_of_getElem? (i := 1) rfl)
  intro n
  induction n with
  | zero =>
    intro σ x3 x2 x1 H locs ls X hX hW hl K0
    cases hX
  | succ n ih =>
    intro σ x3 x2 x1 H locs ls X hX hW hl K0
    unfold M_manySeen_L4 at hX
    refine lv_iload_n C.1 C.2.1 dX12_manySeen_4 rfl (lv_at hl 0 rfl) ?_
    refine lv_bipush (v := 64) C.1 C.2.1 dX12_manySeen_5 (by decide) ?_
    refine lv_icmp_ge (tgt := 39) C.1 C.2.1 dX12_manySeen_7 (by decide) (fun c7 => ?_) (fun c7 => ?_)
    · have hX := br_p hX c7
      exact K0 x3 x2 H locs ls (Option.some.inj hX) hW (lv_sub hl [0, 1, 2, 3] rfl)
    have hX := br_n hX c7
    refine lv_iload_n C.1 C.2.1 dX12_manySeen_10 rfl (lv_at hl 1 rfl) ?_
    refine lv_aload_n C.1 C.2.1 dX12_manySeen_11 rfl (lv_at hl 2 rfl) ?_
    refine M_geta C hin hW 18 rfl (by decide) f18 dX12_manySeen_12 ?_
    refine lv_iload_n C.1 C.2.1 dX12_manySeen_15 rfl (lv_at hl 3 rfl) ?_
    obtain ⟨hi, hX⟩ := chkI_st hX
    refine M_ldJ C hW 18 rfl hi dX12_manySeen_16 ?_
    refine lv_iload_n C.1 C.2.1 dX12_manySeen_17 rfl (lv_at hl 0 rfl) ?_
    refine lv_lshr C.1 C.2.1 dX12_manySeen_18 rfl ?_
    refine lv_lconst (v := 1) C.1 C.2.1 dX12_manySeen_19 (by decide) ?_
    refine lv_land C.1 C.2.1 dX12_manySeen_20 ?_
    refine lv_lconst (v := 1) C.1 C.2.1 dX12_manySeen_21 (by decide) ?_
    refine W.lcmp C.1 C.2.1 dX12_manySeen_22 ?_
    refine lv_if_ne (tgt := 30) C.1 C.2.1 dX12_manySeen_23 (by decide) (fun c8 => ?_) (fun c8 => ?_)
    · have hX := br_n hX c8
      refine lv_iconst (v := 0) C.1 C.2.1 dX12_manySeen_30 (by decide) ?_
      refine lv_iadd C.1 C.2.1 dX12_manySeen_31 ?_
      refine lv_topi (fun v9 ev9 => ?_)
      have hX := nm_st hX ev9
      refine lv_istore_n (lv' := [(2, .int v9), (3, .int x3), (0, .ref h), (1, .int x1)]) C.1 C.2.1 dX12_manySeen_32 rfl hl (by decide) rfl (fun ls hl => ?_)
      obtain ⟨v10, ev10⟩ : ∃ z : Int32, z = x3 + 1 := ⟨_, rfl⟩
      have hX := nm_st hX ev10
      refine lv_iinc (v := v10) (lv' := [(3, .int v10), (2, .int v9), (0, .ref h), (1, .int x1)]) C.1 C.2.1 dX12_manySeen_33 hl (k := 1) rfl (by rw [ev10]; rfl) (by decide) rfl (fun ls hl => ?_)
      refine lv_goto (tgt := 4) C.1 C.2.1 dX12_manySeen_36 (by decide) ?_
      exact ih σ v10 v9 x1 H locs ls X hX hW (lv_sub hl [0, 1, 2, 3] rfl) K0
    have hX := br_p hX c8
    refine lv_iconst (v := 1) C.1 C.2.1 dX12_manySeen_26 (by decide) ?_
    refine lv_goto (tgt := 31) C.1 C.2.1 dX12_manySeen_27 (by decide) ?_
    refine lv_iadd C.1 C.2.1 dX12_manySeen_31 ?_
    refine lv_topi (fun v11 ev11 => ?_)
    have hX := nm_st hX ev11
    refine lv_istore_n (lv' := [(2, .int v11), (3, .int x3), (0, .ref h), (1, .int x1)]) C.1 C.2.1 dX12_manySeen_32 rfl hl (by decide) rfl (fun ls hl => ?_)
    obtain ⟨v12, ev12⟩ : ∃ z : Int32, z = x3 + 1 := ⟨_, rfl⟩
    have hX := nm_st hX ev12
    refine lv_iinc (v := v12) (lv' := [(3, .int v12), (2, .int v11), (0, .ref h), (1, .int x1)]) C.1 C.2.1 dX12_manySeen_33 hl (k := 1) rfl (by rw [ev12]; rfl) (by decide) rfl (fun ls hl => ?_)
    refine lv_goto (tgt := 4) C.1 C.2.1 dX12_manySeen_36 (by decide) ?_
    exact ih σ v12 v11 x1 H locs ls X hX hW (lv_sub hl [0, 1, 2, 3] rfl) K0
def M_manySeen (σ : St) (x1 : Int32) : Option (Int32) := bnd (M_manySeen_L4 100000 σ 0 0 x1) (fun q => nm2 q (fun v13 v14 => some v14))
set_option maxHeartbeats 4000000 in
set_option maxRecDepth 100000 in
theorem c_M_manySeen {Ev : EvT} (l : Launch) (D : va_G) (cs : Nat → ClassId) (h : Nat) (a : Nat → Nat) (σ : St) (x1 : Int32) (X : Int32) (hX : some X = M_manySeen σ x1) : cGi Ev l D (tyM cs) (wM h a cs) yX12_manySeen wsX12_manySeen rm_M_manySeen 0 0 [.ref h, .int x1] σ (fun r u => r = X ∧ u = σ) := by
  refine G_ini (cc := cX12_manySeen) (maxL := 4) (ret := some .int) (by decide) rfl (Nat.le_of_ble_eq_true rfl) ?_
  intro p e s m below meth c A ls C hr hlk hini hA hW hl
  have C : Cx p s m _ c cX12_manySeen 4 wsX12_manySeen RX12 := C
  have hl : lv_has ls 4 [(0, .ref h), (1, .int x1)] := hl
  have hin : ∀ w ∈ wsX120, w ∈ wsX12_manySeen := fun w hw => List.mem_cons_of_mem _ (List.mem_append_right _ hw)
  have f18 : (Cond.fieldLink RX12 53 (TX12 18).1 (TX12 18).2.1 (TX12 18).2.2.1).before _ s = true := C.2.2.2.2 _ (List.mem_of_getElem? (i := 1) rfl)
  obtain ⟨H, hH⟩ : ∃ H, H = s.heap := ⟨_, rfl⟩
  obtain ⟨locs, hlo⟩ : ∃ z : List Loc, z = [] := ⟨_, rfl⟩
  have hW : GW Ev D (tyM cs) (wM h a cs) A s σ H locs := by rw [hH, hlo]; exact hW
  rw [show W p l e rm_M_manySeen s m _ below meth c s.heap [] = W p l e rm_M_manySeen s m _ below meth c H locs from by rw [hH, hlo]]
  unfold M_manySeen at hX
  refine lv_iconst (v := 0) C.1 C.2.1 dX12_manySeen_0 (by decide) ?_
  refine lv_istore_n (lv' := [(2, .int 0), (0, .ref h), (1, .int x1)]) C.1 C.2.1 dX12_manySeen_1 rfl hl (by decide) rfl (fun ls hl => ?_)
  refine lv_iconst (v := 0) C.1 C.2.1 dX12_manySeen_2 (by decide) ?_
  refine lv_istore_n (lv' := [(3, .int 0), (2, .int 0), (0, .ref h), (1, .int x1)]) C.1 C.2.1 dX12_manySeen_3 rfl hl (by decide) rfl (fun ls hl => ?_)
  obtain ⟨q, hq, hX⟩ := bnd_st hX
  refine r_M_manySeen_L4 C 100000 σ 0 0 x1 H locs ls q hq.symm hW (lv_sub hl [0, 1, 2, 3] rfl) ?_
  intro v13 v14 H locs ls hq hW hl
  subst hq
  have hX := nm2_st hX rfl
  refine lv_iload_n C.1 C.2.1 dX12_manySeen_39 rfl (lv_at hl 1 rfl) ?_
  exact G_reti C hr hlk hA hW ⟨(Option.some.inj hX).symm, rfl⟩ dX12_manySeen_40
abbrev rm_M_runner : Room := { frames := 1, cells := 0, slots := 0, locals := 23 }
def M_runner_B1 (σ : St) (x1 : Int32) (x2 : Int32) : Option (Int32) := bnd (M_isPerson σ x1) (fun v7 => if v7 = 0 then some 1 else if x2 < 0 then some 1 else if x2 ≤ 5 then some 0 else some 1)
set_option maxHeartbeats 4000000 in
set_option maxRecDepth 100000 in
theorem r_M_runner_B1 {p : Program} {l : Launch} {e : Env} {s : State} {m : MethodId} {args : Array Value} {below : List Frame} {meth : Method} {c : Code} {Q : State → Prop} {Ev : EvT} {D : va_G} {cs : Nat → ClassId} {h : Nat} {a : Nat → Nat} {A : Nat → Prop} (C : Cx p s m args c cX12_runner 3 wsX12_runner RX12) : ∀ (σ : St) (x1 : Int32) (x2 : Int32) (H : Heap) (locs : List Loc) (ls : Array Slot) (X : Int32), some X = M_runner_B1 σ x1 x2 → GW Ev D (tyM cs) (wM h a cs) A s σ H locs → lv_has ls 3 [(0, .ref h), (1, .int x1), (2, .int x2)] → (∀ (w0 : Int32) (H : Heap) (locs : List Loc) (ls : Array Slot), X = w0 → GW Ev D (tyM cs) (wM h a cs) A s σ H locs → lv_has ls 3 [(0, .ref h), (1, .int x1), (2, .int x2)] → W p l e rm_M_runner s m args below meth c H locs 0 0 Q (F0 m 23 ls [.int w0, .ref h])) → W p l e rm_M_runner s m args below meth c H locs 0 0 Q (F0 m 1 ls [.ref h]) := by
  have hin : ∀ w ∈ wsX120, w ∈ wsX12_runner := fun w hw => List.mem_cons_of_mem _ (List.mem_append_right _ hw)
  intro σ x1 x2 H locs ls X hX hW hl K0
  unfold M_runner_B1 at hX
  refine lv_aload_n C.1 C.2.1 dX12_runner_1 rfl (lv_at hl 0 rfl) ?_
  refine lv_iload_n C.1 C.2.1 dX12_runner_2 rfl (lv_at hl 1 rfl) ?_
  obtain ⟨v7, hq, hX⟩ := bnd_st hX
  refine G_V0p (As := [.int x1]) (rest := [.ref h]) C hW (c_M_isPerson l D cs h a σ x1 v7 hq.symm) (cwV 1 C.2.2.2.2 gX12_runner_X12_isPerson rfl rfl rfl (by decide +kernel) ⟨Nat.le_of_ble_eq_true rfl, Nat.le_of_ble_eq_true rfl⟩) (M_recv hW) rfl hl.1 rfl (Nat.le_of_ble_eq_true rfl) dX12_runner_3 (fun H locs hW => ?_)
  refine lv_if_eq (tgt := 18) C.1 C.2.1 dX12_runner_6 (by decide) (fun c8 => ?_) (fun c8 => ?_)
  · have hX := br_p hX c8
    refine lv_iconst (v := 1) C.1 C.2.1 dX12_runner_18 (by decide) ?_
    refine lv_goto (tgt := 23) C.1 C.2.1 dX12_runner_19 (by decide) ?_
    exact K0 1 H locs ls (Option.some.inj hX) hW (lv_sub hl [0, 1, 2] rfl)
  have hX := br_n hX c8
  refine lv_iload_n C.1 C.2.1 dX12_runner_9 rfl (lv_at hl 2 rfl) ?_
  refine lv_if_lt (tgt := 18) C.1 C.2.1 dX12_runner_10 (by decide) (fun c9 => ?_) (fun c9 => ?_)
  · have hX := br_p hX c9
    refine lv_iconst (v := 1) C.1 C.2.1 dX12_runner_18 (by decide) ?_
    refine lv_goto (tgt := 23) C.1 C.2.1 dX12_runner_19 (by decide) ?_
    exact K0 1 H locs ls (Option.some.inj hX) hW (lv_sub hl [0, 1, 2] rfl)
  have hX := br_n hX c9
  refine lv_iload_n C.1 C.2.1 dX12_runner_13 rfl (lv_at hl 2 rfl) ?_
  refine lv_iconst (v := 5) C.1 C.2.1 dX12_runner_14 (by decide) ?_
  refine lv_icmp_le (tgt := 22) C.1 C.2.1 dX12_runner_15 (by decide) (fun c10 => ?_) (fun c10 => ?_)
  · have hX := br_p hX c10
    refine lv_iconst (v := 0) C.1 C.2.1 dX12_runner_22 (by decide) ?_
    exact K0 0 H locs ls (Option.some.inj hX) hW (lv_sub hl [0, 1, 2] rfl)
  have hX := br_n hX c10
  refine lv_iconst (v := 1) C.1 C.2.1 dX12_runner_18 (by decide) ?_
  refine lv_goto (tgt := 23) C.1 C.2.1 dX12_runner_19 (by decide) ?_
  exact K0 1 H locs ls (Option.some.inj hX) hW (lv_sub hl [0, 1, 2] rfl)
def M_runner (σ : St) (x1 : Int32) (x2 : Int32) : Option (Int32 × St) := bnd (M_runner_B1 σ x1 x2) (fun v11 => bnd2 (M_throwsIf σ v11) (fun v13 σ12 => if v13 = 0 then if x2 = 0 then chkI x1 30 (some (σ12.1 8 x1.toNatClampNeg, σ12)) else if x2 = 1 then chkI x1 30 (some (σ12.1 12 x1.toNatClampNeg, σ12)) else if x2 = 2 then chkI x1 30 (some (σ12.1 14 x1.toNatClampNeg, σ12)) else if x2 = 3 then chkI x1 30 (some (σ12.1 15 x1.toNatClampNeg, σ12)) else if x2 = 4 then bnd (M_manySeen σ12 x1) (fun v21 => some (v21, σ12)) else chkI x1 30 (if (σ12.1 19 x1.toNatClampNeg) = 0 then some (0, σ12) else some (1, σ12)) else some (0, σ12)))
set_option maxHeartbeats 4000000 in
set_option maxRecDepth 100000 in
theorem c_M_runner {Ev : EvT} (l : Launch) (D : va_G) (cs : Nat → ClassId) (h : Nat) (a : Nat → Nat) (σ : St) (x1 : Int32) (x2 : Int32) (X : Int32 × St) (hX : some X = M_runner σ x1 x2) : cGi Ev l D (tyM cs) (wM h a cs) yX12_runner wsX12_runner rm_M_runner 0 0 [.ref h, .int x1, .int x2] σ (fun r u => (r, u) = X) := by
  refine G_ini (cc := cX12_runner) (maxL := 3) (ret := some .int) (by decide) rfl (Nat.le_of_ble_eq_true rfl) ?_
  intro p e s m below meth c A ls C hr hlk hini hA hW hl
  have C : Cx p s m _ c cX12_runner 3 wsX12_runner RX12 := C
  have hl : lv_has ls 3 [(0, .ref h), (1, .int x1), (2, .int x2)] := hl
  have hin : ∀ w ∈ wsX120, w ∈ wsX12_runner := fun w hw => List.mem_cons_of_mem _ (List.mem_append_right _ hw)
  have f8 : (Cond.fieldLink RX12 23 (TX12 8).1 (TX12 8).2.1 (TX12 8).2.2.1).before _ s = true := C.2.2.2.2 _ (List.mem_of_getElem? (i := 1) rfl)
  have f12 : (Cond.fieldLink RX12 35 (TX12 12).1 (TX12 12).2.1 (TX12 12).2.2.1).before _ s = true := C.2.2.2.2 _ (List.mem_of_getElem? (i := 2) rfl)
  have f14 : (Cond.fieldLink RX12 41 (TX12 14).1 (TX12 14).2.1 (TX12 14).2.2.1).before _ s = true := C.2.2.2.2 _ (List.mem_of_getElem? (i := 3) rfl)
  have f15 : (Cond.fieldLink RX12 44 (TX12 15).1 (TX12 15).2.1 (TX12 15).2.2.1).before _ s = true := C.2.2.2.2 _ (List.mem_of_getElem? (i := 4) rfl)
  have f19 : (Cond.fieldLink RX12 57 (TX12 19).1 (TX12 19).2.1 (TX12 19).2.2.1).before _ s = true := C.2.2.2.2 _ (List.mem_of_getElem? (i := 5) rfl)
  obtain ⟨H, hH⟩ : ∃ H, H = s.heap := ⟨_, rfl⟩
  obtain ⟨locs, hlo⟩ : ∃ z : List Loc, z = [] := ⟨_, rfl⟩
  have hW : GW Ev D (tyM cs) (wM h a cs) A s σ H locs := by rw [hH, hlo]; exact hW
  rw [show W p l e rm_M_runner s m _ below meth c s.heap [] = W p l e rm_M_runner s m _ below meth c H locs from by rw [hH, hlo]]
  unfold M_runner at hX
  refine lv_aload_n C.1 C.2.1 dX12_runner_0 rfl (lv_at hl 0 rfl) ?_
  obtain ⟨v11, hq, hX⟩ := bnd_st hX
  refine r_M_runner_B1 C σ x1 x2 H locs ls v11 hq.symm hW (lv_sub hl [0, 1, 2] rfl) ?_
  intro z0 H locs ls hq hW hl
  subst hq
  obtain ⟨v13, σ12, hq, hX⟩ := bnd2_st hX
  refine G_V0e (As := [.int v11]) (rest := []) C hW (c_M_throwsIf l D cs h a σ v11 (v13, σ12) hq.symm) (cwV 1 C.2.2.2.2 gX12_runner_X12_throwsIf rfl rfl rfl (by decide +kernel) ⟨Nat.le_of_ble_eq_true rfl, Nat.le_of_ble_eq_true rfl⟩) (M_recv hW) rfl hl.1 rfl (Nat.le_of_ble_eq_true rfl) dX12_runner_23 (fun H locs hW => ?_)
  refine lv_if_eq (tgt := 31) C.1 C.2.1 dX12_runner_26 (by decide) (fun c14 => ?_) (fun c14 => ?_)
  · have hX := br_p hX c14
    refine lv_iload_n C.1 C.2.1 dX12_runner_31 rfl (lv_at hl 2 rfl) ?_
    by_cases c15 : x2 = 0
    · have hX := br_p hX c15
      refine lv_tableIn (tgt := 68) C.1 C.2.1 dX12_runner_32 (by rw [c15]; decide) (by rw [c15]; decide) (by rw [c15]; rfl) (by decide) ?_
      refine lv_aload_n C.1 C.2.1 dX12_runner_68 rfl (lv_at hl 0 rfl) ?_
      refine M_geta C hin hW 8 rfl (by decide) f8 dX12_runner_69 ?_
      refine lv_iload_n C.1 C.2.1 dX12_runner_72 rfl (lv_at hl 1 rfl) ?_
      obtain ⟨hi, hX⟩ := chkI_st hX
      refine M_ldI C hW 8 rfl hi dX12_runner_73 ?_
      exact G_reti C hr hlk hA hW (Option.some.inj hX).symm dX12_runner_74
    have hX := br_n hX c15
    by_cases c16 : x2 = 1
    · have hX := br_p hX c16
      refine lv_tableIn (tgt := 75) C.1 C.2.1 dX12_runner_32 (by rw [c16]; decide) (by rw [c16]; decide) (by rw [c16]; rfl) (by decide) ?_
      refine lv_aload_n C.1 C.2.1 dX12_runner_75 rfl (lv_at hl 0 rfl) ?_
      refine M_geta C hin hW 12 rfl (by decide) f12 dX12_runner_76 ?_
      refine lv_iload_n C.1 C.2.1 dX12_runner_79 rfl (lv_at hl 1 rfl) ?_
      obtain ⟨hi, hX⟩ := chkI_st hX
      refine M_ldI C hW 12 rfl hi dX12_runner_80 ?_
      exact G_reti C hr hlk hA hW (Option.some.inj hX).symm dX12_runner_81
    have hX := br_n hX c16
    by_cases c17 : x2 = 2
    · have hX := br_p hX c17
      refine lv_tableIn (tgt := 82) C.1 C.2.1 dX12_runner_32 (by rw [c17]; decide) (by rw [c17]; decide) (by rw [c17]; rfl) (by decide) ?_
      refine lv_aload_n C.1 C.2.1 dX12_runner_82 rfl (lv_at hl 0 rfl) ?_
      refine M_geta C hin hW 14 rfl (by decide) f14 dX12_runner_83 ?_
      refine lv_iload_n C.1 C.2.1 dX12_runner_86 rfl (lv_at hl 1 rfl) ?_
      obtain ⟨hi, hX⟩ := chkI_st hX
      refine M_ldI C hW 14 rfl hi dX12_runner_87 ?_
      exact G_reti C hr hlk hA hW (Option.some.inj hX).symm dX12_runner_88
    have hX := br_n hX c17
    by_cases c18 : x2 = 3
    · have hX := br_p hX c18
      refine lv_tableIn (tgt := 89) C.1 C.2.1 dX12_runner_32 (by rw [c18]; decide) (by rw [c18]; decide) (by rw [c18]; rfl) (by decide) ?_
      refine lv_aload_n C.1 C.2.1 dX12_runner_89 rfl (lv_at hl 0 rfl) ?_
      refine M_geta C hin hW 15 rfl (by decide) f15 dX12_runner_90 ?_
      refine lv_iload_n C.1 C.2.1 dX12_runner_93 rfl (lv_at hl 1 rfl) ?_
      obtain ⟨hi, hX⟩ := chkI_st hX
      refine M_ldI C hW 15 rfl hi dX12_runner_94 ?_
      exact G_reti C hr hlk hA hW (Option.some.inj hX).symm dX12_runner_95
    have hX := br_n hX c18
    by_cases c19 : x2 = 4
    · have hX := br_p hX c19
      refine lv_tableIn (tgt := 96) C.1 C.2.1 dX12_runner_32 (by rw [c19]; decide) (by rw [c19]; decide) (by rw [c19]; rfl) (by decide) ?_
      refine lv_aload_n C.1 C.2.1 dX12_runner_96 rfl (lv_at hl 0 rfl) ?_
      refine lv_iload_n C.1 C.2.1 dX12_runner_97 rfl (lv_at hl 1 rfl) ?_
      obtain ⟨v21, hq, hX⟩ := bnd_st hX
      refine G_V0p (As := [.int x1]) (rest := []) C hW (c_M_manySeen l D cs h a σ12 x1 v21 hq.symm) (cwV 1 C.2.2.2.2 gX12_runner_X12_manySeen rfl rfl rfl (by decide +kernel) ⟨Nat.le_of_ble_eq_true rfl, Nat.le_of_ble_eq_true rfl⟩) (M_recv hW) rfl hl.1 rfl (Nat.le_of_ble_eq_true rfl) dX12_runner_98 (fun H locs hW => ?_)
      exact G_reti C hr hlk hA hW (Option.some.inj hX).symm dX12_runner_101
    have hX := br_n hX c19
    refine lv_tableOut (tgt := 102) C.1 C.2.1 dX12_runner_32 (by have := ts_n (z := 0) (by decide) c15; have := ts_n (z := 1) (by decide) c16; have := ts_n (z := 2) (by decide) c17; have := ts_n (z := 3) (by decide) c18; have := ts_n (z := 4) (by decide) c19; omega) (by decide) ?_
    refine lv_aload_n C.1 C.2.1 dX12_runner_102 rfl (lv_at hl 0 rfl) ?_
    refine M_geta C hin hW 19 rfl (by decide) f19 dX12_runner_103 ?_
    refine lv_iload_n C.1 C.2.1 dX12_runner_106 rfl (lv_at hl 1 rfl) ?_
    obtain ⟨hi, hX⟩ := chkI_st hX
    refine M_ldZ C hW 19 rfl hi dX12_runner_107 ?_
    refine lv_if_eq (tgt := 115) C.1 C.2.1 dX12_runner_108 (by decide) (fun c22 => ?_) (fun c22 => ?_)
    · have hX := br_p hX c22
      refine lv_iconst (v := 0) C.1 C.2.1 dX12_runner_115 (by decide) ?_
      exact G_reti C hr hlk hA hW (Option.some.inj hX).symm dX12_runner_116
    have hX := br_n hX c22
    refine lv_iconst (v := 1) C.1 C.2.1 dX12_runner_111 (by decide) ?_
    refine lv_goto (tgt := 116) C.1 C.2.1 dX12_runner_112 (by decide) ?_
    exact G_reti C hr hlk hA hW (Option.some.inj hX).symm dX12_runner_116
  have hX := br_n hX c14
  refine lv_iconst (v := 0) C.1 C.2.1 dX12_runner_29 (by decide) ?_
  exact G_reti C hr hlk hA hW (Option.some.inj hX).symm dX12_runner_30
abbrev rm_M_count : Room := { frames := 0, cells := 0, slots := 0, locals := 0 }
def M_count_L68 : Nat → St → Int32 → Int32 → Int32 → Option (Int32 × Int32)
  | 0, _, _, _, _ => none
  | n + 1, σ, x3, x2, x1 => if 64 ≤ x3 then some (x3, x2) else if (σ.1 22 0) = 0 then nm (x2 + 0) (fun v16 => nm (x3 + 1) (fun v17 => M_count_L68 n σ v17 v16 x1)) else chkI x3 64 (if (σ.1 7 x3.toNatClampNeg) < 0 then nm (x2 + 0) (fun v19 => nm (x3 + 1) (fun v20 => M_count_L68 n σ v20 v19 x1)) else nm (x2 + 1) (fun v21 => nm (x3 + 1) (fun v22 => M_count_L68 n σ v22 v21 x1)))
set_option maxHeartbeats 4000000 in
set_option maxRecDepth 100000 in
theorem r_M_count_L68 {p : Program} {l : Launch} {e : Env} {s : State} {m : MethodId} {args : Array Value} {below : List Frame} {meth : Method} {c : Code} {Q : State → Prop} {Ev : EvT} {D : va_G} {cs : Nat → ClassId} {h : Nat} {a : Nat → Nat} {A : Nat → Prop} (C : Cx p s m args c cX12_count 4 wsX12_count RX12) : ∀ (n : Nat) (σ : St) (x3 : Int32) (x2 : Int32) (x1 : Int32) (H : Heap) (locs : List Loc) (ls : Array Slot) (X : Int32 × Int32), some X = M_count_L68 n σ x3 x2 x1 → GW Ev D (tyM cs) (wM h a cs) A s σ H locs → lv_has ls 4 [(3, .int x3), (2, .int x2), (0, .ref h), (1, .int x1)] → (∀ (z3 : Int32) (z2 : Int32) (H : Heap) (locs : List Loc) (ls : Array Slot), X = (z3, z2) → GW Ev D (tyM cs) (wM h a cs) A s σ H locs → lv_has ls 4 [(3, .int z3), (2, .int z2), (0, .ref h), (1, .int x1)] → W p l e rm_M_count s m args below meth c H locs 0 0 Q (F0 m 104 ls [])) → W p l e rm_M_count s m args below meth c H locs 0 0 Q (F0 m 68 ls []) := by
  have hin : ∀ w ∈ wsX120, w ∈ wsX12_count := fun w hw => List.mem_cons_of_mem _ (List.mem_append_right _ hw)
  have f0 : (Cond.fieldLink RX12 133 (TX12 0).1 (TX12 0).2.1 (TX12 0).2.2.1).before _ s = true := C.2.2.2.2 _ (List.mem_of_getElem? (i := 1) rfl)
  have f7 : (Cond.fieldLink RX12 20 (TX12 7).1 (TX12 7).2.1 (TX12 7).2.2.1).before _ s = true := C.2.2.2.2 _ (List.mem_of_getElem? (i := 5) rfl)
  have f20 : (Cond.fieldLink RX12 150 (TX12 20).1 (TX12 20).2.1 (TX12 20).2.2.1).before _ s = true := C.2.2.2.2 _ (List.mem_of_getElem? (i := 3) rfl)
  have f21 : (Cond.fieldLink RX12 176 (TX12 21).1 (TX12 21).2.1 (TX12 21).2.2.1).before _ s = true := C.2.2.2.2 _ (List.mem_of_getElem? (i := 2) rfl)
  have f22 : (Cond.fieldLink RX12 153 (TX12 22).1 (TX12 22).2.1 (TX12 22).2.2.1).before _ s = true := C.2.2.2.2 _ (List.mem_of_getElem? (i := 4) rfl)
  intro n
  induction n with
  | zero =>
    intro σ x3 x2 x1 H locs ls X hX hW hl K0
    cases hX
  | succ n ih =>
    intro σ x3 x2 x1 H locs ls X hX hW hl K0
    unfold M_count_L68 at hX
    refine lv_iload_n C.1 C.2.1 dX12_count_68 rfl (lv_at hl 0 rfl) ?_
    refine lv_bipush (v := 64) C.1 C.2.1 dX12_count_69 (by decide) ?_
    refine lv_icmp_ge (tgt := 104) C.1 C.2.1 dX12_count_71 (by decide) (fun c14 => ?_) (fun c14 => ?_)
    · have hX := br_p hX c14
      exact K0 x3 x2 H locs ls (Option.some.inj hX) hW (lv_sub hl [0, 1, 2, 3] rfl)
    have hX := br_n hX c14
    refine lv_iload_n C.1 C.2.1 dX12_count_74 rfl (lv_at hl 1 rfl) ?_
    refine lv_aload_n C.1 C.2.1 dX12_count_75 rfl (lv_at hl 2 rfl) ?_
    refine M_geti C hin hW 22 (by decide) f22 dX12_count_76 ?_
    refine lv_if_eq (tgt := 95) C.1 C.2.1 dX12_count_79 (by decide) (fun c15 => ?_) (fun c15 => ?_)
    · have hX := br_p hX c15
      refine lv_iconst (v := 0) C.1 C.2.1 dX12_count_95 (by decide) ?_
      refine lv_iadd C.1 C.2.1 dX12_count_96 ?_
      refine lv_topi (fun v16 ev16 => ?_)
      have hX := nm_st hX ev16
      refine lv_istore_n (lv' := [(2, .int v16), (3, .int x3), (0, .ref h), (1, .int x1)]) C.1 C.2.1 dX12_count_97 rfl hl (by decide) rfl (fun ls hl => ?_)
      obtain ⟨v17, ev17⟩ : ∃ z : Int32, z = x3 + 1 := ⟨_, rfl⟩
      have hX := nm_st hX ev17
      refine lv_iinc (v := v17) (lv' := [(3, .int v17), (2, .int v16), (0, .ref h), (1, .int x1)]) C.1 C.2.1 dX12_count_98 hl (k := 1) rfl (by rw [ev17]; rfl) (by decide) rfl (fun ls hl => ?_)
      refine lv_goto (tgt := 68) C.1 C.2.1 dX12_count_101 (by decide) ?_
      exact ih σ v17 v16 x1 H locs ls X hX hW (lv_sub hl [0, 1, 2, 3] rfl) K0
    have hX := br_n hX c15
    refine lv_aload_n C.1 C.2.1 dX12_count_82 rfl (lv_at hl 2 rfl) ?_
    refine M_geta C hin hW 7 rfl (by decide) f7 dX12_count_83 ?_
    refine lv_iload_n C.1 C.2.1 dX12_count_86 rfl (lv_at hl 0 rfl) ?_
    obtain ⟨hi, hX⟩ := chkI_st hX
    refine M_ldI C hW 7 rfl hi dX12_count_87 ?_
    refine lv_if_lt (tgt := 95) C.1 C.2.1 dX12_count_88 (by decide) (fun c18 => ?_) (fun c18 => ?_)
    · have hX := br_p hX c18
      refine lv_iconst (v := 0) C.1 C.2.1 dX12_count_95 (by decide) ?_
      refine lv_iadd C.1 C.2.1 dX12_count_96 ?_
      refine lv_topi (fun v19 ev19 => ?_)
      have hX := nm_st hX ev19
      refine lv_istore_n (lv' := [(2, .int v19), (3, .int x3), (0, .ref h), (1, .int x1)]) C.1 C.2.1 dX12_count_97 rfl hl (by decide) rfl (fun ls hl => ?_)
      obtain ⟨v20, ev20⟩ : ∃ z : Int32, z = x3 + 1 := ⟨_, rfl⟩
      have hX := nm_st hX ev20
      refine lv_iinc (v := v20) (lv' := [(3, .int v20), (2, .int v19), (0, .ref h), (1, .int x1)]) C.1 C.2.1 dX12_count_98 hl (k := 1) rfl (by rw [ev20]; rfl) (by decide) rfl (fun ls hl => ?_)
      refine lv_goto (tgt := 68) C.1 C.2.1 dX12_count_101 (by decide) ?_
      exact ih σ v20 v19 x1 H locs ls X hX hW (lv_sub hl [0, 1, 2, 3] rfl) K0
    have hX := br_n hX c18
    refine lv_iconst (v := 1) C.1 C.2.1 dX12_count_91 (by decide) ?_
    refine lv_goto (tgt := 96) C.1 C.2.1 dX12_count_92 (by decide) ?_
    refine lv_iadd C.1 C.2.1 dX12_count_96 ?_
    refine lv_topi (fun v21 ev21 => ?_)
    have hX := nm_st hX ev21
    refine lv_istore_n (lv' := [(2, .int v21), (3, .int x3), (0, .ref h), (1, .int x1)]) C.1 C.2.1 dX12_count_97 rfl hl (by decide) rfl (fun ls hl => ?_)
    obtain ⟨v22, ev22⟩ : ∃ z : Int32, z = x3 + 1 := ⟨_, rfl⟩
    have hX := nm_st hX ev22
    refine lv_iinc (v := v22) (lv' := [(3, .int v22), (2, .int v21), (0, .ref h), (1, .int x1)]) C.1 C.2.1 dX12_count_98 hl (k := 1) rfl (by rw [ev22]; rfl) (by decide) rfl (fun ls hl => ?_)
    refine lv_goto (tgt := 68) C.1 C.2.1 dX12_count_101 (by decide) ?_
    exact ih σ v22 v21 x1 H locs ls X hX hW (lv_sub hl [0, 1, 2, 3] rfl) K0
def M_count (σ : St) (x1 : Int32) : Option (Int32 × St) := nm (s1 σ 0 0 0) (fun σ1 => if x1 = 0 then some (σ1.1 21 0, σ1) else if x1 = 1 then some (σ1.1 20 0, σ1) else if x1 = 2 then bnd (M_count_L68 100000 σ1 0 0 x1) (fun q => nm2 q (fun v23 v24 => some (v24, σ1))) else if x1 = 3 then some (σ1.1 32 0, σ1) else if x1 = 4 then some (σ1.1 41 0, σ1) else if x1 = 5 then some (σ1.1 42 0, σ1) else if x1 = 6 then some (σ1.1 31 0, σ1) else if x1 = 7 then some (σ1.1 2 0, σ1) else some ((-1), σ1))
set_option maxHeartbeats 4000000 in
set_option maxRecDepth 100000 in
theorem c_M_count {Ev : EvT} (l : Launch) (D : va_G) (cs : Nat → ClassId) (h : Nat) (a : Nat → Nat) (σ : St) (x1 : Int32) (X : Int32 × St) (hX : some X = M_count σ x1) : cGi Ev l D (tyM cs) (wM h a cs) yX12_count wsX12_count rm_M_count 0 0 [.ref h, .int x1] σ (fun r u => (r, u) = X) := by
  refine G_ini (cc := cX12_count) (maxL := 4) (ret := some .int) (by decide) rfl (Nat.le_of_ble_eq_true rfl) ?_
  intro p e s m below meth c A ls C hr hlk hini hA hW hl
  have C : Cx p s m _ c cX12_count 4 wsX12_count RX12 := C
  have hl : lv_has ls 4 [(0, .ref h), (1, .int x1)] := hl
  have hin : ∀ w ∈ wsX120, w ∈ wsX12_count := fun w hw => List.mem_cons_of_mem _ (List.mem_append_right _ hw)
  have f0 : (Cond.fieldLink RX12 133 (TX12 0).1 (TX12 0).2.1 (TX12 0).2.2.1).before _ s = true := C.2.2.2.2 _ (List.mem_of_getElem? (i := 1) rfl)
  have f2 : (Cond.fieldLink RX12 137 (TX12 2).1 (TX12 2).2.1 (TX12 2).2.2.1).before _ s = true := C.2.2.2.2 _ (List.mem_of_getElem? (i := 10) rfl)
  have f7 : (Cond.fieldLink RX12 20 (TX12 7).1 (TX12 7).2.1 (TX12 7).2.2.1).before _ s = true := C.2.2.2.2 _ (List.mem_of_getElem? (i := 5) rfl)
  have f20 : (Cond.fieldLink RX12 150 (TX12 20).1 (TX12 20).2.1 (TX12 20).2.2.1).before _ s = true := C.2.2.2.2 _ (List.mem_of_getElem? (i := 3) rfl)
  have f21 : (Cond.fieldLink RX12 176 (TX12 21).1 (TX12 21).2.1 (TX12 21).2.2.1).before _ s = true := C.2.2.2.2 _ (List.mem_of_getElem? (i := 2) rfl)
  have f22 : (Cond.fieldLink RX12 153 (TX12 22).1 (TX12 22).2.1 (TX12 22).2.2.1).before _ s = true := C.2.2.2.2 _ (List.mem_of_getElem? (i := 4) rfl)
  have f31 : (Cond.fieldLink RX12 247 (TX12 31).1 (TX12 31).2.1 (TX12 31).2.2.1).before _ s = true := C.2.2.2.2 _ (List.mem_of_getElem? (i := 9) rfl)
  have f32 : (Cond.fieldLink RX12 277 (TX12 32).1 (TX12 32).2.1 (TX12 32).2.2.1).before _ s = true := C.2.2.2.2 _ (List.mem_of_getElem? (i := 6) rfl)
  have f41 : (Cond.fieldLink RX12 280 (TX12 41).1 (TX12 41).2.1 (TX12 41).2.2.1).before _ s = true := C.2.2.2.2 _ (List.mem_of_getElem? (i := 7) rfl)
  have f42 : (Cond.fieldLink RX12 283 (TX12 42).1 (TX12 42).2.1 (TX12 42).2.2.1).before _ s = true := C.2.2.2.2 _ (List.mem_of_getElem? (i := 8) rfl)
  obtain ⟨H, hH⟩ : ∃ H, H = s.heap := ⟨_, rfl⟩
  obtain ⟨locs, hlo⟩ : ∃ z : List Loc, z = [] := ⟨_, rfl⟩
  have hW : GW Ev D (tyM cs) (wM h a cs) A s σ H locs := by rw [hH, hlo]; exact hW
  rw [show W p l e rm_M_count s m _ below meth c s.heap [] = W p l e rm_M_count s m _ below meth c H locs from by rw [hH, hlo]]
  unfold M_count at hX
  refine lv_aload_n C.1 C.2.1 dX12_count_0 rfl (lv_at hl 0 rfl) ?_
  refine lv_iconst (v := 0) C.1 C.2.1 dX12_count_1 (by decide) ?_
  refine M_puti C hin hW 0 rfl f0 dX12_count_2 (fun H locs σ1 eσ1 hW => ?_)
  have hX := nm_st hX eσ1
  refine lv_iconst (v := 0) C.1 C.2.1 dX12_count_5 (by decide) ?_
  refine lv_istore_n (lv' := [(2, .int 0), (0, .ref h), (1, .int x1)]) C.1 C.2.1 dX12_count_6 rfl hl (by decide) rfl (fun ls hl => ?_)
  refine lv_iload_n C.1 C.2.1 dX12_count_7 rfl (lv_at hl 2 rfl) ?_
  by_cases c2 : x1 = 0
  · have hX := br_p hX c2
    refine lv_tableIn (tgt := 56) C.1 C.2.1 dX12_count_8 (by rw [c2]; decide) (by rw [c2]; decide) (by rw [c2]; rfl) (by decide) ?_
    refine lv_aload_n C.1 C.2.1 dX12_count_56 rfl (lv_at hl 1 rfl) ?_
    refine M_geti C hin hW 21 (by decide) f21 dX12_count_57 ?_
    exact G_reti C hr hlk hA hW (Option.some.inj hX).symm dX12_count_60
  have hX := br_n hX c2
  by_cases c3 : x1 = 1
  · have hX := br_p hX c3
    refine lv_tableIn (tgt := 61) C.1 C.2.1 dX12_count_8 (by rw [c3]; decide) (by rw [c3]; decide) (by rw [c3]; rfl) (by decide) ?_
    refine lv_aload_n C.1 C.2.1 dX12_count_61 rfl (lv_at hl 1 rfl) ?_
    refine M_geti C hin hW 20 (by decide) f20 dX12_count_62 ?_
    exact G_reti C hr hlk hA hW (Option.some.inj hX).symm dX12_count_65
  have hX := br_n hX c3
  by_cases c4 : x1 = 2
  · have hX := br_p hX c4
    refine lv_tableIn (tgt := 66) C.1 C.2.1 dX12_count_8 (by rw [c4]; decide) (by rw [c4]; decide) (by rw [c4]; rfl) (by decide) ?_
    refine lv_iconst (v := 0) C.1 C.2.1 dX12_count_66 (by decide) ?_
    refine lv_istore_n (lv' := [(3, .int 0), (2, .int 0), (0, .ref h), (1, .int x1)]) C.1 C.2.1 dX12_count_67 rfl hl (by decide) rfl (fun ls hl => ?_)
    obtain ⟨q, hq, hX⟩ := bnd_st hX
    refine r_M_count_L68 C 100000 σ1 0 0 x1 H locs ls q hq.symm hW (lv_sub hl [0, 1, 2, 3] rfl) ?_
    intro v23 v24 H locs ls hq hW hl
    subst hq
    have hX := nm2_st hX rfl
    refine lv_iload_n C.1 C.2.1 dX12_count_104 rfl (lv_at hl 1 rfl) ?_
    exact G_reti C hr hlk hA hW (Option.some.inj hX).symm dX12_count_105
  have hX := br_n hX c4
  by_cases c25 : x1 = 3
  · have hX := br_p hX c25
    refine lv_tableIn (tgt := 106) C.1 C.2.1 dX12_count_8 (by rw [c25]; decide) (by rw [c25]; decide) (by rw [c25]; rfl) (by decide) ?_
    refine lv_aload_n C.1 C.2.1 dX12_count_106 rfl (lv_at hl 1 rfl) ?_
    refine M_geti C hin hW 32 (by decide) f32 dX12_count_107 ?_
    exact G_reti C hr hlk hA hW (Option.some.inj hX).symm dX12_count_110
  have hX := br_n hX c25
  by_cases c26 : x1 = 4
  · have hX := br_p hX c26
    refine lv_tableIn (tgt := 111) C.1 C.2.1 dX12_count_8 (by rw [c26]; decide) (by rw [c26]; decide) (by rw [c26]; rfl) (by decide) ?_
    refine lv_aload_n C.1 C.2.1 dX12_count_111 rfl (lv_at hl 1 rfl) ?_
    refine M_geti C hin hW 41 (by decide) f41 dX12_count_112 ?_
    exact G_reti C hr hlk hA hW (Option.some.inj hX).symm dX12_count_115
  have hX := br_n hX c26
  by_cases c27 : x1 = 5
  · have hX := br_p hX c27
    refine lv_tableIn (tgt := 116) C.1 C.2.1 dX12_count_8 (by rw [c27]; decide) (by rw [c27]; decide) (by rw [c27]; rfl) (by decide) ?_
    refine lv_aload_n C.1 C.2.1 dX12_count_116 rfl (lv_at hl 1 rfl) ?_
    refine M_geti C hin hW 42 (by decide) f42 dX12_count_117 ?_
    exact G_reti C hr hlk hA hW (Option.some.inj hX).symm dX12_count_120
  have hX := br_n hX c27
  by_cases c28 : x1 = 6
  · have hX := br_p hX c28
    refine lv_tableIn (tgt := 121) C.1 C.2.1 dX12_count_8 (by rw [c28]; decide) (by rw [c28]; decide) (by rw [c28]; rfl) (by decide) ?_
    refine lv_aload_n C.1 C.2.1 dX12_count_121 rfl (lv_at hl 1 rfl) ?_
    refine M_geti C hin hW 31 (by decide) f31 dX12_count_122 ?_
    exact G_reti C hr hlk hA hW (Option.some.inj hX).symm dX12_count_125
  have hX := br_n hX c28
  by_cases c29 : x1 = 7
  · have hX := br_p hX c29
    refine lv_tableIn (tgt := 126) C.1 C.2.1 dX12_count_8 (by rw [c29]; decide) (by rw [c29]; decide) (by rw [c29]; rfl) (by decide) ?_
    refine lv_aload_n C.1 C.2.1 dX12_count_126 rfl (lv_at hl 1 rfl) ?_
    refine M_geti C hin hW 2 (by decide) f2 dX12_count_127 ?_
    exact G_reti C hr hlk hA hW (Option.some.inj hX).symm dX12_count_130
  have hX := br_n hX c29
  refine lv_tableOut (tgt := 131) C.1 C.2.1 dX12_count_8 (by have := ts_n (z := 0) (by decide) c2; have := ts_n (z := 1) (by decide) c3; have := ts_n (z := 2) (by decide) c4; have := ts_n (z := 3) (by decide) c25; have := ts_n (z := 4) (by decide) c26; have := ts_n (z := 5) (by decide) c27; have := ts_n (z := 6) (by decide) c28; have := ts_n (z := 7) (by decide) c29; omega) (by decide) ?_
  refine lv_iconst (v := -1) C.1 C.2.1 dX12_count_131 (by decide) ?_
  exact G_reti C hr hlk hA hW (Option.some.inj hX).symm dX12_count_132
