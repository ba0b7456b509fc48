abbrev rm_C_J6_compare : Room := { frames := 0, cells := 0, slots := 0, locals := 0 }
def C_J6_compare (x0 : Int32) (x1 : Int32) : Option Int32 := if x1 ≤ x0 then if x0 = x1 then some 0 else some 1 else some (-1)
set_option maxHeartbeats 4000000 in
set_option maxRecDepth 100000 in
theorem c_C_J6_compare {S : Type} {Ev : EvT} (l : Launch) (D : va_G) (tys : List (ClassId × FieldType)) (w : S → va_W) (t : S) (x0 : Int32) (x1 : Int32) (X : Int32) (hX : some X = C_J6_compare x0 x1) : cGi Ev l D tys w yJ6_compare_7cf53 wsJ6_compare_7cf53 rm_C_J6_compare 0 0 [.int x0, .int x1] t (fun r u => r = X ∧ u = t) := by
  refine G_ini (cc := cJ6_compare_7cf53) (maxL := 2) (ret := some .int) (by decide) rfl (Nat.le_of_ble_eq_true rfl) ?_
  intro p e s m below meth c A ls C hr hlk hini hA hW hl
  have C : Cx p s m _ c cJ6_compare_7cf53 2 wsJ6_compare_7cf53 RJ6 := C
  have hl : lv_has ls 2 [(0, .int x0), (1, .int x1)] := hl
  obtain ⟨H, hH⟩ : ∃ H, H = s.heap := ⟨_, rfl⟩
  obtain ⟨locs, hlo⟩ : ∃ z : List Loc, z = [] := ⟨_, rfl⟩
  have hW : GW Ev D tys w A s t H locs := by rw [hH, hlo]; exact hW
  rw [show W p l e rm_C_J6_compare s m _ below meth c s.heap [] = W p l e rm_C_J6_compare s m _ below meth c H locs from by rw [hH, hlo]]
  unfold C_J6_compare at hX
  refine lv_iload_n C.1 C.2.1 dJ6_compare_7cf53_0 rfl (lv_at hl 0 rfl) ?_
  refine lv_iload_n C.1 C.2.1 dJ6_compare_7cf53_1 rfl (lv_at hl 1 rfl) ?_
  refine lv_icmp_ge (tgt := 9) C.1 C.2.1 dJ6_compare_7cf53_2 (by decide) (fun c1 => ?_) (fun c1 => ?_)
  · have hX := br_p hX c1
    refine lv_iload_n C.1 C.2.1 dJ6_compare_7cf53_9 rfl (lv_at hl 0 rfl) ?_
    refine lv_iload_n C.1 C.2.1 dJ6_compare_7cf53_10 rfl (lv_at hl 1 rfl) ?_
    refine lv_icmp_ne (tgt := 18) C.1 C.2.1 dJ6_compare_7cf53_11 (by decide) (fun c2 => ?_) (fun c2 => ?_)
    · have hX := br_n hX c2
      refine lv_iconst (v := 1) C.1 C.2.1 dJ6_compare_7cf53_18 (by decide) ?_
      exact G_reti C hr hlk hA hW ⟨(Option.some.inj hX).symm, rfl⟩ dJ6_compare_7cf53_19
    have hX := br_p hX c2
    refine lv_iconst (v := 0) C.1 C.2.1 dJ6_compare_7cf53_14 (by decide) ?_
    refine lv_goto (tgt := 19) C.1 C.2.1 dJ6_compare_7cf53_15 (by decide) ?_
    exact G_reti C hr hlk hA hW ⟨(Option.some.inj hX).symm, rfl⟩ dJ6_compare_7cf53_19
  have hX := br_n hX c1
  refine lv_iconst (v := -1) C.1 C.2.1 dJ6_compare_7cf53_5 (by decide) ?_
  refine lv_goto (tgt := 19) C.1 C.2.1 dJ6_compare_7cf53_6 (by decide) ?_
  exact G_reti C hr hlk hA hW ⟨(Option.some.inj hX).symm, rfl⟩ dJ6_compare_7cf53_19
abbrev rm_C_J9_floorDiv : Room := { frames := 0, cells := 0, slots := 0, locals := 0 }
def C_J9_floorDiv (x0 : Int32) (x1 : Int32) : Option Int32 := chkP (¬ x1 = 0) (nm (x0 / x1) (fun v1 => if 0 ≤ (x0 ^^^ x1) then some v1 else if (v1 * x1) = x0 then some v1 else some (v1 - 1)))
set_option maxHeartbeats 4000000 in
set_option maxRecDepth 100000 in
theorem c_C_J9_floorDiv {S : Type} {Ev : EvT} (l : Launch) (D : va_G) (tys : List (ClassId × FieldType)) (w : S → va_W) (t : S) (x0 : Int32) (x1 : Int32) (X : Int32) (hX : some X = C_J9_floorDiv x0 x1) : cGi Ev l D tys w yJ9_floorDiv_7cf53 wsJ9_floorDiv_7cf53 rm_C_J9_floorDiv 0 0 [.int x0, .int x1] t (fun r u => r = X ∧ u = t) := by
  refine G_inJ (cc := cJ9_floorDiv_7cf53) (maxL := 3) (ret := some .int) (by decide +kernel) rfl (Nat.le_of_ble_eq_true rfl) ?_
  intro p e s m below meth c A ls C hr hlk hini hA hW hl
  have C : Cx p s m _ c cJ9_floorDiv_7cf53 3 wsJ9_floorDiv_7cf53 RJ9 := C
  have hl : lv_has ls 3 [(0, .int x0), (1, .int x1)] := hl
  obtain ⟨H, hH⟩ : ∃ H, H = s.heap := ⟨_, rfl⟩
  obtain ⟨locs, hlo⟩ : ∃ z : List Loc, z = [] := ⟨_, rfl⟩
  have hW : GW Ev D tys w A s t H locs := by rw [hH, hlo]; exact hW
  rw [show W p l e rm_C_J9_floorDiv s m _ below meth c s.heap [] = W p l e rm_C_J9_floorDiv s m _ below meth c H locs from by rw [hH, hlo]]
  unfold C_J9_floorDiv at hX
  refine lv_iload_n C.1 C.2.1 dJ9_floorDiv_7cf53_0 rfl (lv_at hl 0 rfl) ?_
  refine lv_iload_n C.1 C.2.1 dJ9_floorDiv_7cf53_1 rfl (lv_at hl 1 rfl) ?_
  obtain ⟨hz, hX⟩ := chkP_st hX
  refine lv_idiv C.1 C.2.1 dJ9_floorDiv_7cf53_2 hz ?_
  refine lv_topi (fun v1 ev1 => ?_)
  have hX := nm_st hX ev1
  refine lv_istore_n (i := 2) (lv' := [(2, .int v1), (0, .int x0), (1, .int x1)]) C.1 C.2.1 dJ9_floorDiv_7cf53_3 rfl hl (by decide) rfl (fun ls hl => ?_)
  refine lv_iload_n C.1 C.2.1 dJ9_floorDiv_7cf53_4 rfl (lv_at hl 1 rfl) ?_
  refine lv_iload_n C.1 C.2.1 dJ9_floorDiv_7cf53_5 rfl (lv_at hl 2 rfl) ?_
  refine lv_ixor C.1 C.2.1 dJ9_floorDiv_7cf53_6 ?_
  refine lv_if_ge (tgt := 21) C.1 C.2.1 dJ9_floorDiv_7cf53_7 (by decide) (fun c2 => ?_) (fun c2 => ?_)
  · have hX := br_p hX c2
    refine lv_iload_n C.1 C.2.1 dJ9_floorDiv_7cf53_21 rfl (lv_at hl 0 rfl) ?_
    exact G_reti C hr hlk hA hW ⟨(Option.some.inj hX).symm, rfl⟩ dJ9_floorDiv_7cf53_22
  have hX := br_n hX c2
  refine lv_iload_n C.1 C.2.1 dJ9_floorDiv_7cf53_10 rfl (lv_at hl 0 rfl) ?_
  refine lv_iload_n C.1 C.2.1 dJ9_floorDiv_7cf53_11 rfl (lv_at hl 2 rfl) ?_
  refine lv_imul C.1 C.2.1 dJ9_floorDiv_7cf53_12 ?_
  refine lv_iload_n C.1 C.2.1 dJ9_floorDiv_7cf53_13 rfl (lv_at hl 1 rfl) ?_
  refine lv_icmp_eq (tgt := 21) C.1 C.2.1 dJ9_floorDiv_7cf53_14 (by decide) (fun c3 => ?_) (fun c3 => ?_)
  · have hX := br_p hX c3
    refine lv_iload_n C.1 C.2.1 dJ9_floorDiv_7cf53_21 rfl (lv_at hl 0 rfl) ?_
    exact G_reti C hr hlk hA hW ⟨(Option.some.inj hX).symm, rfl⟩ dJ9_floorDiv_7cf53_22
  have hX := br_n hX c3
  refine lv_iload_n C.1 C.2.1 dJ9_floorDiv_7cf53_17 rfl (lv_at hl 0 rfl) ?_
  refine lv_iconst (v := 1) C.1 C.2.1 dJ9_floorDiv_7cf53_18 (by decide) ?_
  refine lv_isub C.1 C.2.1 dJ9_floorDiv_7cf53_19 ?_
  exact G_reti C hr hlk hA hW ⟨(Option.some.inj hX).symm, rfl⟩ dJ9_floorDiv_7cf53_20
abbrev rm_C_J9_floorMod : Room := { frames := 0, cells := 0, slots := 0, locals := 0 }
def C_J9_floorMod (x0 : Int32) (x1 : Int32) : Option Int32 := chkP (¬ x1 = 0) (nm (x0 - x0 / x1 * x1) (fun v1 => if 0 ≤ (x0 ^^^ x1) then some v1 else if v1 = 0 then some v1 else some (v1 + x1)))
set_option maxHeartbeats 4000000 in
set_option maxRecDepth 100000 in
theorem c_C_J9_floorMod {S : Type} {Ev : EvT} (l : Launch) (D : va_G) (tys : List (ClassId × FieldType)) (w : S → va_W) (t : S) (x0 : Int32) (x1 : Int32) (X : Int32) (hX : some X = C_J9_floorMod x0 x1) : cGi Ev l D tys w yJ9_floorMod_7cf53 wsJ9_floorMod_7cf53 rm_C_J9_floorMod 0 0 [.int x0, .int x1] t (fun r u => r = X ∧ u = t) := by
  refine G_inJ (cc := cJ9_floorMod_7cf53) (maxL := 3) (ret := some .int) (by decide +kernel) rfl (Nat.le_of_ble_eq_true rfl) ?_
  intro p e s m below meth c A ls C hr hlk hini hA hW hl
  have C : Cx p s m _ c cJ9_floorMod_7cf53 3 wsJ9_floorMod_7cf53 RJ9 := C
  have hl : lv_has ls 3 [(0, .int x0), (1, .int x1)] := hl
  obtain ⟨H, hH⟩ : ∃ H, H = s.heap := ⟨_, rfl⟩
  obtain ⟨locs, hlo⟩ : ∃ z : List Loc, z = [] := ⟨_, rfl⟩
  have hW : GW Ev D tys w A s t H locs := by rw [hH, hlo]; exact hW
  rw [show W p l e rm_C_J9_floorMod s m _ below meth c s.heap [] = W p l e rm_C_J9_floorMod s m _ below meth c H locs from by rw [hH, hlo]]
  unfold C_J9_floorMod at hX
  refine lv_iload_n C.1 C.2.1 dJ9_floorMod_7cf53_0 rfl (lv_at hl 0 rfl) ?_
  refine lv_iload_n C.1 C.2.1 dJ9_floorMod_7cf53_1 rfl (lv_at hl 1 rfl) ?_
  obtain ⟨hz, hX⟩ := chkP_st hX
  refine lv_irem C.1 C.2.1 dJ9_floorMod_7cf53_2 hz ?_
  refine lv_topi (fun v1 ev1 => ?_)
  have hX := nm_st hX ev1
  refine lv_istore_n (i := 2) (lv' := [(2, .int v1), (0, .int x0), (1, .int x1)]) C.1 C.2.1 dJ9_floorMod_7cf53_3 rfl hl (by decide) rfl (fun ls hl => ?_)
  refine lv_iload_n C.1 C.2.1 dJ9_floorMod_7cf53_4 rfl (lv_at hl 1 rfl) ?_
  refine lv_iload_n C.1 C.2.1 dJ9_floorMod_7cf53_5 rfl (lv_at hl 2 rfl) ?_
  refine lv_ixor C.1 C.2.1 dJ9_floorMod_7cf53_6 ?_
  refine lv_if_ge (tgt := 18) C.1 C.2.1 dJ9_floorMod_7cf53_7 (by decide) (fun c2 => ?_) (fun c2 => ?_)
  · have hX := br_p hX c2
    refine lv_iload_n C.1 C.2.1 dJ9_floorMod_7cf53_18 rfl (lv_at hl 0 rfl) ?_
    exact G_reti C hr hlk hA hW ⟨(Option.some.inj hX).symm, rfl⟩ dJ9_floorMod_7cf53_19
  have hX := br_n hX c2
  refine lv_iload_n C.1 C.2.1 dJ9_floorMod_7cf53_10 rfl (lv_at hl 0 rfl) ?_
  refine lv_if_eq (tgt := 18) C.1 C.2.1 dJ9_floorMod_7cf53_11 (by decide) (fun c3 => ?_) (fun c3 => ?_)
  · have hX := br_p hX c3
    refine lv_iload_n C.1 C.2.1 dJ9_floorMod_7cf53_18 rfl (lv_at hl 0 rfl) ?_
    exact G_reti C hr hlk hA hW ⟨(Option.some.inj hX).symm, rfl⟩ dJ9_floorMod_7cf53_19
  have hX := br_n hX c3
  refine lv_iload_n C.1 C.2.1 dJ9_floorMod_7cf53_14 rfl (lv_at hl 0 rfl) ?_
  refine lv_iload_n C.1 C.2.1 dJ9_floorMod_7cf53_15 rfl (lv_at hl 2 rfl) ?_
  refine lv_iadd C.1 C.2.1 dJ9_floorMod_7cf53_16 ?_
  exact G_reti C hr hlk hA hW ⟨(Option.some.inj hX).symm, rfl⟩ dJ9_floorMod_7cf53_17
abbrev rm_C_Run_isWithin : Room := { frames := 0, cells := 0, slots := 0, locals := 0 }
def C_Run_isWithin (x0 : Int32) (x1 : Int32) (x2 : Int32) : Option Int32 := if x0 < x1 then some 0 else if x2 < x0 then some 0 else some 1
set_option maxHeartbeats 4000000 in
set_option maxRecDepth 100000 in
theorem c_C_Run_isWithin {S : Type} {Ev : EvT} (l : Launch) (D : va_G) (tys : List (ClassId × FieldType)) (w : S → va_W) (t : S) (x0 : Int32) (x1 : Int32) (x2 : Int32) (X : Int32) (hX : some X = C_Run_isWithin x0 x1 x2) : cGi Ev l D tys w yX11_isWithin wsX11_isWithin rm_C_Run_isWithin 0 0 [.int x0, .int x1, .int x2] t (fun r u => r = X ∧ u = t) := by
  refine G_ini (cc := cX11_isWithin) (maxL := 3) (ret := some .boolean) (by decide) rfl (Nat.le_of_ble_eq_true rfl) ?_
  intro p e s m below meth c A ls C hr hlk hini hA hW hl
  have C : Cx p s m _ c cX11_isWithin 3 wsX11_isWithin RX11 := C
  have hl : lv_has ls 3 [(0, .int x0), (1, .int x1), (2, .int x2)] := hl
  obtain ⟨H, hH⟩ : ∃ H, H = s.heap := ⟨_, rfl⟩
  obtain ⟨locs, hlo⟩ : ∃ z : List Loc, z = [] := ⟨_, rfl⟩
  have hW : GW Ev D tys w A s t H locs := by rw [hH, hlo]; exact hW
  rw [show W p l e rm_C_Run_isWithin s m _ below meth c s.heap [] = W p l e rm_C_Run_isWithin s m _ below meth c H locs from by rw [hH, hlo]]
  unfold C_Run_isWithin at hX
  refine lv_iload_n C.1 C.2.1 dX11_isWithin_0 rfl (lv_at hl 0 rfl) ?_
  refine lv_iload_n C.1 C.2.1 dX11_isWithin_1 rfl (lv_at hl 1 rfl) ?_
  refine lv_icmp_lt (tgt := 14) C.1 C.2.1 dX11_isWithin_2 (by decide) (fun c1 => ?_) (fun c1 => ?_)
  · have hX := br_p hX c1
    refine lv_iconst (v := 0) C.1 C.2.1 dX11_isWithin_14 (by decide) ?_
    exact G_retz C hr hlk hA hW rfl ⟨(Option.some.inj hX).symm, rfl⟩ dX11_isWithin_15
  have hX := br_n hX c1
  refine lv_iload_n C.1 C.2.1 dX11_isWithin_5 rfl (lv_at hl 0 rfl) ?_
  refine lv_iload_n C.1 C.2.1 dX11_isWithin_6 rfl (lv_at hl 2 rfl) ?_
  refine lv_icmp_gt (tgt := 14) C.1 C.2.1 dX11_isWithin_7 (by decide) (fun c2 => ?_) (fun c2 => ?_)
  · have hX := br_p hX c2
    refine lv_iconst (v := 0) C.1 C.2.1 dX11_isWithin_14 (by decide) ?_
    exact G_retz C hr hlk hA hW rfl ⟨(Option.some.inj hX).symm, rfl⟩ dX11_isWithin_15
  have hX := br_n hX c2
  refine lv_iconst (v := 1) C.1 C.2.1 dX11_isWithin_10 (by decide) ?_
  refine lv_goto (tgt := 15) C.1 C.2.1 dX11_isWithin_11 (by decide) ?_
  exact G_retz C hr hlk hA hW rfl ⟨(Option.some.inj hX).symm, rfl⟩ dX11_isWithin_15
abbrev rm_C_Run_isQuarter : Room := { frames := 1, cells := 0, slots := 0, locals := 22 }
def C_Run_isQuarter (x0 : Int32) : Option Int32 := bnd (C_Run_isWithin x0 0 63) (fun v1 => chkZ v1 (some v1))
set_option maxHeartbeats 4000000 in
set_option maxRecDepth 100000 in
theorem c_C_Run_isQuarter {S : Type} {Ev : EvT} (l : Launch) (D : va_G) (tys : List (ClassId × FieldType)) (w : S → va_W) (t : S) (x0 : Int32) (X : Int32) (hX : some X = C_Run_isQuarter x0) : cGi Ev l D tys w yX11_isQuarter wsX11_isQuarter rm_C_Run_isQuarter 0 0 [.int x0] t (fun r u => r = X ∧ u = t) := by
  refine G_ini (cc := cX11_isQuarter) (maxL := 1) (ret := some .boolean) (by decide) rfl (Nat.le_of_ble_eq_true rfl) ?_
  intro p e s m below meth c A ls C hr hlk hini hA hW hl
  have C : Cx p s m _ c cX11_isQuarter 1 wsX11_isQuarter RX11 := C
  have hl : lv_has ls 1 [(0, .int x0)] := hl
  obtain ⟨H, hH⟩ : ∃ H, H = s.heap := ⟨_, rfl⟩
  obtain ⟨locs, hlo⟩ : ∃ z : List Loc, z = [] := ⟨_, rfl⟩
  have hW : GW Ev D tys w A s t H locs := by rw [hH, hlo]; exact hW
  rw [show W p l e rm_C_Run_isQuarter s m _ below meth c s.heap [] = W p l e rm_C_Run_isQuarter s m _ below meth c H locs from by rw [hH, hlo]]
  unfold C_Run_isQuarter at hX
  refine lv_iload_n C.1 C.2.1 dX11_isQuarter_0 rfl (lv_at hl 0 rfl) ?_
  refine lv_iconst (v := 0) C.1 C.2.1 dX11_isQuarter_1 (by decide) ?_
  refine lv_bipush (v := 63) C.1 C.2.1 dX11_isQuarter_2 (by decide) ?_
  obtain ⟨v1, hq, hX⟩ := bnd_st hX
  refine G_S0s (As := [.int x0, .int 0, .int 63]) (rest := []) C hW (c_C_Run_isWithin l D tys w t x0 0 63 v1 hq.symm) (va_cwS 3 C.2.2.2.2 gX11_isQuarter_X11_isWithin rfl rfl rfl (by decide +kernel) ⟨Nat.le_of_ble_eq_true rfl, Nat.le_of_ble_eq_true rfl⟩) rfl hl.1 rfl (Nat.le_of_ble_eq_true rfl) dX11_isQuarter_4 (fun H locs hW => ?_)
  obtain ⟨hz, hX⟩ := chkZ_st hX
  exact G_retz C hr hlk hA hW hz.1 ⟨(Option.some.inj hX).symm, rfl⟩ dX11_isQuarter_7
abbrev rm_C_Tape_at : Room := { frames := 0, cells := 0, slots := 0, locals := 0 }
def C_Tape_at (K : List (Nat × Nat)) (t : TH) (x1 : Int32) : Option (Int32) := if x1 < 0 then some (-1) else if (tS t 9 1 0) ≤ x1 then some (-1) else if (nI (tN t 13 0)) ≤ x1 then some (-1) else chkI x1 (tN t 13 0) (some (tS t 13 0 x1.toNatClampNeg))
set_option maxHeartbeats 4000000 in
set_option maxRecDepth 100000 in
theorem c_C_Tape_at {Ev : EvT} {ek ev : Nat → Nat} {tp : Nat} (l : Launch) (D : va_G) (cs : Nat → ClassId) (ad : AD) (K : List (Nat × Nat)) (hKS : KS K) (hEv : EvC Ev ek ev tp) (t : TH) (x1 : Int32) (X : Int32) (hX : some X = C_Tape_at K t x1) : cGi Ev l D (tyC cs) (wC cs ad K) yX9_at wsX9_at rm_C_Tape_at 0 0 [.ref (ad 9 0), .int x1] t (fun r u => r = X ∧ u = t) := by
  refine G_ini (cc := cX9_at) (maxL := 2) (ret := some .int) (by decide) rfl (Nat.le_of_ble_eq_true rfl) ?_
  intro p e s m below meth c A ls C hr hlk hini hA hW hl
  have C : Cx p s m _ c cX9_at 2 wsX9_at RX9 := C
  have hl : lv_has ls 2 [(0, .ref (ad 9 0)), (1, .int x1)] := hl
  have hin9 : ∀ w ∈ wsX90, w ∈ wsX9_at := fun w hw => List.mem_cons_of_mem _ (List.mem_append_right _ hw)
  have f9_0 : (Cond.fieldLink RX9 9 (TX9 0).1 (TX9 0).2.1 (TX9 0).2.2.1).before _ s = true := C.2.2.2.2 _ (List.mem_of_getElem? (i := 2) rfl)
  have f9_1 : (Cond.fieldLink RX9 15 (TX9 1).1 (TX9 1).2.1 (TX9 1).2.2.1).before _ s = true := C.2.2.2.2 _ (List.mem_of_getElem? (i := 1) rfl)
  obtain ⟨H, hH⟩ : ∃ H, H = s.heap := ⟨_, rfl⟩
  obtain ⟨locs, hlo⟩ : ∃ z : List Loc, z = [] := ⟨_, rfl⟩
  have hW : GW Ev D (tyC cs) (wC cs ad K) A s t H locs := by rw [hH, hlo]; exact hW
  rw [show W p l e rm_C_Tape_at s m _ below meth c s.heap [] = W p l e rm_C_Tape_at s m _ below meth c H locs from by rw [hH, hlo]]
  unfold C_Tape_at at hX
  refine lv_iload_n C.1 C.2.1 dX9_at_0 rfl (lv_at hl 1 rfl) ?_
  refine lv_if_lt (tgt := 30) C.1 C.2.1 dX9_at_1 (by decide) (fun c1 => ?_) (fun c1 => ?_)
  · have hX := br_p hX c1
    refine lv_iconst (v := -1) C.1 C.2.1 dX9_at_30 (by decide) ?_
    exact G_reti C hr hlk hA hW ⟨(Option.some.inj hX).symm, rfl⟩ dX9_at_31
  have hX := br_n hX c1
  refine lv_iload_n C.1 C.2.1 dX9_at_4 rfl (lv_at hl 1 rfl) ?_
  refine lv_aload_n C.1 C.2.1 dX9_at_5 rfl (lv_at hl 0 rfl) ?_
  refine C_get C hW 9 rfl hin9 hKS.k9_0 rfl 1 (by decide) rfl f9_1 dX9_at_6 ?_
  refine lv_icmp_ge (tgt := 30) C.1 C.2.1 dX9_at_9 (by decide) (fun c2 => ?_) (fun c2 => ?_)
  · have hX := br_p hX c2
    refine lv_iconst (v := -1) C.1 C.2.1 dX9_at_30 (by decide) ?_
    exact G_reti C hr hlk hA hW ⟨(Option.some.inj hX).symm, rfl⟩ dX9_at_31
  have hX := br_n hX c2
  refine lv_iload_n C.1 C.2.1 dX9_at_12 rfl (lv_at hl 1 rfl) ?_
  refine lv_aload_n C.1 C.2.1 dX9_at_13 rfl (lv_at hl 0 rfl) ?_
  refine C_get C hW 9 rfl hin9 hKS.k9_0 rfl 0 (by decide) rfl f9_0 dX9_at_14 ?_
  refine C_alen C hW hKS.k13_0 rfl 1 rfl dX9_at_17 ?_
  refine lv_icmp_ge (tgt := 30) C.1 C.2.1 dX9_at_18 (by decide) (fun c3 => ?_) (fun c3 => ?_)
  · have hX := br_p hX c3
    refine lv_iconst (v := -1) C.1 C.2.1 dX9_at_30 (by decide) ?_
    exact G_reti C hr hlk hA hW ⟨(Option.some.inj hX).symm, rfl⟩ dX9_at_31
  have hX := br_n hX c3
  refine lv_aload_n C.1 C.2.1 dX9_at_21 rfl (lv_at hl 0 rfl) ?_
  refine C_get C hW 9 rfl hin9 hKS.k9_0 rfl 0 (by decide) rfl f9_0 dX9_at_22 ?_
  refine lv_iload_n C.1 C.2.1 dX9_at_25 rfl (lv_at hl 1 rfl) ?_
  obtain ⟨hi, hX⟩ := chkI_st hX
  refine C_ldI C hW hKS.k13_0 rfl hi dX9_at_26 ?_
  refine lv_goto (tgt := 31) C.1 C.2.1 dX9_at_27 (by decide) ?_
  exact G_reti C hr hlk hA hW ⟨(Option.some.inj hX).symm, rfl⟩ dX9_at_31
abbrev rm_C_Tape_addByte : Room := { frames := 0, cells := 0, slots := 0, locals := 0 }
def C_Tape_addByte (K : List (Nat × Nat)) (t : TH) (x1 : Int32) : Option (TH) := if (tS t 9 1 0) < 0 then some t else if (nI (tN t 13 0)) ≤ (tS t 9 1 0) then some t else chkI (tS t 9 1 0) (tN t 13 0) (nm (uS t 13 0 (tS t 9 1 0).toNatClampNeg x1) (fun t3 => nm (uS t3 9 1 0 ((tS t3 9 1 0) + 1)) (fun t4 => some t4)))
set_option maxHeartbeats 4000000 in
set_option maxRecDepth 100000 in
theorem c_C_Tape_addByte {Ev : EvT} {ek ev : Nat → Nat} {tp : Nat} (l : Launch) (D : va_G) (cs : Nat → ClassId) (ad : AD) (K : List (Nat × Nat)) (hKS : KS K) (hEv : EvC Ev ek ev tp) (t : TH) (x1 : Int32) (X : TH) (hX : some X = C_Tape_addByte K t x1) : cGv Ev l D (tyC cs) (wC cs ad K) yX9_addByte wsX9_addByte rm_C_Tape_addByte 0 0 [.ref (ad 9 0), .int x1] t (fun u => u = X) := by
  refine G_inv (cc := cX9_addByte) (maxL := 2) (ret := none) (by decide) rfl (Nat.le_of_ble_eq_true rfl) ?_
  intro p e s m below meth c A ls C hr hlk hini hA hW hl
  have C : Cx p s m _ c cX9_addByte 2 wsX9_addByte RX9 := C
  have hl : lv_has ls 2 [(0, .ref (ad 9 0)), (1, .int x1)] := hl
  have hin9 : ∀ w ∈ wsX90, w ∈ wsX9_addByte := fun w hw => List.mem_cons_of_mem _ (List.mem_append_right _ hw)
  have f9_0 : (Cond.fieldLink RX9 9 (TX9 0).1 (TX9 0).2.1 (TX9 0).2.2.1).before _ s = true := C.2.2.2.2 _ (List.mem_of_getElem? (i := 2) rfl)
  have f9_1 : (Cond.fieldLink RX9 15 (TX9 1).1 (TX9 1).2.1 (TX9 1).2.2.1).before _ s = true := C.2.2.2.2 _ (List.mem_of_getElem? (i := 1) rfl)
  obtain ⟨H, hH⟩ : ∃ H, H = s.heap := ⟨_, rfl⟩
  obtain ⟨locs, hlo⟩ : ∃ z : List Loc, z = [] := ⟨_, rfl⟩
  have hW : GW Ev D (tyC cs) (wC cs ad K) A s t H locs := by rw [hH, hlo]; exact hW
  rw [show W p l e rm_C_Tape_addByte s m _ below meth c s.heap [] = W p l e rm_C_Tape_addByte s m _ below meth c H locs from by rw [hH, hlo]]
  unfold C_Tape_addByte at hX
  refine lv_aload_n C.1 C.2.1 dX9_addByte_0 rfl (lv_at hl 0 rfl) ?_
  refine C_get C hW 9 rfl hin9 hKS.k9_0 rfl 1 (by decide) rfl f9_1 dX9_addByte_1 ?_
  refine lv_if_lt (tgt := 39) C.1 C.2.1 dX9_addByte_4 (by decide) (fun c1 => ?_) (fun c1 => ?_)
  · have hX := br_p hX c1
    exact G_retv C hr hlk hA hW (Option.some.inj hX).symm dX9_addByte_39
  have hX := br_n hX c1
  refine lv_aload_n C.1 C.2.1 dX9_addByte_7 rfl (lv_at hl 0 rfl) ?_
  refine C_get C hW 9 rfl hin9 hKS.k9_0 rfl 1 (by decide) rfl f9_1 dX9_addByte_8 ?_
  refine lv_aload_n C.1 C.2.1 dX9_addByte_11 rfl (lv_at hl 0 rfl) ?_
  refine C_get C hW 9 rfl hin9 hKS.k9_0 rfl 0 (by decide) rfl f9_0 dX9_addByte_12 ?_
  refine C_alen C hW hKS.k13_0 rfl 1 rfl dX9_addByte_15 ?_
  refine lv_icmp_ge (tgt := 39) C.1 C.2.1 dX9_addByte_16 (by decide) (fun c2 => ?_) (fun c2 => ?_)
  · have hX := br_p hX c2
    exact G_retv C hr hlk hA hW (Option.some.inj hX).symm dX9_addByte_39
  have hX := br_n hX c2
  refine lv_aload_n C.1 C.2.1 dX9_addByte_19 rfl (lv_at hl 0 rfl) ?_
  refine C_get C hW 9 rfl hin9 hKS.k9_0 rfl 0 (by decide) rfl f9_0 dX9_addByte_20 ?_
  refine lv_aload_n C.1 C.2.1 dX9_addByte_23 rfl (lv_at hl 0 rfl) ?_
  refine C_get C hW 9 rfl hin9 hKS.k9_0 rfl 1 (by decide) rfl f9_1 dX9_addByte_24 ?_
  refine lv_iload_n C.1 C.2.1 dX9_addByte_27 rfl (lv_at hl 1 rfl) ?_
  obtain ⟨hi, hX⟩ := chkI_st hX
  obtain ⟨t3, et3⟩ : ∃ z, z = uS t 13 0 (tS t 9 1 0).toNatClampNeg x1 := ⟨_, rfl⟩
  refine C_stI C hW hKS.k13_0 rfl hi dX9_addByte_28 (t' := t3) (by rw [et3]; exact wr13) (by rw [et3]; exact hr_S (by decide)) (fun H locs hW => ?_)
  have hX := nm_st hX et3
  refine lv_aload_n C.1 C.2.1 dX9_addByte_29 rfl (lv_at hl 0 rfl) ?_
  refine lv_dup C.1 C.2.1 dX9_addByte_30 rfl ?_
  refine C_get C hW 9 rfl hin9 hKS.k9_0 rfl 1 (by decide) rfl f9_1 dX9_addByte_31 ?_
  refine lv_iconst (v := 1) C.1 C.2.1 dX9_addByte_34 (by decide) ?_
  refine lv_iadd C.1 C.2.1 dX9_addByte_35 ?_
  obtain ⟨t4, et4⟩ : ∃ z, z = uS t3 9 1 0 ((tS t3 9 1 0) + 1) := ⟨_, rfl⟩
  refine C_put C hW 9 rfl hin9 tyX9 tyX9_ok nmX9 hKS.k9_0 rfl 1 (by decide) rfl rfl rfl (Nat.le_of_ble_eq_true rfl) f9_1 dX9_addByte_36 (t' := t4) (by rw [et4]; exact wr9_1) (by rw [et4]; exact ho_S (by decide)) (fun H locs hW => ?_)
  have hX := nm_st hX et4
  exact G_retv C hr hlk hA hW (Option.some.inj hX).symm dX9_addByte_39
abbrev rm_C_Tape_addNumber : Room := { frames := 1, cells := 0, slots := 0, locals := 21 }
def C_Tape_addNumber_L3 : Nat → List (Nat × Nat) → TH → Int32 → Int32 → Option (TH × Int32)
  | 0, _, _, _, _ => none
  | n + 1, K, t, x2, x1 => if x2 < 0 then some (t, x2) else bnd (C_Tape_addByte K t (((x1.toUInt32 >>> (x2.toUInt32 &&& Int32.toUInt32 31)).toInt32) &&& 255)) (fun t5 => nm (x2 + (-8)) (fun v6 => C_Tape_addNumber_L3 n K t5 v6 x1))
set_option maxHeartbeats 4000000 in
set_option maxRecDepth 100000 in
theorem r_C_Tape_addNumber_L3 {p : Program} {l : Launch} {e : Env} {s : State} {m : MethodId} {args : Array Value} {below : List Frame} {meth : Method} {c : Code} {Q : State → Prop} {Ev : EvT} {D : va_G} {cs : Nat → ClassId} {ad : AD} {A : Nat → Prop} {ek ev : Nat → Nat} {tp : Nat} (C : Cx p s m args c cX9_addNumber 3 wsX9_addNumber RX9) {K : List (Nat × Nat)} (hKS : KS K) (hEv : EvC Ev ek ev tp) : ∀ (n : Nat) (t : TH) (x2 : Int32) (x1 : Int32) (H : Heap) (locs : List Loc) (ls : Array Slot) (X : TH × Int32), some X = C_Tape_addNumber_L3 n K t x2 x1 → GW Ev D (tyC cs) (wC cs ad K) A s t H locs → lv_has ls 3 [(2, .int x2), (0, .ref (ad 9 0)), (1, .int x1)] → (∀ (τ : TH) (z2 : Int32) (H : Heap) (locs : List Loc) (ls : Array Slot), X = (τ, z2) → GW Ev D (tyC cs) (wC cs ad K) A s τ H locs → lv_has ls 3 [(2, .int z2), (0, .ref (ad 9 0)), (1, .int x1)] → W p l e rm_C_Tape_addNumber s m args below meth c H locs 0 0 Q (F0 m 24 ls [])) → W p l e rm_C_Tape_addNumber s m args below meth c H locs 0 0 Q (F0 m 3 ls []) := by
  intro n
  induction n with
  | zero =>
    intro t x2 x1 H locs ls X hX hW hl K0
    cases hX
  | succ n ih =>
    intro t x2 x1 H locs ls X hX hW hl K0
    unfold C_Tape_addNumber_L3 at hX
    refine lv_iload_n C.1 C.2.1 dX9_addNumber_3 rfl (lv_at hl 0 rfl) ?_
    refine lv_if_lt (tgt := 24) C.1 C.2.1 dX9_addNumber_4 (by decide) (fun c4 => ?_) (fun c4 => ?_)
    · have hX := br_p hX c4
      exact K0 t x2 H locs ls (Option.some.inj hX) hW (lv_sub hl [0, 1, 2] rfl)
    have hX := br_n hX c4
    refine lv_aload_n C.1 C.2.1 dX9_addNumber_7 rfl (lv_at hl 1 rfl) ?_
    refine lv_iload_n C.1 C.2.1 dX9_addNumber_8 rfl (lv_at hl 2 rfl) ?_
    refine lv_iload_n C.1 C.2.1 dX9_addNumber_9 rfl (lv_at hl 0 rfl) ?_
    refine lv_iushr C.1 C.2.1 dX9_addNumber_10 rfl ?_
    refine lv_sipush (v := 255) C.1 C.2.1 dX9_addNumber_11 (by decide) ?_
    refine lv_iand C.1 C.2.1 dX9_addNumber_14 ?_
    obtain ⟨t5, hq, hX⟩ := bnd_st hX
    refine G_V0u (As := [.int (((x1.toUInt32 >>> (x2.toUInt32 &&& Int32.toUInt32 31)).toInt32) &&& 255)]) (rest := []) C hW (c_C_Tape_addByte l D cs ad K hKS hEv t (((x1.toUInt32 >>> (x2.toUInt32 &&& Int32.toUInt32 31)).toInt32) &&& 255) t5 hq.symm) (cwV 1 C.2.2.2.2 gX9_addNumber_X9_addByte rfl rfl rfl (by decide +kernel) ⟨Nat.le_of_ble_eq_true rfl, Nat.le_of_ble_eq_true rfl⟩) (C_recv hW 9 hKS.k9_0 rfl rfl) rfl hl.1 rfl (Nat.le_of_ble_eq_true rfl) dX9_addNumber_15 (fun H locs hW => ?_)
    obtain ⟨v6, ev6⟩ : ∃ z : Int32, z = x2 + (-8) := ⟨_, rfl⟩
    have hX := nm_st hX ev6
    refine lv_iinc (v := v6) (lv' := [(2, .int v6), (0, .ref (ad 9 0)), (1, .int x1)]) C.1 C.2.1 dX9_addNumber_18 hl (k := 0) rfl (by rw [ev6]; rfl) (by decide) rfl (fun ls hl => ?_)
    refine lv_goto (tgt := 3) C.1 C.2.1 dX9_addNumber_21 (by decide) ?_
    exact ih t5 v6 x1 H locs ls X hX hW (lv_sub hl [0, 1, 2] rfl) K0
def C_Tape_addNumber (K : List (Nat × Nat)) (t : TH) (x1 : Int32) : Option (TH) := bnd (C_Tape_addNumber_L3 100000 K t 24 x1) (fun q => nm2 q (fun t7 v8 => some t7))
set_option maxHeartbeats 4000000 in
set_option maxRecDepth 100000 in
theorem c_C_Tape_addNumber {Ev : EvT} {ek ev : Nat → Nat} {tp : Nat} (l : Launch) (D : va_G) (cs : Nat → ClassId) (ad : AD) (K : List (Nat × Nat)) (hKS : KS K) (hEv : EvC Ev ek ev tp) (t : TH) (x1 : Int32) (X : TH) (hX : some X = C_Tape_addNumber K t x1) : cGv Ev l D (tyC cs) (wC cs ad K) yX9_addNumber wsX9_addNumber rm_C_Tape_addNumber 0 0 [.ref (ad 9 0), .int x1] t (fun u => u = X) := by
  refine G_inv (cc := cX9_addNumber) (maxL := 3) (ret := none) (by decide) rfl (Nat.le_of_ble_eq_true rfl) ?_
  intro p e s m below meth c A ls C hr hlk hini hA hW hl
  have C : Cx p s m _ c cX9_addNumber 3 wsX9_addNumber RX9 := C
  have hl : lv_has ls 3 [(0, .ref (ad 9 0)), (1, .int x1)] := hl
  obtain ⟨H, hH⟩ : ∃ H, H = s.heap := ⟨_, rfl⟩
  obtain ⟨locs, hlo⟩ : ∃ z : List Loc, z = [] := ⟨_, rfl⟩
  have hW : GW Ev D (tyC cs) (wC cs ad K) A s t H locs := by rw [hH, hlo]; exact hW
  rw [show W p l e rm_C_Tape_addNumber s m _ below meth c s.heap [] = W p l e rm_C_Tape_addNumber s m _ below meth c H locs from by rw [hH, hlo]]
  unfold C_Tape_addNumber at hX
  refine lv_bipush (v := 24) C.1 C.2.1 dX9_addNumber_0 (by decide) ?_
  refine lv_istore_n (i := 2) (lv' := [(2, .int 24), (0, .ref (ad 9 0)), (1, .int x1)]) C.1 C.2.1 dX9_addNumber_2 rfl hl (by decide) rfl (fun ls hl => ?_)
  obtain ⟨q, hq, hX⟩ := bnd_st hX
  refine r_C_Tape_addNumber_L3 C hKS hEv 100000 t 24 x1 H locs ls q hq.symm hW (lv_sub hl [0, 1, 2] rfl) ?_
  intro t7 v8 H locs ls hq hW hl
  subst hq
  have hX := nm2_st hX rfl
  exact G_retv C hr hlk hA hW (Option.some.inj hX).symm dX9_addNumber_24
abbrev rm_C_Tape_copyInto : Room := { frames := 1, cells := 0, slots := 0, locals := 21 }
def C_Tape_copyInto_L2 : Nat → List (Nat × Nat) → TH → Int32 → Nat → Option (TH × Int32)
  | 0, _, _, _, _ => none
  | n + 1, K, t, x2, x1 => chkP ((7, x1) ∈ K) (if (nI (tN t 18 x1)) ≤ x2 then some (t, x2) else bnd (C_Tape_at K t x2) (fun v8 => chkI x2 (tN t 18 x1) (nm (uS t 18 x1 x2.toNatClampNeg v8) (fun t9 => nm (x2 + 1) (fun v10 => C_Tape_copyInto_L2 n K t9 v10 x1)))))
set_option maxHeartbeats 4000000 in
set_option maxRecDepth 100000 in
theorem r_C_Tape_copyInto_L2 {p : Program} {l : Launch} {e : Env} {s : State} {m : MethodId} {args : Array Value} {below : List Frame} {meth : Method} {c : Code} {Q : State → Prop} {Ev : EvT} {D : va_G} {cs : Nat → ClassId} {ad : AD} {A : Nat → Prop} {ek ev : Nat → Nat} {tp : Nat} (C : Cx p s m args c cX9_copyInto 3 wsX9_copyInto RX9) {K : List (Nat × Nat)} (hKS : KS K) (hEv : EvC Ev ek ev tp) : ∀ (n : Nat) (t : TH) (x2 : Int32) (x1 : Nat) (H : Heap) (locs : List Loc) (ls : Array Slot) (X : TH × Int32), some X = C_Tape_copyInto_L2 n K t x2 x1 → GW Ev D (tyC cs) (wC cs ad K) A s t H locs → lv_has ls 3 [(2, .int x2), (0, .ref (ad 9 0)), (1, .ref (ad 18 x1))] → (∀ (τ : TH) (z2 : Int32) (H : Heap) (locs : List Loc) (ls : Array Slot), X = (τ, z2) → GW Ev D (tyC cs) (wC cs ad K) A s τ H locs → lv_has ls 3 [(2, .int z2), (0, .ref (ad 9 0)), (1, .ref (ad 18 x1))] → W p l e rm_C_Tape_copyInto s m args below meth c H locs 0 0 Q (F0 m 22 ls [])) → W p l e rm_C_Tape_copyInto s m args below meth c H locs 0 0 Q (F0 m 2 ls []) := by
  intro n
  induction n with
  | zero =>
    intro t x2 x1 H locs ls X hX hW hl K0
    cases hX
  | succ n ih =>
    intro t x2 x1 H locs ls X hX hW hl K0
    unfold C_Tape_copyInto_L2 at hX
    refine lv_iload_n C.1 C.2.1 dX9_copyInto_2 rfl (lv_at hl 0 rfl) ?_
    refine lv_aload_n C.1 C.2.1 dX9_copyInto_3 rfl (lv_at hl 2 rfl) ?_
    obtain ⟨hk6, hX⟩ := chkP_st hX
    refine C_alen C hW (hKS.2 _ hk6).2 rfl 1 rfl dX9_copyInto_4 ?_
    refine lv_icmp_ge (tgt := 22) C.1 C.2.1 dX9_copyInto_5 (by decide) (fun c7 => ?_) (fun c7 => ?_)
    · have hX := br_p hX c7
      exact K0 t x2 H locs ls (Option.some.inj hX) hW (lv_sub hl [0, 1, 2] rfl)
    have hX := br_n hX c7
    refine lv_aload_n C.1 C.2.1 dX9_copyInto_8 rfl (lv_at hl 2 rfl) ?_
    refine lv_iload_n C.1 C.2.1 dX9_copyInto_9 rfl (lv_at hl 0 rfl) ?_
    refine lv_aload_n C.1 C.2.1 dX9_copyInto_10 rfl (lv_at hl 1 rfl) ?_
    refine lv_iload_n C.1 C.2.1 dX9_copyInto_11 rfl (lv_at hl 0 rfl) ?_
    obtain ⟨v8, hq, hX⟩ := bnd_st hX
    refine G_V0p (As := [.int x2]) (rest := [.int x2, .ref (ad 18 x1)]) C hW (c_C_Tape_at l D cs ad K hKS hEv t x2 v8 hq.symm) (cwV 1 C.2.2.2.2 gX9_copyInto_X9_at rfl rfl rfl (by decide +kernel) ⟨Nat.le_of_ble_eq_true rfl, Nat.le_of_ble_eq_true rfl⟩) (C_recv hW 9 hKS.k9_0 rfl rfl) rfl hl.1 rfl (Nat.le_of_ble_eq_true rfl) dX9_copyInto_12 (fun H locs hW => ?_)
    obtain ⟨hi, hX⟩ := chkI_st hX
    obtain ⟨t9, et9⟩ : ∃ z, z = uS t 18 x1 x2.toNatClampNeg v8 := ⟨_, rfl⟩
    refine C_stI C hW (hKS.2 _ hk6).2 rfl hi dX9_copyInto_15 (t' := t9) (by rw [et9]; exact wr18) (by rw [et9]; exact hr_S (by decide)) (fun H locs hW => ?_)
    have hX := nm_st hX et9
    obtain ⟨v10, ev10⟩ : ∃ z : Int32, z = x2 + 1 := ⟨_, rfl⟩
    have hX := nm_st hX ev10
    refine lv_iinc (v := v10) (lv' := [(2, .int v10), (0, .ref (ad 9 0)), (1, .ref (ad 18 x1))]) C.1 C.2.1 dX9_copyInto_16 hl (k := 0) rfl (by rw [ev10]; rfl) (by decide) rfl (fun ls hl => ?_)
    refine lv_goto (tgt := 2) C.1 C.2.1 dX9_copyInto_19 (by decide) ?_
    exact ih t9 v10 x1 H locs ls X hX hW (lv_sub hl [0, 1, 2] rfl) K0
def C_Tape_copyInto (K : List (Nat × Nat)) (t : TH) (x1 : Nat) : Option (TH) := bnd (C_Tape_copyInto_L2 100000 K t 0 x1) (fun q => nm2 q (fun t11 v12 => some t11))
set_option maxHeartbeats 4000000 in
set_option maxRecDepth 100000 in
theorem c_C_Tape_copyInto {Ev : EvT} {ek ev : Nat → Nat} {tp : Nat} (l : Launch) (D : va_G) (cs : Nat → ClassId) (ad : AD) (K : List (Nat × Nat)) (hKS : KS K) (hEv : EvC Ev ek ev tp) (t : TH) (x1 : Nat) (X : TH) (hX : some X = C_Tape_copyInto K t x1) : cGv Ev l D (tyC cs) (wC cs ad K) yX9_copyInto wsX9_copyInto rm_C_Tape_copyInto 0 0 [.ref (ad 9 0), .ref (ad 18 x1)] t (fun u => u = X) := by
  refine G_inv (cc := cX9_copyInto) (maxL := 3) (ret := none) (by decide) rfl (Nat.le_of_ble_eq_true rfl) ?_
  intro p e s m below meth c A ls C hr hlk hini hA hW hl
  have C : Cx p s m _ c cX9_copyInto 3 wsX9_copyInto RX9 := C
  have hl : lv_has ls 3 [(0, .ref (ad 9 0)), (1, .ref (ad 18 x1))] := hl
  obtain ⟨H, hH⟩ : ∃ H, H = s.heap := ⟨_, rfl⟩
  obtain ⟨locs, hlo⟩ : ∃ z : List Loc, z = [] := ⟨_, rfl⟩
  have hW : GW Ev D (tyC cs) (wC cs ad K) A s t H locs := by rw [hH, hlo]; exact hW
  rw [show W p l e rm_C_Tape_copyInto s m _ below meth c s.heap [] = W p l e rm_C_Tape_copyInto s m _ below meth c H locs from by rw [hH, hlo]]
  unfold C_Tape_copyInto at hX
  refine lv_iconst (v := 0) C.1 C.2.1 dX9_copyInto_0 (by decide) ?_
  refine lv_istore_n (i := 2) (lv' := [(2, .int 0), (0, .ref (ad 9 0)), (1, .ref (ad 18 x1))]) C.1 C.2.1 dX9_copyInto_1 rfl hl (by decide) rfl (fun ls hl => ?_)
  obtain ⟨q, hq, hX⟩ := bnd_st hX
  refine r_C_Tape_copyInto_L2 C hKS hEv 100000 t 0 x1 H locs ls q hq.symm hW (lv_sub hl [0, 1, 2] rfl) ?_
  intro t11 v12 H locs ls hq hW hl
  subst hq
  have hX := nm2_st hX rfl
  exact G_retv C hr hlk hA hW (Option.some.inj hX).symm dX9_copyInto_22
abbrev rm_C_Tape_tellsEachOnce : Room := { frames := 1, cells := 0, slots := 0, locals := 22 }
def C_Tape_tellsEachOnce_L5 : Nat → List (Nat × Nat) → TH → Int32 → Int64 → Int32 → Option (Nat × Int32 × Int64 × Int32)
  | 0, _, _, _, _, _ => none
  | n + 1, K, t, x4, x2, x1 => if (tS t 9 1 0) ≤ x4 then some (1, x4, x2, 0) else bnd (C_Tape_at K t x4) (fun v9 => bnd (C_Run_isWithin v9 0 (x1 - 1)) (fun v10 => if v10 = 0 then some (0, x4, x2, 0) else if (lg_cmp (((x2.toUInt64 >>> (v9.toInt64.toUInt64 &&& Int64.toUInt64 63)).toInt64) &&& 1) 0) = 0 then nm (x2 ||| ((1 : Int64) <<< (v9.toInt64 &&& 63))) (fun v13 => nm (x4 + 1) (fun v14 => C_Tape_tellsEachOnce_L5 n K t v14 v13 x1)) else some (0, x4, x2, 0)))
set_option maxHeartbeats 4000000 in
set_option maxRecDepth 100000 in
theorem r_C_Tape_tellsEachOnce_L5 {p : Program} {l : Launch} {e : Env} {s : State} {m : MethodId} {args : Array Value} {below : List Frame} {meth : Method} {c : Code} {Q : State → Prop} {Ev : EvT} {D : va_G} {cs : Nat → ClassId} {ad : AD} {A : Nat → Prop} {ek ev : Nat → Nat} {tp : Nat} (C : Cx p s m args c cX9_tellsEachOnce 6 wsX9_tellsEachOnce RX9) {K : List (Nat × Nat)} (hKS : KS K) (hEv : EvC Ev ek ev tp) : ∀ (n : Nat) (t : TH) (x4 : Int32) (x2 : Int64) (x1 : Int32) (H : Heap) (locs : List Loc) (ls : Array Slot) (X : Nat × Int32 × Int64 × Int32), some X = C_Tape_tellsEachOnce_L5 n K t x4 x2 x1 → GW Ev D (tyC cs) (wC cs ad K) A s t H locs → lv_has ls 6 [(4, .int x4), (2, .long x2), (0, .ref (ad 9 0)), (1, .int x1)] → (∀ (z4 : Int32) (z2 : Int64) (w0 : Int32) (H : Heap) (locs : List Loc) (ls : Array Slot), X = (0, z4, z2, w0) → GW Ev D (tyC cs) (wC cs ad K) A s t H locs → lv_has ls 6 [(4, .int z4), (2, .long z2), (0, .ref (ad 9 0)), (1, .int x1)] → W p l e rm_C_Tape_tellsEachOnce s m args below meth c H locs 0 0 Q (F0 m 46 ls [.int w0])) → (∀ (z4 : Int32) (z2 : Int64) (w0 : Int32) (H : Heap) (locs : List Loc) (ls : Array Slot), X = (1, z4, z2, w0) → GW Ev D (tyC cs) (wC cs ad K) A s t H locs → lv_has ls 6 [(4, .int z4), (2, .long z2), (0, .ref (ad 9 0)), (1, .int x1)] → W p l e rm_C_Tape_tellsEachOnce s m args below meth c H locs 0 0 Q (F0 m 60 ls [])) → W p l e rm_C_Tape_tellsEachOnce s m args below meth c H locs 0 0 Q (F0 m 5 ls []) := by
  have hin9 : ∀ w ∈ wsX90, w ∈ wsX9_tellsEachOnce := fun w hw => List.mem_cons_of_mem _ (List.mem_append_right _ hw)
  have f9_1 : (Cond.fieldLink RX9 15 (TX9 1).1 (TX9 1).2.1 (TX9 1).2.2.1).before _ s = true := C.2.2.2.2 _ (List.mem_of_getElem? (i := 1) rfl)
  intro n
  induction n with
  | zero =>
    intro t x4 x2 x1 H locs ls X hX hW hl K0 K1
    cases hX
  | succ n ih =>
    intro t x4 x2 x1 H locs ls X hX hW hl K0 K1
    unfold C_Tape_tellsEachOnce_L5 at hX
    refine lv_iload C.1 C.2.1 dX9_tellsEachOnce_5 (lv_at hl 0 rfl) ?_
    refine lv_aload_n C.1 C.2.1 dX9_tellsEachOnce_7 rfl (lv_at hl 2 rfl) ?_
    refine C_get C hW 9 rfl hin9 hKS.k9_0 rfl 1 (by decide) rfl f9_1 dX9_tellsEachOnce_8 ?_
    refine lv_icmp_ge (tgt := 60) C.1 C.2.1 dX9_tellsEachOnce_11 (by decide) (fun c8 => ?_) (fun c8 => ?_)
    · have hX := br_p hX c8
      exact K1 x4 x2 0 H locs ls (Option.some.inj hX) hW (lv_sub hl [0, 1, 2, 3] rfl)
    have hX := br_n hX c8
    refine lv_aload_n C.1 C.2.1 dX9_tellsEachOnce_14 rfl (lv_at hl 2 rfl) ?_
    refine lv_iload C.1 C.2.1 dX9_tellsEachOnce_15 (lv_at hl 0 rfl) ?_
    obtain ⟨v9, hq, hX⟩ := bnd_st hX
    refine G_V0p (As := [.int x4]) (rest := []) C hW (c_C_Tape_at l D cs ad K hKS hEv t x4 v9 hq.symm) (cwV 1 C.2.2.2.2 gX9_tellsEachOnce_X9_at rfl rfl rfl (by decide +kernel) ⟨Nat.le_of_ble_eq_true rfl, Nat.le_of_ble_eq_true rfl⟩) (C_recv hW 9 hKS.k9_0 rfl rfl) rfl hl.1 rfl (Nat.le_of_ble_eq_true rfl) dX9_tellsEachOnce_17 (fun H locs hW => ?_)
    refine lv_istore (i := 5) (lv' := [(5, .int v9), (4, .int x4), (2, .long x2), (0, .ref (ad 9 0)), (1, .int x1)]) C.1 C.2.1 dX9_tellsEachOnce_20 hl (by decide) rfl (fun ls hl => ?_)
    refine lv_iload C.1 C.2.1 dX9_tellsEachOnce_22 (lv_at hl 0 rfl) ?_
    refine lv_iconst (v := 0) C.1 C.2.1 dX9_tellsEachOnce_24 (by decide) ?_
    refine lv_iload_n C.1 C.2.1 dX9_tellsEachOnce_25 rfl (lv_at hl 4 rfl) ?_
    refine lv_iconst (v := 1) C.1 C.2.1 dX9_tellsEachOnce_26 (by decide) ?_
    refine lv_isub C.1 C.2.1 dX9_tellsEachOnce_27 ?_
    obtain ⟨v10, hq, hX⟩ := bnd_st hX
    refine G_S0n (As := [.int v9, .int 0, .int (x1 - 1)]) (rest := []) C hW (c_C_Run_isWithin l D (tyC cs) (wC cs ad K) t v9 0 (x1 - 1) v10 hq.symm) (va_cnB 3 C.2.2.2.2 gX9_tellsEachOnce_X11_isWithin_n42 rfl rfl rfl (hEv.nest hW) (C.2.2.2.2 _ (List.mem_of_getElem? (i := 9) rfl)) (by decide +kernel) ⟨Nat.le_of_ble_eq_true rfl, Nat.le_of_ble_eq_true rfl⟩) (C.2.2.2.2 _ (List.mem_of_getElem? (i := 8) rfl)) rfl hl.1 rfl (Nat.le_of_ble_eq_true rfl) dX9_tellsEachOnce_28 (fun H locs hW => ?_)
    refine lv_if_eq (tgt := 45) C.1 C.2.1 dX9_tellsEachOnce_31 (by decide) (fun c11 => ?_) (fun c11 => ?_)
    · have hX := br_p hX c11
      refine lv_iconst (v := 0) C.1 C.2.1 dX9_tellsEachOnce_45 (by decide) ?_
      exact K0 x4 x2 0 H locs ls (Option.some.inj hX) hW (lv_sub hl [1, 2, 3, 4] rfl)
    have hX := br_n hX c11
    refine lv_lload_n C.1 C.2.1 dX9_tellsEachOnce_34 rfl (lv_at hl 2 rfl) ?_
    refine lv_iload C.1 C.2.1 dX9_tellsEachOnce_35 (lv_at hl 0 rfl) ?_
    refine lv_lushr C.1 C.2.1 dX9_tellsEachOnce_37 rfl ?_
    refine lv_lconst (v := 1) C.1 C.2.1 dX9_tellsEachOnce_38 (by decide) ?_
    refine lv_land C.1 C.2.1 dX9_tellsEachOnce_39 ?_
    refine lv_lconst (v := 0) C.1 C.2.1 dX9_tellsEachOnce_40 (by decide) ?_
    refine W.lcmp C.1 C.2.1 dX9_tellsEachOnce_41 ?_
    refine lv_if_eq (tgt := 47) C.1 C.2.1 dX9_tellsEachOnce_42 (by decide) (fun c12 => ?_) (fun c12 => ?_)
    · have hX := br_p hX c12
      refine lv_lload_n C.1 C.2.1 dX9_tellsEachOnce_47 rfl (lv_at hl 2 rfl) ?_
      refine lv_lconst (v := 1) C.1 C.2.1 dX9_tellsEachOnce_48 (by decide) ?_
      refine lv_iload C.1 C.2.1 dX9_tellsEachOnce_49 (lv_at hl 0 rfl) ?_
      refine lv_lshl C.1 C.2.1 dX9_tellsEachOnce_51 rfl ?_
      refine lv_lor C.1 C.2.1 dX9_tellsEachOnce_52 ?_
      refine lv_topl (fun v13 ev13 => ?_)
      have hX := nm_st hX ev13
      refine lv_lstore_n (i := 2) (lv' := [(2, .long v13), (5, .int v9), (4, .int x4), (0, .ref (ad 9 0)), (1, .int x1)]) C.1 C.2.1 dX9_tellsEachOnce_53 rfl hl (by decide) rfl (fun ls hl => ?_)
      obtain ⟨v14, ev14⟩ : ∃ z : Int32, z = x4 + 1 := ⟨_, rfl⟩
      have hX := nm_st hX ev14
      refine lv_iinc (v := v14) (lv' := [(4, .int v14), (2, .long v13), (5, .int v9), (0, .ref (ad 9 0)), (1, .int x1)]) C.1 C.2.1 dX9_tellsEachOnce_54 hl (k := 2) rfl (by rw [ev14]; rfl) (by decide) rfl (fun ls hl => ?_)
      refine lv_goto (tgt := 5) C.1 C.2.1 dX9_tellsEachOnce_57 (by decide) ?_
      exact ih t v14 v13 x1 H locs ls X hX hW (lv_sub hl [0, 1, 3, 4] rfl) K0 K1
    have hX := br_n hX c12
    refine lv_iconst (v := 0) C.1 C.2.1 dX9_tellsEachOnce_45 (by decide) ?_
    exact K0 x4 x2 0 H locs ls (Option.some.inj hX) hW (lv_sub hl [1, 2, 3, 4] rfl)
def C_Tape_tellsEachOnce (K : List (Nat × Nat)) (t : TH) (x1 : Int32) : Option (Int32) := bnd (C_Tape_tellsEachOnce_L5 100000 K t 0 0 x1) (fun q => nm2 q (fun j q => nm2 q (fun v15 q => nm2 q (fun v16 v17 => if j = 0 then chkZ v17 (some v17) else if j = 1 then some 1 else none))))
set_option maxHeartbeats 4000000 in
set_option maxRecDepth 100000 in
theorem c_C_Tape_tellsEachOnce {Ev : EvT} {ek ev : Nat → Nat} {tp : Nat} (l : Launch) (D : va_G) (cs : Nat → ClassId) (ad : AD) (K : List (Nat × Nat)) (hKS : KS K) (hEv : EvC Ev ek ev tp) (t : TH) (x1 : Int32) (X : Int32) (hX : some X = C_Tape_tellsEachOnce K t x1) : cGi Ev l D (tyC cs) (wC cs ad K) yX9_tellsEachOnce wsX9_tellsEachOnce rm_C_Tape_tellsEachOnce 0 0 [.ref (ad 9 0), .int x1] t (fun r u => r = X ∧ u = t) := by
  refine G_ini (cc := cX9_tellsEachOnce) (maxL := 6) (ret := some .boolean) (by decide) rfl (Nat.le_of_ble_eq_true rfl) ?_
  intro p e s m below meth c A ls C hr hlk hini hA hW hl
  have C : Cx p s m _ c cX9_tellsEachOnce 6 wsX9_tellsEachOnce RX9 := C
  have hl : lv_has ls 6 [(0, .ref (ad 9 0)), (1, .int x1)] := hl
  have hin9 : ∀ w ∈ wsX90, w ∈ wsX9_tellsEachOnce := fun w hw => List.mem_cons_of_mem _ (List.mem_append_right _ hw)
  have f9_1 : (Cond.fieldLink RX9 15 (TX9 1).1 (TX9 1).2.1 (TX9 1).2.2.1).before _ s = true := C.2.2.2.2 _ (List.mem_of_getElem? (i := 1) rfl)
  obtain ⟨H, hH⟩ : ∃ H, H = s.heap := ⟨_, rfl⟩
  obtain ⟨locs, hlo⟩ : ∃ z : List Loc, z = [] := ⟨_, rfl⟩
  have hW : GW Ev D (tyC cs) (wC cs ad K) A s t H locs := by rw [hH, hlo]; exact hW
  rw [show W p l e rm_C_Tape_tellsEachOnce s m _ below meth c s.heap [] = W p l e rm_C_Tape_tellsEachOnce s m _ below meth c H locs from by rw [hH, hlo]]
  unfold C_Tape_tellsEachOnce at hX
  refine lv_lconst (v := 0) C.1 C.2.1 dX9_tellsEachOnce_0 (by decide) ?_
  refine lv_lstore_n (i := 2) (lv' := [(2, .long 0), (0, .ref (ad 9 0)), (1, .int x1)]) C.1 C.2.1 dX9_tellsEachOnce_1 rfl hl (by decide) rfl (fun ls hl => ?_)
  refine lv_iconst (v := 0) C.1 C.2.1 dX9_tellsEachOnce_2 (by decide) ?_
  refine lv_istore (i := 4) (lv' := [(4, .int 0), (2, .long 0), (0, .ref (ad 9 0)), (1, .int x1)]) C.1 C.2.1 dX9_tellsEachOnce_3 hl (by decide) rfl (fun ls hl => ?_)
  obtain ⟨q, hq, hX⟩ := bnd_st hX
  refine r_C_Tape_tellsEachOnce_L5 C hKS hEv 100000 t 0 0 x1 H locs ls q hq.symm hW (lv_sub hl [0, 1, 2, 3] rfl) ?_ ?_
  · intro v15 v16 v17 H locs ls hq hW hl
    subst hq
    have hX := nm2_st hX rfl
    have hX := nm2_st hX rfl
    have hX := nm2_st hX rfl
    have hX := br_p hX rfl
    obtain ⟨hz, hX⟩ := chkZ_st hX
    exact G_retz C hr hlk hA hW hz.1 ⟨(Option.some.inj hX).symm, rfl⟩ dX9_tellsEachOnce_46
  intro v18 v19 v20 H locs ls hq hW hl
  subst hq
  have hX := nm2_st hX rfl
  have hX := nm2_st hX rfl
  have hX := nm2_st hX rfl
  have hX := br_n hX (by decide)
  have hX := br_p hX rfl
  refine lv_iconst (v := 1) C.1 C.2.1 dX9_tellsEachOnce_60 (by decide) ?_
  exact G_retz C hr hlk hA hW rfl ⟨(Option.some.inj hX).symm, rfl⟩ dX9_tellsEachOnce_61
abbrev rm_C_Land_shape : Room := { frames := 0, cells := 0, slots := 0, locals := 0 }
def C_Land_shape (K : List (Nat × Nat)) (t : TH) (x1 : Int32) (x2 : Int32) (x3 : Int32) : Option (TH) := if x1 < 0 then some t else if (nI (tN t 13 1)) ≤ x1 then some t else if (nI (tN t 13 2)) ≤ x1 then some t else chkI x1 (tN t 13 1) (nm (uS t 13 1 x1.toNatClampNeg x2) (fun t4 => chkI x1 (tN t4 13 2) (nm (uS t4 13 2 x1.toNatClampNeg x3) (fun t5 => some t5))))
set_option maxHeartbeats 4000000 in
set_option maxRecDepth 100000 in
theorem c_C_Land_shape {Ev : EvT} {ek ev : Nat → Nat} {tp : Nat} (l : Launch) (D : va_G) (cs : Nat → ClassId) (ad : AD) (K : List (Nat × Nat)) (hKS : KS K) (hEv : EvC Ev ek ev tp) (t : TH) (x1 : Int32) (x2 : Int32) (x3 : Int32) (X : TH) (hX : some X = C_Land_shape K t x1 x2 x3) : cGv Ev l D (tyC cs) (wC cs ad K) yX3_shape wsX3_shape rm_C_Land_shape 0 0 [.ref (ad 3 0), .int x1, .int x2, .int x3] t (fun u => u = X) := by
  refine G_inv (cc := cX3_shape) (maxL := 4) (ret := none) (by decide) rfl (Nat.le_of_ble_eq_true rfl) ?_
  intro p e s m below meth c A ls C hr hlk hini hA hW hl
  have C : Cx p s m _ c cX3_shape 4 wsX3_shape RX3 := C
  have hl : lv_has ls 4 [(0, .ref (ad 3 0)), (1, .int x1), (2, .int x2), (3, .int x3)] := hl
  have hin3 : ∀ w ∈ wsX30, w ∈ wsX3_shape := fun w hw => List.mem_cons_of_mem _ (List.mem_append_right _ hw)
  have f3_0 : (Cond.fieldLink RX3 9 (TX3 0).1 (TX3 0).2.1 (TX3 0).2.2.1).before _ s = true := C.2.2.2.2 _ (List.mem_of_getElem? (i := 1) rfl)
  have f3_1 : (Cond.fieldLink RX3 15 (TX3 1).1 (TX3 1).2.1 (TX3 1).2.2.1).before _ s = true := C.2.2.2.2 _ (List.mem_of_getElem? (i := 2) rfl)
  obtain ⟨H, hH⟩ : ∃ H, H = s.heap := ⟨_, rfl⟩
  obtain ⟨locs, hlo⟩ : ∃ z : List Loc, z = [] := ⟨_, rfl⟩
  have hW : GW Ev D (tyC cs) (wC cs ad K) A s t H locs := by rw [hH, hlo]; exact hW
  rw [show W p l e rm_C_Land_shape s m _ below meth c s.heap [] = W p l e rm_C_Land_shape s m _ below meth c H locs from by rw [hH, hlo]]
  unfold C_Land_shape at hX
  refine lv_iload_n C.1 C.2.1 dX3_shape_0 rfl (lv_at hl 1 rfl) ?_
  refine lv_if_lt (tgt := 36) C.1 C.2.1 dX3_shape_1 (by decide) (fun c1 => ?_) (fun c1 => ?_)
  · have hX := br_p hX c1
    exact G_retv C hr hlk hA hW (Option.some.inj hX).symm dX3_shape_36
  have hX := br_n hX c1
  refine lv_iload_n C.1 C.2.1 dX3_shape_4 rfl (lv_at hl 1 rfl) ?_
  refine lv_aload_n C.1 C.2.1 dX3_shape_5 rfl (lv_at hl 0 rfl) ?_
  refine C_get C hW 3 rfl hin3 hKS.k3_0 rfl 0 (by decide) rfl f3_0 dX3_shape_6 ?_
  refine C_alen C hW hKS.k13_1 rfl 1 rfl dX3_shape_9 ?_
  refine lv_icmp_ge (tgt := 36) C.1 C.2.1 dX3_shape_10 (by decide) (fun c2 => ?_) (fun c2 => ?_)
  · have hX := br_p hX c2
    exact G_retv C hr hlk hA hW (Option.some.inj hX).symm dX3_shape_36
  have hX := br_n hX c2
  refine lv_iload_n C.1 C.2.1 dX3_shape_13 rfl (lv_at hl 1 rfl) ?_
  refine lv_aload_n C.1 C.2.1 dX3_shape_14 rfl (lv_at hl 0 rfl) ?_
  refine C_get C hW 3 rfl hin3 hKS.k3_0 rfl 1 (by decide) rfl f3_1 dX3_shape_15 ?_
  refine C_alen C hW hKS.k13_2 rfl 1 rfl dX3_shape_18 ?_
  refine lv_icmp_ge (tgt := 36) C.1 C.2.1 dX3_shape_19 (by decide) (fun c3 => ?_) (fun c3 => ?_)
  · have hX := br_p hX c3
    exact G_retv C hr hlk hA hW (Option.some.inj hX).symm dX3_shape_36
  have hX := br_n hX c3
  refine lv_aload_n C.1 C.2.1 dX3_shape_22 rfl (lv_at hl 0 rfl) ?_
  refine C_get C hW 3 rfl hin3 hKS.k3_0 rfl 0 (by decide) rfl f3_0 dX3_shape_23 ?_
  refine lv_iload_n C.1 C.2.1 dX3_shape_26 rfl (lv_at hl 1 rfl) ?_
  refine lv_iload_n C.1 C.2.1 dX3_shape_27 rfl (lv_at hl 2 rfl) ?_
  obtain ⟨hi, hX⟩ := chkI_st hX
  obtain ⟨t4, et4⟩ : ∃ z, z = uS t 13 1 x1.toNatClampNeg x2 := ⟨_, rfl⟩
  refine C_stI C hW hKS.k13_1 rfl hi dX3_shape_28 (t' := t4) (by rw [et4]; exact wr13) (by rw [et4]; exact hr_S (by decide)) (fun H locs hW => ?_)
  have hX := nm_st hX et4
  refine lv_aload_n C.1 C.2.1 dX3_shape_29 rfl (lv_at hl 0 rfl) ?_
  refine C_get C hW 3 rfl hin3 hKS.k3_0 rfl 1 (by decide) rfl f3_1 dX3_shape_30 ?_
  refine lv_iload_n C.1 C.2.1 dX3_shape_33 rfl (lv_at hl 1 rfl) ?_
  refine lv_iload_n C.1 C.2.1 dX3_shape_34 rfl (lv_at hl 3 rfl) ?_
  obtain ⟨hi, hX⟩ := chkI_st hX
  obtain ⟨t5, et5⟩ : ∃ z, z = uS t4 13 2 x1.toNatClampNeg x3 := ⟨_, rfl⟩
  refine C_stI C hW hKS.k13_2 rfl hi dX3_shape_35 (t' := t5) (by rw [et5]; exact wr13) (by rw [et5]; exact hr_S (by decide)) (fun H locs hW => ?_)
  have hX := nm_st hX et5
  exact G_retv C hr hlk hA hW (Option.some.inj hX).symm dX3_shape_36
abbrev rm_C_Land_worthOf : Room := { frames := 0, cells := 0, slots := 0, locals := 0 }
def C_Land_worthOf (K : List (Nat × Nat)) (t : TH) (x1 : Int32) : Option (Int32) := if x1 < 0 then some 0 else if (nI (tN t 13 1)) ≤ x1 then some 0 else chkI x1 (tN t 13 1) (some (tS t 13 1 x1.toNatClampNeg))
set_option maxHeartbeats 4000000 in
set_option maxRecDepth 100000 in
theorem c_C_Land_worthOf {Ev : EvT} {ek ev : Nat → Nat} {tp : Nat} (l : Launch) (D : va_G) (cs : Nat → ClassId) (ad : AD) (K : List (Nat × Nat)) (hKS : KS K) (hEv : EvC Ev ek ev tp) (t : TH) (x1 : Int32) (X : Int32) (hX : some X = C_Land_worthOf K t x1) : cGi Ev l D (tyC cs) (wC cs ad K) yX3_worthOf wsX3_worthOf rm_C_Land_worthOf 0 0 [.ref (ad 3 0), .int x1] t (fun r u => r = X ∧ u = t) := by
  refine G_ini (cc := cX3_worthOf) (maxL := 2) (ret := some .int) (by decide) rfl (Nat.le_of_ble_eq_true rfl) ?_
  intro p e s m below meth c A ls C hr hlk hini hA hW hl
  have C : Cx p s m _ c cX3_worthOf 2 wsX3_worthOf RX3 := C
  have hl : lv_has ls 2 [(0, .ref (ad 3 0)), (1, .int x1)] := hl
  have hin3 : ∀ w ∈ wsX30, w ∈ wsX3_worthOf := fun w hw => List.mem_cons_of_mem _ (List.mem_append_right _ hw)
  have f3_0 : (Cond.fieldLink RX3 9 (TX3 0).1 (TX3 0).2.1 (TX3 0).2.2.1).before _ s = true := C.2.2.2.2 _ (List.mem_of_getElem? (i := 1) rfl)
  obtain ⟨H, hH⟩ : ∃ H, H = s.heap := ⟨_, rfl⟩
  obtain ⟨locs, hlo⟩ : ∃ z : List Loc, z = [] := ⟨_, rfl⟩
  have hW : GW Ev D (tyC cs) (wC cs ad K) A s t H locs := by rw [hH, hlo]; exact hW
  rw [show W p l e rm_C_Land_worthOf s m _ below meth c s.heap [] = W p l e rm_C_Land_worthOf s m _ below meth c H locs from by rw [hH, hlo]]
  unfold C_Land_worthOf at hX
  refine lv_iload_n C.1 C.2.1 dX3_worthOf_0 rfl (lv_at hl 1 rfl) ?_
  refine lv_if_lt (tgt := 22) C.1 C.2.1 dX3_worthOf_1 (by decide) (fun c1 => ?_) (fun c1 => ?_)
  · have hX := br_p hX c1
    refine lv_iconst (v := 0) C.1 C.2.1 dX3_worthOf_22 (by decide) ?_
    exact G_reti C hr hlk hA hW ⟨(Option.some.inj hX).symm, rfl⟩ dX3_worthOf_23
  have hX := br_n hX c1
  refine lv_iload_n C.1 C.2.1 dX3_worthOf_4 rfl (lv_at hl 1 rfl) ?_
  refine lv_aload_n C.1 C.2.1 dX3_worthOf_5 rfl (lv_at hl 0 rfl) ?_
  refine C_get C hW 3 rfl hin3 hKS.k3_0 rfl 0 (by decide) rfl f3_0 dX3_worthOf_6 ?_
  refine C_alen C hW hKS.k13_1 rfl 1 rfl dX3_worthOf_9 ?_
  refine lv_icmp_ge (tgt := 22) C.1 C.2.1 dX3_worthOf_10 (by decide) (fun c2 => ?_) (fun c2 => ?_)
  · have hX := br_p hX c2
    refine lv_iconst (v := 0) C.1 C.2.1 dX3_worthOf_22 (by decide) ?_
    exact G_reti C hr hlk hA hW ⟨(Option.some.inj hX).symm, rfl⟩ dX3_worthOf_23
  have hX := br_n hX c2
  refine lv_aload_n C.1 C.2.1 dX3_worthOf_13 rfl (lv_at hl 0 rfl) ?_
  refine C_get C hW 3 rfl hin3 hKS.k3_0 rfl 0 (by decide) rfl f3_0 dX3_worthOf_14 ?_
  refine lv_iload_n C.1 C.2.1 dX3_worthOf_17 rfl (lv_at hl 1 rfl) ?_
  obtain ⟨hi, hX⟩ := chkI_st hX
  refine C_ldI C hW hKS.k13_1 rfl hi dX3_worthOf_18 ?_
  refine lv_goto (tgt := 23) C.1 C.2.1 dX3_worthOf_19 (by decide) ?_
  exact G_reti C hr hlk hA hW ⟨(Option.some.inj hX).symm, rfl⟩ dX3_worthOf_23
abbrev rm_C_Land_roughOf : Room := { frames := 0, cells := 0, slots := 0, locals := 0 }
def C_Land_roughOf (K : List (Nat × Nat)) (t : TH) (x1 : Int32) : Option (Int32) := if x1 < 0 then some 0 else if (nI (tN t 13 2)) ≤ x1 then some 0 else chkI x1 (tN t 13 2) (some (tS t 13 2 x1.toNatClampNeg))
set_option maxHeartbeats 4000000 in
set_option maxRecDepth 100000 in
theorem c_C_Land_roughOf {Ev : EvT} {ek ev : Nat → Nat} {tp : Nat} (l : Launch) (D : va_G) (cs : Nat → ClassId) (ad : AD) (K : List (Nat × Nat)) (hKS : KS K) (hEv : EvC Ev ek ev tp) (t : TH) (x1 : Int32) (X : Int32) (hX : some X = C_Land_roughOf K t x1) : cGi Ev l D (tyC cs) (wC cs ad K) yX3_roughOf wsX3_roughOf rm_C_Land_roughOf 0 0 [.ref (ad 3 0), .int x1] t (fun r u => r = X ∧ u = t) := by
  refine G_ini (cc := cX3_roughOf) (maxL := 2) (ret := some .int) (by decide) rfl (Nat.le_of_ble_eq_true rfl) ?_
  intro p e s m below meth c A ls C hr hlk hini hA hW hl
  have C : Cx p s m _ c cX3_roughOf 2 wsX3_roughOf RX3 := C
  have hl : lv_has ls 2 [(0, .ref (ad 3 0)), (1, .int x1)] := hl
  have hin3 : ∀ w ∈ wsX30, w ∈ wsX3_roughOf := fun w hw => List.mem_cons_of_mem _ (List.mem_append_right _ hw)
  have f3_1 : (Cond.fieldLink RX3 15 (TX3 1).1 (TX3 1).2.1 (TX3 1).2.2.1).before _ s = true := C.2.2.2.2 _ (List.mem_of_getElem? (i := 1) rfl)
  obtain ⟨H, hH⟩ : ∃ H, H = s.heap := ⟨_, rfl⟩
  obtain ⟨locs, hlo⟩ : ∃ z : List Loc, z = [] := ⟨_, rfl⟩
  have hW : GW Ev D (tyC cs) (wC cs ad K) A s t H locs := by rw [hH, hlo]; exact hW
  rw [show W p l e rm_C_Land_roughOf s m _ below meth c s.heap [] = W p l e rm_C_Land_roughOf s m _ below meth c H locs from by rw [hH, hlo]]
  unfold C_Land_roughOf at hX
  refine lv_iload_n C.1 C.2.1 dX3_roughOf_0 rfl (lv_at hl 1 rfl) ?_
  refine lv_if_lt (tgt := 22) C.1 C.2.1 dX3_roughOf_1 (by decide) (fun c1 => ?_) (fun c1 => ?_)
  · have hX := br_p hX c1
    refine lv_iconst (v := 0) C.1 C.2.1 dX3_roughOf_22 (by decide) ?_
    exact G_reti C hr hlk hA hW ⟨(Option.some.inj hX).symm, rfl⟩ dX3_roughOf_23
  have hX := br_n hX c1
  refine lv_iload_n C.1 C.2.1 dX3_roughOf_4 rfl (lv_at hl 1 rfl) ?_
  refine lv_aload_n C.1 C.2.1 dX3_roughOf_5 rfl (lv_at hl 0 rfl) ?_
  refine C_get C hW 3 rfl hin3 hKS.k3_0 rfl 1 (by decide) rfl f3_1 dX3_roughOf_6 ?_
  refine C_alen C hW hKS.k13_2 rfl 1 rfl dX3_roughOf_9 ?_
  refine lv_icmp_ge (tgt := 22) C.1 C.2.1 dX3_roughOf_10 (by decide) (fun c2 => ?_) (fun c2 => ?_)
  · have hX := br_p hX c2
    refine lv_iconst (v := 0) C.1 C.2.1 dX3_roughOf_22 (by decide) ?_
    exact G_reti C hr hlk hA hW ⟨(Option.some.inj hX).symm, rfl⟩ dX3_roughOf_23
  have hX := br_n hX c2
  refine lv_aload_n C.1 C.2.1 dX3_roughOf_13 rfl (lv_at hl 0 rfl) ?_
  refine C_get C hW 3 rfl hin3 hKS.k3_0 rfl 1 (by decide) rfl f3_1 dX3_roughOf_14 ?_
  refine lv_iload_n C.1 C.2.1 dX3_roughOf_17 rfl (lv_at hl 1 rfl) ?_
  obtain ⟨hi, hX⟩ := chkI_st hX
  refine C_ldI C hW hKS.k13_2 rfl hi dX3_roughOf_18 ?_
  refine lv_goto (tgt := 23) C.1 C.2.1 dX3_roughOf_19 (by decide) ?_
  exact G_reti C hr hlk hA hW ⟨(Option.some.inj hX).symm, rfl⟩ dX3_roughOf_23
abbrev rm_C_Land_stakerOf : Room := { frames := 0, cells := 0, slots := 0, locals := 0 }
def C_Land_stakerOf (K : List (Nat × Nat)) (t : TH) (x1 : Int32) : Option (Int32) := if x1 < 0 then some (-1) else if (nI (tN t 15 0)) ≤ x1 then some (-1) else chkI x1 (tN t 15 0) (nm (tP t 15 0 x1.toNatClampNeg) (fun v3 => opt v3 (some (-1)) (fun j4 => chkP ((7, j4) ∈ K) (some (tS t 7 0 j4)))))
set_option maxHeartbeats 4000000 in
set_option maxRecDepth 100000 in
theorem c_C_Land_stakerOf {Ev : EvT} {ek ev : Nat → Nat} {tp : Nat} (l : Launch) (D : va_G) (cs : Nat → ClassId) (ad : AD) (K : List (Nat × Nat)) (hKS : KS K) (hEv : EvC Ev ek ev tp) (t : TH) (x1 : Int32) (X : Int32) (hX : some X = C_Land_stakerOf K t x1) : cGi Ev l D (tyC cs) (wC cs ad K) yX3_stakerOf wsX3_stakerOf rm_C_Land_stakerOf 0 0 [.ref (ad 3 0), .int x1] t (fun r u => r = X ∧ u = t) := by
  refine G_ini (cc := cX3_stakerOf) (maxL := 3) (ret := some .int) (by decide) rfl (Nat.le_of_ble_eq_true rfl) ?_
  intro p e s m below meth c A ls C hr hlk hini hA hW hl
  have C : Cx p s m _ c cX3_stakerOf 3 wsX3_stakerOf RX3 := C
  have hl : lv_has ls 3 [(0, .ref (ad 3 0)), (1, .int x1)] := hl
  have hin3 : ∀ w ∈ wsX30, w ∈ wsX3_stakerOf := fun w hw => List.mem_cons_of_mem _ (List.mem_append_left _ (List.mem_append_right _ hw))
  have hin7 : ∀ w ∈ wsX70, w ∈ wsX3_stakerOf := fun w hw => List.mem_cons_of_mem _ (List.mem_append_right _ hw)
  have f3_2 : (Cond.fieldLink RX3 20 (TX3 2).1 (TX3 2).2.1 (TX3 2).2.2.1).before _ s = true := C.2.2.2.2 _ (List.mem_of_getElem? (i := 1) rfl)
  have f7_0 : (Cond.fieldLink RX3 28 (TX7 0).1 (TX7 0).2.1 (TX7 0).2.2.1).before _ s = true := C.2.2.2.2 _ (List.mem_of_getElem? (i := 2) rfl)
  obtain ⟨H, hH⟩ : ∃ H, H = s.heap := ⟨_, rfl⟩
  obtain ⟨locs, hlo⟩ : ∃ z : List Loc, z = [] := ⟨_, rfl⟩
  have hW : GW Ev D (tyC cs) (wC cs ad K) A s t H locs := by rw [hH, hlo]; exact hW
  rw [show W p l e rm_C_Land_stakerOf s m _ below meth c s.heap [] = W p l e rm_C_Land_stakerOf s m _ below meth c H locs from by rw [hH, hlo]]
  unfold C_Land_stakerOf at hX
  refine lv_iload_n C.1 C.2.1 dX3_stakerOf_0 rfl (lv_at hl 1 rfl) ?_
  refine lv_if_lt (tgt := 22) C.1 C.2.1 dX3_stakerOf_1 (by decide) (fun c1 => ?_) (fun c1 => ?_)
  · have hX := br_p hX c1
    refine lv_null C.1 C.2.1 dX3_stakerOf_22 ?_
    refine lv_astore_nN (i := 2) (lv' := [(2, .null), (0, .ref (ad 3 0)), (1, .int x1)]) C.1 C.2.1 dX3_stakerOf_23 rfl hl (by decide) rfl (fun ls hl => ?_)
    refine lv_aload_nN C.1 C.2.1 dX3_stakerOf_24 rfl (lv_at hl 0 rfl) ?_
    refine lv_ifnonnullN C.1 C.2.1 dX3_stakerOf_25 ?_
    refine lv_iconst (v := -1) C.1 C.2.1 dX3_stakerOf_28 (by decide) ?_
    refine lv_goto (tgt := 36) C.1 C.2.1 dX3_stakerOf_29 (by decide) ?_
    exact G_reti C hr hlk hA hW ⟨(Option.some.inj hX).symm, rfl⟩ dX3_stakerOf_36
  have hX := br_n hX c1
  refine lv_iload_n C.1 C.2.1 dX3_stakerOf_4 rfl (lv_at hl 1 rfl) ?_
  refine lv_aload_n C.1 C.2.1 dX3_stakerOf_5 rfl (lv_at hl 0 rfl) ?_
  refine C_get C hW 3 rfl hin3 hKS.k3_0 rfl 2 (by decide) rfl f3_2 dX3_stakerOf_6 ?_
  refine C_alen C hW hKS.k15_0 rfl 4 rfl dX3_stakerOf_9 ?_
  refine lv_icmp_ge (tgt := 22) C.1 C.2.1 dX3_stakerOf_10 (by decide) (fun c2 => ?_) (fun c2 => ?_)
  · have hX := br_p hX c2
    refine lv_null C.1 C.2.1 dX3_stakerOf_22 ?_
    refine lv_astore_nN (i := 2) (lv' := [(2, .null), (0, .ref (ad 3 0)), (1, .int x1)]) C.1 C.2.1 dX3_stakerOf_23 rfl hl (by decide) rfl (fun ls hl => ?_)
    refine lv_aload_nN C.1 C.2.1 dX3_stakerOf_24 rfl (lv_at hl 0 rfl) ?_
    refine lv_ifnonnullN C.1 C.2.1 dX3_stakerOf_25 ?_
    refine lv_iconst (v := -1) C.1 C.2.1 dX3_stakerOf_28 (by decide) ?_
    refine lv_goto (tgt := 36) C.1 C.2.1 dX3_stakerOf_29 (by decide) ?_
    exact G_reti C hr hlk hA hW ⟨(Option.some.inj hX).symm, rfl⟩ dX3_stakerOf_36
  have hX := br_n hX c2
  refine lv_aload_n C.1 C.2.1 dX3_stakerOf_13 rfl (lv_at hl 0 rfl) ?_
  refine C_get C hW 3 rfl hin3 hKS.k3_0 rfl 2 (by decide) rfl f3_2 dX3_stakerOf_14 ?_
  refine lv_iload_n C.1 C.2.1 dX3_stakerOf_17 rfl (lv_at hl 1 rfl) ?_
  obtain ⟨hi, hX⟩ := chkI_st hX
  refine C_ldQ (k3 := 7) (f := tP t 15 0) C hW hKS.k15_0 rfl 4 rfl hi dX3_stakerOf_18 (fun v3 ev3 => ?_)
  have hX := nm_st hX ev3
  refine lv_goto (tgt := 23) C.1 C.2.1 dX3_stakerOf_19 (by decide) ?_
  refine lv_astore_nQ (i := 2) (lv' := [(2, va_re (ad 7) v3), (0, .ref (ad 3 0)), (1, .int x1)]) C.1 C.2.1 dX3_stakerOf_23 rfl hl (by decide) rfl (fun ls hl => ?_)
  refine lv_aload_nQ C.1 C.2.1 dX3_stakerOf_24 rfl (lv_at hl 0 rfl) ?_
  refine lv_ifnonnullQ (tgt := 32) C.1 C.2.1 dX3_stakerOf_25 (by decide) (fun j4 hj4 => ?_) (fun hj4 => ?_)
  · have hX := opt_s hX hj4
    refine lv_aload_nQ C.1 C.2.1 dX3_stakerOf_32 rfl (lv_at hl 0 rfl) ?_
    refine lv_topq hj4 ?_
    obtain ⟨hk5, hX⟩ := chkP_st hX
    refine C_get C hW 7 rfl hin7 hk5 rfl 0 (by decide) rfl f7_0 dX3_stakerOf_33 ?_
    exact G_reti C hr hlk hA hW ⟨(Option.some.inj hX).symm, rfl⟩ dX3_stakerOf_36
  have hX := opt_n hX hj4
  refine lv_iconst (v := -1) C.1 C.2.1 dX3_stakerOf_28 (by decide) ?_
  refine lv_goto (tgt := 36) C.1 C.2.1 dX3_stakerOf_29 (by decide) ?_
  exact G_reti C hr hlk hA hW ⟨(Option.some.inj hX).symm, rfl⟩ dX3_stakerOf_36
abbrev rm_C_Land_markStaked : Room := { frames := 0, cells := 0, slots := 0, locals := 0 }
def C_Land_markStaked (K : List (Nat × Nat)) (t : TH) (x1 : Int32) (x2 : Nat) : Option (TH) := if x1 < 0 then some t else if (nI (tN t 15 0)) ≤ x1 then some t else chkP ((7, x2) ∈ K) (chkI x1 (tN t 15 0) (nm (uP t 15 0 x1.toNatClampNeg (some x2)) (fun t3 => nm (uS t3 3 3 0 ((tS t3 3 3 0) + 1)) (fun t5 => some t5))))
set_option maxHeartbeats 4000000 in
set_option maxRecDepth 100000 in
theorem c_C_Land_markStaked {Ev : EvT} {ek ev : Nat → Nat} {tp : Nat} (l : Launch) (D : va_G) (cs : Nat → ClassId) (ad : AD) (K : List (Nat × Nat)) (hKS : KS K) (hEv : EvC Ev ek ev tp) (t : TH) (x1 : Int32) (x2 : Nat) (X : TH) (hX : some X = C_Land_markStaked K t x1 x2) : cGv Ev l D (tyC cs) (wC cs ad K) yX3_markStaked wsX3_markStaked rm_C_Land_markStaked 0 0 [.ref (ad 3 0), .int x1, .ref (ad 7 x2)] t (fun u => u = X) := by
  refine G_inv (cc := cX3_markStaked) (maxL := 3) (ret := none) (by decide) rfl (Nat.le_of_ble_eq_true rfl) ?_
  intro p e s m below meth c A ls C hr hlk hini hA hW hl
  have C : Cx p s m _ c cX3_markStaked 3 wsX3_markStaked RX3 := C
  have hl : lv_has ls 3 [(0, .ref (ad 3 0)), (1, .int x1), (2, .ref (ad 7 x2))] := hl
  have hin3 : ∀ w ∈ wsX30, w ∈ wsX3_markStaked := fun w hw => List.mem_cons_of_mem _ (List.mem_append_right _ hw)
  have f3_2 : (Cond.fieldLink RX3 20 (TX3 2).1 (TX3 2).2.1 (TX3 2).2.2.1).before _ s = true := C.2.2.2.2 _ (List.mem_of_getElem? (i := 1) rfl)
  have f3_3 : (Cond.fieldLink RX3 24 (TX3 3).1 (TX3 3).2.1 (TX3 3).2.2.1).before _ s = true := C.2.2.2.2 _ (List.mem_of_getElem? (i := 2) rfl)
  obtain ⟨H, hH⟩ : ∃ H, H = s.heap := ⟨_, rfl⟩
  obtain ⟨locs, hlo⟩ : ∃ z : List Loc, z = [] := ⟨_, rfl⟩
  have hW : GW Ev D (tyC cs) (wC cs ad K) A s t H locs := by rw [hH, hlo]; exact hW
  rw [show W p l e rm_C_Land_markStaked s m _ below meth c s.heap [] = W p l e rm_C_Land_markStaked s m _ below meth c H locs from by rw [hH, hlo]]
  unfold C_Land_markStaked at hX
  refine lv_iload_n C.1 C.2.1 dX3_markStaked_0 rfl (lv_at hl 1 rfl) ?_
  refine lv_if_lt (tgt := 30) C.1 C.2.1 dX3_markStaked_1 (by decide) (fun c1 => ?_) (fun c1 => ?_)
  · have hX := br_p hX c1
    exact G_retv C hr hlk hA hW (Option.some.inj hX).symm dX3_markStaked_30
  have hX := br_n hX c1
  refine lv_iload_n C.1 C.2.1 dX3_markStaked_4 rfl (lv_at hl 1 rfl) ?_
  refine lv_aload_n C.1 C.2.1 dX3_markStaked_5 rfl (lv_at hl 0 rfl) ?_
  refine C_get C hW 3 rfl hin3 hKS.k3_0 rfl 2 (by decide) rfl f3_2 dX3_markStaked_6 ?_
  refine C_alen C hW hKS.k15_0 rfl 4 rfl dX3_markStaked_9 ?_
  refine lv_icmp_ge (tgt := 30) C.1 C.2.1 dX3_markStaked_10 (by decide) (fun c2 => ?_) (fun c2 => ?_)
  · have hX := br_p hX c2
    exact G_retv C hr hlk hA hW (Option.some.inj hX).symm dX3_markStaked_30
  have hX := br_n hX c2
  refine lv_aload_n C.1 C.2.1 dX3_markStaked_13 rfl (lv_at hl 0 rfl) ?_
  refine C_get C hW 3 rfl hin3 hKS.k3_0 rfl 2 (by decide) rfl f3_2 dX3_markStaked_14 ?_
  refine lv_iload_n C.1 C.2.1 dX3_markStaked_17 rfl (lv_at hl 1 rfl) ?_
  refine lv_aload_n C.1 C.2.1 dX3_markStaked_18 rfl (lv_at hl 2 rfl) ?_
  obtain ⟨hk4, hX⟩ := chkP_st hX
  obtain ⟨hi, hX⟩ := chkI_st hX
  obtain ⟨t3, et3⟩ : ∃ z, z = uP t 15 0 x1.toNatClampNeg (some x2) := ⟨_, rfl⟩
  refine C_stQ (k3 := 7) (f := tP t 15 0) C hW hKS.k15_0 rfl 4 rfl rfl hk4 rfl hi dX3_markStaked_19 (t' := t3) (by rw [et3]; exact wr15) (by rw [et3]; exact hr_P (by decide)) (fun H locs hW => ?_)
  have hX := nm_st hX et3
  refine lv_aload_n C.1 C.2.1 dX3_markStaked_20 rfl (lv_at hl 0 rfl) ?_
  refine lv_dup C.1 C.2.1 dX3_markStaked_21 rfl ?_
  refine C_get C hW 3 rfl hin3 hKS.k3_0 rfl 3 (by decide) rfl f3_3 dX3_markStaked_22 ?_
  refine lv_iconst (v := 1) C.1 C.2.1 dX3_markStaked_25 (by decide) ?_
  refine lv_iadd C.1 C.2.1 dX3_markStaked_26 ?_
  obtain ⟨t5, et5⟩ : ∃ z, z = uS t3 3 3 0 ((tS t3 3 3 0) + 1) := ⟨_, rfl⟩
  refine C_put C hW 3 rfl hin3 tyX3 tyX3_ok nmX3 hKS.k3_0 rfl 3 (by decide) rfl rfl rfl (Nat.le_of_ble_eq_true rfl) f3_3 dX3_markStaked_27 (t' := t5) (by rw [et5]; exact wr3_3) (by rw [et5]; exact ho_S (by decide)) (fun H locs hW => ?_)
  have hX := nm_st hX et5
  exact G_retv C hr hlk hA hW (Option.some.inj hX).symm dX3_markStaked_30
