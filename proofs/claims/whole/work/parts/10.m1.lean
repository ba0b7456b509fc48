abbrev rm_M_thrown : Room := { frames := 0, cells := 0, slots := 0, locals := 0 }
def M_thrown (σ : St) : Option (Int32) := some (σ.1 0 0)
set_option maxHeartbeats 4000000 in
set_option maxRecDepth 100000 in
theorem c_M_thrown {Ev : EvT} (l : Launch) (D : va_G) (cs : Nat → ClassId) (h : Nat) (a : Nat → Nat) (σ : St) (X : Int32) (hX : some X = M_thrown σ) : cGi Ev l D (tyM cs) (wM h a cs) yX12_thrown wsX12_thrown rm_M_thrown 0 0 [.ref h] σ (fun r u => r = X ∧ u = σ) := by
  refine G_ini (cc := cX12_thrown) (maxL := 1) (ret := some .int) (by decide) rfl (Nat.le_of_ble_eq_true rfl) ?_
  intro p e s m below meth c A ls C hr hlk hini hA hW hl
  have C : Cx p s m _ c cX12_thrown 1 wsX12_thrown RX12 := C
  have hl : lv_has ls 1 [(0, .ref h)] := hl
  have hin : ∀ w ∈ wsX120, w ∈ wsX12_thrown := fun w hw => List.mem_cons_of_mem _ (List.mem_append_right _ hw)
  have f0 : (Cond.fieldLink RX12 133 (TX12 0).1 (TX12 0).2.1 (TX12 0).2.2.1).before _ s = true := C.2.2.2.2 _ (List.mem_of_getElem? (i := 1) rfl)
  obtain ⟨H, hH⟩ : ∃ H, H = s.heap := ⟨_, rfl⟩
  obtain ⟨locs, hlo⟩ : ∃ z : List Loc, z = [] := ⟨_, rfl⟩
  have hW : GW Ev D (tyM cs) (wM h a cs) A s σ H locs := by rw [hH, hlo]; exact hW
  rw [show W p l e rm_M_thrown s m _ below meth c s.heap [] = W p l e rm_M_thrown s m _ below meth c H locs from by rw [hH, hlo]]
  unfold M_thrown at hX
  refine lv_aload_n C.1 C.2.1 dX12_thrown_0 rfl (lv_at hl 0 rfl) ?_
  refine M_geti C hin hW 0 (by decide) f0 dX12_thrown_1 ?_
  exact G_reti C hr hlk hA hW ⟨(Option.some.inj hX).symm, rfl⟩ dX12_thrown_4
abbrev rm_M_throwsIf : Room := { frames := 0, cells := 0, slots := 0, locals := 0 }
def M_throwsIf (σ : St) (x1 : Int32) : Option (Int32 × St) := if x1 = 0 then nm (s1 σ 0 0 0) (fun σ2 => chkZ x1 (some (x1, σ2))) else nm (s1 σ 0 0 1) (fun σ3 => chkZ x1 (some (x1, σ3)))
set_option maxHeartbeats 4000000 in
set_option maxRecDepth 100000 in
theorem c_M_throwsIf {Ev : EvT} (l : Launch) (D : va_G) (cs : Nat → ClassId) (h : Nat) (a : Nat → Nat) (σ : St) (x1 : Int32) (X : Int32 × St) (hX : some X = M_throwsIf σ x1) : cGi Ev l D (tyM cs) (wM h a cs) yX12_throwsIf wsX12_throwsIf rm_M_throwsIf 0 0 [.ref h, .int x1] σ (fun r u => (r, u) = X) := by
  refine G_ini (cc := cX12_throwsIf) (maxL := 2) (ret := some .boolean) (by decide) rfl (Nat.le_of_ble_eq_true rfl) ?_
  intro p e s m below meth c A ls C hr hlk hini hA hW hl
  have C : Cx p s m _ c cX12_throwsIf 2 wsX12_throwsIf RX12 := C
  have hl : lv_has ls 2 [(0, .ref h), (1, .int x1)] := hl
  have hin : ∀ w ∈ wsX120, w ∈ wsX12_throwsIf := fun w hw => List.mem_cons_of_mem _ (List.mem_append_right _ hw)
  have f0 : (Cond.fieldLink RX12 133 (TX12 0).1 (TX12 0).2.1 (TX12 0).2.2.1).before _ s = true := C.2.2.2.2 _ (List.mem_of_getElem? (i := 1) rfl)
  obtain ⟨H, hH⟩ : ∃ H, H = s.heap := ⟨_, rfl⟩
  obtain ⟨locs, hlo⟩ : ∃ z : List Loc, z = [] := ⟨_, rfl⟩
  have hW : GW Ev D (tyM cs) (wM h a cs) A s σ H locs := by rw [hH, hlo]; exact hW
  rw [show W p l e rm_M_throwsIf s m _ below meth c s.heap [] = W p l e rm_M_throwsIf s m _ below meth c H locs from by rw [hH, hlo]]
  unfold M_throwsIf at hX
  refine lv_aload_n C.1 C.2.1 dX12_throwsIf_0 rfl (lv_at hl 0 rfl) ?_
  refine lv_iload_n C.1 C.2.1 dX12_throwsIf_1 rfl (lv_at hl 1 rfl) ?_
  refine lv_if_eq (tgt := 9) C.1 C.2.1 dX12_throwsIf_2 (by decide) (fun c1 => ?_) (fun c1 => ?_)
  · have hX := br_p hX c1
    refine lv_iconst (v := 0) C.1 C.2.1 dX12_throwsIf_9 (by decide) ?_
    refine M_puti C hin hW 0 rfl f0 dX12_throwsIf_10 (fun H locs σ2 eσ2 hW => ?_)
    have hX := nm_st hX eσ2
    refine lv_iload_n C.1 C.2.1 dX12_throwsIf_13 rfl (lv_at hl 1 rfl) ?_
    obtain ⟨hz, hX⟩ := chkZ_st hX
    exact G_retz C hr hlk hA hW hz.1 (Option.some.inj hX).symm dX12_throwsIf_14
  have hX := br_n hX c1
  refine lv_iconst (v := 1) C.1 C.2.1 dX12_throwsIf_5 (by decide) ?_
  refine lv_goto (tgt := 10) C.1 C.2.1 dX12_throwsIf_6 (by decide) ?_
  refine M_puti C hin hW 0 rfl f0 dX12_throwsIf_10 (fun H locs σ3 eσ3 hW => ?_)
  have hX := nm_st hX eσ3
  refine lv_iload_n C.1 C.2.1 dX12_throwsIf_13 rfl (lv_at hl 1 rfl) ?_
  obtain ⟨hz, hX⟩ := chkZ_st hX
  exact G_retz C hr hlk hA hW hz.1 (Option.some.inj hX).symm dX12_throwsIf_14
abbrev rm_M_end : Room := { frames := 0, cells := 0, slots := 0, locals := 0 }
def M_end (σ : St) (x1 : Int32) : Option (Int32 × St) := nm (s1 σ 0 0 0) (fun σ1 => if x1 < 0 then some (0, σ1) else if x1 ≤ (σ1.1 2 0) then nm (s1 σ1 2 0 x1) (fun σ4 => some (1, σ4)) else some (0, σ1))
set_option maxHeartbeats 4000000 in
set_option maxRecDepth 100000 in
theorem c_M_end {Ev : EvT} (l : Launch) (D : va_G) (cs : Nat → ClassId) (h : Nat) (a : Nat → Nat) (σ : St) (x1 : Int32) (X : Int32 × St) (hX : some X = M_end σ x1) : cGi Ev l D (tyM cs) (wM h a cs) yX12_end wsX12_end rm_M_end 0 0 [.ref h, .int x1] σ (fun r u => (r, u) = X) := by
  refine G_ini (cc := cX12_end) (maxL := 2) (ret := some .boolean) (by decide) rfl (Nat.le_of_ble_eq_true rfl) ?_
  intro p e s m below meth c A ls C hr hlk hini hA hW hl
  have C : Cx p s m _ c cX12_end 2 wsX12_end RX12 := C
  have hl : lv_has ls 2 [(0, .ref h), (1, .int x1)] := hl
  have hin : ∀ w ∈ wsX120, w ∈ wsX12_end := fun w hw => List.mem_cons_of_mem _ (List.mem_append_right _ hw)
  have f0 : (Cond.fieldLink RX12 133 (TX12 0).1 (TX12 0).2.1 (TX12 0).2.2.1).before _ s = true := C.2.2.2.2 _ (List.mem_of_getElem? (i := 1) rfl)
  have f2 : (Cond.fieldLink RX12 137 (TX12 2).1 (TX12 2).2.1 (TX12 2).2.2.1).before _ s = true := C.2.2.2.2 _ (List.mem_of_getElem? (i := 2) rfl)
  obtain ⟨H, hH⟩ : ∃ H, H = s.heap := ⟨_, rfl⟩
  obtain ⟨locs, hlo⟩ : ∃ z : List Loc, z = [] := ⟨_, rfl⟩
  have hW : GW Ev D (tyM cs) (wM h a cs) A s σ H locs := by rw [hH, hlo]; exact hW
  rw [show W p l e rm_M_end s m _ below meth c s.heap [] = W p l e rm_M_end s m _ below meth c H locs from by rw [hH, hlo]]
  unfold M_end at hX
  refine lv_aload_n C.1 C.2.1 dX12_end_0 rfl (lv_at hl 0 rfl) ?_
  refine lv_iconst (v := 0) C.1 C.2.1 dX12_end_1 (by decide) ?_
  refine M_puti C hin hW 0 rfl f0 dX12_end_2 (fun H locs σ1 eσ1 hW => ?_)
  have hX := nm_st hX eσ1
  refine lv_iload_n C.1 C.2.1 dX12_end_5 rfl (lv_at hl 1 rfl) ?_
  refine lv_if_lt (tgt := 17) C.1 C.2.1 dX12_end_6 (by decide) (fun c2 => ?_) (fun c2 => ?_)
  · have hX := br_p hX c2
    refine lv_iconst (v := 0) C.1 C.2.1 dX12_end_17 (by decide) ?_
    exact G_retz C hr hlk hA hW rfl (Option.some.inj hX).symm dX12_end_18
  have hX := br_n hX c2
  refine lv_iload_n C.1 C.2.1 dX12_end_9 rfl (lv_at hl 1 rfl) ?_
  refine lv_aload_n C.1 C.2.1 dX12_end_10 rfl (lv_at hl 0 rfl) ?_
  refine M_geti C hin hW 2 (by decide) f2 dX12_end_11 ?_
  refine lv_icmp_le (tgt := 19) C.1 C.2.1 dX12_end_14 (by decide) (fun c3 => ?_) (fun c3 => ?_)
  · have hX := br_p hX c3
    refine lv_aload_n C.1 C.2.1 dX12_end_19 rfl (lv_at hl 0 rfl) ?_
    refine lv_iload_n C.1 C.2.1 dX12_end_20 rfl (lv_at hl 1 rfl) ?_
    refine M_puti C hin hW 2 rfl f2 dX12_end_21 (fun H locs σ4 eσ4 hW => ?_)
    have hX := nm_st hX eσ4
    refine lv_iconst (v := 1) C.1 C.2.1 dX12_end_24 (by decide) ?_
    exact G_retz C hr hlk hA hW rfl (Option.some.inj hX).symm dX12_end_25
  have hX := br_n hX c3
  refine lv_iconst (v := 0) C.1 C.2.1 dX12_end_17 (by decide) ?_
  exact G_retz C hr hlk hA hW rfl (Option.some.inj hX).symm dX12_end_18
abbrev rm_M_taken : Room := { frames := 0, cells := 0, slots := 0, locals := 0 }
def M_taken (σ : St) : Option (St) := nm (s1 σ 3 0 (σ.1 2 0)) (fun σ1 => nm (s1 σ1 2 0 0) (fun σ2 => nm (s1 σ2 4 0 0) (fun σ3 => some σ3)))
set_option maxHeartbeats 4000000 in
set_option maxRecDepth 100000 in
theorem c_M_taken {Ev : EvT} (l : Launch) (D : va_G) (cs : Nat → ClassId) (h : Nat) (a : Nat → Nat) (σ : St) (X : St) (hX : some X = M_taken σ) : cGv Ev l D (tyM cs) (wM h a cs) yX12_taken wsX12_taken rm_M_taken 0 0 [.ref h] σ (fun u => u = X) := by
  refine G_inv (cc := cX12_taken) (maxL := 1) (ret := none) (by decide) rfl (Nat.le_of_ble_eq_true rfl) ?_
  intro p e s m below meth c A ls C hr hlk hini hA hW hl
  have C : Cx p s m _ c cX12_taken 1 wsX12_taken RX12 := C
  have hl : lv_has ls 1 [(0, .ref h)] := hl
  have hin : ∀ w ∈ wsX120, w ∈ wsX12_taken := fun w hw => List.mem_cons_of_mem _ (List.mem_append_right _ hw)
  have f2 : (Cond.fieldLink RX12 137 (TX12 2).1 (TX12 2).2.1 (TX12 2).2.2.1).before _ s = true := C.2.2.2.2 _ (List.mem_of_getElem? (i := 1) rfl)
  have f3 : (Cond.fieldLink RX12 144 (TX12 3).1 (TX12 3).2.1 (TX12 3).2.2.1).before _ s = true := C.2.2.2.2 _ (List.mem_of_getElem? (i := 2) rfl)
  have f4 : (Cond.fieldLink RX12 147 (TX12 4).1 (TX12 4).2.1 (TX12 4).2.2.1).before _ s = true := C.2.2.2.2 _ (List.mem_of_getElem? (i := 3) rfl)
  obtain ⟨H, hH⟩ : ∃ H, H = s.heap := ⟨_, rfl⟩
  obtain ⟨locs, hlo⟩ : ∃ z : List Loc, z = [] := ⟨_, rfl⟩
  have hW : GW Ev D (tyM cs) (wM h a cs) A s σ H locs := by rw [hH, hlo]; exact hW
  rw [show W p l e rm_M_taken s m _ below meth c s.heap [] = W p l e rm_M_taken s m _ below meth c H locs from by rw [hH, hlo]]
  unfold M_taken at hX
  refine lv_aload_n C.1 C.2.1 dX12_taken_0 rfl (lv_at hl 0 rfl) ?_
  refine lv_aload_n C.1 C.2.1 dX12_taken_1 rfl (lv_at hl 0 rfl) ?_
  refine M_geti C hin hW 2 (by decide) f2 dX12_taken_2 ?_
  refine M_puti C hin hW 3 rfl f3 dX12_taken_5 (fun H locs σ1 eσ1 hW => ?_)
  have hX := nm_st hX eσ1
  refine lv_aload_n C.1 C.2.1 dX12_taken_8 rfl (lv_at hl 0 rfl) ?_
  refine lv_iconst (v := 0) C.1 C.2.1 dX12_taken_9 (by decide) ?_
  refine M_puti C hin hW 2 rfl f2 dX12_taken_10 (fun H locs σ2 eσ2 hW => ?_)
  have hX := nm_st hX eσ2
  refine lv_aload_n C.1 C.2.1 dX12_taken_13 rfl (lv_at hl 0 rfl) ?_
  refine lv_iconst (v := 0) C.1 C.2.1 dX12_taken_14 (by decide) ?_
  refine M_puti C hin hW 4 rfl f4 dX12_taken_15 (fun H locs σ3 eσ3 hW => ?_)
  have hX := nm_st hX eσ3
  exact G_retv C hr hlk hA hW (Option.some.inj hX).symm dX12_taken_18
abbrev rm_M_isIn : Room := { frames := 0, cells := 0, slots := 0, locals := 0 }
def M_isIn (x0 : Int32) (x1 : Int32) (x2 : Int32) : Option Int32 := if x0 < x1 then some 0 else if x2 < x0 then some 0 else some 1
set_option maxHeartbeats 4000000 in
set_option maxRecDepth 100000 in
theorem c_M_isIn {S : Type} {Ev : EvT} (l : Launch) (D : va_G) (tys : List (ClassId × FieldType)) (w : S → va_W) (σ : S) (x0 : Int32) (x1 : Int32) (x2 : Int32) (X : Int32) (hX : some X = M_isIn x0 x1 x2) : cGi Ev l D tys w yX12_isIn wsX12_isIn rm_M_isIn 0 0 [.int x0, .int x1, .int x2] σ (fun r u => r = X ∧ u = σ) := by
  refine G_ini (cc := cX12_isIn) (maxL := 3) (ret := some .boolean) (by decide) rfl (Nat.le_of_ble_eq_true rfl) ?_
  intro p e s m below meth c A ls C hr hlk hini hA hW hl
  have C : Cx p s m _ c cX12_isIn 3 wsX12_isIn RX12 := C
  have hl : lv_has ls 3 [(0, .int x0), (1, .int x1), (2, .int x2)] := hl
  obtain ⟨H, hH⟩ : ∃ H, H = s.heap := ⟨_, rfl⟩
  obtain ⟨locs, hlo⟩ : ∃ z : List Loc, z = [] := ⟨_, rfl⟩
  have hW : GW Ev D tys w A s σ H locs := by rw [hH, hlo]; exact hW
  rw [show W p l e rm_M_isIn s m _ below meth c s.heap [] = W p l e rm_M_isIn s m _ below meth c H locs from by rw [hH, hlo]]
  unfold M_isIn at hX
  refine lv_iload_n C.1 C.2.1 dX12_isIn_0 rfl (lv_at hl 0 rfl) ?_
  refine lv_iload_n C.1 C.2.1 dX12_isIn_1 rfl (lv_at hl 1 rfl) ?_
  refine lv_icmp_lt (tgt := 14) C.1 C.2.1 dX12_isIn_2 (by decide) (fun c1 => ?_) (fun c1 => ?_)
  · have hX := br_p hX c1
    refine lv_iconst (v := 0) C.1 C.2.1 dX12_isIn_14 (by decide) ?_
    exact G_retz C hr hlk hA hW rfl ⟨(Option.some.inj hX).symm, rfl⟩ dX12_isIn_15
  have hX := br_n hX c1
  refine lv_iload_n C.1 C.2.1 dX12_isIn_5 rfl (lv_at hl 0 rfl) ?_
  refine lv_iload_n C.1 C.2.1 dX12_isIn_6 rfl (lv_at hl 2 rfl) ?_
  refine lv_icmp_gt (tgt := 14) C.1 C.2.1 dX12_isIn_7 (by decide) (fun c2 => ?_) (fun c2 => ?_)
  · have hX := br_p hX c2
    refine lv_iconst (v := 0) C.1 C.2.1 dX12_isIn_14 (by decide) ?_
    exact G_retz C hr hlk hA hW rfl ⟨(Option.some.inj hX).symm, rfl⟩ dX12_isIn_15
  have hX := br_n hX c2
  refine lv_iconst (v := 1) C.1 C.2.1 dX12_isIn_10 (by decide) ?_
  refine lv_goto (tgt := 15) C.1 C.2.1 dX12_isIn_11 (by decide) ?_
  exact G_retz C hr hlk hA hW rfl ⟨(Option.some.inj hX).symm, rfl⟩ dX12_isIn_15
abbrev rm_M_isPerson : Room := { frames := 0, cells := 0, slots := 0, locals := 0 }
def M_isPerson (σ : St) (x1 : Int32) : Option (Int32) := if x1 < 0 then some 0 else if (σ.1 20 0) ≤ x1 then some 0 else some 1
set_option maxHeartbeats 4000000 in
set_option maxRecDepth 100000 in
theorem c_M_isPerson {Ev : EvT} (l : Launch) (D : va_G) (cs : Nat → ClassId) (h : Nat) (a : Nat → Nat) (σ : St) (x1 : Int32) (X : Int32) (hX : some X = M_isPerson σ x1) : cGi Ev l D (tyM cs) (wM h a cs) yX12_isPerson wsX12_isPerson rm_M_isPerson 0 0 [.ref h, .int x1] σ (fun r u => r = X ∧ u = σ) := by
  refine G_ini (cc := cX12_isPerson) (maxL := 2) (ret := some .boolean) (by decide) rfl (Nat.le_of_ble_eq_true rfl) ?_
  intro p e s m below meth c A ls C hr hlk hini hA hW hl
  have C : Cx p s m _ c cX12_isPerson 2 wsX12_isPerson RX12 := C
  have hl : lv_has ls 2 [(0, .ref h), (1, .int x1)] := hl
  have hin : ∀ w ∈ wsX120, w ∈ wsX12_isPerson := fun w hw => List.mem_cons_of_mem _ (List.mem_append_right _ hw)
  have f20 : (Cond.fieldLink RX12 150 (TX12 20).1 (TX12 20).2.1 (TX12 20).2.2.1).before _ s = true := C.2.2.2.2 _ (List.mem_of_getElem? (i := 1) rfl)
  obtain ⟨H, hH⟩ : ∃ H, H = s.heap := ⟨_, rfl⟩
  obtain ⟨locs, hlo⟩ : ∃ z : List Loc, z = [] := ⟨_, rfl⟩
  have hW : GW Ev D (tyM cs) (wM h a cs) A s σ H locs := by rw [hH, hlo]; exact hW
  rw [show W p l e rm_M_isPerson s m _ below meth c s.heap [] = W p l e rm_M_isPerson s m _ below meth c H locs from by rw [hH, hlo]]
  unfold M_isPerson at hX
  refine lv_iload_n C.1 C.2.1 dX12_isPerson_0 rfl (lv_at hl 1 rfl) ?_
  refine lv_if_lt (tgt := 16) C.1 C.2.1 dX12_isPerson_1 (by decide) (fun c1 => ?_) (fun c1 => ?_)
  · have hX := br_p hX c1
    refine lv_iconst (v := 0) C.1 C.2.1 dX12_isPerson_16 (by decide) ?_
    exact G_retz C hr hlk hA hW rfl ⟨(Option.some.inj hX).symm, rfl⟩ dX12_isPerson_17
  have hX := br_n hX c1
  refine lv_iload_n C.1 C.2.1 dX12_isPerson_4 rfl (lv_at hl 1 rfl) ?_
  refine lv_aload_n C.1 C.2.1 dX12_isPerson_5 rfl (lv_at hl 0 rfl) ?_
  refine M_geti C hin hW 20 (by decide) f20 dX12_isPerson_6 ?_
  refine lv_icmp_ge (tgt := 16) C.1 C.2.1 dX12_isPerson_9 (by decide) (fun c2 => ?_) (fun c2 => ?_)
  · have hX := br_p hX c2
    refine lv_iconst (v := 0) C.1 C.2.1 dX12_isPerson_16 (by decide) ?_
    exact G_retz C hr hlk hA hW rfl ⟨(Option.some.inj hX).symm, rfl⟩ dX12_isPerson_17
  have hX := br_n hX c2
  refine lv_iconst (v := 1) C.1 C.2.1 dX12_isPerson_12 (by decide) ?_
  refine lv_goto (tgt := 17) C.1 C.2.1 dX12_isPerson_13 (by decide) ?_
  exact G_retz C hr hlk hA hW rfl ⟨(Option.some.inj hX).symm, rfl⟩ dX12_isPerson_17
abbrev rm_M_isQuarter : Room := { frames := 0, cells := 0, slots := 0, locals := 0 }
def M_isQuarter (x0 : Int32) : Option Int32 := if x0 < 0 then some 0 else if 64 ≤ x0 then some 0 else some 1
set_option maxHeartbeats 4000000 in
set_option maxRecDepth 100000 in
theorem c_M_isQuarter {S : Type} {Ev : EvT} (l : Launch) (D : va_G) (tys : List (ClassId × FieldType)) (w : S → va_W) (σ : S) (x0 : Int32) (X : Int32) (hX : some X = M_isQuarter x0) : cGi Ev l D tys w yX12_isQuarter wsX12_isQuarter rm_M_isQuarter 0 0 [.int x0] σ (fun r u => r = X ∧ u = σ) := by
  refine G_ini (cc := cX12_isQuarter) (maxL := 1) (ret := some .boolean) (by decide) rfl (Nat.le_of_ble_eq_true rfl) ?_
  intro p e s m below meth c A ls C hr hlk hini hA hW hl
  have C : Cx p s m _ c cX12_isQuarter 1 wsX12_isQuarter RX12 := C
  have hl : lv_has ls 1 [(0, .int x0)] := hl
  obtain ⟨H, hH⟩ : ∃ H, H = s.heap := ⟨_, rfl⟩
  obtain ⟨locs, hlo⟩ : ∃ z : List Loc, z = [] := ⟨_, rfl⟩
  have hW : GW Ev D tys w A s σ H locs := by rw [hH, hlo]; exact hW
  rw [show W p l e rm_M_isQuarter s m _ below meth c s.heap [] = W p l e rm_M_isQuarter s m _ below meth c H locs from by rw [hH, hlo]]
  unfold M_isQuarter at hX
  refine lv_iload_n C.1 C.2.1 dX12_isQuarter_0 rfl (lv_at hl 0 rfl) ?_
  refine lv_if_lt (tgt := 14) C.1 C.2.1 dX12_isQuarter_1 (by decide) (fun c1 => ?_) (fun c1 => ?_)
  · have hX := br_p hX c1
    refine lv_iconst (v := 0) C.1 C.2.1 dX12_isQuarter_14 (by decide) ?_
    exact G_retz C hr hlk hA hW rfl ⟨(Option.some.inj hX).symm, rfl⟩ dX12_isQuarter_15
  have hX := br_n hX c1
  refine lv_iload_n C.1 C.2.1 dX12_isQuarter_4 rfl (lv_at hl 0 rfl) ?_
  refine lv_bipush (v := 64) C.1 C.2.1 dX12_isQuarter_5 (by decide) ?_
  refine lv_icmp_ge (tgt := 14) C.1 C.2.1 dX12_isQuarter_7 (by decide) (fun c2 => ?_) (fun c2 => ?_)
  · have hX := br_p hX c2
    refine lv_iconst (v := 0) C.1 C.2.1 dX12_isQuarter_14 (by decide) ?_
    exact G_retz C hr hlk hA hW rfl ⟨(Option.some.inj hX).symm, rfl⟩ dX12_isQuarter_15
  have hX := br_n hX c2
  refine lv_iconst (v := 1) C.1 C.2.1 dX12_isQuarter_10 (by decide) ?_
  refine lv_goto (tgt := 15) C.1 C.2.1 dX12_isQuarter_11 (by decide) ?_
  exact G_retz C hr hlk hA hW rfl ⟨(Option.some.inj hX).symm, rfl⟩ dX12_isQuarter_15
abbrev rm_M_isSmall : Room := { frames := 0, cells := 0, slots := 0, locals := 0 }
def M_isSmall (x0 : Int32) : Option Int32 := if x0 < 97 then some 0 else if 122 < x0 then some 0 else some 1
set_option maxHeartbeats 4000000 in
set_option maxRecDepth 100000 in
theorem c_M_isSmall {S : Type} {Ev : EvT} (l : Launch) (D : va_G) (tys : List (ClassId × FieldType)) (w : S → va_W) (σ : S) (x0 : Int32) (X : Int32) (hX : some X = M_isSmall x0) : cGi Ev l D tys w yX12_isSmall wsX12_isSmall rm_M_isSmall 0 0 [.int x0] σ (fun r u => r = X ∧ u = σ) := by
  refine G_ini (cc := cX12_isSmall) (maxL := 1) (ret := some .boolean) (by decide) rfl (Nat.le_of_ble_eq_true rfl) ?_
  intro p e s m below meth c A ls C hr hlk hini hA hW hl
  have C : Cx p s m _ c cX12_isSmall 1 wsX12_isSmall RX12 := C
  have hl : lv_has ls 1 [(0, .int x0)] := hl
  obtain ⟨H, hH⟩ : ∃ H, H = s.heap := ⟨_, rfl⟩
  obtain ⟨locs, hlo⟩ : ∃ z : List Loc, z = [] := ⟨_, rfl⟩
  have hW : GW Ev D tys w A s σ H locs := by rw [hH, hlo]; exact hW
  rw [show W p l e rm_M_isSmall s m _ below meth c s.heap [] = W p l e rm_M_isSmall s m _ below meth c H locs from by rw [hH, hlo]]
  unfold M_isSmall at hX
  refine lv_iload_n C.1 C.2.1 dX12_isSmall_0 rfl (lv_at hl 0 rfl) ?_
  refine lv_bipush (v := 97) C.1 C.2.1 dX12_isSmall_1 (by decide) ?_
  refine lv_icmp_lt (tgt := 16) C.1 C.2.1 dX12_isSmall_3 (by decide) (fun c1 => ?_) (fun c1 => ?_)
  · have hX := br_p hX c1
    refine lv_iconst (v := 0) C.1 C.2.1 dX12_isSmall_16 (by decide) ?_
    exact G_retz C hr hlk hA hW rfl ⟨(Option.some.inj hX).symm, rfl⟩ dX12_isSmall_17
  have hX := br_n hX c1
  refine lv_iload_n C.1 C.2.1 dX12_isSmall_6 rfl (lv_at hl 0 rfl) ?_
  refine lv_bipush (v := 122) C.1 C.2.1 dX12_isSmall_7 (by decide) ?_
  refine lv_icmp_gt (tgt := 16) C.1 C.2.1 dX12_isSmall_9 (by decide) (fun c2 => ?_) (fun c2 => ?_)
  · have hX := br_p hX c2
    refine lv_iconst (v := 0) C.1 C.2.1 dX12_isSmall_16 (by decide) ?_
    exact G_retz C hr hlk hA hW rfl ⟨(Option.some.inj hX).symm, rfl⟩ dX12_isSmall_17
  have hX := br_n hX c2
  refine lv_iconst (v := 1) C.1 C.2.1 dX12_isSmall_12 (by decide) ?_
  refine lv_goto (tgt := 17) C.1 C.2.1 dX12_isSmall_13 (by decide) ?_
  exact G_retz C hr hlk hA hW rfl ⟨(Option.some.inj hX).symm, rfl⟩ dX12_isSmall_17
abbrev rm_M_isDigit : Room := { frames := 0, cells := 0, slots := 0, locals := 0 }
def M_isDigit (x0 : Int32) : Option Int32 := if x0 < 48 then some 0 else if 57 < x0 then some 0 else some 1
set_option maxHeartbeats 4000000 in
set_option maxRecDepth 100000 in
theorem c_M_isDigit {S : Type} {Ev : EvT} (l : Launch) (D : va_G) (tys : List (ClassId × FieldType)) (w : S → va_W) (σ : S) (x0 : Int32) (X : Int32) (hX : some X = M_isDigit x0) : cGi Ev l D tys w yX12_isDigit wsX12_isDigit rm_M_isDigit 0 0 [.int x0] σ (fun r u => r = X ∧ u = σ) := by
  refine G_ini (cc := cX12_isDigit) (maxL := 1) (ret := some .boolean) (by decide) rfl (Nat.le_of_ble_eq_true rfl) ?_
  intro p e s m below meth c A ls C hr hlk hini hA hW hl
  have C : Cx p s m _ c cX12_isDigit 1 wsX12_isDigit RX12 := C
  have hl : lv_has ls 1 [(0, .int x0)] := hl
  obtain ⟨H, hH⟩ : ∃ H, H = s.heap := ⟨_, rfl⟩
  obtain ⟨locs, hlo⟩ : ∃ z : List Loc, z = [] := ⟨_, rfl⟩
  have hW : GW Ev D tys w A s σ H locs := by rw [hH, hlo]; exact hW
  rw [show W p l e rm_M_isDigit s m _ below meth c s.heap [] = W p l e rm_M_isDigit s m _ below meth c H locs from by rw [hH, hlo]]
  unfold M_isDigit at hX
  refine lv_iload_n C.1 C.2.1 dX12_isDigit_0 rfl (lv_at hl 0 rfl) ?_
  refine lv_bipush (v := 48) C.1 C.2.1 dX12_isDigit_1 (by decide) ?_
  refine lv_icmp_lt (tgt := 16) C.1 C.2.1 dX12_isDigit_3 (by decide) (fun c1 => ?_) (fun c1 => ?_)
  · have hX := br_p hX c1
    refine lv_iconst (v := 0) C.1 C.2.1 dX12_isDigit_16 (by decide) ?_
    exact G_retz C hr hlk hA hW rfl ⟨(Option.some.inj hX).symm, rfl⟩ dX12_isDigit_17
  have hX := br_n hX c1
  refine lv_iload_n C.1 C.2.1 dX12_isDigit_6 rfl (lv_at hl 0 rfl) ?_
  refine lv_bipush (v := 57) C.1 C.2.1 dX12_isDigit_7 (by decide) ?_
  refine lv_icmp_gt (tgt := 16) C.1 C.2.1 dX12_isDigit_9 (by decide) (fun c2 => ?_) (fun c2 => ?_)
  · have hX := br_p hX c2
    refine lv_iconst (v := 0) C.1 C.2.1 dX12_isDigit_16 (by decide) ?_
    exact G_retz C hr hlk hA hW rfl ⟨(Option.some.inj hX).symm, rfl⟩ dX12_isDigit_17
  have hX := br_n hX c2
  refine lv_iconst (v := 1) C.1 C.2.1 dX12_isDigit_12 (by decide) ?_
  refine lv_goto (tgt := 17) C.1 C.2.1 dX12_isDigit_13 (by decide) ?_
  exact G_retz C hr hlk hA hW rfl ⟨(Option.some.inj hX).symm, rfl⟩ dX12_isDigit_17
abbrev rm_M_isClaim : Room := { frames := 0, cells := 0, slots := 0, locals := 0 }
def M_isClaim (σ : St) (x1 : Int32) : Option (Int32) := if x1 < 0 then some 0 else if (σ.1 41 0) ≤ x1 then some 0 else some 1
set_option maxHeartbeats 4000000 in
set_option maxRecDepth 100000 in
theorem c_M_isClaim {Ev : EvT} (l : Launch) (D : va_G) (cs : Nat → ClassId) (h : Nat) (a : Nat → Nat) (σ : St) (x1 : Int32) (X : Int32) (hX : some X = M_isClaim σ x1) : cGi Ev l D (tyM cs) (wM h a cs) yX12_isClaim wsX12_isClaim rm_M_isClaim 0 0 [.ref h, .int x1] σ (fun r u => r = X ∧ u = σ) := by
  refine G_ini (cc := cX12_isClaim) (maxL := 2) (ret := some .boolean) (by decide) rfl (Nat.le_of_ble_eq_true rfl) ?_
  intro p e s m below meth c A ls C hr hlk hini hA hW hl
  have C : Cx p s m _ c cX12_isClaim 2 wsX12_isClaim RX12 := C
  have hl : lv_has ls 2 [(0, .ref h), (1, .int x1)] := hl
  have hin : ∀ w ∈ wsX120, w ∈ wsX12_isClaim := fun w hw => List.mem_cons_of_mem _ (List.mem_append_right _ hw)
  have f41 : (Cond.fieldLink RX12 280 (TX12 41).1 (TX12 41).2.1 (TX12 41).2.2.1).before _ s = true := C.2.2.2.2 _ (List.mem_of_getElem? (i := 1) rfl)
  obtain ⟨H, hH⟩ : ∃ H, H = s.heap := ⟨_, rfl⟩
  obtain ⟨locs, hlo⟩ : ∃ z : List Loc, z = [] := ⟨_, rfl⟩
  have hW : GW Ev D (tyM cs) (wM h a cs) A s σ H locs := by rw [hH, hlo]; exact hW
  rw [show W p l e rm_M_isClaim s m _ below meth c s.heap [] = W p l e rm_M_isClaim s m _ below meth c H locs from by rw [hH, hlo]]
  unfold M_isClaim at hX
  refine lv_iload_n C.1 C.2.1 dX12_isClaim_0 rfl (lv_at hl 1 rfl) ?_
  refine lv_if_lt (tgt := 16) C.1 C.2.1 dX12_isClaim_1 (by decide) (fun c1 => ?_) (fun c1 => ?_)
  · have hX := br_p hX c1
    refine lv_iconst (v := 0) C.1 C.2.1 dX12_isClaim_16 (by decide) ?_
    exact G_retz C hr hlk hA hW rfl ⟨(Option.some.inj hX).symm, rfl⟩ dX12_isClaim_17
  have hX := br_n hX c1
  refine lv_iload_n C.1 C.2.1 dX12_isClaim_4 rfl (lv_at hl 1 rfl) ?_
  refine lv_aload_n C.1 C.2.1 dX12_isClaim_5 rfl (lv_at hl 0 rfl) ?_
  refine M_geti C hin hW 41 (by decide) f41 dX12_isClaim_6 ?_
  refine lv_icmp_ge (tgt := 16) C.1 C.2.1 dX12_isClaim_9 (by decide) (fun c2 => ?_) (fun c2 => ?_)
  · have hX := br_p hX c2
    refine lv_iconst (v := 0) C.1 C.2.1 dX12_isClaim_16 (by decide) ?_
    exact G_retz C hr hlk hA hW rfl ⟨(Option.some.inj hX).symm, rfl⟩ dX12_isClaim_17
  have hX := br_n hX c2
  refine lv_iconst (v := 1) C.1 C.2.1 dX12_isClaim_12 (by decide) ?_
  refine lv_goto (tgt := 17) C.1 C.2.1 dX12_isClaim_13 (by decide) ?_
  exact G_retz C hr hlk hA hW rfl ⟨(Option.some.inj hX).symm, rfl⟩ dX12_isClaim_17
abbrev rm_M_fault : Room := { frames := 0, cells := 0, slots := 0, locals := 0 }
def M_fault (σ : St) : Option (Int32 × St) := nm (s1 σ 0 0 0) (fun σ1 => some (σ1.1 29 0, σ1))
set_option maxHeartbeats 4000000 in
set_option maxRecDepth 100000 in
theorem c_M_fault {Ev : EvT} (l : Launch) (D : va_G) (cs : Nat → ClassId) (h : Nat) (a : Nat → Nat) (σ : St) (X : Int32 × St) (hX : some X = M_fault σ) : cGi Ev l D (tyM cs) (wM h a cs) yX12_fault wsX12_fault rm_M_fault 0 0 [.ref h] σ (fun r u => (r, u) = X) := by
  refine G_ini (cc := cX12_fault) (maxL := 1) (ret := some .int) (by decide) rfl (Nat.le_of_ble_eq_true rfl) ?_
  intro p e s m below meth c A ls C hr hlk hini hA hW hl
  have C : Cx p s m _ c cX12_fault 1 wsX12_fault RX12 := C
  have hl : lv_has ls 1 [(0, .ref h)] := hl
  have hin : ∀ w ∈ wsX120, w ∈ wsX12_fault := fun w hw => List.mem_cons_of_mem _ (List.mem_append_right _ hw)
  have f0 : (Cond.fieldLink RX12 133 (TX12 0).1 (TX12 0).2.1 (TX12 0).2.2.1).before _ s = true := C.2.2.2.2 _ (List.mem_of_getElem? (i := 1) rfl)
  have f29 : (Cond.fieldLink RX12 230 (TX12 29).1 (TX12 29).2.1 (TX12 29).2.2.1).before _ s = true := C.2.2.2.2 _ (List.mem_of_getElem? (i := 2) rfl)
  obtain ⟨H, hH⟩ : ∃ H, H = s.heap := ⟨_, rfl⟩
  obtain ⟨locs, hlo⟩ : ∃ z : List Loc, z = [] := ⟨_, rfl⟩
  have hW : GW Ev D (tyM cs) (wM h a cs) A s σ H locs := by rw [hH, hlo]; exact hW
  rw [show W p l e rm_M_fault s m _ below meth c s.heap [] = W p l e rm_M_fault s m _ below meth c H locs from by rw [hH, hlo]]
  unfold M_fault at hX
  refine lv_aload_n C.1 C.2.1 dX12_fault_0 rfl (lv_at hl 0 rfl) ?_
  refine lv_iconst (v := 0) C.1 C.2.1 dX12_fault_1 (by decide) ?_
  refine M_puti C hin hW 0 rfl f0 dX12_fault_2 (fun H locs σ1 eσ1 hW => ?_)
  have hX := nm_st hX eσ1
  refine lv_aload_n C.1 C.2.1 dX12_fault_5 rfl (lv_at hl 0 rfl) ?_
  refine M_geti C hin hW 29 (by decide) f29 dX12_fault_6 ?_
  exact G_reti C hr hlk hA hW (Option.some.inj hX).symm dX12_fault_9
abbrev rm_M_wait : Room := { frames := 0, cells := 0, slots := 0, locals := 0 }
def M_wait (σ : St) (x1 : Int32) : Option (Int32 × St) := nm (s1 σ 0 0 0) (fun σ1 => if x1 < 0 then some (0, σ1) else if 999 < x1 then some (0, σ1) else if ((σ1.1 32 0) + x1) ≤ 999 then nm (s1 σ1 32 0 ((σ1.1 32 0) + x1)) (fun σ5 => some (1, σ5)) else some (0, σ1))
set_option maxHeartbeats 4000000 in
set_option maxRecDepth 100000 in
theorem c_M_wait {Ev : EvT} (l : Launch) (D : va_G) (cs : Nat → ClassId) (h : Nat) (a : Nat → Nat) (σ : St) (x1 : Int32) (X : Int32 × St) (hX : some X = M_wait σ x1) : cGi Ev l D (tyM cs) (wM h a cs) yX12_wait wsX12_wait rm_M_wait 0 0 [.ref h, .int x1] σ (fun r u => (r, u) = X) := by
  refine G_ini (cc := cX12_wait) (maxL := 2) (ret := some .boolean) (by decide) rfl (Nat.le_of_ble_eq_true rfl) ?_
  intro p e s m below meth c A ls C hr hlk hini hA hW hl
  have C : Cx p s m _ c cX12_wait 2 wsX12_wait RX12 := C
  have hl : lv_has ls 2 [(0, .ref h), (1, .int x1)] := hl
  have hin : ∀ w ∈ wsX120, w ∈ wsX12_wait := fun w hw => List.mem_cons_of_mem _ (List.mem_append_right _ hw)
  have f0 : (Cond.fieldLink RX12 133 (TX12 0).1 (TX12 0).2.1 (TX12 0).2.2.1).before _ s = true := C.2.2.2.2 _ (List.mem_of_getElem? (i := 1) rfl)
  have f32 : (Cond.fieldLink RX12 277 (TX12 32).1 (TX12 32).2.1 (TX12 32).2.2.1).before _ s = true := C.2.2.2.2 _ (List.mem_of_getElem? (i := 2) rfl)
  obtain ⟨H, hH⟩ : ∃ H, H = s.heap := ⟨_, rfl⟩
  obtain ⟨locs, hlo⟩ : ∃ z : List Loc, z = [] := ⟨_, rfl⟩
  have hW : GW Ev D (tyM cs) (wM h a cs) A s σ H locs := by rw [hH, hlo]; exact hW
  rw [show W p l e rm_M_wait s m _ below meth c s.heap [] = W p l e rm_M_wait s m _ below meth c H locs from by rw [hH, hlo]]
  unfold M_wait at hX
  refine lv_aload_n C.1 C.2.1 dX12_wait_0 rfl (lv_at hl 0 rfl) ?_
  refine lv_iconst (v := 0) C.1 C.2.1 dX12_wait_1 (by decide) ?_
  refine M_puti C hin hW 0 rfl f0 dX12_wait_2 (fun H locs σ1 eσ1 hW => ?_)
  have hX := nm_st hX eσ1
  refine lv_iload_n C.1 C.2.1 dX12_wait_5 rfl (lv_at hl 1 rfl) ?_
  refine lv_if_lt (tgt := 28) C.1 C.2.1 dX12_wait_6 (by decide) (fun c2 => ?_) (fun c2 => ?_)
  · have hX := br_p hX c2
    refine lv_iconst (v := 0) C.1 C.2.1 dX12_wait_28 (by decide) ?_
    exact G_retz C hr hlk hA hW rfl (Option.some.inj hX).symm dX12_wait_29
  have hX := br_n hX c2
  refine lv_iload_n C.1 C.2.1 dX12_wait_9 rfl (lv_at hl 1 rfl) ?_
  refine lv_sipush (v := 999) C.1 C.2.1 dX12_wait_10 (by decide) ?_
  refine lv_icmp_gt (tgt := 28) C.1 C.2.1 dX12_wait_13 (by decide) (fun c3 => ?_) (fun c3 => ?_)
  · have hX := br_p hX c3
    refine lv_iconst (v := 0) C.1 C.2.1 dX12_wait_28 (by decide) ?_
    exact G_retz C hr hlk hA hW rfl (Option.some.inj hX).symm dX12_wait_29
  have hX := br_n hX c3
  refine lv_aload_n C.1 C.2.1 dX12_wait_16 rfl (lv_at hl 0 rfl) ?_
  refine M_geti C hin hW 32 (by decide) f32 dX12_wait_17 ?_
  refine lv_iload_n C.1 C.2.1 dX12_wait_20 rfl (lv_at hl 1 rfl) ?_
  refine lv_iadd C.1 C.2.1 dX12_wait_21 ?_
  refine lv_sipush (v := 999) C.1 C.2.1 dX12_wait_22 (by decide) ?_
  refine lv_icmp_le (tgt := 30) C.1 C.2.1 dX12_wait_25 (by decide) (fun c4 => ?_) (fun c4 => ?_)
  · have hX := br_p hX c4
    refine lv_aload_n C.1 C.2.1 dX12_wait_30 rfl (lv_at hl 0 rfl) ?_
    refine lv_dup C.1 C.2.1 dX12_wait_31 rfl ?_
    refine M_geti C hin hW 32 (by decide) f32 dX12_wait_32 ?_
    refine lv_iload_n C.1 C.2.1 dX12_wait_35 rfl (lv_at hl 1 rfl) ?_
    refine lv_iadd C.1 C.2.1 dX12_wait_36 ?_
    refine M_puti C hin hW 32 rfl f32 dX12_wait_37 (fun H locs σ5 eσ5 hW => ?_)
    have hX := nm_st hX eσ5
    refine lv_iconst (v := 1) C.1 C.2.1 dX12_wait_40 (by decide) ?_
    exact G_retz C hr hlk hA hW rfl (Option.some.inj hX).symm dX12_wait_41
  have hX := br_n hX c4
  refine lv_iconst (v := 0) C.1 C.2.1 dX12_wait_28 (by decide) ?_
  exact G_retz C hr hlk hA hW rfl (Option.some.inj hX).symm dX12_wait_29
abbrev rm_M_staked : Room := { frames := 1, cells := 0, slots := 0, locals := 20 }
def M_staked (σ : St) (x1 : Int32) : Option (Int32 × St) := nm (s1 σ 0 0 0) (fun σ1 => bnd (M_isQuarter x1) (fun v2 => if v2 = 0 then some ((-1), σ1) else if (σ1.1 22 0) = 0 then some ((-1), σ1) else chkI x1 64 (some (σ1.1 7 x1.toNatClampNeg, σ1))))
set_option maxHeartbeats 4000000 in
set_option maxRecDepth 100000 in
theorem c_M_staked {Ev : EvT} (l : Launch) (D : va_G) (cs : Nat → ClassId) (h : Nat) (a : Nat → Nat) (σ : St) (x1 : Int32) (X : Int32 × St) (hX : some X = M_staked σ x1) : cGi Ev l D (tyM cs) (wM h a cs) yX12_staked wsX12_staked rm_M_staked 0 0 [.ref h, .int x1] σ (fun r u => (r, u) = X) := by
  refine G_ini (cc := cX12_staked) (maxL := 2) (ret := some .int) (by decide) rfl (Nat.le_of_ble_eq_true rfl) ?_
  intro p e s m below meth c A ls C hr hlk hini hA hW hl
  have C : Cx p s m _ c cX12_staked 2 wsX12_staked RX12 := C
  have hl : lv_has ls 2 [(0, .ref h), (1, .int x1)] := hl
  have hin : ∀ w ∈ wsX120, w ∈ wsX12_staked := fun w hw => List.mem_cons_of_mem _ (List.mem_append_right _ hw)
  have f0 : (Cond.fieldLink RX12 133 (TX12 0).1 (TX12 0).2.1 (TX12 0).2.2.1).before _ s = true := C.2.2.2.2 _ (List.mem_of_getElem? (i := 1) rfl)
  have f7 : (Cond.fieldLink RX12 20 (TX12 7).1 (TX12 7).2.1 (TX12 7).2.2.1).before _ s = true := C.2.2.2.2 _ (List.mem_of_getElem? (i := 3) rfl)
  have f22 : (Cond.fieldLink RX12 153 (TX12 22).1 (TX12 22).2.1 (TX12 22).2.2.1).before _ s = true := C.2.2.2.2 _ (List.mem_of_getElem? (i := 2) rfl)
  obtain ⟨H, hH⟩ : ∃ H, H = s.heap := ⟨_, rfl⟩
  obtain ⟨locs, hlo⟩ : ∃ z : List Loc, z = [] := ⟨_, rfl⟩
  have hW : GW Ev D (tyM cs) (wM h a cs) A s σ H locs := by rw [hH, hlo]; exact hW
  rw [show W p l e rm_M_staked s m _ below meth c s.heap [] = W p l e rm_M_staked s m _ below meth c H locs from by rw [hH, hlo]]
  unfold M_staked at hX
  refine lv_aload_n C.1 C.2.1 dX12_staked_0 rfl (lv_at hl 0 rfl) ?_
  refine lv_iconst (v := 0) C.1 C.2.1 dX12_staked_1 (by decide) ?_
  refine M_puti C hin hW 0 rfl f0 dX12_staked_2 (fun H locs σ1 eσ1 hW => ?_)
  have hX := nm_st hX eσ1
  refine lv_iload_n C.1 C.2.1 dX12_staked_5 rfl (lv_at hl 1 rfl) ?_
  obtain ⟨v2, hq, hX⟩ := bnd_st hX
  refine G_S0s (As := [.int x1]) (rest := []) C hW (c_M_isQuarter l D (tyM cs) (wM h a cs) σ1 x1 v2 hq.symm) (cwS 1 C.2.2.2.2 gX12_staked_X12_isQuarter rfl rfl rfl (by decide +kernel) ⟨Nat.le_of_ble_eq_true rfl, Nat.le_of_ble_eq_true rfl⟩) rfl hl.1 rfl (Nat.le_of_ble_eq_true rfl) dX12_staked_6 (fun H locs hW => ?_)
  refine lv_if_eq (tgt := 28) C.1 C.2.1 dX12_staked_9 (by decide) (fun c3 => ?_) (fun c3 => ?_)
  · have hX := br_p hX c3
    refine lv_iconst (v := -1) C.1 C.2.1 dX12_staked_28 (by decide) ?_
    exact G_reti C hr hlk hA hW (Option.some.inj hX).symm dX12_staked_29
  have hX := br_n hX c3
  refine lv_aload_n C.1 C.2.1 dX12_staked_12 rfl (lv_at hl 0 rfl) ?_
  refine M_geti C hin hW 22 (by decide) f22 dX12_staked_13 ?_
  refine lv_if_eq (tgt := 28) C.1 C.2.1 dX12_staked_16 (by decide) (fun c4 => ?_) (fun c4 => ?_)
  · have hX := br_p hX c4
    refine lv_iconst (v := -1) C.1 C.2.1 dX12_staked_28 (by decide) ?_
    exact G_reti C hr hlk hA hW (Option.some.inj hX).symm dX12_staked_29
  have hX := br_n hX c4
  refine lv_aload_n C.1 C.2.1 dX12_staked_19 rfl (lv_at hl 0 rfl) ?_
  refine M_geta C hin hW 7 rfl (by decide) f7 dX12_staked_20 ?_
  refine lv_iload_n C.1 C.2.1 dX12_staked_23 rfl (lv_at hl 1 rfl) ?_
  obtain ⟨hi, hX⟩ := chkI_st hX
  refine M_ldI C hW 7 rfl hi dX12_staked_24 ?_
  refine lv_goto (tgt := 29) C.1 C.2.1 dX12_staked_25 (by decide) ?_
  exact G_reti C hr hlk hA hW (Option.some.inj hX).symm dX12_staked_29
abbrev rm_M_drawn : Room := { frames := 1, cells := 0, slots := 0, locals := 21 }
def M_drawn (σ : St) (x1 : Int32) : Option (Int32 × St) := nm (s1 σ 0 0 0) (fun σ1 => bnd (M_isPerson σ1 x1) (fun v3 => if v3 = 0 then some ((-1), σ1) else if (σ1.1 51 0) = 0 then some ((-1), σ1) else chkI x1 30 (some (σ1.1 50 x1.toNatClampNeg, σ1))))
set_option maxHeartbeats 4000000 in
set_option maxRecDepth 100000 in
theorem c_M_drawn {Ev : EvT} (l : Launch) (D : va_G) (cs : Nat → ClassId) (h : Nat) (a : Nat → Nat) (σ : St) (x1 : Int32) (X : Int32 × St) (hX : some X = M_drawn σ x1) : cGi Ev l D (tyM cs) (wM h a cs) yX12_drawn wsX12_drawn rm_M_drawn 0 0 [.ref h, .int x1] σ (fun r u => (r, u) = X) := by
  refine G_ini (cc := cX12_drawn) (maxL := 2) (ret := some .int) (by decide) rfl (Nat.le_of_ble_eq_true rfl) ?_
  intro p e s m below meth c A ls C hr hlk hini hA hW hl
  have C : Cx p s m _ c cX12_drawn 2 wsX12_drawn RX12 := C
  have hl : lv_has ls 2 [(0, .ref h), (1, .int x1)] := hl
  have hin : ∀ w ∈ wsX120, w ∈ wsX12_drawn := fun w hw => List.mem_cons_of_mem _ (List.mem_append_right _ hw)
  have f0 : (Cond.fieldLink RX12 133 (TX12 0).1 (TX12 0).2.1 (TX12 0).2.2.1).before _ s = true := C.2.2.2.2 _ (List.mem_of_getElem? (i := 1) rfl)
  have f50 : (Cond.fieldLink RX12 100 (TX12 50).1 (TX12 50).2.1 (TX12 50).2.2.1).before _ s = true := C.2.2.2.2 _ (List.mem_of_getElem? (i := 3) rfl)
  have f51 : (Cond.fieldLink RX12 320 (TX12 51).1 (TX12 51).2.1 (TX12 51).2.2.1).before _ s = true := C.2.2.2.2 _ (List.mem_of_getElem? (i := 2) rfl)
  obtain ⟨H, hH⟩ : ∃ H, H = s.heap := ⟨_, rfl⟩
  obtain ⟨locs, hlo⟩ : ∃ z : List Loc, z = [] := ⟨_, rfl⟩
  have hW : GW Ev D (tyM cs) (wM h a cs) A s σ H locs := by rw [hH, hlo]; exact hW
  rw [show W p l e rm_M_drawn s m _ below meth c s.heap [] = W p l e rm_M_drawn s m _ below meth c H locs from by rw [hH, hlo]]
  unfold M_drawn at hX
  refine lv_aload_n C.1 C.2.1 dX12_drawn_0 rfl (lv_at hl 0 rfl) ?_
  refine lv_iconst (v := 0) C.1 C.2.1 dX12_drawn_1 (by decide) ?_
  refine M_puti C hin hW 0 rfl f0 dX12_drawn_2 (fun H locs σ1 eσ1 hW => ?_)
  have hX := nm_st hX eσ1
  refine lv_aload_n C.1 C.2.1 dX12_drawn_5 rfl (lv_at hl 0 rfl) ?_
  refine lv_iload_n C.1 C.2.1 dX12_drawn_6 rfl (lv_at hl 1 rfl) ?_
  obtain ⟨v3, hq, hX⟩ := bnd_st hX
  refine G_V0p (As := [.int x1]) (rest := []) C hW (c_M_isPerson l D cs h a σ1 x1 v3 hq.symm) (cwV 1 C.2.2.2.2 gX12_drawn_X12_isPerson rfl rfl rfl (by decide +kernel) ⟨Nat.le_of_ble_eq_true rfl, Nat.le_of_ble_eq_true rfl⟩) (M_recv hW) rfl hl.1 rfl (Nat.le_of_ble_eq_true rfl) dX12_drawn_7 (fun H locs hW => ?_)
  refine lv_if_eq (tgt := 29) C.1 C.2.1 dX12_drawn_10 (by decide) (fun c4 => ?_) (fun c4 => ?_)
  · have hX := br_p hX c4
    refine lv_iconst (v := -1) C.1 C.2.1 dX12_drawn_29 (by decide) ?_
    exact G_reti C hr hlk hA hW (Option.some.inj hX).symm dX12_drawn_30
  have hX := br_n hX c4
  refine lv_aload_n C.1 C.2.1 dX12_drawn_13 rfl (lv_at hl 0 rfl) ?_
  refine M_geti C hin hW 51 (by decide) f51 dX12_drawn_14 ?_
  refine lv_if_eq (tgt := 29) C.1 C.2.1 dX12_drawn_17 (by decide) (fun c5 => ?_) (fun c5 => ?_)
  · have hX := br_p hX c5
    refine lv_iconst (v := -1) C.1 C.2.1 dX12_drawn_29 (by decide) ?_
    exact G_reti C hr hlk hA hW (Option.some.inj hX).symm dX12_drawn_30
  have hX := br_n hX c5
  refine lv_aload_n C.1 C.2.1 dX12_drawn_20 rfl (lv_at hl 0 rfl) ?_
  refine M_geta C hin hW 50 rfl (by decide) f50 dX12_drawn_21 ?_
  refine lv_iload_n C.1 C.2.1 dX12_drawn_24 rfl (lv_at hl 1 rfl) ?_
  obtain ⟨hi, hX⟩ := chkI_st hX
  refine M_ldI C hW 50 rfl hi dX12_drawn_25 ?_
  refine lv_goto (tgt := 30) C.1 C.2.1 dX12_drawn_26 (by decide) ?_
  exact G_reti C hr hlk hA hW (Option.some.inj hX).symm dX12_drawn_30
abbrev rm_M_bought : Room := { frames := 1, cells := 0, slots := 0, locals := 21 }
def M_bought (σ : St) (x1 : Int32) : Option (Int32 × St) := nm (s1 σ 0 0 0) (fun σ1 => bnd (M_isPerson σ1 x1) (fun v3 => if v3 = 0 then some ((-1), σ1) else if 8 ≤ x1 then some ((-1), σ1) else chkI x1 8 (some (σ1.1 59 x1.toNatClampNeg, σ1))))
set_option maxHeartbeats 4000000 in
set_option maxRecDepth 100000 in
theorem c_M_bought {Ev : EvT} (l : Launch) (D : va_G) (cs : Nat → ClassId) (h : Nat) (a : Nat → Nat) (σ : St) (x1 : Int32) (X : Int32 × St) (hX : some X = M_bought σ x1) : cGi Ev l D (tyM cs) (wM h a cs) yX12_bought wsX12_bought rm_M_bought 0 0 [.ref h, .int x1] σ (fun r u => (r, u) = X) := by
  refine G_ini (cc := cX12_bought) (maxL := 2) (ret := some .int) (by decide) rfl (Nat.le_of_ble_eq_true rfl) ?_
  intro p e s m below meth c A ls C hr hlk hini hA hW hl
  have C : Cx p s m _ c cX12_bought 2 wsX12_bought RX12 := C
  have hl : lv_has ls 2 [(0, .ref h), (1, .int x1)] := hl
  have hin : ∀ w ∈ wsX120, w ∈ wsX12_bought := fun w hw => List.mem_cons_of_mem _ (List.mem_append_right _ hw)
  have f0 : (Cond.fieldLink RX12 133 (TX12 0).1 (TX12 0).2.1 (TX12 0).2.2.1).before _ s = true := C.2.2.2.2 _ (List.mem_of_getElem? (i := 1) rfl)
  have f59 : (Cond.fieldLink RX12 124 (TX12 59).1 (TX12 59).2.1 (TX12 59).2.2.1).before _ s = true := C.2.2.2.2 _ (List.mem_of_getElem? (i := 2) rfl)
  obtain ⟨H, hH⟩ : ∃ H, H = s.heap := ⟨_, rfl⟩
  obtain ⟨locs, hlo⟩ : ∃ z : List Loc, z = [] := ⟨_, rfl⟩
  have hW : GW Ev D (tyM cs) (wM h a cs) A s σ H locs := by rw [hH, hlo]; exact hW
  rw [show W p l e rm_M_bought s m _ below meth c s.heap [] = W p l e rm_M_bought s m _ below meth c H locs from by rw [hH, hlo]]
  unfold M_bought at hX
  refine lv_aload_n C.1 C.2.1 dX12_bought_0 rfl (lv_at hl 0 rfl) ?_
  refine lv_iconst (v := 0) C.1 C.2.1 dX12_bought_1 (by decide) ?_
  refine M_puti C hin hW 0 rfl f0 dX12_bought_2 (fun H locs σ1 eσ1 hW => ?_)
  have hX := nm_st hX eσ1
  refine lv_aload_n C.1 C.2.1 dX12_bought_5 rfl (lv_at hl 0 rfl) ?_
  refine lv_iload_n C.1 C.2.1 dX12_bought_6 rfl (lv_at hl 1 rfl) ?_
  obtain ⟨v3, hq, hX⟩ := bnd_st hX
  refine G_V0p (As := [.int x1]) (rest := []) C hW (c_M_isPerson l D cs h a σ1 x1 v3 hq.symm) (cwV 1 C.2.2.2.2 gX12_bought_X12_isPerson rfl rfl rfl (by decide +kernel) ⟨Nat.le_of_ble_eq_true rfl, Nat.le_of_ble_eq_true rfl⟩) (M_recv hW) rfl hl.1 rfl (Nat.le_of_ble_eq_true rfl) dX12_bought_7 (fun H locs hW => ?_)
  refine lv_if_eq (tgt := 28) C.1 C.2.1 dX12_bought_10 (by decide) (fun c4 => ?_) (fun c4 => ?_)
  · have hX := br_p hX c4
    refine lv_iconst (v := -1) C.1 C.2.1 dX12_bought_28 (by decide) ?_
    exact G_reti C hr hlk hA hW (Option.some.inj hX).symm dX12_bought_29
  have hX := br_n hX c4
  refine lv_iload_n C.1 C.2.1 dX12_bought_13 rfl (lv_at hl 1 rfl) ?_
  refine lv_bipush (v := 8) C.1 C.2.1 dX12_bought_14 (by decide) ?_
  refine lv_icmp_ge (tgt := 28) C.1 C.2.1 dX12_bought_16 (by decide) (fun c5 => ?_) (fun c5 => ?_)
  · have hX := br_p hX c5
    refine lv_iconst (v := -1) C.1 C.2.1 dX12_bought_28 (by decide) ?_
    exact G_reti C hr hlk hA hW (Option.some.inj hX).symm dX12_bought_29
  have hX := br_n hX c5
  refine lv_aload_n C.1 C.2.1 dX12_bought_19 rfl (lv_at hl 0 rfl) ?_
  refine M_geta C hin hW 59 rfl (by decide) f59 dX12_bought_20 ?_
  refine lv_iload_n C.1 C.2.1 dX12_bought_23 rfl (lv_at hl 1 rfl) ?_
  obtain ⟨hi, hX⟩ := chkI_st hX
  refine M_ldI C hW 59 rfl hi dX12_bought_24 ?_
  refine lv_goto (tgt := 29) C.1 C.2.1 dX12_bought_25 (by decide) ?_
  exact G_reti C hr hlk hA hW (Option.some.inj hX).symm dX12_bought_29
