abbrev rm_M_peek : Room := { frames := 0, cells := 0, slots := 0, locals := 0 }
def M_peek (σ : St) : Option (Int32) := if (σ.1 3 0) ≤ (σ.1 4 0) then some (-1) else chkI (σ.1 4 0) 200 (some ((σ.1 1 (σ.1 4 0).toNatClampNeg) &&& 255))
set_option maxHeartbeats 4000000 in
set_option maxRecDepth 100000 in
theorem c_M_peek {Ev : EvT} (l : Launch) (D : va_G) (cs : Nat → ClassId) (h : Nat) (a : Nat → Nat) (σ : St) (X : Int32) (hX : some X = M_peek σ) : cGi Ev l D (tyM cs) (wM h a cs) yX12_peek wsX12_peek rm_M_peek 0 0 [.ref h] σ (fun r u => r = X ∧ u = σ) := by
  refine G_ini (cc := cX12_peek) (maxL := 1) (ret := some .int) (by decide) rfl (Nat.le_of_ble_eq_true rfl) ?_
  intro p e s m below meth c A ls C hr hlk hini hA hW hl
  have C : Cx p s m _ c cX12_peek 1 wsX12_peek RX12 := C
  have hl : lv_has ls 1 [(0, .ref h)] := hl
  have hin : ∀ w ∈ wsX120, w ∈ wsX12_peek := fun w hw => List.mem_cons_of_mem _ (List.mem_append_right _ hw)
  have f1 : (Cond.fieldLink RX12 7 (TX12 1).1 (TX12 1).2.1 (TX12 1).2.2.1).before _ s = true := C.2.2.2.2 _ (List.mem_of_getElem? (i := 3) rfl)
  have f3 : (Cond.fieldLink RX12 144 (TX12 3).1 (TX12 3).2.1 (TX12 3).2.2.1).before _ s = true := C.2.2.2.2 _ (List.mem_of_getElem? (i := 2) rfl)
  have f4 : (Cond.fieldLink RX12 147 (TX12 4).1 (TX12 4).2.1 (TX12 4).2.2.1).before _ s = true := C.2.2.2.2 _ (List.mem_of_getElem? (i := 1) rfl)
  obtain ⟨H, hH⟩ : ∃ H, H = s.heap := ⟨_, rfl⟩
  obtain ⟨locs, hlo⟩ : ∃ z : List Loc, z = [] := ⟨_, rfl⟩
  have hW : GW Ev D (tyM cs) (wM h a cs) A s σ H locs := by rw [hH, hlo]; exact hW
  rw [show W p l e rm_M_peek s m _ below meth c s.heap [] = W p l e rm_M_peek s m _ below meth c H locs from by rw [hH, hlo]]
  unfold M_peek at hX
  refine lv_aload_n C.1 C.2.1 dX12_peek_0 rfl (lv_at hl 0 rfl) ?_
  refine M_geti C hin hW 4 (by decide) f4 dX12_peek_1 ?_
  refine lv_aload_n C.1 C.2.1 dX12_peek_4 rfl (lv_at hl 0 rfl) ?_
  refine M_geti C hin hW 3 (by decide) f3 dX12_peek_5 ?_
  refine lv_icmp_ge (tgt := 27) C.1 C.2.1 dX12_peek_8 (by decide) (fun c1 => ?_) (fun c1 => ?_)
  · have hX := br_p hX c1
    refine lv_iconst (v := -1) C.1 C.2.1 dX12_peek_27 (by decide) ?_
    exact G_reti C hr hlk hA hW ⟨(Option.some.inj hX).symm, rfl⟩ dX12_peek_28
  have hX := br_n hX c1
  refine lv_aload_n C.1 C.2.1 dX12_peek_11 rfl (lv_at hl 0 rfl) ?_
  refine M_geta C hin hW 1 rfl (by decide) f1 dX12_peek_12 ?_
  refine lv_aload_n C.1 C.2.1 dX12_peek_15 rfl (lv_at hl 0 rfl) ?_
  refine M_geti C hin hW 4 (by decide) f4 dX12_peek_16 ?_
  obtain ⟨hi, hX⟩ := chkI_st hX
  refine M_ldB C hW 1 rfl hi dX12_peek_19 ?_
  refine lv_sipush (v := 255) C.1 C.2.1 dX12_peek_20 (by decide) ?_
  refine lv_iand C.1 C.2.1 dX12_peek_23 ?_
  refine lv_goto (tgt := 28) C.1 C.2.1 dX12_peek_24 (by decide) ?_
  exact G_reti C hr hlk hA hW ⟨(Option.some.inj hX).symm, rfl⟩ dX12_peek_28
abbrev rm_M_wrong : Room := { frames := 0, cells := 0, slots := 0, locals := 0 }
def M_wrong (σ : St) (x1 : Int32) (x2 : Int32) : Option (Int32 × St) := nm (s1 σ 29 0 x1) (fun σ1 => nm (s1 σ1 30 0 x2) (fun σ2 => some (0, σ2)))
set_option maxHeartbeats 4000000 in
set_option maxRecDepth 100000 in
theorem c_M_wrong {Ev : EvT} (l : Launch) (D : va_G) (cs : Nat → ClassId) (h : Nat) (a : Nat → Nat) (σ : St) (x1 : Int32) (x2 : Int32) (X : Int32 × St) (hX : some X = M_wrong σ x1 x2) : cGi Ev l D (tyM cs) (wM h a cs) yX12_wrong wsX12_wrong rm_M_wrong 0 0 [.ref h, .int x1, .int x2] σ (fun r u => (r, u) = X) := by
  refine G_ini (cc := cX12_wrong) (maxL := 3) (ret := some .boolean) (by decide) rfl (Nat.le_of_ble_eq_true rfl) ?_
  intro p e s m below meth c A ls C hr hlk hini hA hW hl
  have C : Cx p s m _ c cX12_wrong 3 wsX12_wrong RX12 := C
  have hl : lv_has ls 3 [(0, .ref h), (1, .int x1), (2, .int x2)] := hl
  have hin : ∀ w ∈ wsX120, w ∈ wsX12_wrong := fun w hw => List.mem_cons_of_mem _ (List.mem_append_right _ hw)
  have f29 : (Cond.fieldLink RX12 230 (TX12 29).1 (TX12 29).2.1 (TX12 29).2.2.1).before _ s = true := C.2.2.2.2 _ (List.mem_of_getElem? (i := 1) rfl)
  have f30 : (Cond.fieldLink RX12 233 (TX12 30).1 (TX12 30).2.1 (TX12 30).2.2.1).before _ s = true := C.2.2.2.2 _ (List.mem_of_getElem? (i := 2) rfl)
  obtain ⟨H, hH⟩ : ∃ H, H = s.heap := ⟨_, rfl⟩
  obtain ⟨locs, hlo⟩ : ∃ z : List Loc, z = [] := ⟨_, rfl⟩
  have hW : GW Ev D (tyM cs) (wM h a cs) A s σ H locs := by rw [hH, hlo]; exact hW
  rw [show W p l e rm_M_wrong s m _ below meth c s.heap [] = W p l e rm_M_wrong s m _ below meth c H locs from by rw [hH, hlo]]
  unfold M_wrong at hX
  refine lv_aload_n C.1 C.2.1 dX12_wrong_0 rfl (lv_at hl 0 rfl) ?_
  refine lv_iload_n C.1 C.2.1 dX12_wrong_1 rfl (lv_at hl 1 rfl) ?_
  refine M_puti C hin hW 29 rfl f29 dX12_wrong_2 (fun H locs σ1 eσ1 hW => ?_)
  have hX := nm_st hX eσ1
  refine lv_aload_n C.1 C.2.1 dX12_wrong_5 rfl (lv_at hl 0 rfl) ?_
  refine lv_iload_n C.1 C.2.1 dX12_wrong_6 rfl (lv_at hl 2 rfl) ?_
  refine M_puti C hin hW 30 rfl f30 dX12_wrong_7 (fun H locs σ2 eσ2 hW => ?_)
  have hX := nm_st hX eσ2
  refine lv_iconst (v := 0) C.1 C.2.1 dX12_wrong_10 (by decide) ?_
  exact G_retz C hr hlk hA hW rfl (Option.some.inj hX).symm dX12_wrong_11
abbrev rm_M_cant : Room := { frames := 1, cells := 0, slots := 0, locals := 22 }
def M_cant (σ : St) : Option (Int32 × St) := if (σ.1 26 0) = 4 then bnd2 (M_wrong σ 1 (σ.1 27 0)) (fun v5 σ4 => chkZ v5 (some (v5, σ4))) else bnd2 (M_wrong σ 2 (σ.1 27 0)) (fun v3 σ2 => chkZ v3 (some (v3, σ2)))
set_option maxHeartbeats 4000000 in
set_option maxRecDepth 100000 in
theorem c_M_cant {Ev : EvT} (l : Launch) (D : va_G) (cs : Nat → ClassId) (h : Nat) (a : Nat → Nat) (σ : St) (X : Int32 × St) (hX : some X = M_cant σ) : cGi Ev l D (tyM cs) (wM h a cs) yX12_cant wsX12_cant rm_M_cant 0 0 [.ref h] σ (fun r u => (r, u) = X) := by
  refine G_ini (cc := cX12_cant) (maxL := 1) (ret := some .boolean) (by decide) rfl (Nat.le_of_ble_eq_true rfl) ?_
  intro p e s m below meth c A ls C hr hlk hini hA hW hl
  have C : Cx p s m _ c cX12_cant 1 wsX12_cant RX12 := C
  have hl : lv_has ls 1 [(0, .ref h)] := hl
  have hin : ∀ w ∈ wsX120, w ∈ wsX12_cant := fun w hw => List.mem_cons_of_mem _ (List.mem_append_right _ hw)
  have f26 : (Cond.fieldLink RX12 214 (TX12 26).1 (TX12 26).2.1 (TX12 26).2.2.1).before _ s = true := C.2.2.2.2 _ (List.mem_of_getElem? (i := 1) rfl)
  have f27 : (Cond.fieldLink RX12 211 (TX12 27).1 (TX12 27).2.1 (TX12 27).2.2.1).before _ s = true := C.2.2.2.2 _ (List.mem_of_getElem? (i := 2) rfl)
  obtain ⟨H, hH⟩ : ∃ H, H = s.heap := ⟨_, rfl⟩
  obtain ⟨locs, hlo⟩ : ∃ z : List Loc, z = [] := ⟨_, rfl⟩
  have hW : GW Ev D (tyM cs) (wM h a cs) A s σ H locs := by rw [hH, hlo]; exact hW
  rw [show W p l e rm_M_cant s m _ below meth c s.heap [] = W p l e rm_M_cant s m _ below meth c H locs from by rw [hH, hlo]]
  unfold M_cant at hX
  refine lv_aload_n C.1 C.2.1 dX12_cant_0 rfl (lv_at hl 0 rfl) ?_
  refine lv_aload_n C.1 C.2.1 dX12_cant_1 rfl (lv_at hl 0 rfl) ?_
  refine M_geti C hin hW 26 (by decide) f26 dX12_cant_2 ?_
  refine lv_iconst (v := 4) C.1 C.2.1 dX12_cant_5 (by decide) ?_
  refine lv_icmp_ne (tgt := 13) C.1 C.2.1 dX12_cant_6 (by decide) (fun c1 => ?_) (fun c1 => ?_)
  · have hX := br_n hX c1
    refine lv_iconst (v := 2) C.1 C.2.1 dX12_cant_13 (by decide) ?_
    refine lv_aload_n C.1 C.2.1 dX12_cant_14 rfl (lv_at hl 0 rfl) ?_
    refine M_geti C hin hW 27 (by decide) f27 dX12_cant_15 ?_
    obtain ⟨v3, σ2, hq, hX⟩ := bnd2_st hX
    refine G_V0e (As := [.int 2, .int (σ.1 27 0)]) (rest := []) C hW (c_M_wrong l D cs h a σ 2 (σ.1 27 0) (v3, σ2) hq.symm) (cwV 2 C.2.2.2.2 gX12_cant_X12_wrong rfl rfl rfl (by decide +kernel) ⟨Nat.le_of_ble_eq_true rfl, Nat.le_of_ble_eq_true rfl⟩) (M_recv hW) rfl hl.1 rfl (Nat.le_of_ble_eq_true rfl) dX12_cant_18 (fun H locs hW => ?_)
    obtain ⟨hz, hX⟩ := chkZ_st hX
    exact G_retz C hr hlk hA hW hz.1 (Option.some.inj hX).symm dX12_cant_21
  have hX := br_p hX c1
  refine lv_iconst (v := 1) C.1 C.2.1 dX12_cant_9 (by decide) ?_
  refine lv_goto (tgt := 14) C.1 C.2.1 dX12_cant_10 (by decide) ?_
  refine lv_aload_n C.1 C.2.1 dX12_cant_14 rfl (lv_at hl 0 rfl) ?_
  refine M_geti C hin hW 27 (by decide) f27 dX12_cant_15 ?_
  obtain ⟨v5, σ4, hq, hX⟩ := bnd2_st hX
  refine G_V0e (As := [.int 1, .int (σ.1 27 0)]) (rest := []) C hW (c_M_wrong l D cs h a σ 1 (σ.1 27 0) (v5, σ4) hq.symm) (cwV 2 C.2.2.2.2 gX12_cant_X12_wrong rfl rfl rfl (by decide +kernel) ⟨Nat.le_of_ble_eq_true rfl, Nat.le_of_ble_eq_true rfl⟩) (M_recv hW) rfl hl.1 rfl (Nat.le_of_ble_eq_true rfl) dX12_cant_18 (fun H locs hW => ?_)
  obtain ⟨hz, hX⟩ := chkZ_st hX
  exact G_retz C hr hlk hA hW hz.1 (Option.some.inj hX).symm dX12_cant_21
abbrev rm_M_isWord : Room := { frames := 0, cells := 0, slots := 0, locals := 0 }
def M_isWord (σ : St) (x1 : Int64) : Option (Int32) := if (σ.1 26 0) = 1 then if (lg_cmp (σ.2 33 0) x1) = 0 then some 1 else some 0 else some 0
set_option maxHeartbeats 4000000 in
set_option maxRecDepth 100000 in
theorem c_M_isWord {Ev : EvT} (l : Launch) (D : va_G) (cs : Nat → ClassId) (h : Nat) (a : Nat → Nat) (σ : St) (x1 : Int64) (X : Int32) (hX : some X = M_isWord σ x1) : cGi Ev l D (tyM cs) (wM h a cs) yX12_isWord wsX12_isWord rm_M_isWord 0 0 [.ref h, .long x1] σ (fun r u => r = X ∧ u = σ) := by
  refine G_ini (cc := cX12_isWord) (maxL := 3) (ret := some .boolean) (by decide) rfl (Nat.le_of_ble_eq_true rfl) ?_
  intro p e s m below meth c A ls C hr hlk hini hA hW hl
  have C : Cx p s m _ c cX12_isWord 3 wsX12_isWord RX12 := C
  have hl : lv_has ls 3 [(0, .ref h), (1, .long x1)] := hl
  have hin : ∀ w ∈ wsX120, w ∈ wsX12_isWord := fun w hw => List.mem_cons_of_mem _ (List.mem_append_right _ hw)
  have f26 : (Cond.fieldLink RX12 214 (TX12 26).1 (TX12 26).2.1 (TX12 26).2.2.1).before _ s = true := C.2.2.2.2 _ (List.mem_of_getElem? (i := 1) rfl)
  have f33 : (Cond.fieldLink RX12 223 (TX12 33).1 (TX12 33).2.1 (TX12 33).2.2.1).before _ s = true := C.2.2.2.2 _ (List.mem_of_getElem? (i := 2) rfl)
  obtain ⟨H, hH⟩ : ∃ H, H = s.heap := ⟨_, rfl⟩
  obtain ⟨locs, hlo⟩ : ∃ z : List Loc, z = [] := ⟨_, rfl⟩
  have hW : GW Ev D (tyM cs) (wM h a cs) A s σ H locs := by rw [hH, hlo]; exact hW
  rw [show W p l e rm_M_isWord s m _ below meth c s.heap [] = W p l e rm_M_isWord s m _ below meth c H locs from by rw [hH, hlo]]
  unfold M_isWord at hX
  refine lv_aload_n C.1 C.2.1 dX12_isWord_0 rfl (lv_at hl 0 rfl) ?_
  refine M_geti C hin hW 26 (by decide) f26 dX12_isWord_1 ?_
  refine lv_iconst (v := 1) C.1 C.2.1 dX12_isWord_4 (by decide) ?_
  refine lv_icmp_ne (tgt := 21) C.1 C.2.1 dX12_isWord_5 (by decide) (fun c1 => ?_) (fun c1 => ?_)
  · have hX := br_n hX c1
    refine lv_iconst (v := 0) C.1 C.2.1 dX12_isWord_21 (by decide) ?_
    exact G_retz C hr hlk hA hW rfl ⟨(Option.some.inj hX).symm, rfl⟩ dX12_isWord_22
  have hX := br_p hX c1
  refine lv_aload_n C.1 C.2.1 dX12_isWord_8 rfl (lv_at hl 0 rfl) ?_
  refine M_getl C hin hW 33 rfl f33 dX12_isWord_9 ?_
  refine lv_lload_n C.1 C.2.1 dX12_isWord_12 rfl (lv_at hl 1 rfl) ?_
  refine W.lcmp C.1 C.2.1 dX12_isWord_13 ?_
  refine lv_if_ne (tgt := 21) C.1 C.2.1 dX12_isWord_14 (by decide) (fun c2 => ?_) (fun c2 => ?_)
  · have hX := br_n hX c2
    refine lv_iconst (v := 0) C.1 C.2.1 dX12_isWord_21 (by decide) ?_
    exact G_retz C hr hlk hA hW rfl ⟨(Option.some.inj hX).symm, rfl⟩ dX12_isWord_22
  have hX := br_p hX c2
  refine lv_iconst (v := 1) C.1 C.2.1 dX12_isWord_17 (by decide) ?_
  refine lv_goto (tgt := 22) C.1 C.2.1 dX12_isWord_18 (by decide) ?_
  exact G_retz C hr hlk hA hW rfl ⟨(Option.some.inj hX).symm, rfl⟩ dX12_isWord_22
abbrev rm_M_next : Room := { frames := 1, cells := 0, slots := 0, locals := 20 }
def M_next_L0 : Nat → St → Option (St)
  | 0, _ => none
  | n + 1, σ => bnd (M_peek σ) (fun v10 => if v10 = 32 then nm (s1 σ 4 0 ((σ.1 4 0) + 1)) (fun σ12 => M_next_L0 n σ12) else bnd (M_peek σ) (fun v14 => if v14 = 10 then nm (s1 σ 4 0 ((σ.1 4 0) + 1)) (fun σ16 => M_next_L0 n σ16) else some σ))
set_option maxHeartbeats 4000000 in
set_option maxRecDepth 100000 in
theorem r_M_next_L0 {p : Program} {l : Launch} {e : Env} {s : State} {m : MethodId} {args : Array Value} {below : List Frame} {meth : Method} {c : Code} {Q : State → Prop} {Ev : EvT} {D : va_G} {cs : Nat → ClassId} {h : Nat} {a : Nat → Nat} {A : Nat → Prop} (C : Cx p s m args c cX12_next 5 wsX12_next RX12) : ∀ (n : Nat) (σ : St) (H : Heap) (locs : List Loc) (ls : Array Slot) (X : St), some X = M_next_L0 n σ → GW Ev D (tyM cs) (wM h a cs) A s σ H locs → lv_has ls 5 [(0, .ref h)] → (∀ (τ : St) (H : Heap) (locs : List Loc) (ls : Array Slot), X = τ → GW Ev D (tyM cs) (wM h a cs) A s τ H locs → lv_has ls 5 [(0, .ref h)] → W p l e rm_M_next s m args below meth c H locs 0 0 Q (F0 m 31 ls [])) → W p l e rm_M_next s m args below meth c H locs 0 0 Q (F0 m 0 ls []) := by
  have hin : ∀ w ∈ wsX120, w ∈ wsX12_next := fun w hw => List.mem_cons_of_mem _ (List.mem_append_right _ hw)
  have f4 : (Cond.fieldLink RX12 147 (TX12 4).1 (TX12 4).2.1 (TX12 4).2.2.1).before _ s = true := C.2.2.2.2 _ (List.mem_of_getElem? (i := 1) rfl)
  intro n
  induction n with
  | zero =>
    intro σ  H locs ls X hX hW hl K0
    cases hX
  | succ n ih =>
    intro σ  H locs ls X hX hW hl K0
    unfold M_next_L0 at hX
    refine lv_aload_n C.1 C.2.1 dX12_next_0 rfl (lv_at hl 0 rfl) ?_
    obtain ⟨v10, hq, hX⟩ := bnd_st hX
    refine G_V0p (As := []) (rest := []) C hW (c_M_peek l D cs h a σ v10 hq.symm) (cwV 0 C.2.2.2.2 gX12_next_X12_peek rfl rfl rfl (by decide +kernel) ⟨Nat.le_of_ble_eq_true rfl, Nat.le_of_ble_eq_true rfl⟩) (M_recv hW) rfl hl.1 rfl (Nat.le_of_ble_eq_true rfl) dX12_next_1 (fun H locs hW => ?_)
    refine lv_bipush (v := 32) C.1 C.2.1 dX12_next_4 (by decide) ?_
    refine lv_icmp_eq (tgt := 18) C.1 C.2.1 dX12_next_6 (by decide) (fun c11 => ?_) (fun c11 => ?_)
    · have hX := br_p hX c11
      refine lv_aload_n C.1 C.2.1 dX12_next_18 rfl (lv_at hl 0 rfl) ?_
      refine lv_dup C.1 C.2.1 dX12_next_19 rfl ?_
      refine M_geti C hin hW 4 (by decide) f4 dX12_next_20 ?_
      refine lv_iconst (v := 1) C.1 C.2.1 dX12_next_23 (by decide) ?_
      refine lv_iadd C.1 C.2.1 dX12_next_24 ?_
      refine M_puti C hin hW 4 rfl f4 dX12_next_25 (fun H locs σ12 eσ12 hW => ?_)
      have hX := nm_st hX eσ12
      refine lv_goto (tgt := 0) C.1 C.2.1 dX12_next_28 (by decide) ?_
      exact ih σ12 H locs ls X hX hW (lv_sub hl [0] rfl) K0
    have hX := br_n hX c11
    refine lv_aload_n C.1 C.2.1 dX12_next_9 rfl (lv_at hl 0 rfl) ?_
    obtain ⟨v14, hq, hX⟩ := bnd_st hX
    refine G_V0p (As := []) (rest := []) C hW (c_M_peek l D cs h a σ v14 hq.symm) (cwV 0 C.2.2.2.2 gX12_next_X12_peek rfl rfl rfl (by decide +kernel) ⟨Nat.le_of_ble_eq_true rfl, Nat.le_of_ble_eq_true rfl⟩) (M_recv hW) rfl hl.1 rfl (Nat.le_of_ble_eq_true rfl) dX12_next_10 (fun H locs hW => ?_)
    refine lv_bipush (v := 10) C.1 C.2.1 dX12_next_13 (by decide) ?_
    refine lv_icmp_ne (tgt := 31) C.1 C.2.1 dX12_next_15 (by decide) (fun c15 => ?_) (fun c15 => ?_)
    · have hX := br_n hX c15
      exact K0 σ H locs ls (Option.some.inj hX) hW (lv_sub hl [0] rfl)
    have hX := br_p hX c15
    refine lv_aload_n C.1 C.2.1 dX12_next_18 rfl (lv_at hl 0 rfl) ?_
    refine lv_dup C.1 C.2.1 dX12_next_19 rfl ?_
    refine M_geti C hin hW 4 (by decide) f4 dX12_next_20 ?_
    refine lv_iconst (v := 1) C.1 C.2.1 dX12_next_23 (by decide) ?_
    refine lv_iadd C.1 C.2.1 dX12_next_24 ?_
    refine M_puti C hin hW 4 rfl f4 dX12_next_25 (fun H locs σ16 eσ16 hW => ?_)
    have hX := nm_st hX eσ16
    refine lv_goto (tgt := 0) C.1 C.2.1 dX12_next_28 (by decide) ?_
    exact ih σ16 H locs ls X hX hW (lv_sub hl [0] rfl) K0
def M_next_B134 (σ : St) (x4 : Int32) (x3 : Int32) (x2 : Int32) (x1 : Int32) : Option (Int32) := if x3 = 0 then some 0 else bnd (M_peek σ) (fun v38 => bnd (M_isSmall v38) (fun v39 => if v39 = x2 then some 1 else some 0))
set_option maxHeartbeats 4000000 in
set_option maxRecDepth 100000 in
theorem r_M_next_B134 {p : Program} {l : Launch} {e : Env} {s : State} {m : MethodId} {args : Array Value} {below : List Frame} {meth : Method} {c : Code} {Q : State → Prop} {Ev : EvT} {D : va_G} {cs : Nat → ClassId} {h : Nat} {a : Nat → Nat} {A : Nat → Prop} (C : Cx p s m args c cX12_next 5 wsX12_next RX12) : ∀ (σ : St) (x4 : Int32) (x3 : Int32) (x2 : Int32) (x1 : Int32) (H : Heap) (locs : List Loc) (ls : Array Slot) (X : Int32), some X = M_next_B134 σ x4 x3 x2 x1 → GW Ev D (tyM cs) (wM h a cs) A s σ H locs → lv_has ls 5 [(4, .int x4), (3, .int x3), (2, .int x2), (1, .int x1), (0, .ref h)] → (∀ (w0 : Int32) (H : Heap) (locs : List Loc) (ls : Array Slot), X = w0 → GW Ev D (tyM cs) (wM h a cs) A s σ H locs → lv_has ls 5 [(4, .int x4), (3, .int x3), (2, .int x2), (1, .int x1), (0, .ref h)] → W p l e rm_M_next s m args below meth c H locs 0 0 Q (F0 m 154 ls [.int w0])) → W p l e rm_M_next s m args below meth c H locs 0 0 Q (F0 m 134 ls []) := by
  have hin : ∀ w ∈ wsX120, w ∈ wsX12_next := fun w hw => List.mem_cons_of_mem _ (List.mem_append_right _ hw)
  have f4 : (Cond.fieldLink RX12 147 (TX12 4).1 (TX12 4).2.1 (TX12 4).2.2.1).before _ s = true := C.2.2.2.2 _ (List.mem_of_getElem? (i := 1) rfl)
  have f27 : (Cond.fieldLink RX12 211 (TX12 27).1 (TX12 27).2.1 (TX12 27).2.2.1).before _ s = true := C.2.2.2.2 _ (List.mem_of_getElem? (i := 2) rfl)
  have f28 : (Cond.fieldLink RX12 227 (TX12 28).1 (TX12 28).2.1 (TX12 28).2.2.1).before _ s = true := C.2.2.2.2 _ (List.mem_of_getElem? (i := 5) rfl)
  have f33 : (Cond.fieldLink RX12 223 (TX12 33).1 (TX12 33).2.1 (TX12 33).2.2.1).before _ s = true := C.2.2.2.2 _ (List.mem_of_getElem? (i := 4) rfl)
  intro σ x4 x3 x2 x1 H locs ls X hX hW hl K0
  unfold M_next_B134 at hX
  refine lv_iload_n C.1 C.2.1 dX12_next_134 rfl (lv_at hl 1 rfl) ?_
  refine lv_if_eq (tgt := 153) C.1 C.2.1 dX12_next_135 (by decide) (fun c36 => ?_) (fun c36 => ?_)
  · have hX := br_p hX c36
    refine lv_iconst (v := 0) C.1 C.2.1 dX12_next_153 (by decide) ?_
    exact K0 0 H locs ls (Option.some.inj hX) hW (lv_sub hl [0, 1, 2, 3, 4] rfl)
  have hX := br_n hX c36
  refine lv_aload_n C.1 C.2.1 dX12_next_138 rfl (lv_at hl 4 rfl) ?_
  obtain ⟨v38, hq, hX⟩ := bnd_st hX
  refine G_V0p (As := []) (rest := []) C hW (c_M_peek l D cs h a σ v38 hq.symm) (cwV 0 C.2.2.2.2 gX12_next_X12_peek rfl rfl rfl (by decide +kernel) ⟨Nat.le_of_ble_eq_true rfl, Nat.le_of_ble_eq_true rfl⟩) (M_recv hW) rfl hl.1 rfl (Nat.le_of_ble_eq_true rfl) dX12_next_139 (fun H locs hW => ?_)
  obtain ⟨v39, hq, hX⟩ := bnd_st hX
  refine G_S0s (As := [.int v38]) (rest := []) C hW (c_M_isSmall l D (tyM cs) (wM h a cs) σ v38 v39 hq.symm) (cwS 1 C.2.2.2.2 gX12_next_X12_isSmall rfl rfl rfl (by decide +kernel) ⟨Nat.le_of_ble_eq_true rfl, Nat.le_of_ble_eq_true rfl⟩) rfl hl.1 rfl (Nat.le_of_ble_eq_true rfl) dX12_next_142 (fun H locs hW => ?_)
  refine lv_iload_n C.1 C.2.1 dX12_next_145 rfl (lv_at hl 2 rfl) ?_
  refine lv_icmp_ne (tgt := 153) C.1 C.2.1 dX12_next_146 (by decide) (fun c40 => ?_) (fun c40 => ?_)
  · have hX := br_n hX c40
    refine lv_iconst (v := 0) C.1 C.2.1 dX12_next_153 (by decide) ?_
    exact K0 0 H locs ls (Option.some.inj hX) hW (lv_sub hl [0, 1, 2, 3, 4] rfl)
  have hX := br_p hX c40
  refine lv_iconst (v := 1) C.1 C.2.1 dX12_next_149 (by decide) ?_
  refine lv_goto (tgt := 154) C.1 C.2.1 dX12_next_150 (by decide) ?_
  exact K0 1 H locs ls (Option.some.inj hX) hW (lv_sub hl [0, 1, 2, 3, 4] rfl)
def M_next_B155 (σ : St) (x3 : Int32) (x4 : Int32) (x2 : Int32) (x1 : Int32) : Option (St) := if 7 ≤ x4 then some σ else bnd (M_peek σ) (fun v48 => nm (s2 σ 33 0 (((σ.2 33 0) <<< ((8 : Int32).toInt64 &&& 63)) ||| v48.toInt64)) (fun σ49 => some σ49))
set_option maxHeartbeats 4000000 in
set_option maxRecDepth 100000 in
theorem r_M_next_B155 {p : Program} {l : Launch} {e : Env} {s : State} {m : MethodId} {args : Array Value} {below : List Frame} {meth : Method} {c : Code} {Q : State → Prop} {Ev : EvT} {D : va_G} {cs : Nat → ClassId} {h : Nat} {a : Nat → Nat} {A : Nat → Prop} (C : Cx p s m args c cX12_next 5 wsX12_next RX12) : ∀ (σ : St) (x3 : Int32) (x4 : Int32) (x2 : Int32) (x1 : Int32) (H : Heap) (locs : List Loc) (ls : Array Slot) (X : St), some X = M_next_B155 σ x3 x4 x2 x1 → GW Ev D (tyM cs) (wM h a cs) A s σ H locs → lv_has ls 5 [(3, .int x3), (4, .int x4), (2, .int x2), (1, .int x1), (0, .ref h)] → (∀ (τ : St) (H : Heap) (locs : List Loc) (ls : Array Slot), X = τ → GW Ev D (tyM cs) (wM h a cs) A s τ H locs → lv_has ls 5 [(3, .int x3), (4, .int x4), (2, .int x2), (1, .int x1), (0, .ref h)] → W p l e rm_M_next s m args below meth c H locs 0 0 Q (F0 m 179 ls [])) → W p l e rm_M_next s m args below meth c H locs 0 0 Q (F0 m 155 ls []) := by
  have hin : ∀ w ∈ wsX120, w ∈ wsX12_next := fun w hw => List.mem_cons_of_mem _ (List.mem_append_right _ hw)
  have f4 : (Cond.fieldLink RX12 147 (TX12 4).1 (TX12 4).2.1 (TX12 4).2.2.1).before _ s = true := C.2.2.2.2 _ (List.mem_of_getElem? (i := 1) rfl)
  have f27 : (Cond.fieldLink RX12 211 (TX12 27).1 (TX12 27).2.1 (TX12 27).2.2.1).before _ s = true := C.2.2.2.2 _ (List.mem_of_getElem? (i := 2) rfl)
  have f28 : (Cond.fieldLink RX12 227 (TX12 28).1 (TX12 28).2.1 (TX12 28).2.2.1).before _ s = true := C.2.2.2.2 _ (List.mem_of_getElem? (i := 5) rfl)
  have f33 : (Cond.fieldLink RX12 223 (TX12 33).1 (TX12 33).2.1 (TX12 33).2.2.1).before _ s = true := C.2.2.2.2 _ (List.mem_of_getElem? (i := 4) rfl)
  intro σ x3 x4 x2 x1 H locs ls X hX hW hl K0
  unfold M_next_B155 at hX
  refine lv_iload C.1 C.2.1 dX12_next_155 (lv_at hl 1 rfl) ?_
  refine lv_bipush (v := 7) C.1 C.2.1 dX12_next_157 (by decide) ?_
  refine lv_icmp_ge (tgt := 179) C.1 C.2.1 dX12_next_159 (by decide) (fun c46 => ?_) (fun c46 => ?_)
  · have hX := br_p hX c46
    exact K0 σ H locs ls (Option.some.inj hX) hW (lv_sub hl [0, 1, 2, 3, 4] rfl)
  have hX := br_n hX c46
  refine lv_aload_n C.1 C.2.1 dX12_next_162 rfl (lv_at hl 4 rfl) ?_
  refine lv_aload_n C.1 C.2.1 dX12_next_163 rfl (lv_at hl 4 rfl) ?_
  refine M_getl C hin hW 33 rfl f33 dX12_next_164 ?_
  refine lv_bipush (v := 8) C.1 C.2.1 dX12_next_167 (by decide) ?_
  refine lv_lshl C.1 C.2.1 dX12_next_169 rfl ?_
  refine lv_aload_n C.1 C.2.1 dX12_next_170 rfl (lv_at hl 4 rfl) ?_
  obtain ⟨v48, hq, hX⟩ := bnd_st hX
  refine G_V0p (As := []) (rest := [.long ((σ.2 33 0) <<< ((8 : Int32).toInt64 &&& 63)), .ref h]) C hW (c_M_peek l D cs h a σ v48 hq.symm) (cwV 0 C.2.2.2.2 gX12_next_X12_peek rfl rfl rfl (by decide +kernel) ⟨Nat.le_of_ble_eq_true rfl, Nat.le_of_ble_eq_true rfl⟩) (M_recv hW) rfl hl.1 rfl (Nat.le_of_ble_eq_true rfl) dX12_next_171 (fun H locs hW => ?_)
  refine lv_i2l C.1 C.2.1 dX12_next_174 rfl ?_
  refine lv_lor C.1 C.2.1 dX12_next_175 ?_
  refine M_putl C hin hW 33 rfl f33 dX12_next_176 (fun H locs σ49 eσ49 hW => ?_)
  have hX := nm_st hX eσ49
  exact K0 σ49 H locs ls (Option.some.inj hX) hW (lv_sub hl [0, 1, 2, 3, 4] rfl)
def M_next_B179 (σ : St) (x3 : Int32) (x4 : Int32) (x2 : Int32) (x1 : Int32) : Option (St) := if 3 ≤ x4 then some σ else bnd (M_peek σ) (fun v57 => nm (s1 σ 28 0 (((10 * (σ.1 28 0)) + v57) - 48)) (fun σ58 => some σ58))
set_option maxHeartbeats 4000000 in
set_option maxRecDepth 100000 in
theorem r_M_next_B179 {p : Program} {l : Launch} {e : Env} {s : State} {m : MethodId} {args : Array Value} {below : List Frame} {meth : Method} {c : Code} {Q : State → Prop} {Ev : EvT} {D : va_G} {cs : Nat → ClassId} {h : Nat} {a : Nat → Nat} {A : Nat → Prop} (C : Cx p s m args c cX12_next 5 wsX12_next RX12) : ∀ (σ : St) (x3 : Int32) (x4 : Int32) (x2 : Int32) (x1 : Int32) (H : Heap) (locs : List Loc) (ls : Array Slot) (X : St), some X = M_next_B179 σ x3 x4 x2 x1 → GW Ev D (tyM cs) (wM h a cs) A s σ H locs → lv_has ls 5 [(3, .int x3), (4, .int x4), (2, .int x2), (1, .int x1), (0, .ref h)] → (∀ (τ : St) (H : Heap) (locs : List Loc) (ls : Array Slot), X = τ → GW Ev D (tyM cs) (wM h a cs) A s τ H locs → lv_has ls 5 [(3, .int x3), (4, .int x4), (2, .int x2), (1, .int x1), (0, .ref h)] → W p l e rm_M_next s m args below meth c H locs 0 0 Q (F0 m 204 ls [])) → W p l e rm_M_next s m args below meth c H locs 0 0 Q (F0 m 179 ls []) := by
  have hin : ∀ w ∈ wsX120, w ∈ wsX12_next := fun w hw => List.mem_cons_of_mem _ (List.mem_append_right _ hw)
  have f4 : (Cond.fieldLink RX12 147 (TX12 4).1 (TX12 4).2.1 (TX12 4).2.2.1).before _ s = true := C.2.2.2.2 _ (List.mem_of_getElem? (i := 1) rfl)
  have f27 : (Cond.fieldLink RX12 211 (TX12 27).1 (TX12 27).2.1 (TX12 27).2.2.1).before _ s = true := C.2.2.2.2 _ (List.mem_of_getElem? (i := 2) rfl)
  have f28 : (Cond.fieldLink RX12 227 (TX12 28).1 (TX12 28).2.1 (TX12 28).2.2.1).before _ s = true := C.2.2.2.2 _ (List.mem_of_getElem? (i := 5) rfl)
  have f33 : (Cond.fieldLink RX12 223 (TX12 33).1 (TX12 33).2.1 (TX12 33).2.2.1).before _ s = true := C.2.2.2.2 _ (List.mem_of_getElem? (i := 4) rfl)
  intro σ x3 x4 x2 x1 H locs ls X hX hW hl K0
  unfold M_next_B179 at hX
  refine lv_iload C.1 C.2.1 dX12_next_179 (lv_at hl 1 rfl) ?_
  refine lv_iconst (v := 3) C.1 C.2.1 dX12_next_181 (by decide) ?_
  refine lv_icmp_ge (tgt := 204) C.1 C.2.1 dX12_next_182 (by decide) (fun c55 => ?_) (fun c55 => ?_)
  · have hX := br_p hX c55
    exact K0 σ H locs ls (Option.some.inj hX) hW (lv_sub hl [0, 1, 2, 3, 4] rfl)
  have hX := br_n hX c55
  refine lv_aload_n C.1 C.2.1 dX12_next_185 rfl (lv_at hl 4 rfl) ?_
  refine lv_bipush (v := 10) C.1 C.2.1 dX12_next_186 (by decide) ?_
  refine lv_aload_n C.1 C.2.1 dX12_next_188 rfl (lv_at hl 4 rfl) ?_
  refine M_geti C hin hW 28 (by decide) f28 dX12_next_189 ?_
  refine lv_imul C.1 C.2.1 dX12_next_192 ?_
  refine lv_aload_n C.1 C.2.1 dX12_next_193 rfl (lv_at hl 4 rfl) ?_
  obtain ⟨v57, hq, hX⟩ := bnd_st hX
  refine G_V0p (As := []) (rest := [.int (10 * (σ.1 28 0)), .ref h]) C hW (c_M_peek l D cs h a σ v57 hq.symm) (cwV 0 C.2.2.2.2 gX12_next_X12_peek rfl rfl rfl (by decide +kernel) ⟨Nat.le_of_ble_eq_true rfl, Nat.le_of_ble_eq_true rfl⟩) (M_recv hW) rfl hl.1 rfl (Nat.le_of_ble_eq_true rfl) dX12_next_194 (fun H locs hW => ?_)
  refine lv_iadd C.1 C.2.1 dX12_next_197 ?_
  refine lv_bipush (v := 48) C.1 C.2.1 dX12_next_198 (by decide) ?_
  refine lv_isub C.1 C.2.1 dX12_next_200 ?_
  refine M_puti C hin hW 28 rfl f28 dX12_next_201 (fun H locs σ58 eσ58 hW => ?_)
  have hX := nm_st hX eσ58
  exact K0 σ58 H locs ls (Option.some.inj hX) hW (lv_sub hl [0, 1, 2, 3, 4] rfl)
def M_next_L114 : Nat → St → Int32 → Int32 → Int32 → Int32 → Option (St × Int32 × Int32)
  | 0, _, _, _, _, _ => none
  | n + 1, σ, x4, x3, x2, x1 => bnd (M_peek σ) (fun v72 => bnd (M_isSmall v72) (fun v73 => if v73 = 0 then bnd (M_peek σ) (fun v81 => bnd (M_isDigit v81) (fun v82 => if v82 = 0 then some (σ, x4, x3) else bnd (M_next_B134 σ x4 x3 x2 x1) (fun v84 => bnd (M_next_B155 σ v84 x4 x2 x1) (fun σ85 => bnd (M_next_B179 σ85 v84 x4 x2 x1) (fun σ86 => nm (x4 + 1) (fun v87 => nm (s1 σ86 4 0 ((σ86.1 4 0) + 1)) (fun σ88 => M_next_L114 n σ88 v87 v84 x2 x1))))))) else bnd (M_next_B134 σ x4 x3 x2 x1) (fun v75 => bnd (M_next_B155 σ v75 x4 x2 x1) (fun σ76 => bnd (M_next_B179 σ76 v75 x4 x2 x1) (fun σ77 => nm (x4 + 1) (fun v78 => nm (s1 σ77 4 0 ((σ77.1 4 0) + 1)) (fun σ79 => M_next_L114 n σ79 v78 v75 x2 x1)))))))
set_option maxHeartbeats 4000000 in
set_option maxRecDepth 100000 in
theorem r_M_next_L114 {p : Program} {l : Launch} {e : Env} {s : State} {m : MethodId} {args : Array Value} {below : List Frame} {meth : Method} {c : Code} {Q : State → Prop} {Ev : EvT} {D : va_G} {cs : Nat → ClassId} {h : Nat} {a : Nat → Nat} {A : Nat → Prop} (C : Cx p s m args c cX12_next 5 wsX12_next RX12) : ∀ (n : Nat) (σ : St) (x4 : Int32) (x3 : Int32) (x2 : Int32) (x1 : Int32) (H : Heap) (locs : List Loc) (ls : Array Slot) (X : St × Int32 × Int32), some X = M_next_L114 n σ x4 x3 x2 x1 → GW Ev D (tyM cs) (wM h a cs) A s σ H locs → lv_has ls 5 [(4, .int x4), (3, .int x3), (2, .int x2), (1, .int x1), (0, .ref h)] → (∀ (τ : St) (z4 : Int32) (z3 : Int32) (H : Heap) (locs : List Loc) (ls : Array Slot), X = (τ, z4, z3) → GW Ev D (tyM cs) (wM h a cs) A s τ H locs → lv_has ls 5 [(4, .int z4), (3, .int z3), (2, .int x2), (1, .int x1), (0, .ref h)] → W p l e rm_M_next s m args below meth c H locs 0 0 Q (F0 m 220 ls [])) → W p l e rm_M_next s m args below meth c H locs 0 0 Q (F0 m 114 ls []) := by
  have hin : ∀ w ∈ wsX120, w ∈ wsX12_next := fun w hw => List.mem_cons_of_mem _ (List.mem_append_right _ hw)
  have f4 : (Cond.fieldLink RX12 147 (TX12 4).1 (TX12 4).2.1 (TX12 4).2.2.1).before _ s = true := C.2.2.2.2 _ (List.mem_of_getElem? (i := 1) rfl)
  have f27 : (Cond.fieldLink RX12 211 (TX12 27).1 (TX12 27).2.1 (TX12 27).2.2.1).before _ s = true := C.2.2.2.2 _ (List.mem_of_getElem? (i := 2) rfl)
  have f28 : (Cond.fieldLink RX12 227 (TX12 28).1 (TX12 28).2.1 (TX12 28).2.2.1).before _ s = true := C.2.2.2.2 _ (List.mem_of_getElem? (i := 5) rfl)
  have f33 : (Cond.fieldLink RX12 223 (TX12 33).1 (TX12 33).2.1 (TX12 33).2.2.1).before _ s = true := C.2.2.2.2 _ (List.mem_of_getElem? (i := 4) rfl)
  intro n
  induction n with
  | zero =>
    intro σ x4 x3 x2 x1 H locs ls X hX hW hl K0
    cases hX
  | succ n ih =>
    intro σ x4 x3 x2 x1 H locs ls X hX hW hl K0
    unfold M_next_L114 at hX
    refine lv_aload_n C.1 C.2.1 dX12_next_114 rfl (lv_at hl 4 rfl) ?_
    obtain ⟨v72, hq, hX⟩ := bnd_st hX
    refine G_V0p (As := []) (rest := []) C hW (c_M_peek l D cs h a σ v72 hq.symm) (cwV 0 C.2.2.2.2 gX12_next_X12_peek rfl rfl rfl (by decide +kernel) ⟨Nat.le_of_ble_eq_true rfl, Nat.le_of_ble_eq_true rfl⟩) (M_recv hW) rfl hl.1 rfl (Nat.le_of_ble_eq_true rfl) dX12_next_115 (fun H locs hW => ?_)
    obtain ⟨v73, hq, hX⟩ := bnd_st hX
    refine G_S0s (As := [.int v72]) (rest := []) C hW (c_M_isSmall l D (tyM cs) (wM h a cs) σ v72 v73 hq.symm) (cwS 1 C.2.2.2.2 gX12_next_X12_isSmall rfl rfl rfl (by decide +kernel) ⟨Nat.le_of_ble_eq_true rfl, Nat.le_of_ble_eq_true rfl⟩) rfl hl.1 rfl (Nat.le_of_ble_eq_true rfl) dX12_next_118 (fun H locs hW => ?_)
    refine lv_if_ne (tgt := 134) C.1 C.2.1 dX12_next_121 (by decide) (fun c74 => ?_) (fun c74 => ?_)
    · have hX := br_n hX c74
      obtain ⟨v75, hq, hX⟩ := bnd_st hX
      refine r_M_next_B134 C σ x4 x3 x2 x1 H locs ls v75 hq.symm hW (lv_sub hl [0, 1, 2, 3, 4] rfl) ?_
      intro z0 H locs ls hq hW hl
      subst hq
      refine lv_istore_n (lv' := [(3, .int v75), (4, .int x4), (2, .int x2), (1, .int x1), (0, .ref h)]) C.1 C.2.1 dX12_next_154 rfl hl (by decide) rfl (fun ls hl => ?_)
      obtain ⟨σ76, hq, hX⟩ := bnd_st hX
      refine r_M_next_B155 C σ v75 x4 x2 x1 H locs ls σ76 hq.symm hW (lv_sub hl [0, 1, 2, 3, 4] rfl) ?_
      intro z0 H locs ls hq hW hl
      subst hq
      obtain ⟨σ77, hq, hX⟩ := bnd_st hX
      refine r_M_next_B179 C σ76 v75 x4 x2 x1 H locs ls σ77 hq.symm hW (lv_sub hl [0, 1, 2, 3, 4] rfl) ?_
      intro z0 H locs ls hq hW hl
      subst hq
      obtain ⟨v78, ev78⟩ : ∃ z : Int32, z = x4 + 1 := ⟨_, rfl⟩
      have hX := nm_st hX ev78
      refine lv_iinc (v := v78) (lv' := [(4, .int v78), (3, .int v75), (2, .int x2), (1, .int x1), (0, .ref h)]) C.1 C.2.1 dX12_next_204 hl (k := 1) rfl (by rw [ev78]; rfl) (by decide) rfl (fun ls hl => ?_)
      refine lv_aload_n C.1 C.2.1 dX12_next_207 rfl (lv_at hl 4 rfl) ?_
      refine lv_dup C.1 C.2.1 dX12_next_208 rfl ?_
      refine M_geti C hin hW 4 (by decide) f4 dX12_next_209 ?_
      refine lv_iconst (v := 1) C.1 C.2.1 dX12_next_212 (by decide) ?_
      refine lv_iadd C.1 C.2.1 dX12_next_213 ?_
      refine M_puti C hin hW 4 rfl f4 dX12_next_214 (fun H locs σ79 eσ79 hW => ?_)
      have hX := nm_st hX eσ79
      refine lv_goto (tgt := 114) C.1 C.2.1 dX12_next_217 (by decide) ?_
      exact ih σ79 v78 v75 x2 x1 H locs ls X hX hW (lv_sub hl [0, 1, 2, 3, 4] rfl) K0
    have hX := br_p hX c74
    refine lv_aload_n C.1 C.2.1 dX12_next_124 rfl (lv_at hl 4 rfl) ?_
    obtain ⟨v81, hq, hX⟩ := bnd_st hX
    refine G_V0p (As := []) (rest := []) C hW (c_M_peek l D cs h a σ v81 hq.symm) (cwV 0 C.2.2.2.2 gX12_next_X12_peek rfl rfl rfl (by decide +kernel) ⟨Nat.le_of_ble_eq_true rfl, Nat.le_of_ble_eq_true rfl⟩) (M_recv hW) rfl hl.1 rfl (Nat.le_of_ble_eq_true rfl) dX12_next_125 (fun H locs hW => ?_)
    obtain ⟨v82, hq, hX⟩ := bnd_st hX
    refine G_S0s (As := [.int v81]) (rest := []) C hW (c_M_isDigit l D (tyM cs) (wM h a cs) σ v81 v82 hq.symm) (cwS 1 C.2.2.2.2 gX12_next_X12_isDigit rfl rfl rfl (by decide +kernel) ⟨Nat.le_of_ble_eq_true rfl, Nat.le_of_ble_eq_true rfl⟩) rfl hl.1 rfl (Nat.le_of_ble_eq_true rfl) dX12_next_128 (fun H locs hW => ?_)
    refine lv_if_eq (tgt := 220) C.1 C.2.1 dX12_next_131 (by decide) (fun c83 => ?_) (fun c83 => ?_)
    · have hX := br_p hX c83
      exact K0 σ x4 x3 H locs ls (Option.some.inj hX) hW (lv_sub hl [0, 1, 2, 3, 4] rfl)
    have hX := br_n hX c83
    obtain ⟨v84, hq, hX⟩ := bnd_st hX
    refine r_M_next_B134 C σ x4 x3 x2 x1 H locs ls v84 hq.symm hW (lv_sub hl [0, 1, 2, 3, 4] rfl) ?_
    intro z0 H locs ls hq hW hl
    subst hq
    refine lv_istore_n (lv' := [(3, .int v84), (4, .int x4), (2, .int x2), (1, .int x1), (0, .ref h)]) C.1 C.2.1 dX12_next_154 rfl hl (by decide) rfl (fun ls hl => ?_)
    obtain ⟨σ85, hq, hX⟩ := bnd_st hX
    refine r_M_next_B155 C σ v84 x4 x2 x1 H locs ls σ85 hq.symm hW (lv_sub hl [0, 1, 2, 3, 4] rfl) ?_
    intro z0 H locs ls hq hW hl
    subst hq
    obtain ⟨σ86, hq, hX⟩ := bnd_st hX
    refine r_M_next_B179 C σ85 v84 x4 x2 x1 H locs ls σ86 hq.symm hW (lv_sub hl [0, 1, 2, 3, 4] rfl) ?_
    intro z0 H locs ls hq hW hl
    subst hq
    obtain ⟨v87, ev87⟩ : ∃ z : Int32, z = x4 + 1 := ⟨_, rfl⟩
    have hX := nm_st hX ev87
    refine lv_iinc (v := v87) (lv' := [(4, .int v87), (3, .int v84), (2, .int x2), (1, .int x1), (0, .ref h)]) C.1 C.2.1 dX12_next_204 hl (k := 1) rfl (by rw [ev87]; rfl) (by decide) rfl (fun ls hl => ?_)
    refine lv_aload_n C.1 C.2.1 dX12_next_207 rfl (lv_at hl 4 rfl) ?_
    refine lv_dup C.1 C.2.1 dX12_next_208 rfl ?_
    refine M_geti C hin hW 4 (by decide) f4 dX12_next_209 ?_
    refine lv_iconst (v := 1) C.1 C.2.1 dX12_next_212 (by decide) ?_
    refine lv_iadd C.1 C.2.1 dX12_next_213 ?_
    refine M_puti C hin hW 4 rfl f4 dX12_next_214 (fun H locs σ88 eσ88 hW => ?_)
    have hX := nm_st hX eσ88
    refine lv_goto (tgt := 114) C.1 C.2.1 dX12_next_217 (by decide) ?_
    exact ih σ88 v87 v84 x2 x1 H locs ls X hX hW (lv_sub hl [0, 1, 2, 3, 4] rfl) K0
def M_next_B220 (σ : St) (x4 : Int32) (x3 : Int32) (x2 : Int32) (x1 : Int32) : Option (St) := if x4 ≤ 7 then some σ else nm (s2 σ 33 0 0) (fun σ95 => some σ95)
set_option maxHeartbeats 4000000 in
set_option maxRecDepth 100000 in
theorem r_M_next_B220 {p : Program} {l : Launch} {e : Env} {s : State} {m : MethodId} {args : Array Value} {below : List Frame} {meth : Method} {c : Code} {Q : State → Prop} {Ev : EvT} {D : va_G} {cs : Nat → ClassId} {h : Nat} {a : Nat → Nat} {A : Nat → Prop} (C : Cx p s m args c cX12_next 5 wsX12_next RX12) : ∀ (σ : St) (x4 : Int32) (x3 : Int32) (x2 : Int32) (x1 : Int32) (H : Heap) (locs : List Loc) (ls : Array Slot) (X : St), some X = M_next_B220 σ x4 x3 x2 x1 → GW Ev D (tyM cs) (wM h a cs) A s σ H locs → lv_has ls 5 [(4, .int x4), (3, .int x3), (2, .int x2), (1, .int x1), (0, .ref h)] → (∀ (τ : St) (H : Heap) (locs : List Loc) (ls : Array Slot), X = τ → GW Ev D (tyM cs) (wM h a cs) A s τ H locs → lv_has ls 5 [(4, .int x4), (3, .int x3), (2, .int x2), (1, .int x1), (0, .ref h)] → W p l e rm_M_next s m args below meth c H locs 0 0 Q (F0 m 232 ls [])) → W p l e rm_M_next s m args below meth c H locs 0 0 Q (F0 m 220 ls []) := by
  have hin : ∀ w ∈ wsX120, w ∈ wsX12_next := fun w hw => List.mem_cons_of_mem _ (List.mem_append_right _ hw)
  have f4 : (Cond.fieldLink RX12 147 (TX12 4).1 (TX12 4).2.1 (TX12 4).2.2.1).before _ s = true := C.2.2.2.2 _ (List.mem_of_getElem? (i := 1) rfl)
  have f27 : (Cond.fieldLink RX12 211 (TX12 27).1 (TX12 27).2.1 (TX12 27).2.2.1).before _ s = true := C.2.2.2.2 _ (List.mem_of_getElem? (i := 2) rfl)
  have f28 : (Cond.fieldLink RX12 227 (TX12 28).1 (TX12 28).2.1 (TX12 28).2.2.1).before _ s = true := C.2.2.2.2 _ (List.mem_of_getElem? (i := 5) rfl)
  have f33 : (Cond.fieldLink RX12 223 (TX12 33).1 (TX12 33).2.1 (TX12 33).2.2.1).before _ s = true := C.2.2.2.2 _ (List.mem_of_getElem? (i := 4) rfl)
  intro σ x4 x3 x2 x1 H locs ls X hX hW hl K0
  unfold M_next_B220 at hX
  refine lv_iload C.1 C.2.1 dX12_next_220 (lv_at hl 0 rfl) ?_
  refine lv_bipush (v := 7) C.1 C.2.1 dX12_next_222 (by decide) ?_
  refine lv_icmp_le (tgt := 232) C.1 C.2.1 dX12_next_224 (by decide) (fun c94 => ?_) (fun c94 => ?_)
  · have hX := br_p hX c94
    exact K0 σ H locs ls (Option.some.inj hX) hW (lv_sub hl [0, 1, 2, 3, 4] rfl)
  have hX := br_n hX c94
  refine lv_aload_n C.1 C.2.1 dX12_next_227 rfl (lv_at hl 4 rfl) ?_
  refine lv_lconst (v := 0) C.1 C.2.1 dX12_next_228 (by decide) ?_
  refine M_putl C hin hW 33 rfl f33 dX12_next_229 (fun H locs σ95 eσ95 hW => ?_)
  have hX := nm_st hX eσ95
  exact K0 σ95 H locs ls (Option.some.inj hX) hW (lv_sub hl [0, 1, 2, 3, 4] rfl)
def M_next_B233 (σ : St) (x4 : Int32) (x3 : Int32) (x2 : Int32) (x1 : Int32) : Option (Int32) := if x3 = 0 then some 4 else if x2 = 0 then if x4 ≤ 3 then if x2 = 0 then some 2 else some 1 else some 4 else if x2 = 0 then some 2 else some 1
set_option maxHeartbeats 4000000 in
set_option maxRecDepth 100000 in
theorem r_M_next_B233 {p : Program} {l : Launch} {e : Env} {s : State} {m : MethodId} {args : Array Value} {below : List Frame} {meth : Method} {c : Code} {Q : State → Prop} {Ev : EvT} {D : va_G} {cs : Nat → ClassId} {h : Nat} {a : Nat → Nat} {A : Nat → Prop} (C : Cx p s m args c cX12_next 5 wsX12_next RX12) : ∀ (σ : St) (x4 : Int32) (x3 : Int32) (x2 : Int32) (x1 : Int32) (H : Heap) (locs : List Loc) (ls : Array Slot) (X : Int32), some X = M_next_B233 σ x4 x3 x2 x1 → GW Ev D (tyM cs) (wM h a cs) A s σ H locs → lv_has ls 5 [(4, .int x4), (3, .int x3), (2, .int x2), (1, .int x1), (0, .ref h)] → (∀ (w0 : Int32) (H : Heap) (locs : List Loc) (ls : Array Slot), X = w0 → GW Ev D (tyM cs) (wM h a cs) A s σ H locs → lv_has ls 5 [(4, .int x4), (3, .int x3), (2, .int x2), (1, .int x1), (0, .ref h)] → W p l e rm_M_next s m args below meth c H locs 0 0 Q (F0 m 260 ls [.int w0, .ref h])) → W p l e rm_M_next s m args below meth c H locs 0 0 Q (F0 m 233 ls [.ref h]) := by
  have hin : ∀ w ∈ wsX120, w ∈ wsX12_next := fun w hw => List.mem_cons_of_mem _ (List.mem_append_right _ hw)
  have f4 : (Cond.fieldLink RX12 147 (TX12 4).1 (TX12 4).2.1 (TX12 4).2.2.1).before _ s = true := C.2.2.2.2 _ (List.mem_of_getElem? (i := 1) rfl)
  have f27 : (Cond.fieldLink RX12 211 (TX12 27).1 (TX12 27).2.1 (TX12 27).2.2.1).before _ s = true := C.2.2.2.2 _ (List.mem_of_getElem? (i := 2) rfl)
  have f28 : (Cond.fieldLink RX12 227 (TX12 28).1 (TX12 28).2.1 (TX12 28).2.2.1).before _ s = true := C.2.2.2.2 _ (List.mem_of_getElem? (i := 5) rfl)
  have f33 : (Cond.fieldLink RX12 223 (TX12 33).1 (TX12 33).2.1 (TX12 33).2.2.1).before _ s = true := C.2.2.2.2 _ (List.mem_of_getElem? (i := 4) rfl)
  intro σ x4 x3 x2 x1 H locs ls X hX hW hl K0
  unfold M_next_B233 at hX
  refine lv_iload_n C.1 C.2.1 dX12_next_233 rfl (lv_at hl 1 rfl) ?_
  refine lv_if_eq (tgt := 247) C.1 C.2.1 dX12_next_234 (by decide) (fun c102 => ?_) (fun c102 => ?_)
  · have hX := br_p hX c102
    refine lv_iconst (v := 4) C.1 C.2.1 dX12_next_247 (by decide) ?_
    refine lv_goto (tgt := 260) C.1 C.2.1 dX12_next_248 (by decide) ?_
    exact K0 4 H locs ls (Option.some.inj hX) hW (lv_sub hl [0, 1, 2, 3, 4] rfl)
  have hX := br_n hX c102
  refine lv_iload_n C.1 C.2.1 dX12_next_237 rfl (lv_at hl 2 rfl) ?_
  refine lv_if_ne (tgt := 251) C.1 C.2.1 dX12_next_238 (by decide) (fun c103 => ?_) (fun c103 => ?_)
  · have hX := br_n hX c103
    refine lv_iload_n C.1 C.2.1 dX12_next_251 rfl (lv_at hl 2 rfl) ?_
    refine lv_if_eq (tgt := 259) C.1 C.2.1 dX12_next_252 (by decide) (fun c104 => ?_) (fun c104 => ?_)
    · have hX := br_p hX c104
      refine lv_iconst (v := 2) C.1 C.2.1 dX12_next_259 (by decide) ?_
      exact K0 2 H locs ls (Option.some.inj hX) hW (lv_sub hl [0, 1, 2, 3, 4] rfl)
    have hX := br_n hX c104
    refine lv_iconst (v := 1) C.1 C.2.1 dX12_next_255 (by decide) ?_
    refine lv_goto (tgt := 260) C.1 C.2.1 dX12_next_256 (by decide) ?_
    exact K0 1 H locs ls (Option.some.inj hX) hW (lv_sub hl [0, 1, 2, 3, 4] rfl)
  have hX := br_p hX c103
  refine lv_iload C.1 C.2.1 dX12_next_241 (lv_at hl 0 rfl) ?_
  refine lv_iconst (v := 3) C.1 C.2.1 dX12_next_243 (by decide) ?_
  refine lv_icmp_le (tgt := 251) C.1 C.2.1 dX12_next_244 (by decide) (fun c105 => ?_) (fun c105 => ?_)
  · have hX := br_p hX c105
    refine lv_iload_n C.1 C.2.1 dX12_next_251 rfl (lv_at hl 2 rfl) ?_
    refine lv_if_eq (tgt := 259) C.1 C.2.1 dX12_next_252 (by decide) (fun c106 => ?_) (fun c106 => ?_)
    · have hX := br_p hX c106
      refine lv_iconst (v := 2) C.1 C.2.1 dX12_next_259 (by decide) ?_
      exact K0 2 H locs ls (Option.some.inj hX) hW (lv_sub hl [0, 1, 2, 3, 4] rfl)
    have hX := br_n hX c106
    refine lv_iconst (v := 1) C.1 C.2.1 dX12_next_255 (by decide) ?_
    refine lv_goto (tgt := 260) C.1 C.2.1 dX12_next_256 (by decide) ?_
    exact K0 1 H locs ls (Option.some.inj hX) hW (lv_sub hl [0, 1, 2, 3, 4] rfl)
  have hX := br_n hX c105
  refine lv_iconst (v := 4) C.1 C.2.1 dX12_next_247 (by decide) ?_
  refine lv_goto (tgt := 260) C.1 C.2.1 dX12_next_248 (by decide) ?_
  exact K0 4 H locs ls (Option.some.inj hX) hW (lv_sub hl [0, 1, 2, 3, 4] rfl)
def M_next_B69 (σ : St) (x1 : Int32) : Option (Int32) := if x1 = 59 then some 3 else some 4
set_option maxHeartbeats 4000000 in
set_option maxRecDepth 100000 in
theorem r_M_next_B69 {p : Program} {l : Launch} {e : Env} {s : State} {m : MethodId} {args : Array Value} {below : List Frame} {meth : Method} {c : Code} {Q : State → Prop} {Ev : EvT} {D : va_G} {cs : Nat → ClassId} {h : Nat} {a : Nat → Nat} {A : Nat → Prop} (C : Cx p s m args c cX12_next 5 wsX12_next RX12) : ∀ (σ : St) (x1 : Int32) (H : Heap) (locs : List Loc) (ls : Array Slot) (X : Int32), some X = M_next_B69 σ x1 → GW Ev D (tyM cs) (wM h a cs) A s σ H locs → lv_has ls 5 [(1, .int x1), (0, .ref h)] → (∀ (w0 : Int32) (H : Heap) (locs : List Loc) (ls : Array Slot), X = w0 → GW Ev D (tyM cs) (wM h a cs) A s σ H locs → lv_has ls 5 [(1, .int x1), (0, .ref h)] → W p l e rm_M_next s m args below meth c H locs 0 0 Q (F0 m 80 ls [.int w0, .ref h])) → W p l e rm_M_next s m args below meth c H locs 0 0 Q (F0 m 69 ls [.ref h]) := by
  have hin : ∀ w ∈ wsX120, w ∈ wsX12_next := fun w hw => List.mem_cons_of_mem _ (List.mem_append_right _ hw)
  have f4 : (Cond.fieldLink RX12 147 (TX12 4).1 (TX12 4).2.1 (TX12 4).2.2.1).before _ s = true := C.2.2.2.2 _ (List.mem_of_getElem? (i := 1) rfl)
  have f26 : (Cond.fieldLink RX12 214 (TX12 26).1 (TX12 26).2.1 (TX12 26).2.2.1).before _ s = true := C.2.2.2.2 _ (List.mem_of_getElem? (i := 3) rfl)
  have f27 : (Cond.fieldLink RX12 211 (TX12 27).1 (TX12 27).2.1 (TX12 27).2.2.1).before _ s = true := C.2.2.2.2 _ (List.mem_of_getElem? (i := 2) rfl)
  have f28 : (Cond.fieldLink RX12 227 (TX12 28).1 (TX12 28).2.1 (TX12 28).2.2.1).before _ s = true := C.2.2.2.2 _ (List.mem_of_getElem? (i := 5) rfl)
  have f33 : (Cond.fieldLink RX12 223 (TX12 33).1 (TX12 33).2.1 (TX12 33).2.2.1).before _ s = true := C.2.2.2.2 _ (List.mem_of_getElem? (i := 4) rfl)
  intro σ x1 H locs ls X hX hW hl K0
  unfold M_next_B69 at hX
  refine lv_iload_n C.1 C.2.1 dX12_next_69 rfl (lv_at hl 0 rfl) ?_
  refine lv_bipush (v := 59) C.1 C.2.1 dX12_next_70 (by decide) ?_
  refine lv_icmp_ne (tgt := 79) C.1 C.2.1 dX12_next_72 (by decide) (fun c121 => ?_) (fun c121 => ?_)
  · have hX := br_n hX c121
    refine lv_iconst (v := 4) C.1 C.2.1 dX12_next_79 (by decide) ?_
    exact K0 4 H locs ls (Option.some.inj hX) hW (lv_sub hl [0, 1] rfl)
  have hX := br_p hX c121
  refine lv_iconst (v := 3) C.1 C.2.1 dX12_next_75 (by decide) ?_
  refine lv_goto (tgt := 80) C.1 C.2.1 dX12_next_76 (by decide) ?_
  exact K0 3 H locs ls (Option.some.inj hX) hW (lv_sub hl [0, 1] rfl)
def M_next (σ : St) : Option (St) := bnd (M_next_L0 100000 σ) (fun σ17 => nm (s1 σ17 27 0 (σ17.1 4 0)) (fun σ18 => bnd (M_peek σ18) (fun v20 => if 0 ≤ v20 then bnd (M_isSmall v20) (fun v22 => if v22 = 0 then bnd (M_isDigit v20) (fun v109 => if v109 = 0 then bnd (M_next_B69 σ18 v20) (fun v122 => nm (s1 σ18 26 0 v122) (fun σ123 => nm (s1 σ123 4 0 ((σ123.1 4 0) + 1)) (fun σ124 => some σ124))) else bnd (M_isSmall v20) (fun v111 => nm (s2 σ18 33 0 0) (fun σ112 => nm (s1 σ112 28 0 0) (fun σ113 => bnd (M_next_L114 100000 σ113 0 1 v111 v20) (fun q => nm2 q (fun σ114 q => nm2 q (fun v115 v116 => bnd (M_next_B220 σ114 v115 v116 v111 v20) (fun σ117 => bnd (M_next_B233 σ117 v115 v116 v111 v20) (fun v118 => nm (s1 σ117 26 0 v118) (fun σ119 => some σ119)))))))))) else bnd (M_isSmall v20) (fun v24 => nm (s2 σ18 33 0 0) (fun σ25 => nm (s1 σ25 28 0 0) (fun σ26 => bnd (M_next_L114 100000 σ26 0 1 v24 v20) (fun q => nm2 q (fun σ89 q => nm2 q (fun v90 v91 => bnd (M_next_B220 σ89 v90 v91 v24 v20) (fun σ96 => bnd (M_next_B233 σ96 v90 v91 v24 v20) (fun v107 => nm (s1 σ96 26 0 v107) (fun σ108 => some σ108)))))))))) else nm (s1 σ18 26 0 0) (fun σ125 => some σ125))))
set_option maxHeartbeats 4000000 in
set_option maxRecDepth 100000 in
theorem c_M_next {Ev : EvT} (l : Launch) (D : va_G) (cs : Nat → ClassId) (h : Nat) (a : Nat → Nat) (σ : St) (X : St) (hX : some X = M_next σ) : cGv Ev l D (tyM cs) (wM h a cs) yX12_next wsX12_next rm_M_next 0 0 [.ref h] σ (fun u => u = X) := by
  refine G_inv (cc := cX12_next) (maxL := 5) (ret := none) (by decide) rfl (Nat.le_of_ble_eq_true rfl) ?_
  intro p e s m below meth c A ls C hr hlk hini hA hW hl
  have C : Cx p s m _ c cX12_next 5 wsX12_next RX12 := C
  have hl : lv_has ls 5 [(0, .ref h)] := hl
  have hin : ∀ w ∈ wsX120, w ∈ wsX12_next := fun w hw => List.mem_cons_of_mem _ (List.mem_append_right _ hw)
  have f4 : (Cond.fieldLink RX12 147 (TX12 4).1 (TX12 4).2.1 (TX12 4).2.2.1).before _ s = true := C.2.2.2.2 _ (List.mem_of_getElem? (i := 1) rfl)
  have f26 : (Cond.fieldLink RX12 214 (TX12 26).1 (TX12 26).2.1 (TX12 26).2.2.1).before _ s = true := C.2.2.2.2 _ (List.mem_of_getElem? (i := 3) rfl)
  have f27 : (Cond.fieldLink RX12 211 (TX12 27).1 (TX12 27).2.1 (TX12 27).2.2.1).before _ s = true := C.2.2.2.2 _ (List.mem_of_getElem? (i := 2) rfl)
  have f28 : (Cond.fieldLink RX12 227 (TX12 28).1 (TX12 28).2.1 (TX12 28).2.2.1).before _ s = true := C.2.2.2.2 _ (List.mem_of_getElem? (i := 5) rfl)
  have f33 : (Cond.fieldLink RX12 223 (TX12 33).1 (TX12 33).2.1 (TX12 33).2.2.1).before _ s = true := C.2.2.2.2 _ (List.mem_of_getElem? (i := 4) rfl)
  obtain ⟨H, hH⟩ : ∃ H, H = s.heap := ⟨_, rfl⟩
  obtain ⟨locs, hlo⟩ : ∃ z : List Loc, z = [] := ⟨_, rfl⟩
  have hW : GW Ev D (tyM cs) (wM h a cs) A s σ H locs := by rw [hH, hlo]; exact hW
  rw [show W p l e rm_M_next s m _ below meth c s.heap [] = W p l e rm_M_next s m _ below meth c H locs from by rw [hH, hlo]]
  unfold M_next at hX
  obtain ⟨σ17, hq, hX⟩ := bnd_st hX
  refine r_M_next_L0 C 100000 σ H locs ls σ17 hq.symm hW (lv_sub hl [0] rfl) ?_
  intro z0 H locs ls hq hW hl
  subst hq
  refine lv_aload_n C.1 C.2.1 dX12_next_31 rfl (lv_at hl 0 rfl) ?_
  refine lv_aload_n C.1 C.2.1 dX12_next_32 rfl (lv_at hl 0 rfl) ?_
  refine M_geti C hin hW 4 (by decide) f4 dX12_next_33 ?_
  refine M_puti C hin hW 27 rfl f27 dX12_next_36 (fun H locs σ18 eσ18 hW => ?_)
  have hX := nm_st hX eσ18
  refine lv_aload_n C.1 C.2.1 dX12_next_39 rfl (lv_at hl 0 rfl) ?_
  obtain ⟨v20, hq, hX⟩ := bnd_st hX
  refine G_V0p (As := []) (rest := []) C hW (c_M_peek l D cs h a σ18 v20 hq.symm) (cwV 0 C.2.2.2.2 gX12_next_X12_peek rfl rfl rfl (by decide +kernel) ⟨Nat.le_of_ble_eq_true rfl, Nat.le_of_ble_eq_true rfl⟩) (M_recv hW) rfl hl.1 rfl (Nat.le_of_ble_eq_true rfl) dX12_next_40 (fun H locs hW => ?_)
  refine lv_istore_n (lv' := [(1, .int v20), (0, .ref h)]) C.1 C.2.1 dX12_next_43 rfl hl (by decide) rfl (fun ls hl => ?_)
  refine lv_iload_n C.1 C.2.1 dX12_next_44 rfl (lv_at hl 0 rfl) ?_
  refine lv_if_ge (tgt := 54) C.1 C.2.1 dX12_next_45 (by decide) (fun c21 => ?_) (fun c21 => ?_)
  · have hX := br_p hX c21
    refine lv_iload_n C.1 C.2.1 dX12_next_54 rfl (lv_at hl 0 rfl) ?_
    obtain ⟨v22, hq, hX⟩ := bnd_st hX
    refine G_S0s (As := [.int v20]) (rest := []) C hW (c_M_isSmall l D (tyM cs) (wM h a cs) σ18 v20 v22 hq.symm) (cwS 1 C.2.2.2.2 gX12_next_X12_isSmall rfl rfl rfl (by decide +kernel) ⟨Nat.le_of_ble_eq_true rfl, Nat.le_of_ble_eq_true rfl⟩) rfl hl.1 rfl (Nat.le_of_ble_eq_true rfl) dX12_next_55 (fun H locs hW => ?_)
    refine lv_if_ne (tgt := 94) C.1 C.2.1 dX12_next_58 (by decide) (fun c23 => ?_) (fun c23 => ?_)
    · have hX := br_n hX c23
      refine lv_iload_n C.1 C.2.1 dX12_next_94 rfl (lv_at hl 0 rfl) ?_
      obtain ⟨v24, hq, hX⟩ := bnd_st hX
      refine G_S0s (As := [.int v20]) (rest := []) C hW (c_M_isSmall l D (tyM cs) (wM h a cs) σ18 v20 v24 hq.symm) (cwS 1 C.2.2.2.2 gX12_next_X12_isSmall rfl rfl rfl (by decide +kernel) ⟨Nat.le_of_ble_eq_true rfl, Nat.le_of_ble_eq_true rfl⟩) rfl hl.1 rfl (Nat.le_of_ble_eq_true rfl) dX12_next_95 (fun H locs hW => ?_)
      refine lv_istore_n (lv' := [(2, .int v24), (1, .int v20), (0, .ref h)]) C.1 C.2.1 dX12_next_98 rfl hl (by decide) rfl (fun ls hl => ?_)
      refine lv_iconst (v := 1) C.1 C.2.1 dX12_next_99 (by decide) ?_
      refine lv_istore_n (lv' := [(3, .int 1), (2, .int v24), (1, .int v20), (0, .ref h)]) C.1 C.2.1 dX12_next_100 rfl hl (by decide) rfl (fun ls hl => ?_)
      refine lv_iconst (v := 0) C.1 C.2.1 dX12_next_101 (by decide) ?_
      refine lv_istore (lv' := [(4, .int 0), (3, .int 1), (2, .int v24), (1, .int v20), (0, .ref h)]) C.1 C.2.1 dX12_next_102 hl (by decide) rfl (fun ls hl => ?_)
      refine lv_aload_n C.1 C.2.1 dX12_next_104 rfl (lv_at hl 4 rfl) ?_
      refine lv_lconst (v := 0) C.1 C.2.1 dX12_next_105 (by decide) ?_
      refine M_putl C hin hW 33 rfl f33 dX12_next_106 (fun H locs σ25 eσ25 hW => ?_)
      have hX := nm_st hX eσ25
      refine lv_aload_n C.1 C.2.1 dX12_next_109 rfl (lv_at hl 4 rfl) ?_
      refine lv_iconst (v := 0) C.1 C.2.1 dX12_next_110 (by decide) ?_
      refine M_puti C hin hW 28 rfl f28 dX12_next_111 (fun H locs σ26 eσ26 hW => ?_)
      have hX := nm_st hX eσ26
      obtain ⟨q, hq, hX⟩ := bnd_st hX
      refine r_M_next_L114 C 100000 σ26 0 1 v24 v20 H locs ls q hq.symm hW (lv_sub hl [0, 1, 2, 3, 4] rfl) ?_
      intro σ89 v90 v91 H locs ls hq hW hl
      subst hq
      have hX := nm2_st hX rfl
      have hX := nm2_st hX rfl
      obtain ⟨σ96, hq, hX⟩ := bnd_st hX
      refine r_M_next_B220 C σ89 v90 v91 v24 v20 H locs ls σ96 hq.symm hW (lv_sub hl [0, 1, 2, 3, 4] rfl) ?_
      intro z0 H locs ls hq hW hl
      subst hq
      refine lv_aload_n C.1 C.2.1 dX12_next_232 rfl (lv_at hl 4 rfl) ?_
      obtain ⟨v107, hq, hX⟩ := bnd_st hX
      refine r_M_next_B233 C σ96 v90 v91 v24 v20 H locs ls v107 hq.symm hW (lv_sub hl [0, 1, 2, 3, 4] rfl) ?_
      intro z0 H locs ls hq hW hl
      subst hq
      refine M_puti C hin hW 26 rfl f26 dX12_next_260 (fun H locs σ108 eσ108 hW => ?_)
      have hX := nm_st hX eσ108
      exact G_retv C hr hlk hA hW (Option.some.inj hX).symm dX12_next_263
    have hX := br_p hX c23
    refine lv_iload_n C.1 C.2.1 dX12_next_61 rfl (lv_at hl 0 rfl) ?_
    obtain ⟨v109, hq, hX⟩ := bnd_st hX
    refine G_S0s (As := [.int v20]) (rest := []) C hW (c_M_isDigit l D (tyM cs) (wM h a cs) σ18 v20 v109 hq.symm) (cwS 1 C.2.2.2.2 gX12_next_X12_isDigit rfl rfl rfl (by decide +kernel) ⟨Nat.le_of_ble_eq_true rfl, Nat.le_of_ble_eq_true rfl⟩) rfl hl.1 rfl (Nat.le_of_ble_eq_true rfl) dX12_next_62 (fun H locs hW => ?_)
    refine lv_if_ne (tgt := 94) C.1 C.2.1 dX12_next_65 (by decide) (fun c110 => ?_) (fun c110 => ?_)
    · have hX := br_n hX c110
      refine lv_iload_n C.1 C.2.1 dX12_next_94 rfl (lv_at hl 0 rfl) ?_
      obtain ⟨v111, hq, hX⟩ := bnd_st hX
      refine G_S0s (As := [.int v20]) (rest := []) C hW (c_M_isSmall l D (tyM cs) (wM h a cs) σ18 v20 v111 hq.symm) (cwS 1 C.2.2.2.2 gX12_next_X12_isSmall rfl rfl rfl (by decide +kernel) ⟨Nat.le_of_ble_eq_true rfl, Nat.le_of_ble_eq_true rfl⟩) rfl hl.1 rfl (Nat.le_of_ble_eq_true rfl) dX12_next_95 (fun H locs hW => ?_)
      refine lv_istore_n (lv' := [(2, .int v111), (1, .int v20), (0, .ref h)]) C.1 C.2.1 dX12_next_98 rfl hl (by decide) rfl (fun ls hl => ?_)
      refine lv_iconst (v := 1) C.1 C.2.1 dX12_next_99 (by decide) ?_
      refine lv_istore_n (lv' := [(3, .int 1), (2, .int v111), (1, .int v20), (0, .ref h)]) C.1 C.2.1 dX12_next_100 rfl hl (by decide) rfl (fun ls hl => ?_)
      refine lv_iconst (v := 0) C.1 C.2.1 dX12_next_101 (by decide) ?_
      refine lv_istore (lv' := [(4, .int 0), (3, .int 1), (2, .int v111), (1, .int v20), (0, .ref h)]) C.1 C.2.1 dX12_next_102 hl (by decide) rfl (fun ls hl => ?_)
      refine lv_aload_n C.1 C.2.1 dX12_next_104 rfl (lv_at hl 4 rfl) ?_
      refine lv_lconst (v := 0) C.1 C.2.1 dX12_next_105 (by decide) ?_
      refine M_putl C hin hW 33 rfl f33 dX12_next_106 (fun H locs σ112 eσ112 hW => ?_)
      have hX := nm_st hX eσ112
      refine lv_aload_n C.1 C.2.1 dX12_next_109 rfl (lv_at hl 4 rfl) ?_
      refine lv_iconst (v := 0) C.1 C.2.1 dX12_next_110 (by decide) ?_
      refine M_puti C hin hW 28 rfl f28 dX12_next_111 (fun H locs σ113 eσ113 hW => ?_)
      have hX := nm_st hX eσ113
      obtain ⟨q, hq, hX⟩ := bnd_st hX
      refine r_M_next_L114 C 100000 σ113 0 1 v111 v20 H locs ls q hq.symm hW (lv_sub hl [0, 1, 2, 3, 4] rfl) ?_
      intro σ114 v115 v116 H locs ls hq hW hl
      subst hq
      have hX := nm2_st hX rfl
      have hX := nm2_st hX rfl
      obtain ⟨σ117, hq, hX⟩ := bnd_st hX
      refine r_M_next_B220 C σ114 v115 v116 v111 v20 H locs ls σ117 hq.symm hW (lv_sub hl [0, 1, 2, 3, 4] rfl) ?_
      intro z0 H locs ls hq hW hl
      subst hq
      refine lv_aload_n C.1 C.2.1 dX12_next_232 rfl (lv_at hl 4 rfl) ?_
      obtain ⟨v118, hq, hX⟩ := bnd_st hX
      refine r_M_next_B233 C σ117 v115 v116 v111 v20 H locs ls v118 hq.symm hW (lv_sub hl [0, 1, 2, 3, 4] rfl) ?_
      intro z0 H locs ls hq hW hl
      subst hq
      refine M_puti C hin hW 26 rfl f26 dX12_next_260 (fun H locs σ119 eσ119 hW => ?_)
      have hX := nm_st hX eσ119
      exact G_retv C hr hlk hA hW (Option.some.inj hX).symm dX12_next_263
    have hX := br_p hX c110
    refine lv_aload_n C.1 C.2.1 dX12_next_68 rfl (lv_at hl 1 rfl) ?_
    obtain ⟨v122, hq, hX⟩ := bnd_st hX
    refine r_M_next_B69 C σ18 v20 H locs ls v122 hq.symm hW (lv_sub hl [0, 1] rfl) ?_
    intro z0 H locs ls hq hW hl
    subst hq
    refine M_puti C hin hW 26 rfl f26 dX12_next_80 (fun H locs σ123 eσ123 hW => ?_)
    have hX := nm_st hX eσ123
    refine lv_aload_n C.1 C.2.1 dX12_next_83 rfl (lv_at hl 1 rfl) ?_
    refine lv_dup C.1 C.2.1 dX12_next_84 rfl ?_
    refine M_geti C hin hW 4 (by decide) f4 dX12_next_85 ?_
    refine lv_iconst (v := 1) C.1 C.2.1 dX12_next_88 (by decide) ?_
    refine lv_iadd C.1 C.2.1 dX12_next_89 ?_
    refine M_puti C hin hW 4 rfl f4 dX12_next_90 (fun H locs σ124 eσ124 hW => ?_)
    have hX := nm_st hX eσ124
    exact G_retv C hr hlk hA hW (Option.some.inj hX).symm dX12_next_93
  have hX := br_n hX c21
  refine lv_aload_n C.1 C.2.1 dX12_next_48 rfl (lv_at hl 1 rfl) ?_
  refine lv_iconst (v := 0) C.1 C.2.1 dX12_next_49 (by decide) ?_
  refine M_puti C hin hW 26 rfl f26 dX12_next_50 (fun H locs σ125 eσ125 hW => ?_)
  have hX := nm_st hX eσ125
  exact G_retv C hr hlk hA hW (Option.some.inj hX).symm dX12_next_53
