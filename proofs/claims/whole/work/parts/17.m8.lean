abbrev rm_M_lots : Room := { frames := 1, cells := 0, slots := 0, locals := 21 }
def M_lots_L13 : Nat → St → Int32 → Int32 → Option (Nat × Int32 × Int32 × Int32)
  | 0, _, _, _ => none
  | n + 1, σ, x2, x1 => if (σ.1 3 0) ≤ x2 then some (1, x2, x1, 0) else chkI x2 200 (bnd (M_isPerson σ (σ.1 1 x2.toNatClampNeg)) (fun v12 => if v12 = 0 then some (0, x2, x1, (-1)) else chkI x2 200 (if ((x1 >>> ((σ.1 1 x2.toNatClampNeg) &&& 31)) &&& 1) = 1 then some (0, x2, x1, (-1)) else chkI x2 200 (nm (x1 ||| (1 <<< ((σ.1 1 x2.toNatClampNeg) &&& 31))) (fun v15 => nm (x2 + 1) (fun v16 => M_lots_L13 n σ v16 v15))))))
set_option maxHeartbeats 4000000 in
set_option maxRecDepth 100000 in
theorem r_M_lots_L13 {p : Program} {l : Launch} {e : Env} {s : State} {m : MethodId} {args : Array Value} {below : List Frame} {meth : Method} {c : Code} {Q : State → Prop} {Ev : EvT} {D : va_G} {cs : Nat → ClassId} {h : Nat} {a : Nat → Nat} {A : Nat → Prop} (C : Cx p s m args c cX12_lots 10 wsX12_lots RX12) : ∀ (n : Nat) (σ : St) (x2 : Int32) (x1 : Int32) (H : Heap) (locs : List Loc) (ls : Array Slot) (X : Nat × Int32 × Int32 × Int32), some X = M_lots_L13 n σ x2 x1 → GW Ev D (tyM cs) (wM h a cs) A s σ H locs → lv_has ls 10 [(2, .int x2), (1, .int x1), (0, .ref h)] → (∀ (z2 : Int32) (z1 : Int32) (w0 : Int32) (H : Heap) (locs : List Loc) (ls : Array Slot), X = (0, z2, z1, w0) → GW Ev D (tyM cs) (wM h a cs) A s σ H locs → lv_has ls 10 [(2, .int z2), (1, .int z1), (0, .ref h)] → W p l e rm_M_lots s m args below meth c H locs 0 0 Q (F0 m 49 ls [.int w0])) → (∀ (z2 : Int32) (z1 : Int32) (w0 : Int32) (H : Heap) (locs : List Loc) (ls : Array Slot), X = (1, z2, z1, w0) → GW Ev D (tyM cs) (wM h a cs) A s σ H locs → lv_has ls 10 [(2, .int z2), (1, .int z1), (0, .ref h)] → W p l e rm_M_lots s m args below meth c H locs 0 0 Q (F0 m 67 ls [])) → W p l e rm_M_lots s m args below meth c H locs 0 0 Q (F0 m 13 ls []) := by
  have hin : ∀ w ∈ wsX120, w ∈ wsX12_lots := fun w hw => List.mem_cons_of_mem _ (List.mem_append_right _ hw)
  have f0 : (Cond.fieldLink RX12 133 (TX12 0).1 (TX12 0).2.1 (TX12 0).2.2.1).before _ s = true := C.2.2.2.2 _ (List.mem_of_getElem? (i := 1) rfl)
  have f1 : (Cond.fieldLink RX12 7 (TX12 1).1 (TX12 1).2.1 (TX12 1).2.2.1).before _ s = true := C.2.2.2.2 _ (List.mem_of_getElem? (i := 3) rfl)
  have f3 : (Cond.fieldLink RX12 144 (TX12 3).1 (TX12 3).2.1 (TX12 3).2.2.1).before _ s = true := C.2.2.2.2 _ (List.mem_of_getElem? (i := 2) rfl)
  intro n
  induction n with
  | zero =>
    intro σ x2 x1 H locs ls X hX hW hl K0 K1
    cases hX
  | succ n ih =>
    intro σ x2 x1 H locs ls X hX hW hl K0 K1
    unfold M_lots_L13 at hX
    refine lv_iload_n C.1 C.2.1 dX12_lots_13 rfl (lv_at hl 0 rfl) ?_
    refine lv_aload_n C.1 C.2.1 dX12_lots_14 rfl (lv_at hl 2 rfl) ?_
    refine M_geti C hin hW 3 (by decide) f3 dX12_lots_15 ?_
    refine lv_icmp_ge (tgt := 67) C.1 C.2.1 dX12_lots_18 (by decide) (fun c10 => ?_) (fun c10 => ?_)
    · have hX := br_p hX c10
      exact K1 x2 x1 0 H locs ls (Option.some.inj hX) hW (lv_sub hl [0, 1, 2] rfl)
    have hX := br_n hX c10
    refine lv_aload_n C.1 C.2.1 dX12_lots_21 rfl (lv_at hl 2 rfl) ?_
    refine lv_aload_n C.1 C.2.1 dX12_lots_22 rfl (lv_at hl 2 rfl) ?_
    refine M_geta C hin hW 1 rfl (by decide) f1 dX12_lots_23 ?_
    refine lv_iload_n C.1 C.2.1 dX12_lots_26 rfl (lv_at hl 0 rfl) ?_
    obtain ⟨hi, hX⟩ := chkI_st hX
    refine M_ldB C hW 1 rfl hi dX12_lots_27 ?_
    obtain ⟨v12, hq, hX⟩ := bnd_st hX
    refine G_V0p (As := [.int (σ.1 1 x2.toNatClampNeg)]) (rest := []) C hW (c_M_isPerson l D cs h a σ (σ.1 1 x2.toNatClampNeg) v12 hq.symm) (cwV 1 C.2.2.2.2 gX12_lots_X12_isPerson rfl rfl rfl (by decide +kernel) ⟨Nat.le_of_ble_eq_true rfl, Nat.le_of_ble_eq_true rfl⟩) (M_recv hW) rfl hl.1 rfl (Nat.le_of_ble_eq_true rfl) dX12_lots_28 (fun H locs hW => ?_)
    refine lv_if_eq (tgt := 48) C.1 C.2.1 dX12_lots_31 (by decide) (fun c13 => ?_) (fun c13 => ?_)
    · have hX := br_p hX c13
      refine lv_iconst (v := -1) C.1 C.2.1 dX12_lots_48 (by decide) ?_
      exact K0 x2 x1 (-1) H locs ls (Option.some.inj hX) hW (lv_sub hl [0, 1, 2] rfl)
    have hX := br_n hX c13
    refine lv_iload_n C.1 C.2.1 dX12_lots_34 rfl (lv_at hl 1 rfl) ?_
    refine lv_aload_n C.1 C.2.1 dX12_lots_35 rfl (lv_at hl 2 rfl) ?_
    refine M_geta C hin hW 1 rfl (by decide) f1 dX12_lots_36 ?_
    refine lv_iload_n C.1 C.2.1 dX12_lots_39 rfl (lv_at hl 0 rfl) ?_
    obtain ⟨hi, hX⟩ := chkI_st hX
    refine M_ldB C hW 1 rfl hi dX12_lots_40 ?_
    refine lv_ishr C.1 C.2.1 dX12_lots_41 ?_
    refine lv_iconst (v := 1) C.1 C.2.1 dX12_lots_42 (by decide) ?_
    refine lv_iand C.1 C.2.1 dX12_lots_43 ?_
    refine lv_iconst (v := 1) C.1 C.2.1 dX12_lots_44 (by decide) ?_
    refine lv_icmp_ne (tgt := 50) C.1 C.2.1 dX12_lots_45 (by decide) (fun c14 => ?_) (fun c14 => ?_)
    · have hX := br_n hX c14
      refine lv_iload_n C.1 C.2.1 dX12_lots_50 rfl (lv_at hl 1 rfl) ?_
      refine lv_iconst (v := 1) C.1 C.2.1 dX12_lots_51 (by decide) ?_
      refine lv_aload_n C.1 C.2.1 dX12_lots_52 rfl (lv_at hl 2 rfl) ?_
      refine M_geta C hin hW 1 rfl (by decide) f1 dX12_lots_53 ?_
      refine lv_iload_n C.1 C.2.1 dX12_lots_56 rfl (lv_at hl 0 rfl) ?_
      obtain ⟨hi, hX⟩ := chkI_st hX
      refine M_ldB C hW 1 rfl hi dX12_lots_57 ?_
      refine lv_ishl C.1 C.2.1 dX12_lots_58 ?_
      refine lv_ior C.1 C.2.1 dX12_lots_59 ?_
      refine lv_topi (fun v15 ev15 => ?_)
      have hX := nm_st hX ev15
      refine lv_istore_n (lv' := [(1, .int v15), (2, .int x2), (0, .ref h)]) C.1 C.2.1 dX12_lots_60 rfl hl (by decide) rfl (fun ls hl => ?_)
      obtain ⟨v16, ev16⟩ : ∃ z : Int32, z = x2 + 1 := ⟨_, rfl⟩
      have hX := nm_st hX ev16
      refine lv_iinc (v := v16) (lv' := [(2, .int v16), (1, .int v15), (0, .ref h)]) C.1 C.2.1 dX12_lots_61 hl (k := 1) rfl (by rw [ev16]; rfl) (by decide) rfl (fun ls hl => ?_)
      refine lv_goto (tgt := 13) C.1 C.2.1 dX12_lots_64 (by decide) ?_
      exact ih σ v16 v15 H locs ls X hX hW (lv_sub hl [0, 1, 2] rfl) K0 K1
    have hX := br_p hX c14
    refine lv_iconst (v := -1) C.1 C.2.1 dX12_lots_48 (by decide) ?_
    exact K0 x2 x1 (-1) H locs ls (Option.some.inj hX) hW (lv_sub hl [0, 1, 2] rfl)
def M_lots_L69 : Nat → St → Int32 → Int32 → Option (St × Int32)
  | 0, _, _, _ => none
  | n + 1, σ, x2, x1 => if 30 ≤ x2 then some (σ, x2) else chkI x2 30 (nm (s1 σ 50 x2.toNatClampNeg (-1)) (fun σ27 => nm (x2 + 1) (fun v28 => M_lots_L69 n σ27 v28 x1)))
set_option maxHeartbeats 4000000 in
set_option maxRecDepth 100000 in
theorem r_M_lots_L69 {p : Program} {l : Launch} {e : Env} {s : State} {m : MethodId} {args : Array Value} {below : List Frame} {meth : Method} {c : Code} {Q : State → Prop} {Ev : EvT} {D : va_G} {cs : Nat → ClassId} {h : Nat} {a : Nat → Nat} {A : Nat → Prop} (C : Cx p s m args c cX12_lots 10 wsX12_lots RX12) : ∀ (n : Nat) (σ : St) (x2 : Int32) (x1 : Int32) (H : Heap) (locs : List Loc) (ls : Array Slot) (X : St × Int32), some X = M_lots_L69 n σ x2 x1 → GW Ev D (tyM cs) (wM h a cs) A s σ H locs → lv_has ls 10 [(2, .int x2), (1, .int x1), (0, .ref h)] → (∀ (τ : St) (z2 : Int32) (H : Heap) (locs : List Loc) (ls : Array Slot), X = (τ, z2) → GW Ev D (tyM cs) (wM h a cs) A s τ H locs → lv_has ls 10 [(2, .int z2), (1, .int x1), (0, .ref h)] → W p l e rm_M_lots s m args below meth c H locs 0 0 Q (F0 m 88 ls [])) → W p l e rm_M_lots s m args below meth c H locs 0 0 Q (F0 m 69 ls []) := by
  have hin : ∀ w ∈ wsX120, w ∈ wsX12_lots := fun w hw => List.mem_cons_of_mem _ (List.mem_append_right _ hw)
  have f0 : (Cond.fieldLink RX12 133 (TX12 0).1 (TX12 0).2.1 (TX12 0).2.2.1).before _ s = true := C.2.2.2.2 _ (List.mem_of_getElem? (i := 1) rfl)
  have f1 : (Cond.fieldLink RX12 7 (TX12 1).1 (TX12 1).2.1 (TX12 1).2.2.1).before _ s = true := C.2.2.2.2 _ (List.mem_of_getElem? (i := 3) rfl)
  have f3 : (Cond.fieldLink RX12 144 (TX12 3).1 (TX12 3).2.1 (TX12 3).2.2.1).before _ s = true := C.2.2.2.2 _ (List.mem_of_getElem? (i := 2) rfl)
  have f50 : (Cond.fieldLink RX12 100 (TX12 50).1 (TX12 50).2.1 (TX12 50).2.2.1).before _ s = true := C.2.2.2.2 _ (List.mem_of_getElem? (i := 4) rfl)
  intro n
  induction n with
  | zero =>
    intro σ x2 x1 H locs ls X hX hW hl K0
    cases hX
  | succ n ih =>
    intro σ x2 x1 H locs ls X hX hW hl K0
    unfold M_lots_L69 at hX
    refine lv_iload_n C.1 C.2.1 dX12_lots_69 rfl (lv_at hl 0 rfl) ?_
    refine lv_bipush (v := 30) C.1 C.2.1 dX12_lots_70 (by decide) ?_
    refine lv_icmp_ge (tgt := 88) C.1 C.2.1 dX12_lots_72 (by decide) (fun c26 => ?_) (fun c26 => ?_)
    · have hX := br_p hX c26
      exact K0 σ x2 H locs ls (Option.some.inj hX) hW (lv_sub hl [0, 1, 2] rfl)
    have hX := br_n hX c26
    refine lv_aload_n C.1 C.2.1 dX12_lots_75 rfl (lv_at hl 2 rfl) ?_
    refine M_geta C hin hW 50 rfl (by decide) f50 dX12_lots_76 ?_
    refine lv_iload_n C.1 C.2.1 dX12_lots_79 rfl (lv_at hl 0 rfl) ?_
    refine lv_iconst (v := -1) C.1 C.2.1 dX12_lots_80 (by decide) ?_
    obtain ⟨hi, hX⟩ := chkI_st hX
    refine M_stI C hW 50 rfl hi dX12_lots_81 (fun H locs σ27 eσ27 hW => ?_)
    have hX := nm_st hX eσ27
    obtain ⟨v28, ev28⟩ : ∃ z : Int32, z = x2 + 1 := ⟨_, rfl⟩
    have hX := nm_st hX ev28
    refine lv_iinc (v := v28) (lv' := [(2, .int v28), (1, .int x1), (0, .ref h)]) C.1 C.2.1 dX12_lots_82 hl (k := 0) rfl (by rw [ev28]; rfl) (by decide) rfl (fun ls hl => ?_)
    refine lv_goto (tgt := 69) C.1 C.2.1 dX12_lots_85 (by decide) ?_
    exact ih σ27 v28 x1 H locs ls X hX hW (lv_sub hl [0, 1, 2] rfl) K0
def M_lots_L125 : Nat → St → Int32 → Int32 → Int32 → Int32 → Int32 → Int64 → Int32 → Option (Int32 × Int32)
  | 0, _, _, _, _, _, _, _, _ => none
  | n + 1, σ, x8, x7, x6, x5, x4, x2, x1 => chkI x6 30 (if (σ.1 17 x6.toNatClampNeg) ≤ x8 then some (x8, x7) else chkI ((12 * x6) + x8) 360 (nm (σ.1 16 ((12 * x6) + x8).toNatClampNeg) (fun v48 => if (lg_cmp ((x2 >>> (v48.toInt64 &&& 63)) &&& 1) 0) = 0 then if x7 < 0 then nm (x8 + 1) (fun v52 => M_lots_L125 n σ v52 v48 x6 x5 x4 x2 x1) else chkI v48 64 (chkI x7 64 (if (σ.1 5 x7.toNatClampNeg) < (σ.1 5 v48.toNatClampNeg) then nm (x8 + 1) (fun v54 => M_lots_L125 n σ v54 v48 x6 x5 x4 x2 x1) else chkI v48 64 (chkI x7 64 (if (σ.1 5 v48.toNatClampNeg) = (σ.1 5 x7.toNatClampNeg) then if x7 ≤ v48 then nm (x8 + 1) (fun v58 => M_lots_L125 n σ v58 x7 x6 x5 x4 x2 x1) else nm (x8 + 1) (fun v59 => M_lots_L125 n σ v59 v48 x6 x5 x4 x2 x1) else nm (x8 + 1) (fun v56 => M_lots_L125 n σ v56 x7 x6 x5 x4 x2 x1))))) else nm (x8 + 1) (fun v50 => M_lots_L125 n σ v50 x7 x6 x5 x4 x2 x1))))
set_option maxHeartbeats 4000000 in
set_option maxRecDepth 100000 in
theorem r_M_lots_L125 {p : Program} {l : Launch} {e : Env} {s : State} {m : MethodId} {args : Array Value} {below : List Frame} {meth : Method} {c : Code} {Q : State → Prop} {Ev : EvT} {D : va_G} {cs : Nat → ClassId} {h : Nat} {a : Nat → Nat} {A : Nat → Prop} (C : Cx p s m args c cX12_lots 10 wsX12_lots RX12) : ∀ (n : Nat) (σ : St) (x8 : Int32) (x7 : Int32) (x6 : Int32) (x5 : Int32) (x4 : Int32) (x2 : Int64) (x1 : Int32) (H : Heap) (locs : List Loc) (ls : Array Slot) (X : Int32 × Int32), some X = M_lots_L125 n σ x8 x7 x6 x5 x4 x2 x1 → GW Ev D (tyM cs) (wM h a cs) A s σ H locs → lv_has ls 10 [(8, .int x8), (7, .int x7), (6, .int x6), (5, .int x5), (4, .int x4), (2, .long x2), (1, .int x1), (0, .ref h)] → (∀ (z8 : Int32) (z7 : Int32) (H : Heap) (locs : List Loc) (ls : Array Slot), X = (z8, z7) → GW Ev D (tyM cs) (wM h a cs) A s σ H locs → lv_has ls 10 [(8, .int z8), (7, .int z7), (6, .int x6), (5, .int x5), (4, .int x4), (2, .long x2), (1, .int x1), (0, .ref h)] → W p l e rm_M_lots s m args below meth c H locs 0 0 Q (F0 m 219 ls [])) → W p l e rm_M_lots s m args below meth c H locs 0 0 Q (F0 m 125 ls []) := by
  have hin : ∀ w ∈ wsX120, w ∈ wsX12_lots := fun w hw => List.mem_cons_of_mem _ (List.mem_append_right _ hw)
  have f0 : (Cond.fieldLink RX12 133 (TX12 0).1 (TX12 0).2.1 (TX12 0).2.2.1).before _ s = true := C.2.2.2.2 _ (List.mem_of_getElem? (i := 1) rfl)
  have f1 : (Cond.fieldLink RX12 7 (TX12 1).1 (TX12 1).2.1 (TX12 1).2.2.1).before _ s = true := C.2.2.2.2 _ (List.mem_of_getElem? (i := 3) rfl)
  have f3 : (Cond.fieldLink RX12 144 (TX12 3).1 (TX12 3).2.1 (TX12 3).2.2.1).before _ s = true := C.2.2.2.2 _ (List.mem_of_getElem? (i := 2) rfl)
  have f5 : (Cond.fieldLink RX12 13 (TX12 5).1 (TX12 5).2.1 (TX12 5).2.2.1).before _ s = true := C.2.2.2.2 _ (List.mem_of_getElem? (i := 8) rfl)
  have f16 : (Cond.fieldLink RX12 47 (TX12 16).1 (TX12 16).2.1 (TX12 16).2.2.1).before _ s = true := C.2.2.2.2 _ (List.mem_of_getElem? (i := 7) rfl)
  have f17 : (Cond.fieldLink RX12 50 (TX12 17).1 (TX12 17).2.1 (TX12 17).2.2.1).before _ s = true := C.2.2.2.2 _ (List.mem_of_getElem? (i := 6) rfl)
  have f50 : (Cond.fieldLink RX12 100 (TX12 50).1 (TX12 50).2.1 (TX12 50).2.2.1).before _ s = true := C.2.2.2.2 _ (List.mem_of_getElem? (i := 4) rfl)
  have f51 : (Cond.fieldLink RX12 320 (TX12 51).1 (TX12 51).2.1 (TX12 51).2.2.1).before _ s = true := C.2.2.2.2 _ (List.mem_of_getElem? (i := 5) rfl)
  intro n
  induction n with
  | zero =>
    intro σ x8 x7 x6 x5 x4 x2 x1 H locs ls X hX hW hl K0
    cases hX
  | succ n ih =>
    intro σ x8 x7 x6 x5 x4 x2 x1 H locs ls X hX hW hl K0
    unfold M_lots_L125 at hX
    refine lv_iload C.1 C.2.1 dX12_lots_125 (lv_at hl 0 rfl) ?_
    refine lv_aload_n C.1 C.2.1 dX12_lots_127 rfl (lv_at hl 7 rfl) ?_
    refine M_geta C hin hW 17 rfl (by decide) f17 dX12_lots_128 ?_
    refine lv_iload C.1 C.2.1 dX12_lots_131 (lv_at hl 2 rfl) ?_
    obtain ⟨hi, hX⟩ := chkI_st hX
    refine M_ldI C hW 17 rfl hi dX12_lots_133 ?_
    refine lv_icmp_ge (tgt := 219) C.1 C.2.1 dX12_lots_134 (by decide) (fun c47 => ?_) (fun c47 => ?_)
    · have hX := br_p hX c47
      exact K0 x8 x7 H locs ls (Option.some.inj hX) hW (lv_sub hl [0, 1, 2, 3, 4, 5, 6, 7] rfl)
    have hX := br_n hX c47
    refine lv_aload_n C.1 C.2.1 dX12_lots_137 rfl (lv_at hl 7 rfl) ?_
    refine M_geta C hin hW 16 rfl (by decide) f16 dX12_lots_138 ?_
    refine lv_bipush (v := 12) C.1 C.2.1 dX12_lots_141 (by decide) ?_
    refine lv_iload C.1 C.2.1 dX12_lots_143 (lv_at hl 2 rfl) ?_
    refine lv_imul C.1 C.2.1 dX12_lots_145 ?_
    refine lv_iload C.1 C.2.1 dX12_lots_146 (lv_at hl 0 rfl) ?_
    refine lv_iadd C.1 C.2.1 dX12_lots_148 ?_
    obtain ⟨hi, hX⟩ := chkI_st hX
    refine M_ldI C hW 16 rfl hi dX12_lots_149 ?_
    refine lv_topi (fun v48 ev48 => ?_)
    have hX := nm_st hX ev48
    refine lv_istore (lv' := [(9, .int v48), (8, .int x8), (7, .int x7), (6, .int x6), (5, .int x5), (4, .int x4), (2, .long x2), (1, .int x1), (0, .ref h)]) C.1 C.2.1 dX12_lots_150 hl (by decide) rfl (fun ls hl => ?_)
    refine lv_lload_n C.1 C.2.1 dX12_lots_152 rfl (lv_at hl 6 rfl) ?_
    refine lv_iload C.1 C.2.1 dX12_lots_153 (lv_at hl 0 rfl) ?_
    refine lv_lshr C.1 C.2.1 dX12_lots_155 rfl ?_
    refine lv_lconst (v := 1) C.1 C.2.1 dX12_lots_156 (by decide) ?_
    refine lv_land C.1 C.2.1 dX12_lots_157 ?_
    refine lv_lconst (v := 0) C.1 C.2.1 dX12_lots_158 (by decide) ?_
    refine W.lcmp C.1 C.2.1 dX12_lots_159 ?_
    refine lv_if_ne (tgt := 213) C.1 C.2.1 dX12_lots_160 (by decide) (fun c49 => ?_) (fun c49 => ?_)
    · have hX := br_n hX c49
      obtain ⟨v50, ev50⟩ : ∃ z : Int32, z = x8 + 1 := ⟨_, rfl⟩
      have hX := nm_st hX ev50
      refine lv_iinc (v := v50) (lv' := [(8, .int v50), (9, .int v48), (7, .int x7), (6, .int x6), (5, .int x5), (4, .int x4), (2, .long x2), (1, .int x1), (0, .ref h)]) C.1 C.2.1 dX12_lots_213 hl (k := 1) rfl (by rw [ev50]; rfl) (by decide) rfl (fun ls hl => ?_)
      refine lv_goto (tgt := 125) C.1 C.2.1 dX12_lots_216 (by decide) ?_
      exact ih σ v50 x7 x6 x5 x4 x2 x1 H locs ls X hX hW (lv_sub hl [0, 2, 3, 4, 5, 6, 7, 8] rfl) K0
    have hX := br_p hX c49
    refine lv_iload C.1 C.2.1 dX12_lots_163 (lv_at hl 2 rfl) ?_
    refine lv_if_lt (tgt := 209) C.1 C.2.1 dX12_lots_165 (by decide) (fun c51 => ?_) (fun c51 => ?_)
    · have hX := br_p hX c51
      refine lv_iload C.1 C.2.1 dX12_lots_209 (lv_at hl 0 rfl) ?_
      refine lv_istore (lv' := [(7, .int v48), (9, .int v48), (8, .int x8), (6, .int x6), (5, .int x5), (4, .int x4), (2, .long x2), (1, .int x1), (0, .ref h)]) C.1 C.2.1 dX12_lots_211 hl (by decide) rfl (fun ls hl => ?_)
      obtain ⟨v52, ev52⟩ : ∃ z : Int32, z = x8 + 1 := ⟨_, rfl⟩
      have hX := nm_st hX ev52
      refine lv_iinc (v := v52) (lv' := [(8, .int v52), (7, .int v48), (9, .int v48), (6, .int x6), (5, .int x5), (4, .int x4), (2, .long x2), (1, .int x1), (0, .ref h)]) C.1 C.2.1 dX12_lots_213 hl (k := 2) rfl (by rw [ev52]; rfl) (by decide) rfl (fun ls hl => ?_)
      refine lv_goto (tgt := 125) C.1 C.2.1 dX12_lots_216 (by decide) ?_
      exact ih σ v52 v48 x6 x5 x4 x2 x1 H locs ls X hX hW (lv_sub hl [0, 1, 3, 4, 5, 6, 7, 8] rfl) K0
    have hX := br_n hX c51
    refine lv_aload_n C.1 C.2.1 dX12_lots_168 rfl (lv_at hl 8 rfl) ?_
    refine M_geta C hin hW 5 rfl (by decide) f5 dX12_lots_169 ?_
    refine lv_iload C.1 C.2.1 dX12_lots_172 (lv_at hl 0 rfl) ?_
    obtain ⟨hi, hX⟩ := chkI_st hX
    refine M_ldI C hW 5 rfl hi dX12_lots_174 ?_
    refine lv_aload_n C.1 C.2.1 dX12_lots_175 rfl (lv_at hl 8 rfl) ?_
    refine M_geta C hin hW 5 rfl (by decide) f5 dX12_lots_176 ?_
    refine lv_iload C.1 C.2.1 dX12_lots_179 (lv_at hl 2 rfl) ?_
    obtain ⟨hi, hX⟩ := chkI_st hX
    refine M_ldI C hW 5 rfl hi dX12_lots_181 ?_
    refine lv_icmp_gt (tgt := 209) C.1 C.2.1 dX12_lots_182 (by decide) (fun c53 => ?_) (fun c53 => ?_)
    · have hX := br_p hX c53
      refine lv_iload C.1 C.2.1 dX12_lots_209 (lv_at hl 0 rfl) ?_
      refine lv_istore (lv' := [(7, .int v48), (9, .int v48), (8, .int x8), (6, .int x6), (5, .int x5), (4, .int x4), (2, .long x2), (1, .int x1), (0, .ref h)]) C.1 C.2.1 dX12_lots_211 hl (by decide) rfl (fun ls hl => ?_)
      obtain ⟨v54, ev54⟩ : ∃ z : Int32, z = x8 + 1 := ⟨_, rfl⟩
      have hX := nm_st hX ev54
      refine lv_iinc (v := v54) (lv' := [(8, .int v54), (7, .int v48), (9, .int v48), (6, .int x6), (5, .int x5), (4, .int x4), (2, .long x2), (1, .int x1), (0, .ref h)]) C.1 C.2.1 dX12_lots_213 hl (k := 2) rfl (by rw [ev54]; rfl) (by decide) rfl (fun ls hl => ?_)
      refine lv_goto (tgt := 125) C.1 C.2.1 dX12_lots_216 (by decide) ?_
      exact ih σ v54 v48 x6 x5 x4 x2 x1 H locs ls X hX hW (lv_sub hl [0, 1, 3, 4, 5, 6, 7, 8] rfl) K0
    have hX := br_n hX c53
    refine lv_aload_n C.1 C.2.1 dX12_lots_185 rfl (lv_at hl 8 rfl) ?_
    refine M_geta C hin hW 5 rfl (by decide) f5 dX12_lots_186 ?_
    refine lv_iload C.1 C.2.1 dX12_lots_189 (lv_at hl 0 rfl) ?_
    obtain ⟨hi, hX⟩ := chkI_st hX
    refine M_ldI C hW 5 rfl hi dX12_lots_191 ?_
    refine lv_aload_n C.1 C.2.1 dX12_lots_192 rfl (lv_at hl 8 rfl) ?_
    refine M_geta C hin hW 5 rfl (by decide) f5 dX12_lots_193 ?_
    refine lv_iload C.1 C.2.1 dX12_lots_196 (lv_at hl 2 rfl) ?_
    obtain ⟨hi, hX⟩ := chkI_st hX
    refine M_ldI C hW 5 rfl hi dX12_lots_198 ?_
    refine lv_icmp_ne (tgt := 213) C.1 C.2.1 dX12_lots_199 (by decide) (fun c55 => ?_) (fun c55 => ?_)
    · have hX := br_n hX c55
      obtain ⟨v56, ev56⟩ : ∃ z : Int32, z = x8 + 1 := ⟨_, rfl⟩
      have hX := nm_st hX ev56
      refine lv_iinc (v := v56) (lv' := [(8, .int v56), (9, .int v48), (7, .int x7), (6, .int x6), (5, .int x5), (4, .int x4), (2, .long x2), (1, .int x1), (0, .ref h)]) C.1 C.2.1 dX12_lots_213 hl (k := 1) rfl (by rw [ev56]; rfl) (by decide) rfl (fun ls hl => ?_)
      refine lv_goto (tgt := 125) C.1 C.2.1 dX12_lots_216 (by decide) ?_
      exact ih σ v56 x7 x6 x5 x4 x2 x1 H locs ls X hX hW (lv_sub hl [0, 2, 3, 4, 5, 6, 7, 8] rfl) K0
    have hX := br_p hX c55
    refine lv_iload C.1 C.2.1 dX12_lots_202 (lv_at hl 0 rfl) ?_
    refine lv_iload C.1 C.2.1 dX12_lots_204 (lv_at hl 2 rfl) ?_
    refine lv_icmp_ge (tgt := 213) C.1 C.2.1 dX12_lots_206 (by decide) (fun c57 => ?_) (fun c57 => ?_)
    · have hX := br_p hX c57
      obtain ⟨v58, ev58⟩ : ∃ z : Int32, z = x8 + 1 := ⟨_, rfl⟩
      have hX := nm_st hX ev58
      refine lv_iinc (v := v58) (lv' := [(8, .int v58), (9, .int v48), (7, .int x7), (6, .int x6), (5, .int x5), (4, .int x4), (2, .long x2), (1, .int x1), (0, .ref h)]) C.1 C.2.1 dX12_lots_213 hl (k := 1) rfl (by rw [ev58]; rfl) (by decide) rfl (fun ls hl => ?_)
      refine lv_goto (tgt := 125) C.1 C.2.1 dX12_lots_216 (by decide) ?_
      exact ih σ v58 x7 x6 x5 x4 x2 x1 H locs ls X hX hW (lv_sub hl [0, 2, 3, 4, 5, 6, 7, 8] rfl) K0
    have hX := br_n hX c57
    refine lv_iload C.1 C.2.1 dX12_lots_209 (lv_at hl 0 rfl) ?_
    refine lv_istore (lv' := [(7, .int v48), (9, .int v48), (8, .int x8), (6, .int x6), (5, .int x5), (4, .int x4), (2, .long x2), (1, .int x1), (0, .ref h)]) C.1 C.2.1 dX12_lots_211 hl (by decide) rfl (fun ls hl => ?_)
    obtain ⟨v59, ev59⟩ : ∃ z : Int32, z = x8 + 1 := ⟨_, rfl⟩
    have hX := nm_st hX ev59
    refine lv_iinc (v := v59) (lv' := [(8, .int v59), (7, .int v48), (9, .int v48), (6, .int x6), (5, .int x5), (4, .int x4), (2, .long x2), (1, .int x1), (0, .ref h)]) C.1 C.2.1 dX12_lots_213 hl (k := 2) rfl (by rw [ev59]; rfl) (by decide) rfl (fun ls hl => ?_)
    refine lv_goto (tgt := 125) C.1 C.2.1 dX12_lots_216 (by decide) ?_
    exact ih σ v59 v48 x6 x5 x4 x2 x1 H locs ls X hX hW (lv_sub hl [0, 1, 3, 4, 5, 6, 7, 8] rfl) K0
def M_lots_L101 : Nat → St → Int32 → Int32 → Int64 → Int32 → Option (St × Int32 × Int32 × Int64)
  | 0, _, _, _, _, _ => none
  | n + 1, σ, x5, x4, x2, x1 => if (σ.1 3 0) ≤ x5 then some (σ, x5, x4, x2) else chkI x5 200 (nm (σ.1 1 x5.toNatClampNeg) (fun v69 => bnd (M_lots_L125 100000 σ 0 (-1) v69 x5 x4 x2 x1) (fun q => nm2 q (fun v70 v71 => chkI v69 30 (nm (s1 σ 50 v69.toNatClampNeg v71) (fun σ72 => if 0 ≤ v71 then nm (x2 ||| (1 <<< (v71.toInt64 &&& 63))) (fun v74 => chkI v71 64 (nm (x4 + (σ72.1 5 v71.toNatClampNeg)) (fun v75 => nm (x5 + 1) (fun v76 => M_lots_L101 n σ72 v76 v75 v74 x1)))) else nm (x5 + 1) (fun v77 => M_lots_L101 n σ72 v77 x4 x2 x1)))))))
set_option maxHeartbeats 4000000 in
set_option maxRecDepth 100000 in
theorem r_M_lots_L101 {p : Program} {l : Launch} {e : Env} {s : State} {m : MethodId} {args : Array Value} {below : List Frame} {meth : Method} {c : Code} {Q : State → Prop} {Ev : EvT} {D : va_G} {cs : Nat → ClassId} {h : Nat} {a : Nat → Nat} {A : Nat → Prop} (C : Cx p s m args c cX12_lots 10 wsX12_lots RX12) : ∀ (n : Nat) (σ : St) (x5 : Int32) (x4 : Int32) (x2 : Int64) (x1 : Int32) (H : Heap) (locs : List Loc) (ls : Array Slot) (X : St × Int32 × Int32 × Int64), some X = M_lots_L101 n σ x5 x4 x2 x1 → GW Ev D (tyM cs) (wM h a cs) A s σ H locs → lv_has ls 10 [(5, .int x5), (4, .int x4), (2, .long x2), (1, .int x1), (0, .ref h)] → (∀ (τ : St) (z5 : Int32) (z4 : Int32) (z2 : Int64) (H : Heap) (locs : List Loc) (ls : Array Slot), X = (τ, z5, z4, z2) → GW Ev D (tyM cs) (wM h a cs) A s τ H locs → lv_has ls 10 [(5, .int z5), (4, .int z4), (2, .long z2), (1, .int x1), (0, .ref h)] → W p l e rm_M_lots s m args below meth c H locs 0 0 Q (F0 m 261 ls [])) → W p l e rm_M_lots s m args below meth c H locs 0 0 Q (F0 m 101 ls []) := by
  have hin : ∀ w ∈ wsX120, w ∈ wsX12_lots := fun w hw => List.mem_cons_of_mem _ (List.mem_append_right _ hw)
  have f0 : (Cond.fieldLink RX12 133 (TX12 0).1 (TX12 0).2.1 (TX12 0).2.2.1).before _ s = true := C.2.2.2.2 _ (List.mem_of_getElem? (i := 1) rfl)
  have f1 : (Cond.fieldLink RX12 7 (TX12 1).1 (TX12 1).2.1 (TX12 1).2.2.1).before _ s = true := C.2.2.2.2 _ (List.mem_of_getElem? (i := 3) rfl)
  have f3 : (Cond.fieldLink RX12 144 (TX12 3).1 (TX12 3).2.1 (TX12 3).2.2.1).before _ s = true := C.2.2.2.2 _ (List.mem_of_getElem? (i := 2) rfl)
  have f5 : (Cond.fieldLink RX12 13 (TX12 5).1 (TX12 5).2.1 (TX12 5).2.2.1).before _ s = true := C.2.2.2.2 _ (List.mem_of_getElem? (i := 8) rfl)
  have f16 : (Cond.fieldLink RX12 47 (TX12 16).1 (TX12 16).2.1 (TX12 16).2.2.1).before _ s = true := C.2.2.2.2 _ (List.mem_of_getElem? (i := 7) rfl)
  have f17 : (Cond.fieldLink RX12 50 (TX12 17).1 (TX12 17).2.1 (TX12 17).2.2.1).before _ s = true := C.2.2.2.2 _ (List.mem_of_getElem? (i := 6) rfl)
  have f50 : (Cond.fieldLink RX12 100 (TX12 50).1 (TX12 50).2.1 (TX12 50).2.2.1).before _ s = true := C.2.2.2.2 _ (List.mem_of_getElem? (i := 4) rfl)
  have f51 : (Cond.fieldLink RX12 320 (TX12 51).1 (TX12 51).2.1 (TX12 51).2.2.1).before _ s = true := C.2.2.2.2 _ (List.mem_of_getElem? (i := 5) rfl)
  intro n
  induction n with
  | zero =>
    intro σ x5 x4 x2 x1 H locs ls X hX hW hl K0
    cases hX
  | succ n ih =>
    intro σ x5 x4 x2 x1 H locs ls X hX hW hl K0
    unfold M_lots_L101 at hX
    refine lv_iload C.1 C.2.1 dX12_lots_101 (lv_at hl 0 rfl) ?_
    refine lv_aload_n C.1 C.2.1 dX12_lots_103 rfl (lv_at hl 4 rfl) ?_
    refine M_geti C hin hW 3 (by decide) f3 dX12_lots_104 ?_
    refine lv_icmp_ge (tgt := 261) C.1 C.2.1 dX12_lots_107 (by decide) (fun c68 => ?_) (fun c68 => ?_)
    · have hX := br_p hX c68
      exact K0 σ x5 x4 x2 H locs ls (Option.some.inj hX) hW (lv_sub hl [0, 1, 2, 3, 4] rfl)
    have hX := br_n hX c68
    refine lv_aload_n C.1 C.2.1 dX12_lots_110 rfl (lv_at hl 4 rfl) ?_
    refine M_geta C hin hW 1 rfl (by decide) f1 dX12_lots_111 ?_
    refine lv_iload C.1 C.2.1 dX12_lots_114 (lv_at hl 0 rfl) ?_
    obtain ⟨hi, hX⟩ := chkI_st hX
    refine M_ldB C hW 1 rfl hi dX12_lots_116 ?_
    refine lv_topi (fun v69 ev69 => ?_)
    have hX := nm_st hX ev69
    refine lv_istore (lv' := [(6, .int v69), (5, .int x5), (4, .int x4), (2, .long x2), (1, .int x1), (0, .ref h)]) C.1 C.2.1 dX12_lots_117 hl (by decide) rfl (fun ls hl => ?_)
    refine lv_iconst (v := -1) C.1 C.2.1 dX12_lots_119 (by decide) ?_
    refine lv_istore (lv' := [(7, .int (-1)), (6, .int v69), (5, .int x5), (4, .int x4), (2, .long x2), (1, .int x1), (0, .ref h)]) C.1 C.2.1 dX12_lots_120 hl (by decide) rfl (fun ls hl => ?_)
    refine lv_iconst (v := 0) C.1 C.2.1 dX12_lots_122 (by decide) ?_
    refine lv_istore (lv' := [(8, .int 0), (7, .int (-1)), (6, .int v69), (5, .int x5), (4, .int x4), (2, .long x2), (1, .int x1), (0, .ref h)]) C.1 C.2.1 dX12_lots_123 hl (by decide) rfl (fun ls hl => ?_)
    obtain ⟨q, hq, hX⟩ := bnd_st hX
    refine r_M_lots_L125 C 100000 σ 0 (-1) v69 x5 x4 x2 x1 H locs ls q hq.symm hW (lv_sub hl [0, 1, 2, 3, 4, 5, 6, 7] rfl) ?_
    intro v70 v71 H locs ls hq hW hl
    subst hq
    have hX := nm2_st hX rfl
    refine lv_aload_n C.1 C.2.1 dX12_lots_219 rfl (lv_at hl 7 rfl) ?_
    refine M_geta C hin hW 50 rfl (by decide) f50 dX12_lots_220 ?_
    refine lv_iload C.1 C.2.1 dX12_lots_223 (lv_at hl 2 rfl) ?_
    refine lv_iload C.1 C.2.1 dX12_lots_225 (lv_at hl 1 rfl) ?_
    obtain ⟨hi, hX⟩ := chkI_st hX
    refine M_stI C hW 50 rfl hi dX12_lots_227 (fun H locs σ72 eσ72 hW => ?_)
    have hX := nm_st hX eσ72
    refine lv_iload C.1 C.2.1 dX12_lots_228 (lv_at hl 1 rfl) ?_
    refine lv_if_ge (tgt := 236) C.1 C.2.1 dX12_lots_230 (by decide) (fun c73 => ?_) (fun c73 => ?_)
    · have hX := br_p hX c73
      refine lv_lload_n C.1 C.2.1 dX12_lots_236 rfl (lv_at hl 5 rfl) ?_
      refine lv_lconst (v := 1) C.1 C.2.1 dX12_lots_237 (by decide) ?_
      refine lv_iload C.1 C.2.1 dX12_lots_238 (lv_at hl 1 rfl) ?_
      refine lv_lshl C.1 C.2.1 dX12_lots_240 rfl ?_
      refine lv_lor C.1 C.2.1 dX12_lots_241 ?_
      refine lv_topl (fun v74 ev74 => ?_)
      have hX := nm_st hX ev74
      refine lv_lstore_n (lv' := [(2, .long v74), (8, .int v70), (7, .int v71), (6, .int v69), (5, .int x5), (4, .int x4), (1, .int x1), (0, .ref h)]) C.1 C.2.1 dX12_lots_242 rfl hl (by decide) rfl (fun ls hl => ?_)
      refine lv_iload C.1 C.2.1 dX12_lots_243 (lv_at hl 5 rfl) ?_
      refine lv_aload_n C.1 C.2.1 dX12_lots_245 rfl (lv_at hl 7 rfl) ?_
      refine M_geta C hin hW 5 rfl (by decide) f5 dX12_lots_246 ?_
      refine lv_iload C.1 C.2.1 dX12_lots_249 (lv_at hl 2 rfl) ?_
      obtain ⟨hi, hX⟩ := chkI_st hX
      refine M_ldI C hW 5 rfl hi dX12_lots_251 ?_
      refine lv_iadd C.1 C.2.1 dX12_lots_252 ?_
      refine lv_topi (fun v75 ev75 => ?_)
      have hX := nm_st hX ev75
      refine lv_istore (lv' := [(4, .int v75), (2, .long v74), (8, .int v70), (7, .int v71), (6, .int v69), (5, .int x5), (1, .int x1), (0, .ref h)]) C.1 C.2.1 dX12_lots_253 hl (by decide) rfl (fun ls hl => ?_)
      obtain ⟨v76, ev76⟩ : ∃ z : Int32, z = x5 + 1 := ⟨_, rfl⟩
      have hX := nm_st hX ev76
      refine lv_iinc (v := v76) (lv' := [(5, .int v76), (4, .int v75), (2, .long v74), (8, .int v70), (7, .int v71), (6, .int v69), (1, .int x1), (0, .ref h)]) C.1 C.2.1 dX12_lots_255 hl (k := 5) rfl (by rw [ev76]; rfl) (by decide) rfl (fun ls hl => ?_)
      refine lv_goto (tgt := 101) C.1 C.2.1 dX12_lots_258 (by decide) ?_
      exact ih σ72 v76 v75 v74 x1 H locs ls X hX hW (lv_sub hl [0, 1, 2, 6, 7] rfl) K0
    have hX := br_n hX c73
    refine lv_goto (tgt := 255) C.1 C.2.1 dX12_lots_233 (by decide) ?_
    obtain ⟨v77, ev77⟩ : ∃ z : Int32, z = x5 + 1 := ⟨_, rfl⟩
    have hX := nm_st hX ev77
    refine lv_iinc (v := v77) (lv' := [(5, .int v77), (8, .int v70), (7, .int v71), (6, .int v69), (4, .int x4), (2, .long x2), (1, .int x1), (0, .ref h)]) C.1 C.2.1 dX12_lots_255 hl (k := 3) rfl (by rw [ev77]; rfl) (by decide) rfl (fun ls hl => ?_)
    refine lv_goto (tgt := 101) C.1 C.2.1 dX12_lots_258 (by decide) ?_
    exact ih σ72 v77 x4 x2 x1 H locs ls X hX hW (lv_sub hl [0, 4, 5, 6, 7] rfl) K0
def M_lots (σ : St) : Option (Int32 × St) := nm (s1 σ 0 0 0) (fun σ1 => bnd (M_taken σ1) (fun σ2 => bnd (M_lots_L13 100000 σ2 0 0) (fun q => nm2 q (fun j q => nm2 q (fun v17 q => nm2 q (fun v18 v19 => if j = 0 then some (v19, σ2) else if j = 1 then bnd (M_lots_L69 100000 σ2 0 v18) (fun q => nm2 q (fun σ29 v30 => nm (s1 σ29 51 0 1) (fun σ31 => bnd (M_lots_L101 100000 σ31 0 0 0 v18) (fun q => nm2 q (fun σ78 q => nm2 q (fun v79 q => nm2 q (fun v80 v81 => some (v80, σ78)))))))) else none))))))
set_option maxHeartbeats 4000000 in
set_option maxRecDepth 100000 in
theorem c_M_lots {Ev : EvT} (l : Launch) (D : va_G) (cs : Nat → ClassId) (h : Nat) (a : Nat → Nat) (σ : St) (X : Int32 × St) (hX : some X = M_lots σ) : cGi Ev l D (tyM cs) (wM h a cs) yX12_lots wsX12_lots rm_M_lots 0 0 [.ref h] σ (fun r u => (r, u) = X) := by
  refine G_ini (cc := cX12_lots) (maxL := 10) (ret := some .int) (by decide) rfl (Nat.le_of_ble_eq_true rfl) ?_
  intro p e s m below meth c A ls C hr hlk hini hA hW hl
  have C : Cx p s m _ c cX12_lots 10 wsX12_lots RX12 := C
  have hl : lv_has ls 10 [(0, .ref h)] := hl
  have hin : ∀ w ∈ wsX120, w ∈ wsX12_lots := fun w hw => List.mem_cons_of_mem _ (List.mem_append_right _ hw)
  have f0 : (Cond.fieldLink RX12 133 (TX12 0).1 (TX12 0).2.1 (TX12 0).2.2.1).before _ s = true := C.2.2.2.2 _ (List.mem_of_getElem? (i := 1) rfl)
  have f1 : (Cond.fieldLink RX12 7 (TX12 1).1 (TX12 1).2.1 (TX12 1).2.2.1).before _ s = true := C.2.2.2.2 _ (List.mem_of_getElem? (i := 3) rfl)
  have f3 : (Cond.fieldLink RX12 144 (TX12 3).1 (TX12 3).2.1 (TX12 3).2.2.1).before _ s = true := C.2.2.2.2 _ (List.mem_of_getElem? (i := 2) rfl)
  have f5 : (Cond.fieldLink RX12 13 (TX12 5).1 (TX12 5).2.1 (TX12 5).2.2.1).before _ s = true := C.2.2.2.2 _ (List.mem_of_getElem? (i := 8) rfl)
  have f16 : (Cond.fieldLink RX12 47 (TX12 16).1 (TX12 16).2.1 (TX12 16).2.2.1).before _ s = true := C.2.2.2.2 _ (List.mem_of_getElem? (i := 7) rfl)
  have f17 : (Cond.fieldLink RX12 50 (TX12 17).1 (TX12 17).2.1 (TX12 17).2.2.1).before _ s = true := C.2.2.2.2 _ (List.mem_of_getElem? (i := 6) rfl)
  have f50 : (Cond.fieldLink RX12 100 (TX12 50).1 (TX12 50).2.1 (TX12 50).2.2.1).before _ s = true := C.2.2.2.2 _ (List.mem_of_getElem? (i := 4) rfl)
  have f51 : (Cond.fieldLink RX12 320 (TX12 51).1 (TX12 51).2.1 (TX12 51).2.2.1).before _ s = true := C.2.2.2.2 _ (List.mem_of_getElem? (i := 5) rfl)
  obtain ⟨H, hH⟩ : ∃ H, H = s.heap := ⟨_, rfl⟩
  obtain ⟨locs, hlo⟩ : ∃ z : List Loc, z = [] := ⟨_, rfl⟩
  have hW : GW Ev D (tyM cs) (wM h a cs) A s σ H locs := by rw [hH, hlo]; exact hW
  rw [show W p l e rm_M_lots s m _ below meth c s.heap [] = W p l e rm_M_lots s m _ below meth c H locs from by rw [hH, hlo]]
  unfold M_lots at hX
  refine lv_aload_n C.1 C.2.1 dX12_lots_0 rfl (lv_at hl 0 rfl) ?_
  refine lv_iconst (v := 0) C.1 C.2.1 dX12_lots_1 (by decide) ?_
  refine M_puti C hin hW 0 rfl f0 dX12_lots_2 (fun H locs σ1 eσ1 hW => ?_)
  have hX := nm_st hX eσ1
  refine lv_aload_n C.1 C.2.1 dX12_lots_5 rfl (lv_at hl 0 rfl) ?_
  obtain ⟨σ2, hq, hX⟩ := bnd_st hX
  refine G_V0u (As := []) (rest := []) C hW (c_M_taken l D cs h a σ1 σ2 hq.symm) (cwV 0 C.2.2.2.2 gX12_lots_X12_taken rfl rfl rfl (by decide +kernel) ⟨Nat.le_of_ble_eq_true rfl, Nat.le_of_ble_eq_true rfl⟩) (M_recv hW) rfl hl.1 rfl (Nat.le_of_ble_eq_true rfl) dX12_lots_6 (fun H locs hW => ?_)
  refine lv_iconst (v := 0) C.1 C.2.1 dX12_lots_9 (by decide) ?_
  refine lv_istore_n (lv' := [(1, .int 0), (0, .ref h)]) C.1 C.2.1 dX12_lots_10 rfl hl (by decide) rfl (fun ls hl => ?_)
  refine lv_iconst (v := 0) C.1 C.2.1 dX12_lots_11 (by decide) ?_
  refine lv_istore_n (lv' := [(2, .int 0), (1, .int 0), (0, .ref h)]) C.1 C.2.1 dX12_lots_12 rfl hl (by decide) rfl (fun ls hl => ?_)
  obtain ⟨q, hq, hX⟩ := bnd_st hX
  refine r_M_lots_L13 C 100000 σ2 0 0 H locs ls q hq.symm hW (lv_sub hl [0, 1, 2] rfl) ?_ ?_
  · intro v17 v18 v19 H locs ls hq hW hl
    subst hq
    have hX := nm2_st hX rfl
    have hX := nm2_st hX rfl
    have hX := nm2_st hX rfl
    have hX := br_p hX rfl
    exact G_reti C hr hlk hA hW (Option.some.inj hX).symm dX12_lots_49
  intro v20 v21 v22 H locs ls hq hW hl
  subst hq
  have hX := nm2_st hX rfl
  have hX := nm2_st hX rfl
  have hX := nm2_st hX rfl
  have hX := br_n hX (by decide)
  have hX := br_p hX rfl
  refine lv_iconst (v := 0) C.1 C.2.1 dX12_lots_67 (by decide) ?_
  refine lv_istore_n (lv' := [(2, .int 0), (1, .int v21), (0, .ref h)]) C.1 C.2.1 dX12_lots_68 rfl hl (by decide) rfl (fun ls hl => ?_)
  obtain ⟨q, hq, hX⟩ := bnd_st hX
  refine r_M_lots_L69 C 100000 σ2 0 v21 H locs ls q hq.symm hW (lv_sub hl [0, 1, 2] rfl) ?_
  intro σ29 v30 H locs ls hq hW hl
  subst hq
  have hX := nm2_st hX rfl
  refine lv_aload_n C.1 C.2.1 dX12_lots_88 rfl (lv_at hl 2 rfl) ?_
  refine lv_iconst (v := 1) C.1 C.2.1 dX12_lots_89 (by decide) ?_
  refine M_putz C hin hW 51 rfl rfl rfl f51 dX12_lots_90 (fun H locs σ31 eσ31 hW => ?_)
  have hX := nm_st hX eσ31
  refine lv_lconst (v := 0) C.1 C.2.1 dX12_lots_93 (by decide) ?_
  refine lv_lstore_n (lv' := [(2, .long 0), (1, .int v21), (0, .ref h)]) C.1 C.2.1 dX12_lots_94 rfl hl (by decide) rfl (fun ls hl => ?_)
  refine lv_iconst (v := 0) C.1 C.2.1 dX12_lots_95 (by decide) ?_
  refine lv_istore (lv' := [(4, .int 0), (2, .long 0), (1, .int v21), (0, .ref h)]) C.1 C.2.1 dX12_lots_96 hl (by decide) rfl (fun ls hl => ?_)
  refine lv_iconst (v := 0) C.1 C.2.1 dX12_lots_98 (by decide) ?_
  refine lv_istore (lv' := [(5, .int 0), (4, .int 0), (2, .long 0), (1, .int v21), (0, .ref h)]) C.1 C.2.1 dX12_lots_99 hl (by decide) rfl (fun ls hl => ?_)
  obtain ⟨q, hq, hX⟩ := bnd_st hX
  refine r_M_lots_L101 C 100000 σ31 0 0 0 v21 H locs ls q hq.symm hW (lv_sub hl [0, 1, 2, 3, 4] rfl) ?_
  intro σ78 v79 v80 v81 H locs ls hq hW hl
  subst hq
  have hX := nm2_st hX rfl
  have hX := nm2_st hX rfl
  have hX := nm2_st hX rfl
  refine lv_iload C.1 C.2.1 dX12_lots_261 (lv_at hl 1 rfl) ?_
  exact G_reti C hr hlk hA hW (Option.some.inj hX).symm dX12_lots_263
abbrev rm_M_bid : Room := { frames := 1, cells := 0, slots := 0, locals := 21 }
def M_bid_L34 : Nat → St → Int32 → Int32 → Option (St × Int32)
  | 0, _, _, _ => none
  | n + 1, σ, x2, x1 => if (σ.1 3 0) ≤ x2 then some (σ, x2) else chkI x2 200 (chkI ((12 * x1) + x2) 360 (nm (s1 σ 61 ((12 * x1) + x2).toNatClampNeg ((σ.1 1 x2.toNatClampNeg) &&& 255)) (fun σ11 => nm (x2 + 1) (fun v12 => M_bid_L34 n σ11 v12 x1))))
set_option maxHeartbeats 4000000 in
set_option maxRecDepth 100000 in
theorem r_M_bid_L34 {p : Program} {l : Launch} {e : Env} {s : State} {m : MethodId} {args : Array Value} {below : List Frame} {meth : Method} {c : Code} {Q : State → Prop} {Ev : EvT} {D : va_G} {cs : Nat → ClassId} {h : Nat} {a : Nat → Nat} {A : Nat → Prop} (C : Cx p s m args c cX12_bid 3 wsX12_bid RX12) : ∀ (n : Nat) (σ : St) (x2 : Int32) (x1 : Int32) (H : Heap) (locs : List Loc) (ls : Array Slot) (X : St × Int32), some X = M_bid_L34 n σ x2 x1 → GW Ev D (tyM cs) (wM h a cs) A s σ H locs → lv_has ls 3 [(2, .int x2), (0, .ref h), (1, .int x1)] → (∀ (τ : St) (z2 : Int32) (H : Heap) (locs : List Loc) (ls : Array Slot), X = (τ, z2) → GW Ev D (tyM cs) (wM h a cs) A s τ H locs → lv_has ls 3 [(2, .int z2), (0, .ref h), (1, .int x1)] → W p l e rm_M_bid s m args below meth c H locs 0 0 Q (F0 m 69 ls [])) → W p l e rm_M_bid s m args below meth c H locs 0 0 Q (F0 m 34 ls []) := by
  have hin : ∀ w ∈ wsX120, w ∈ wsX12_bid := fun w hw => List.mem_cons_of_mem _ (List.mem_append_right _ hw)
  have f0 : (Cond.fieldLink RX12 133 (TX12 0).1 (TX12 0).2.1 (TX12 0).2.2.1).before _ s = true := C.2.2.2.2 _ (List.mem_of_getElem? (i := 1) rfl)
  have f1 : (Cond.fieldLink RX12 7 (TX12 1).1 (TX12 1).2.1 (TX12 1).2.2.1).before _ s = true := C.2.2.2.2 _ (List.mem_of_getElem? (i := 5) rfl)
  have f3 : (Cond.fieldLink RX12 144 (TX12 3).1 (TX12 3).2.1 (TX12 3).2.2.1).before _ s = true := C.2.2.2.2 _ (List.mem_of_getElem? (i := 2) rfl)
  have f17 : (Cond.fieldLink RX12 50 (TX12 17).1 (TX12 17).2.1 (TX12 17).2.2.1).before _ s = true := C.2.2.2.2 _ (List.mem_of_getElem? (i := 3) rfl)
  have f61 : (Cond.fieldLink RX12 130 (TX12 61).1 (TX12 61).2.1 (TX12 61).2.2.1).before _ s = true := C.2.2.2.2 _ (List.mem_of_getElem? (i := 4) rfl)
  intro n
  induction n with
  | zero =>
    intro σ x2 x1 H locs ls X hX hW hl K0
    cases hX
  | succ n ih =>
    intro σ x2 x1 H locs ls X hX hW hl K0
    unfold M_bid_L34 at hX
    refine lv_iload_n C.1 C.2.1 dX12_bid_34 rfl (lv_at hl 0 rfl) ?_
    refine lv_aload_n C.1 C.2.1 dX12_bid_35 rfl (lv_at hl 1 rfl) ?_
    refine M_geti C hin hW 3 (by decide) f3 dX12_bid_36 ?_
    refine lv_icmp_ge (tgt := 69) C.1 C.2.1 dX12_bid_39 (by decide) (fun c10 => ?_) (fun c10 => ?_)
    · have hX := br_p hX c10
      exact K0 σ x2 H locs ls (Option.some.inj hX) hW (lv_sub hl [0, 1, 2] rfl)
    have hX := br_n hX c10
    refine lv_aload_n C.1 C.2.1 dX12_bid_42 rfl (lv_at hl 1 rfl) ?_
    refine M_geta C hin hW 61 rfl (by decide) f61 dX12_bid_43 ?_
    refine lv_bipush (v := 12) C.1 C.2.1 dX12_bid_46 (by decide) ?_
    refine lv_iload_n C.1 C.2.1 dX12_bid_48 rfl (lv_at hl 2 rfl) ?_
    refine lv_imul C.1 C.2.1 dX12_bid_49 ?_
    refine lv_iload_n C.1 C.2.1 dX12_bid_50 rfl (lv_at hl 0 rfl) ?_
    refine lv_iadd C.1 C.2.1 dX12_bid_51 ?_
    refine lv_aload_n C.1 C.2.1 dX12_bid_52 rfl (lv_at hl 1 rfl) ?_
    refine M_geta C hin hW 1 rfl (by decide) f1 dX12_bid_53 ?_
    refine lv_iload_n C.1 C.2.1 dX12_bid_56 rfl (lv_at hl 0 rfl) ?_
    obtain ⟨hi, hX⟩ := chkI_st hX
    refine M_ldB C hW 1 rfl hi dX12_bid_57 ?_
    refine lv_sipush (v := 255) C.1 C.2.1 dX12_bid_58 (by decide) ?_
    refine lv_iand C.1 C.2.1 dX12_bid_61 ?_
    obtain ⟨hi, hX⟩ := chkI_st hX
    refine M_stI C hW 61 rfl hi dX12_bid_62 (fun H locs σ11 eσ11 hW => ?_)
    have hX := nm_st hX eσ11
    obtain ⟨v12, ev12⟩ : ∃ z : Int32, z = x2 + 1 := ⟨_, rfl⟩
    have hX := nm_st hX ev12
    refine lv_iinc (v := v12) (lv' := [(2, .int v12), (0, .ref h), (1, .int x1)]) C.1 C.2.1 dX12_bid_63 hl (k := 0) rfl (by rw [ev12]; rfl) (by decide) rfl (fun ls hl => ?_)
    refine lv_goto (tgt := 34) C.1 C.2.1 dX12_bid_66 (by decide) ?_
    exact ih σ11 v12 x1 H locs ls X hX hW (lv_sub hl [0, 1, 2] rfl) K0
def M_bid (σ : St) (x1 : Int32) : Option (Int32 × St) := nm (s1 σ 0 0 0) (fun σ1 => bnd (M_taken σ1) (fun σ2 => bnd (M_isPerson σ2 x1) (fun v4 => if v4 = 0 then some (0, σ2) else chkI x1 30 (if (σ2.1 3 0) = (σ2.1 17 x1.toNatClampNeg) then bnd (M_bid_L34 100000 σ2 0 x1) (fun q => nm2 q (fun σ13 v14 => some (1, σ13))) else some (0, σ2)))))
set_option maxHeartbeats 4000000 in
set_option maxRecDepth 100000 in
theorem c_M_bid {Ev : EvT} (l : Launch) (D : va_G) (cs : Nat → ClassId) (h : Nat) (a : Nat → Nat) (σ : St) (x1 : Int32) (X : Int32 × St) (hX : some X = M_bid σ x1) : cGi Ev l D (tyM cs) (wM h a cs) yX12_bid wsX12_bid rm_M_bid 0 0 [.ref h, .int x1] σ (fun r u => (r, u) = X) := by
  refine G_ini (cc := cX12_bid) (maxL := 3) (ret := some .boolean) (by decide) rfl (Nat.le_of_ble_eq_true rfl) ?_
  intro p e s m below meth c A ls C hr hlk hini hA hW hl
  have C : Cx p s m _ c cX12_bid 3 wsX12_bid RX12 := C
  have hl : lv_has ls 3 [(0, .ref h), (1, .int x1)] := hl
  have hin : ∀ w ∈ wsX120, w ∈ wsX12_bid := fun w hw => List.mem_cons_of_mem _ (List.mem_append_right _ hw)
  have f0 : (Cond.fieldLink RX12 133 (TX12 0).1 (TX12 0).2.1 (TX12 0).2.2.1).before _ s = true := C.2.2.2.2 _ (List.mem_of_getElem? (i := 1) rfl)
  have f1 : (Cond.fieldLink RX12 7 (TX12 1).1 (TX12 1).2.1 (TX12 1).2.2.1).before _ s = true := C.2.2.2.2 _ (List.mem_of_getElem? (i := 5) rfl)
  have f3 : (Cond.fieldLink RX12 144 (TX12 3).1 (TX12 3).2.1 (TX12 3).2.2.1).before _ s = true := C.2.2.2.2 _ (List.mem_of_getElem? (i := 2) rfl)
  have f17 : (Cond.fieldLink RX12 50 (TX12 17).1 (TX12 17).2.1 (TX12 17).2.2.1).before _ s = true := C.2.2.2.2 _ (List.mem_of_getElem? (i := 3) rfl)
  have f61 : (Cond.fieldLink RX12 130 (TX12 61).1 (TX12 61).2.1 (TX12 61).2.2.1).before _ s = true := C.2.2.2.2 _ (List.mem_of_getElem? (i := 4) rfl)
  obtain ⟨H, hH⟩ : ∃ H, H = s.heap := ⟨_, rfl⟩
  obtain ⟨locs, hlo⟩ : ∃ z : List Loc, z = [] := ⟨_, rfl⟩
  have hW : GW Ev D (tyM cs) (wM h a cs) A s σ H locs := by rw [hH, hlo]; exact hW
  rw [show W p l e rm_M_bid s m _ below meth c s.heap [] = W p l e rm_M_bid s m _ below meth c H locs from by rw [hH, hlo]]
  unfold M_bid at hX
  refine lv_aload_n C.1 C.2.1 dX12_bid_0 rfl (lv_at hl 0 rfl) ?_
  refine lv_iconst (v := 0) C.1 C.2.1 dX12_bid_1 (by decide) ?_
  refine M_puti C hin hW 0 rfl f0 dX12_bid_2 (fun H locs σ1 eσ1 hW => ?_)
  have hX := nm_st hX eσ1
  refine lv_aload_n C.1 C.2.1 dX12_bid_5 rfl (lv_at hl 0 rfl) ?_
  obtain ⟨σ2, hq, hX⟩ := bnd_st hX
  refine G_V0u (As := []) (rest := []) C hW (c_M_taken l D cs h a σ1 σ2 hq.symm) (cwV 0 C.2.2.2.2 gX12_bid_X12_taken rfl rfl rfl (by decide +kernel) ⟨Nat.le_of_ble_eq_true rfl, Nat.le_of_ble_eq_true rfl⟩) (M_recv hW) rfl hl.1 rfl (Nat.le_of_ble_eq_true rfl) dX12_bid_6 (fun H locs hW => ?_)
  refine lv_aload_n C.1 C.2.1 dX12_bid_9 rfl (lv_at hl 0 rfl) ?_
  refine lv_iload_n C.1 C.2.1 dX12_bid_10 rfl (lv_at hl 1 rfl) ?_
  obtain ⟨v4, hq, hX⟩ := bnd_st hX
  refine G_V0p (As := [.int x1]) (rest := []) C hW (c_M_isPerson l D cs h a σ2 x1 v4 hq.symm) (cwV 1 C.2.2.2.2 gX12_bid_X12_isPerson rfl rfl rfl (by decide +kernel) ⟨Nat.le_of_ble_eq_true rfl, Nat.le_of_ble_eq_true rfl⟩) (M_recv hW) rfl hl.1 rfl (Nat.le_of_ble_eq_true rfl) dX12_bid_11 (fun H locs hW => ?_)
  refine lv_if_eq (tgt := 30) C.1 C.2.1 dX12_bid_14 (by decide) (fun c5 => ?_) (fun c5 => ?_)
  · have hX := br_p hX c5
    refine lv_iconst (v := 0) C.1 C.2.1 dX12_bid_30 (by decide) ?_
    exact G_retz C hr hlk hA hW rfl (Option.some.inj hX).symm dX12_bid_31
  have hX := br_n hX c5
  refine lv_aload_n C.1 C.2.1 dX12_bid_17 rfl (lv_at hl 0 rfl) ?_
  refine M_geti C hin hW 3 (by decide) f3 dX12_bid_18 ?_
  refine lv_aload_n C.1 C.2.1 dX12_bid_21 rfl (lv_at hl 0 rfl) ?_
  refine M_geta C hin hW 17 rfl (by decide) f17 dX12_bid_22 ?_
  refine lv_iload_n C.1 C.2.1 dX12_bid_25 rfl (lv_at hl 1 rfl) ?_
  obtain ⟨hi, hX⟩ := chkI_st hX
  refine M_ldI C hW 17 rfl hi dX12_bid_26 ?_
  refine lv_icmp_eq (tgt := 32) C.1 C.2.1 dX12_bid_27 (by decide) (fun c6 => ?_) (fun c6 => ?_)
  · have hX := br_p hX c6
    refine lv_iconst (v := 0) C.1 C.2.1 dX12_bid_32 (by decide) ?_
    refine lv_istore_n (lv' := [(2, .int 0), (0, .ref h), (1, .int x1)]) C.1 C.2.1 dX12_bid_33 rfl hl (by decide) rfl (fun ls hl => ?_)
    obtain ⟨q, hq, hX⟩ := bnd_st hX
    refine r_M_bid_L34 C 100000 σ2 0 x1 H locs ls q hq.symm hW (lv_sub hl [0, 1, 2] rfl) ?_
    intro σ13 v14 H locs ls hq hW hl
    subst hq
    have hX := nm2_st hX rfl
    refine lv_iconst (v := 1) C.1 C.2.1 dX12_bid_69 (by decide) ?_
    exact G_retz C hr hlk hA hW rfl (Option.some.inj hX).symm dX12_bid_70
  have hX := br_n hX c6
  refine lv_iconst (v := 0) C.1 C.2.1 dX12_bid_30 (by decide) ?_
  exact G_retz C hr hlk hA hW rfl (Option.some.inj hX).symm dX12_bid_31
abbrev rm_M_enter : Room := { frames := 0, cells := 0, slots := 0, locals := 0 }
def M_enter_L2 : Nat → St → Int32 → Int32 → Option (St × Int32)
  | 0, _, _, _ => none
  | n + 1, σ, x2, x1 => if 72 < x2 then some (σ, x2) else chkI x2 73 (nm (s1 σ 58 x2.toNatClampNeg 100000000) (fun σ6 => chkI x2 73 (nm (s1 σ6 60 x2.toNatClampNeg (vp_nar .boolean 0)) (fun σ7 => nm (x2 + 1) (fun v8 => M_enter_L2 n σ7 v8 x1)))))
set_option maxHeartbeats 4000000 in
set_option maxRecDepth 100000 in
theorem r_M_enter_L2 {p : Program} {l : Launch} {e : Env} {s : State} {m : MethodId} {args : Array Value} {below : List Frame} {meth : Method} {c : Code} {Q : State → Prop} {Ev : EvT} {D : va_G} {cs : Nat → ClassId} {h : Nat} {a : Nat → Nat} {A : Nat → Prop} (C : Cx p s m args c cX12_enter 7 wsX12_enter RX12) : ∀ (n : Nat) (σ : St) (x2 : Int32) (x1 : Int32) (H : Heap) (locs : List Loc) (ls : Array Slot) (X : St × Int32), some X = M_enter_L2 n σ x2 x1 → GW Ev D (tyM cs) (wM h a cs) A s σ H locs → lv_has ls 7 [(2, .int x2), (0, .ref h), (1, .int x1)] → (∀ (τ : St) (z2 : Int32) (H : Heap) (locs : List Loc) (ls : Array Slot), X = (τ, z2) → GW Ev D (tyM cs) (wM h a cs) A s τ H locs → lv_has ls 7 [(2, .int z2), (0, .ref h), (1, .int x1)] → W p l e rm_M_enter s m args below meth c H locs 0 0 Q (F0 m 30 ls [])) → W p l e rm_M_enter s m args below meth c H locs 0 0 Q (F0 m 2 ls []) := by
  have hin : ∀ w ∈ wsX120, w ∈ wsX12_enter := fun w hw => List.mem_cons_of_mem _ (List.mem_append_right _ hw)
  have f58 : (Cond.fieldLink RX12 121 (TX12 58).1 (TX12 58).2.1 (TX12 58).2.2.1).before _ s = true := C.2.2.2.2 _ (List.mem_of_getElem? (i := 1) rfl)
  have f60 : (Cond.fieldLink RX12 127 (TX12 60).1 (TX12 60).2.1 (TX12 60).2.2.1).before _ s = true := C.2.2.2.2 _ (List.mem_of_getElem? (i := 3) rfl)
  have k326 : (Cond.constant RX12 326 (100000000)).before _ s = true := C.2.2.2.2 _ (List.mem_of_getElem? (i := 2) rfl)
  intro n
  induction n with
  | zero =>
    intro σ x2 x1 H locs ls X hX hW hl K0
    cases hX
  | succ n ih =>
    intro σ x2 x1 H locs ls X hX hW hl K0
    unfold M_enter_L2 at hX
    refine lv_iload_n C.1 C.2.1 dX12_enter_2 rfl (lv_at hl 0 rfl) ?_
    refine lv_bipush (v := 72) C.1 C.2.1 dX12_enter_3 (by decide) ?_
    refine lv_icmp_gt (tgt := 30) C.1 C.2.1 dX12_enter_5 (by decide) (fun c5 => ?_) (fun c5 => ?_)
    · have hX := br_p hX c5
      exact K0 σ x2 H locs ls (Option.some.inj hX) hW (lv_sub hl [0, 1, 2] rfl)
    have hX := br_n hX c5
    refine lv_aload_n C.1 C.2.1 dX12_enter_8 rfl (lv_at hl 1 rfl) ?_
    refine M_geta C hin hW 58 rfl (by decide) f58 dX12_enter_9 ?_
    refine lv_iload_n C.1 C.2.1 dX12_enter_12 rfl (lv_at hl 0 rfl) ?_
    refine lv_ldcw (v := 100000000) C.1 C.2.1 C.2.2.2.1 k326 dX12_enter_13 ?_
    obtain ⟨hi, hX⟩ := chkI_st hX
    refine M_stI C hW 58 rfl hi dX12_enter_16 (fun H locs σ6 eσ6 hW => ?_)
    have hX := nm_st hX eσ6
    refine lv_aload_n C.1 C.2.1 dX12_enter_17 rfl (lv_at hl 1 rfl) ?_
    refine M_geta C hin hW 60 rfl (by decide) f60 dX12_enter_18 ?_
    refine lv_iload_n C.1 C.2.1 dX12_enter_21 rfl (lv_at hl 0 rfl) ?_
    refine lv_iconst (v := 0) C.1 C.2.1 dX12_enter_22 (by decide) ?_
    obtain ⟨hi, hX⟩ := chkI_st hX
    refine M_stZ C hW 60 rfl hi dX12_enter_23 (fun H locs σ7 eσ7 hW => ?_)
    have hX := nm_st hX eσ7
    obtain ⟨v8, ev8⟩ : ∃ z : Int32, z = x2 + 1 := ⟨_, rfl⟩
    have hX := nm_st hX ev8
    refine lv_iinc (v := v8) (lv' := [(2, .int v8), (0, .ref h), (1, .int x1)]) C.1 C.2.1 dX12_enter_24 hl (k := 0) rfl (by rw [ev8]; rfl) (by decide) rfl (fun ls hl => ?_)
    refine lv_goto (tgt := 2) C.1 C.2.1 dX12_enter_27 (by decide) ?_
    exact ih σ7 v8 x1 H locs ls X hX hW (lv_sub hl [0, 1, 2] rfl) K0
def M_enter_L68 : Nat → St → Int32 → Int32 → Int32 → Int32 → Int32 → Option (St × Int32 × Int32)
  | 0, _, _, _, _, _, _ => none
  | n + 1, σ, x5, x4, x3, x2, x1 => if 72 < x5 then some (σ, x5, x4) else chkI x5 73 (if (σ.1 60 x5.toNatClampNeg) = 0 then chkI (((72 * (x3 - 1)) + x5) - 1) 576 (chkI x3 9 (chkI x5 73 (nm (((σ.1 52 (((72 * (x3 - 1)) + x5) - 1).toNatClampNeg) - (σ.1 54 x3.toNatClampNeg)) - (σ.1 55 x5.toNatClampNeg)) (fun v34 => chkI x5 73 (if (σ.1 58 x5.toNatClampNeg) ≤ v34 then if x4 = 0 then nm (x5 + 1) (fun v37 => M_enter_L68 n σ v37 x5 x3 x2 x1) else chkI x5 73 (chkI x4 73 (if (σ.1 58 x4.toNatClampNeg) ≤ (σ.1 58 x5.toNatClampNeg) then nm (x5 + 1) (fun v39 => M_enter_L68 n σ v39 x4 x3 x2 x1) else nm (x5 + 1) (fun v40 => M_enter_L68 n σ v40 x5 x3 x2 x1))) else chkI x5 73 (nm (s1 σ 58 x5.toNatClampNeg v34) (fun σ41 => chkI x5 73 (nm (s1 σ41 57 x5.toNatClampNeg x2) (fun σ42 => if x4 = 0 then nm (x5 + 1) (fun v44 => M_enter_L68 n σ42 v44 x5 x3 x2 x1) else chkI x5 73 (chkI x4 73 (if (σ42.1 58 x4.toNatClampNeg) ≤ (σ42.1 58 x5.toNatClampNeg) then nm (x5 + 1) (fun v46 => M_enter_L68 n σ42 v46 x4 x3 x2 x1) else nm (x5 + 1) (fun v47 => M_enter_L68 n σ42 v47 x5 x3 x2 x1)))))))))))) else nm (x5 + 1) (fun v48 => M_enter_L68 n σ v48 x4 x3 x2 x1))
set_option maxHeartbeats 4000000 in
set_option maxRecDepth 100000 in
theorem r_M_enter_L68 {p : Program} {l : Launch} {e : Env} {s : State} {m : MethodId} {args : Array Value} {below : List Frame} {meth : Method} {c : Code} {Q : State → Prop} {Ev : EvT} {D : va_G} {cs : Nat → ClassId} {h : Nat} {a : Nat → Nat} {A : Nat → Prop} (C : Cx p s m args c cX12_enter 7 wsX12_enter RX12) : ∀ (n : Nat) (σ : St) (x5 : Int32) (x4 : Int32) (x3 : Int32) (x2 : Int32) (x1 : Int32) (H : Heap) (locs : List Loc) (ls : Array Slot) (X : St × Int32 × Int32), some X = M_enter_L68 n σ x5 x4 x3 x2 x1 → GW Ev D (tyM cs) (wM h a cs) A s σ H locs → lv_has ls 7 [(5, .int x5), (4, .int x4), (3, .int x3), (2, .int x2), (0, .ref h), (1, .int x1)] → (∀ (τ : St) (z5 : Int32) (z4 : Int32) (H : Heap) (locs : List Loc) (ls : Array Slot), X = (τ, z5, z4) → GW Ev D (tyM cs) (wM h a cs) A s τ H locs → lv_has ls 7 [(5, .int z5), (4, .int z4), (3, .int x3), (2, .int x2), (0, .ref h), (1, .int x1)] → W p l e rm_M_enter s m args below meth c H locs 0 0 Q (F0 m 182 ls [])) → W p l e rm_M_enter s m args below meth c H locs 0 0 Q (F0 m 68 ls []) := by
  have hin : ∀ w ∈ wsX120, w ∈ wsX12_enter := fun w hw => List.mem_cons_of_mem _ (List.mem_append_right _ hw)
  have f52 : (Cond.fieldLink RX12 103 (TX12 52).1 (TX12 52).2.1 (TX12 52).2.2.1).before _ s = true := C.2.2.2.2 _ (List.mem_of_getElem? (i := 5) rfl)
  have f54 : (Cond.fieldLink RX12 109 (TX12 54).1 (TX12 54).2.1 (TX12 54).2.2.1).before _ s = true := C.2.2.2.2 _ (List.mem_of_getElem? (i := 6) rfl)
  have f55 : (Cond.fieldLink RX12 112 (TX12 55).1 (TX12 55).2.1 (TX12 55).2.2.1).before _ s = true := C.2.2.2.2 _ (List.mem_of_getElem? (i := 7) rfl)
  have f56 : (Cond.fieldLink RX12 115 (TX12 56).1 (TX12 56).2.1 (TX12 56).2.2.1).before _ s = true := C.2.2.2.2 _ (List.mem_of_getElem? (i := 4) rfl)
  have f57 : (Cond.fieldLink RX12 118 (TX12 57).1 (TX12 57).2.1 (TX12 57).2.2.1).before _ s = true := C.2.2.2.2 _ (List.mem_of_getElem? (i := 8) rfl)
  have f58 : (Cond.fieldLink RX12 121 (TX12 58).1 (TX12 58).2.1 (TX12 58).2.2.1).before _ s = true := C.2.2.2.2 _ (List.mem_of_getElem? (i := 1) rfl)
  have f60 : (Cond.fieldLink RX12 127 (TX12 60).1 (TX12 60).2.1 (TX12 60).2.2.1).before _ s = true := C.2.2.2.2 _ (List.mem_of_getElem? (i := 3) rfl)
  have k326 : (Cond.constant RX12 326 (100000000)).before _ s = true := C.2.2.2.2 _ (List.mem_of_getElem? (i := 2) rfl)
  intro n
  induction n with
  | zero =>
    intro σ x5 x4 x3 x2 x1 H locs ls X hX hW hl K0
    cases hX
  | succ n ih =>
    intro σ x5 x4 x3 x2 x1 H locs ls X hX hW hl K0
    unfold M_enter_L68 at hX
    refine lv_iload C.1 C.2.1 dX12_enter_68 (lv_at hl 0 rfl) ?_
    refine lv_bipush (v := 72) C.1 C.2.1 dX12_enter_70 (by decide) ?_
    refine lv_icmp_gt (tgt := 182) C.1 C.2.1 dX12_enter_72 (by decide) (fun c32 => ?_) (fun c32 => ?_)
    · have hX := br_p hX c32
      exact K0 σ x5 x4 H locs ls (Option.some.inj hX) hW (lv_sub hl [0, 1, 2, 3, 4, 5] rfl)
    have hX := br_n hX c32
    refine lv_aload_n C.1 C.2.1 dX12_enter_75 rfl (lv_at hl 4 rfl) ?_
    refine M_geta C hin hW 60 rfl (by decide) f60 dX12_enter_76 ?_
    refine lv_iload C.1 C.2.1 dX12_enter_79 (lv_at hl 0 rfl) ?_
    obtain ⟨hi, hX⟩ := chkI_st hX
    refine M_ldZ C hW 60 rfl hi dX12_enter_81 ?_
    refine lv_if_eq (tgt := 88) C.1 C.2.1 dX12_enter_82 (by decide) (fun c33 => ?_) (fun c33 => ?_)
    · have hX := br_p hX c33
      refine lv_aload_n C.1 C.2.1 dX12_enter_88 rfl (lv_at hl 4 rfl) ?_
      refine M_geta C hin hW 52 rfl (by decide) f52 dX12_enter_89 ?_
      refine lv_bipush (v := 72) C.1 C.2.1 dX12_enter_92 (by decide) ?_
      refine lv_iload_n C.1 C.2.1 dX12_enter_94 rfl (lv_at hl 2 rfl) ?_
      refine lv_iconst (v := 1) C.1 C.2.1 dX12_enter_95 (by decide) ?_
      refine lv_isub C.1 C.2.1 dX12_enter_96 ?_
      refine lv_imul C.1 C.2.1 dX12_enter_97 ?_
      refine lv_iload C.1 C.2.1 dX12_enter_98 (lv_at hl 0 rfl) ?_
      refine lv_iadd C.1 C.2.1 dX12_enter_100 ?_
      refine lv_iconst (v := 1) C.1 C.2.1 dX12_enter_101 (by decide) ?_
      refine lv_isub C.1 C.2.1 dX12_enter_102 ?_
      obtain ⟨hi, hX⟩ := chkI_st hX
      refine M_ldI C hW 52 rfl hi dX12_enter_103 ?_
      refine lv_aload_n C.1 C.2.1 dX12_enter_104 rfl (lv_at hl 4 rfl) ?_
      refine M_geta C hin hW 54 rfl (by decide) f54 dX12_enter_105 ?_
      refine lv_iload_n C.1 C.2.1 dX12_enter_108 rfl (lv_at hl 2 rfl) ?_
      obtain ⟨hi, hX⟩ := chkI_st hX
      refine M_ldI C hW 54 rfl hi dX12_enter_109 ?_
      refine lv_isub C.1 C.2.1 dX12_enter_110 ?_
      refine lv_aload_n C.1 C.2.1 dX12_enter_111 rfl (lv_at hl 4 rfl) ?_
      refine M_geta C hin hW 55 rfl (by decide) f55 dX12_enter_112 ?_
      refine lv_iload C.1 C.2.1 dX12_enter_115 (lv_at hl 0 rfl) ?_
      obtain ⟨hi, hX⟩ := chkI_st hX
      refine M_ldI C hW 55 rfl hi dX12_enter_117 ?_
      refine lv_isub C.1 C.2.1 dX12_enter_118 ?_
      refine lv_topi (fun v34 ev34 => ?_)
      have hX := nm_st hX ev34
      refine lv_istore (lv' := [(6, .int v34), (5, .int x5), (4, .int x4), (3, .int x3), (2, .int x2), (0, .ref h), (1, .int x1)]) C.1 C.2.1 dX12_enter_119 hl (by decide) rfl (fun ls hl => ?_)
      refine lv_iload C.1 C.2.1 dX12_enter_121 (lv_at hl 0 rfl) ?_
      refine lv_aload_n C.1 C.2.1 dX12_enter_123 rfl (lv_at hl 5 rfl) ?_
      refine M_geta C hin hW 58 rfl (by decide) f58 dX12_enter_124 ?_
      refine lv_iload C.1 C.2.1 dX12_enter_127 (lv_at hl 1 rfl) ?_
      obtain ⟨hi, hX⟩ := chkI_st hX
      refine M_ldI C hW 58 rfl hi dX12_enter_129 ?_
      refine lv_icmp_ge (tgt := 150) C.1 C.2.1 dX12_enter_130 (by decide) (fun c35 => ?_) (fun c35 => ?_)
      · have hX := br_p hX c35
        refine lv_iload C.1 C.2.1 dX12_enter_150 (lv_at hl 2 rfl) ?_
        refine lv_if_eq (tgt := 172) C.1 C.2.1 dX12_enter_152 (by decide) (fun c36 => ?_) (fun c36 => ?_)
        · have hX := br_p hX c36
          refine lv_iload C.1 C.2.1 dX12_enter_172 (lv_at hl 1 rfl) ?_
          refine lv_istore (lv' := [(4, .int x5), (6, .int v34), (5, .int x5), (3, .int x3), (2, .int x2), (0, .ref h), (1, .int x1)]) C.1 C.2.1 dX12_enter_174 hl (by decide) rfl (fun ls hl => ?_)
          obtain ⟨v37, ev37⟩ : ∃ z : Int32, z = x5 + 1 := ⟨_, rfl⟩
          have hX := nm_st hX ev37
          refine lv_iinc (v := v37) (lv' := [(5, .int v37), (4, .int x5), (6, .int v34), (3, .int x3), (2, .int x2), (0, .ref h), (1, .int x1)]) C.1 C.2.1 dX12_enter_176 hl (k := 2) rfl (by rw [ev37]; rfl) (by decide) rfl (fun ls hl => ?_)
          refine lv_goto (tgt := 68) C.1 C.2.1 dX12_enter_179 (by decide) ?_
          exact ih σ v37 x5 x3 x2 x1 H locs ls X hX hW (lv_sub hl [0, 1, 3, 4, 5, 6] rfl) K0
        have hX := br_n hX c36
        refine lv_aload_n C.1 C.2.1 dX12_enter_155 rfl (lv_at hl 5 rfl) ?_
        refine M_geta C hin hW 58 rfl (by decide) f58 dX12_enter_156 ?_
        refine lv_iload C.1 C.2.1 dX12_enter_159 (lv_at hl 1 rfl) ?_
        obtain ⟨hi, hX⟩ := chkI_st hX
        refine M_ldI C hW 58 rfl hi dX12_enter_161 ?_
        refine lv_aload_n C.1 C.2.1 dX12_enter_162 rfl (lv_at hl 5 rfl) ?_
        refine M_geta C hin hW 58 rfl (by decide) f58 dX12_enter_163 ?_
        refine lv_iload C.1 C.2.1 dX12_enter_166 (lv_at hl 2 rfl) ?_
        obtain ⟨hi, hX⟩ := chkI_st hX
        refine M_ldI C hW 58 rfl hi dX12_enter_168 ?_
        refine lv_icmp_ge (tgt := 176) C.1 C.2.1 dX12_enter_169 (by decide) (fun c38 => ?_) (fun c38 => ?_)
        · have hX := br_p hX c38
          obtain ⟨v39, ev39⟩ : ∃ z : Int32, z = x5 + 1 := ⟨_, rfl⟩
          have hX := nm_st hX ev39
          refine lv_iinc (v := v39) (lv' := [(5, .int v39), (6, .int v34), (4, .int x4), (3, .int x3), (2, .int x2), (0, .ref h), (1, .int x1)]) C.1 C.2.1 dX12_enter_176 hl (k := 1) rfl (by rw [ev39]; rfl) (by decide) rfl (fun ls hl => ?_)
          refine lv_goto (tgt := 68) C.1 C.2.1 dX12_enter_179 (by decide) ?_
          exact ih σ v39 x4 x3 x2 x1 H locs ls X hX hW (lv_sub hl [0, 2, 3, 4, 5, 6] rfl) K0
        have hX := br_n hX c38
        refine lv_iload C.1 C.2.1 dX12_enter_172 (lv_at hl 1 rfl) ?_
        refine lv_istore (lv' := [(4, .int x5), (6, .int v34), (5, .int x5), (3, .int x3), (2, .int x2), (0, .ref h), (1, .int x1)]) C.1 C.2.1 dX12_enter_174 hl (by decide) rfl (fun ls hl => ?_)
        obtain ⟨v40, ev40⟩ : ∃ z : Int32, z = x5 + 1 := ⟨_, rfl⟩
        have hX := nm_st hX ev40
        refine lv_iinc (v := v40) (lv' := [(5, .int v40), (4, .int x5), (6, .int v34), (3, .int x3), (2, .int x2), (0, .ref h), (1, .int x1)]) C.1 C.2.1 dX12_enter_176 hl (k := 2) rfl (by rw [ev40]; rfl) (by decide) rfl (fun ls hl => ?_)
        refine lv_goto (tgt := 68) C.1 C.2.1 dX12_enter_179 (by decide) ?_
        exact ih σ v40 x5 x3 x2 x1 H locs ls X hX hW (lv_sub hl [0, 1, 3, 4, 5, 6] rfl) K0
      have hX := br_n hX c35
      refine lv_aload_n C.1 C.2.1 dX12_enter_133 rfl (lv_at hl 5 rfl) ?_
      refine M_geta C hin hW 58 rfl (by decide) f58 dX12_enter_134 ?_
      refine lv_iload C.1 C.2.1 dX12_enter_137 (lv_at hl 1 rfl) ?_
      refine lv_iload C.1 C.2.1 dX12_enter_139 (lv_at hl 0 rfl) ?_
      obtain ⟨hi, hX⟩ := chkI_st hX
      refine M_stI C hW 58 rfl hi dX12_enter_141 (fun H locs σ41 eσ41 hW => ?_)
      have hX := nm_st hX eσ41
      refine lv_aload_n C.1 C.2.1 dX12_enter_142 rfl (lv_at hl 5 rfl) ?_
      refine M_geta C hin hW 57 rfl (by decide) f57 dX12_enter_143 ?_
      refine lv_iload C.1 C.2.1 dX12_enter_146 (lv_at hl 1 rfl) ?_
      refine lv_iload_n C.1 C.2.1 dX12_enter_148 rfl (lv_at hl 4 rfl) ?_
      obtain ⟨hi, hX⟩ := chkI_st hX
      refine M_stI C hW 57 rfl hi dX12_enter_149 (fun H locs σ42 eσ42 hW => ?_)
      have hX := nm_st hX eσ42
      refine lv_iload C.1 C.2.1 dX12_enter_150 (lv_at hl 2 rfl) ?_
      refine lv_if_eq (tgt := 172) C.1 C.2.1 dX12_enter_152 (by decide) (fun c43 => ?_) (fun c43 => ?_)
      · have hX := br_p hX c43
        refine lv_iload C.1 C.2.1 dX12_enter_172 (lv_at hl 1 rfl) ?_
        refine lv_istore (lv' := [(4, .int x5), (6, .int v34), (5, .int x5), (3, .int x3), (2, .int x2), (0, .ref h), (1, .int x1)]) C.1 C.2.1 dX12_enter_174 hl (by decide) rfl (fun ls hl => ?_)
        obtain ⟨v44, ev44⟩ : ∃ z : Int32, z = x5 + 1 := ⟨_, rfl⟩
        have hX := nm_st hX ev44
        refine lv_iinc (v := v44) (lv' := [(5, .int v44), (4, .int x5), (6, .int v34), (3, .int x3), (2, .int x2), (0, .ref h), (1, .int x1)]) C.1 C.2.1 dX12_enter_176 hl (k := 2) rfl (by rw [ev44]; rfl) (by decide) rfl (fun ls hl => ?_)
        refine lv_goto (tgt := 68) C.1 C.2.1 dX12_enter_179 (by decide) ?_
        exact ih σ42 v44 x5 x3 x2 x1 H locs ls X hX hW (lv_sub hl [0, 1, 3, 4, 5, 6] rfl) K0
      have hX := br_n hX c43
      refine lv_aload_n C.1 C.2.1 dX12_enter_155 rfl (lv_at hl 5 rfl) ?_
      refine M_geta C hin hW 58 rfl (by decide) f58 dX12_enter_156 ?_
      refine lv_iload C.1 C.2.1 dX12_enter_159 (lv_at hl 1 rfl) ?_
      obtain ⟨hi, hX⟩ := chkI_st hX
      refine M_ldI C hW 58 rfl hi dX12_enter_161 ?_
      refine lv_aload_n C.1 C.2.1 dX12_enter_162 rfl (lv_at hl 5 rfl) ?_
      refine M_geta C hin hW 58 rfl (by decide) f58 dX12_enter_163 ?_
      refine lv_iload C.1 C.2.1 dX12_enter_166 (lv_at hl 2 rfl) ?_
      obtain ⟨hi, hX⟩ := chkI_st hX
      refine M_ldI C hW 58 rfl hi dX12_enter_168 ?_
      refine lv_icmp_ge (tgt := 176) C.1 C.2.1 dX12_enter_169 (by decide) (fun c45 => ?_) (fun c45 => ?_)
      · have hX := br_p hX c45
        obtain ⟨v46, ev46⟩ : ∃ z : Int32, z = x5 + 1 := ⟨_, rfl⟩
        have hX := nm_st hX ev46
        refine lv_iinc (v := v46) (lv' := [(5, .int v46), (6, .int v34), (4, .int x4), (3, .int x3), (2, .int x2), (0, .ref h), (1, .int x1)]) C.1 C.2.1 dX12_enter_176 hl (k := 1) rfl (by rw [ev46]; rfl) (by decide) rfl (fun ls hl => ?_)
        refine lv_goto (tgt := 68) C.1 C.2.1 dX12_enter_179 (by decide) ?_
        exact ih σ42 v46 x4 x3 x2 x1 H locs ls X hX hW (lv_sub hl [0, 2, 3, 4, 5, 6] rfl) K0
      have hX := br_n hX c45
      refine lv_iload C.1 C.2.1 dX12_enter_172 (lv_at hl 1 rfl) ?_
      refine lv_istore (lv' := [(4, .int x5), (6, .int v34), (5, .int x5), (3, .int x3), (2, .int x2), (0, .ref h), (1, .int x1)]) C.1 C.2.1 dX12_enter_174 hl (by decide) rfl (fun ls hl => ?_)
      obtain ⟨v47, ev47⟩ : ∃ z : Int32, z = x5 + 1 := ⟨_, rfl⟩
      have hX := nm_st hX ev47
      refine lv_iinc (v := v47) (lv' := [(5, .int v47), (4, .int x5), (6, .int v34), (3, .int x3), (2, .int x2), (0, .ref h), (1, .int x1)]) C.1 C.2.1 dX12_enter_176 hl (k := 2) rfl (by rw [ev47]; rfl) (by decide) rfl (fun ls hl => ?_)
      refine lv_goto (tgt := 68) C.1 C.2.1 dX12_enter_179 (by decide) ?_
      exact ih σ42 v47 x5 x3 x2 x1 H locs ls X hX hW (lv_sub hl [0, 1, 3, 4, 5, 6] rfl) K0
    have hX := br_n hX c33
    refine lv_goto (tgt := 176) C.1 C.2.1 dX12_enter_85 (by decide) ?_
    obtain ⟨v48, ev48⟩ : ∃ z : Int32, z = x5 + 1 := ⟨_, rfl⟩
    have hX := nm_st hX ev48
    refine lv_iinc (v := v48) (lv' := [(5, .int v48), (4, .int x4), (3, .int x3), (2, .int x2), (0, .ref h), (1, .int x1)]) C.1 C.2.1 dX12_enter_176 hl (k := 0) rfl (by rw [ev48]; rfl) (by decide) rfl (fun ls hl => ?_)
    refine lv_goto (tgt := 68) C.1 C.2.1 dX12_enter_179 (by decide) ?_
    exact ih σ v48 x4 x3 x2 x1 H locs ls X hX hW (lv_sub hl [0, 1, 2, 3, 4, 5] rfl) K0
def M_enter_L194 : Nat → St → Int32 → Int32 → Int32 → Int32 → Int32 → Int32 → Option (St × Int32)
  | 0, _, _, _, _, _, _, _ => none
  | n + 1, σ, x6, x5, x4, x3, x2, x1 => if 72 < x6 then some (σ, x6) else chkI x6 73 (if (σ.1 60 x6.toNatClampNeg) = 0 then chkI x6 73 (chkI x6 73 (nm (s1 σ 58 x6.toNatClampNeg ((σ.1 58 x6.toNatClampNeg) - x5)) (fun σ63 => nm (x6 + 1) (fun v64 => M_enter_L194 n σ63 v64 x5 x4 x3 x2 x1)))) else chkI x6 73 (nm (σ.1 56 x6.toNatClampNeg) (fun v65 => chkI v65 9 (chkI v65 9 (nm (s1 σ 54 v65.toNatClampNeg ((σ.1 54 v65.toNatClampNeg) + x5)) (fun σ66 => chkI x6 73 (chkI x6 73 (nm (s1 σ66 55 x6.toNatClampNeg ((σ66.1 55 x6.toNatClampNeg) - x5)) (fun σ67 => nm (x6 + 1) (fun v68 => M_enter_L194 n σ67 v68 x5 x4 x3 x2 x1))))))))))
set_option maxHeartbeats 4000000 in
set_option maxRecDepth 100000 in
theorem r_M_enter_L194 {p : Program} {l : Launch} {e : Env} {s : State} {m : MethodId} {args : Array Value} {below : List Frame} {meth : Method} {c : Code} {Q : State → Prop} {Ev : EvT} {D : va_G} {cs : Nat → ClassId} {h : Nat} {a : Nat → Nat} {A : Nat → Prop} (C : Cx p s m args c cX12_enter 7 wsX12_enter RX12) : ∀ (n : Nat) (σ : St) (x6 : Int32) (x5 : Int32) (x4 : Int32) (x3 : Int32) (x2 : Int32) (x1 : Int32) (H : Heap) (locs : List Loc) (ls : Array Slot) (X : St × Int32), some X = M_enter_L194 n σ x6 x5 x4 x3 x2 x1 → GW Ev D (tyM cs) (wM h a cs) A s σ H locs → lv_has ls 7 [(6, .int x6), (5, .int x5), (4, .int x4), (3, .int x3), (2, .int x2), (0, .ref h), (1, .int x1)] → (∀ (τ : St) (z6 : Int32) (H : Heap) (locs : List Loc) (ls : Array Slot), X = (τ, z6) → GW Ev D (tyM cs) (wM h a cs) A s τ H locs → lv_has ls 7 [(6, .int z6), (5, .int x5), (4, .int x4), (3, .int x3), (2, .int x2), (0, .ref h), (1, .int x1)] → W p l e rm_M_enter s m args below meth c H locs 0 0 Q (F0 m 261 ls [])) → W p l e rm_M_enter s m args below meth c H locs 0 0 Q (F0 m 194 ls []) := by
  have hin : ∀ w ∈ wsX120, w ∈ wsX12_enter := fun w hw => List.mem_cons_of_mem _ (List.mem_append_right _ hw)
  have f52 : (Cond.fieldLink RX12 103 (TX12 52).1 (TX12 52).2.1 (TX12 52).2.2.1).before _ s = true := C.2.2.2.2 _ (List.mem_of_getElem? (i := 5) rfl)
  have f54 : (Cond.fieldLink RX12 109 (TX12 54).1 (TX12 54).2.1 (TX12 54).2.2.1).before _ s = true := C.2.2.2.2 _ (List.mem_of_getElem? (i := 6) rfl)
  have f55 : (Cond.fieldLink RX12 112 (TX12 55).1 (TX12 55).2.1 (TX12 55).2.2.1).before _ s = true := C.2.2.2.2 _ (List.mem_of_getElem? (i := 7) rfl)
  have f56 : (Cond.fieldLink RX12 115 (TX12 56).1 (TX12 56).2.1 (TX12 56).2.2.1).before _ s = true := C.2.2.2.2 _ (List.mem_of_getElem? (i := 4) rfl)
  have f57 : (Cond.fieldLink RX12 118 (TX12 57).1 (TX12 57).2.1 (TX12 57).2.2.1).before _ s = true := C.2.2.2.2 _ (List.mem_of_getElem? (i := 8) rfl)
  have f58 : (Cond.fieldLink RX12 121 (TX12 58).1 (TX12 58).2.1 (TX12 58).2.2.1).before _ s = true := C.2.2.2.2 _ (List.mem_of_getElem? (i := 1) rfl)
  have f60 : (Cond.fieldLink RX12 127 (TX12 60).1 (TX12 60).2.1 (TX12 60).2.2.1).before _ s = true := C.2.2.2.2 _ (List.mem_of_getElem? (i := 3) rfl)
  have k326 : (Cond.constant RX12 326 (100000000)).before _ s = true := C.2.2.2.2 _ (List.mem_of_getElem? (i := 2) rfl)
  intro n
  induction n with
  | zero =>
    intro σ x6 x5 x4 x3 x2 x1 H locs ls X hX hW hl K0
    cases hX
  | succ n ih =>
    intro σ x6 x5 x4 x3 x2 x1 H locs ls X hX hW hl K0
    unfold M_enter_L194 at hX
    refine lv_iload C.1 C.2.1 dX12_enter_194 (lv_at hl 0 rfl) ?_
    refine lv_bipush (v := 72) C.1 C.2.1 dX12_enter_196 (by decide) ?_
    refine lv_icmp_gt (tgt := 261) C.1 C.2.1 dX12_enter_198 (by decide) (fun c61 => ?_) (fun c61 => ?_)
    · have hX := br_p hX c61
      exact K0 σ x6 H locs ls (Option.some.inj hX) hW (lv_sub hl [0, 1, 2, 3, 4, 5, 6] rfl)
    have hX := br_n hX c61
    refine lv_aload_n C.1 C.2.1 dX12_enter_201 rfl (lv_at hl 5 rfl) ?_
    refine M_geta C hin hW 60 rfl (by decide) f60 dX12_enter_202 ?_
    refine lv_iload C.1 C.2.1 dX12_enter_205 (lv_at hl 0 rfl) ?_
    obtain ⟨hi, hX⟩ := chkI_st hX
    refine M_ldZ C hW 60 rfl hi dX12_enter_207 ?_
    refine lv_if_eq (tgt := 243) C.1 C.2.1 dX12_enter_208 (by decide) (fun c62 => ?_) (fun c62 => ?_)
    · have hX := br_p hX c62
      refine lv_aload_n C.1 C.2.1 dX12_enter_243 rfl (lv_at hl 5 rfl) ?_
      refine M_geta C hin hW 58 rfl (by decide) f58 dX12_enter_244 ?_
      refine lv_iload C.1 C.2.1 dX12_enter_247 (lv_at hl 0 rfl) ?_
      refine lv_dup2_11 C.1 C.2.1 dX12_enter_249 rfl rfl ?_
      obtain ⟨hi, hX⟩ := chkI_st hX
      refine M_ldI C hW 58 rfl hi dX12_enter_250 ?_
      refine lv_iload C.1 C.2.1 dX12_enter_251 (lv_at hl 1 rfl) ?_
      refine lv_isub C.1 C.2.1 dX12_enter_253 ?_
      obtain ⟨hi, hX⟩ := chkI_st hX
      refine M_stI C hW 58 rfl hi dX12_enter_254 (fun H locs σ63 eσ63 hW => ?_)
      have hX := nm_st hX eσ63
      obtain ⟨v64, ev64⟩ : ∃ z : Int32, z = x6 + 1 := ⟨_, rfl⟩
      have hX := nm_st hX ev64
      refine lv_iinc (v := v64) (lv' := [(6, .int v64), (5, .int x5), (4, .int x4), (3, .int x3), (2, .int x2), (0, .ref h), (1, .int x1)]) C.1 C.2.1 dX12_enter_255 hl (k := 0) rfl (by rw [ev64]; rfl) (by decide) rfl (fun ls hl => ?_)
      refine lv_goto (tgt := 194) C.1 C.2.1 dX12_enter_258 (by decide) ?_
      exact ih σ63 v64 x5 x4 x3 x2 x1 H locs ls X hX hW (lv_sub hl [0, 1, 2, 3, 4, 5, 6] rfl) K0
    have hX := br_n hX c62
    refine lv_aload_n C.1 C.2.1 dX12_enter_211 rfl (lv_at hl 5 rfl) ?_
    refine M_geta C hin hW 54 rfl (by decide) f54 dX12_enter_212 ?_
    refine lv_aload_n C.1 C.2.1 dX12_enter_215 rfl (lv_at hl 5 rfl) ?_
    refine M_geta C hin hW 56 rfl (by decide) f56 dX12_enter_216 ?_
    refine lv_iload C.1 C.2.1 dX12_enter_219 (lv_at hl 0 rfl) ?_
    obtain ⟨hi, hX⟩ := chkI_st hX
    refine M_ldI C hW 56 rfl hi dX12_enter_221 ?_
    refine lv_topi (fun v65 ev65 => ?_)
    have hX := nm_st hX ev65
    refine lv_dup2_11 C.1 C.2.1 dX12_enter_222 rfl rfl ?_
    obtain ⟨hi, hX⟩ := chkI_st hX
    refine M_ldI C hW 54 rfl hi dX12_enter_223 ?_
    refine lv_iload C.1 C.2.1 dX12_enter_224 (lv_at hl 1 rfl) ?_
    refine lv_iadd C.1 C.2.1 dX12_enter_226 ?_
    obtain ⟨hi, hX⟩ := chkI_st hX
    refine M_stI C hW 54 rfl hi dX12_enter_227 (fun H locs σ66 eσ66 hW => ?_)
    have hX := nm_st hX eσ66
    refine lv_aload_n C.1 C.2.1 dX12_enter_228 rfl (lv_at hl 5 rfl) ?_
    refine M_geta C hin hW 55 rfl (by decide) f55 dX12_enter_229 ?_
    refine lv_iload C.1 C.2.1 dX12_enter_232 (lv_at hl 0 rfl) ?_
    refine lv_dup2_11 C.1 C.2.1 dX12_enter_234 rfl rfl ?_
    obtain ⟨hi, hX⟩ := chkI_st hX
    refine M_ldI C hW 55 rfl hi dX12_enter_235 ?_
    refine lv_iload C.1 C.2.1 dX12_enter_236 (lv_at hl 1 rfl) ?_
    refine lv_isub C.1 C.2.1 dX12_enter_238 ?_
    obtain ⟨hi, hX⟩ := chkI_st hX
    refine M_stI C hW 55 rfl hi dX12_enter_239 (fun H locs σ67 eσ67 hW => ?_)
    have hX := nm_st hX eσ67
    refine lv_goto (tgt := 255) C.1 C.2.1 dX12_enter_240 (by decide) ?_
    obtain ⟨v68, ev68⟩ : ∃ z : Int32, z = x6 + 1 := ⟨_, rfl⟩
    have hX := nm_st hX ev68
    refine lv_iinc (v := v68) (lv' := [(6, .int v68), (5, .int x5), (4, .int x4), (3, .int x3), (2, .int x2), (0, .ref h), (1, .int x1)]) C.1 C.2.1 dX12_enter_255 hl (k := 0) rfl (by rw [ev68]; rfl) (by decide) rfl (fun ls hl => ?_)
    refine lv_goto (tgt := 194) C.1 C.2.1 dX12_enter_258 (by decide) ?_
    exact ih σ67 v68 x5 x4 x3 x2 x1 H locs ls X hX hW (lv_sub hl [0, 1, 2, 3, 4, 5, 6] rfl) K0
def M_enter_L39 : Nat → St → Int32 → Int32 → Option (St × Int32)
  | 0, _, _, _ => none
  | n + 1, σ, x2, x1 => chkI x2 73 (if (σ.1 56 x2.toNatClampNeg) = 0 then some (σ, x2) else chkI x2 73 (nm (s1 σ 60 x2.toNatClampNeg (vp_nar .boolean 1)) (fun σ72 => chkI x2 73 (nm (σ72.1 56 x2.toNatClampNeg) (fun v73 => bnd (M_enter_L68 100000 σ72 1 0 v73 x2 x1) (fun q => nm2 q (fun σ74 q => nm2 q (fun v75 v76 => chkI v76 73 (nm (σ74.1 58 v76.toNatClampNeg) (fun v77 => bnd (M_enter_L194 100000 σ74 0 v77 v76 v73 x2 x1) (fun q => nm2 q (fun σ78 v79 => M_enter_L39 n σ78 v76 x1))))))))))))
set_option maxHeartbeats 4000000 in
set_option maxRecDepth 100000 in
theorem r_M_enter_L39 {p : Program} {l : Launch} {e : Env} {s : State} {m : MethodId} {args : Array Value} {below : List Frame} {meth : Method} {c : Code} {Q : State → Prop} {Ev : EvT} {D : va_G} {cs : Nat → ClassId} {h : Nat} {a : Nat → Nat} {A : Nat → Prop} (C : Cx p s m args c cX12_enter 7 wsX12_enter RX12) : ∀ (n : Nat) (σ : St) (x2 : Int32) (x1 : Int32) (H : Heap) (locs : List Loc) (ls : Array Slot) (X : St × Int32), some X = M_enter_L39 n σ x2 x1 → GW Ev D (tyM cs) (wM h a cs) A s σ H locs → lv_has ls 7 [(2, .int x2), (0, .ref h), (1, .int x1)] → (∀ (τ : St) (z2 : Int32) (H : Heap) (locs : List Loc) (ls : Array Slot), X = (τ, z2) → GW Ev D (tyM cs) (wM h a cs) A s τ H locs → lv_has ls 7 [(2, .int z2), (0, .ref h), (1, .int x1)] → W p l e rm_M_enter s m args below meth c H locs 0 0 Q (F0 m 267 ls [])) → W p l e rm_M_enter s m args below meth c H locs 0 0 Q (F0 m 39 ls []) := by
  have hin : ∀ w ∈ wsX120, w ∈ wsX12_enter := fun w hw => List.mem_cons_of_mem _ (List.mem_append_right _ hw)
  have f52 : (Cond.fieldLink RX12 103 (TX12 52).1 (TX12 52).2.1 (TX12 52).2.2.1).before _ s = true := C.2.2.2.2 _ (List.mem_of_getElem? (i := 5) rfl)
  have f54 : (Cond.fieldLink RX12 109 (TX12 54).1 (TX12 54).2.1 (TX12 54).2.2.1).before _ s = true := C.2.2.2.2 _ (List.mem_of_getElem? (i := 6) rfl)
  have f55 : (Cond.fieldLink RX12 112 (TX12 55).1 (TX12 55).2.1 (TX12 55).2.2.1).before _ s = true := C.2.2.2.2 _ (List.mem_of_getElem? (i := 7) rfl)
  have f56 : (Cond.fieldLink RX12 115 (TX12 56).1 (TX12 56).2.1 (TX12 56).2.2.1).before _ s = true := C.2.2.2.2 _ (List.mem_of_getElem? (i := 4) rfl)
  have f57 : (Cond.fieldLink RX12 118 (TX12 57).1 (TX12 57).2.1 (TX12 57).2.2.1).before _ s = true := C.2.2.2.2 _ (List.mem_of_getElem? (i := 8) rfl)
  have f58 : (Cond.fieldLink RX12 121 (TX12 58).1 (TX12 58).2.1 (TX12 58).2.2.1).before _ s = true := C.2.2.2.2 _ (List.mem_of_getElem? (i := 1) rfl)
  have f60 : (Cond.fieldLink RX12 127 (TX12 60).1 (TX12 60).2.1 (TX12 60).2.2.1).before _ s = true := C.2.2.2.2 _ (List.mem_of_getElem? (i := 3) rfl)
  have k326 : (Cond.constant RX12 326 (100000000)).before _ s = true := C.2.2.2.2 _ (List.mem_of_getElem? (i := 2) rfl)
  intro n
  induction n with
  | zero =>
    intro σ x2 x1 H locs ls X hX hW hl K0
    cases hX
  | succ n ih =>
    intro σ x2 x1 H locs ls X hX hW hl K0
    unfold M_enter_L39 at hX
    refine lv_aload_n C.1 C.2.1 dX12_enter_39 rfl (lv_at hl 1 rfl) ?_
    refine M_geta C hin hW 56 rfl (by decide) f56 dX12_enter_40 ?_
    refine lv_iload_n C.1 C.2.1 dX12_enter_43 rfl (lv_at hl 0 rfl) ?_
    obtain ⟨hi, hX⟩ := chkI_st hX
    refine M_ldI C hW 56 rfl hi dX12_enter_44 ?_
    refine lv_if_eq (tgt := 267) C.1 C.2.1 dX12_enter_45 (by decide) (fun c71 => ?_) (fun c71 => ?_)
    · have hX := br_p hX c71
      exact K0 σ x2 H locs ls (Option.some.inj hX) hW (lv_sub hl [0, 1, 2] rfl)
    have hX := br_n hX c71
    refine lv_aload_n C.1 C.2.1 dX12_enter_48 rfl (lv_at hl 1 rfl) ?_
    refine M_geta C hin hW 60 rfl (by decide) f60 dX12_enter_49 ?_
    refine lv_iload_n C.1 C.2.1 dX12_enter_52 rfl (lv_at hl 0 rfl) ?_
    refine lv_iconst (v := 1) C.1 C.2.1 dX12_enter_53 (by decide) ?_
    obtain ⟨hi, hX⟩ := chkI_st hX
    refine M_stZ C hW 60 rfl hi dX12_enter_54 (fun H locs σ72 eσ72 hW => ?_)
    have hX := nm_st hX eσ72
    refine lv_aload_n C.1 C.2.1 dX12_enter_55 rfl (lv_at hl 1 rfl) ?_
    refine M_geta C hin hW 56 rfl (by decide) f56 dX12_enter_56 ?_
    refine lv_iload_n C.1 C.2.1 dX12_enter_59 rfl (lv_at hl 0 rfl) ?_
    obtain ⟨hi, hX⟩ := chkI_st hX
    refine M_ldI C hW 56 rfl hi dX12_enter_60 ?_
    refine lv_topi (fun v73 ev73 => ?_)
    have hX := nm_st hX ev73
    refine lv_istore_n (lv' := [(3, .int v73), (2, .int x2), (0, .ref h), (1, .int x1)]) C.1 C.2.1 dX12_enter_61 rfl hl (by decide) rfl (fun ls hl => ?_)
    refine lv_iconst (v := 0) C.1 C.2.1 dX12_enter_62 (by decide) ?_
    refine lv_istore (lv' := [(4, .int 0), (3, .int v73), (2, .int x2), (0, .ref h), (1, .int x1)]) C.1 C.2.1 dX12_enter_63 hl (by decide) rfl (fun ls hl => ?_)
    refine lv_iconst (v := 1) C.1 C.2.1 dX12_enter_65 (by decide) ?_
    refine lv_istore (lv' := [(5, .int 1), (4, .int 0), (3, .int v73), (2, .int x2), (0, .ref h), (1, .int x1)]) C.1 C.2.1 dX12_enter_66 hl (by decide) rfl (fun ls hl => ?_)
    obtain ⟨q, hq, hX⟩ := bnd_st hX
    refine r_M_enter_L68 C 100000 σ72 1 0 v73 x2 x1 H locs ls q hq.symm hW (lv_sub hl [0, 1, 2, 3, 4, 5] rfl) ?_
    intro σ74 v75 v76 H locs ls hq hW hl
    subst hq
    have hX := nm2_st hX rfl
    have hX := nm2_st hX rfl
    refine lv_aload_n C.1 C.2.1 dX12_enter_182 rfl (lv_at hl 4 rfl) ?_
    refine M_geta C hin hW 58 rfl (by decide) f58 dX12_enter_183 ?_
    refine lv_iload C.1 C.2.1 dX12_enter_186 (lv_at hl 1 rfl) ?_
    obtain ⟨hi, hX⟩ := chkI_st hX
    refine M_ldI C hW 58 rfl hi dX12_enter_188 ?_
    refine lv_topi (fun v77 ev77 => ?_)
    have hX := nm_st hX ev77
    refine lv_istore (lv' := [(5, .int v77), (4, .int v76), (3, .int v73), (2, .int x2), (0, .ref h), (1, .int x1)]) C.1 C.2.1 dX12_enter_189 hl (by decide) rfl (fun ls hl => ?_)
    refine lv_iconst (v := 0) C.1 C.2.1 dX12_enter_191 (by decide) ?_
    refine lv_istore (lv' := [(6, .int 0), (5, .int v77), (4, .int v76), (3, .int v73), (2, .int x2), (0, .ref h), (1, .int x1)]) C.1 C.2.1 dX12_enter_192 hl (by decide) rfl (fun ls hl => ?_)
    obtain ⟨q, hq, hX⟩ := bnd_st hX
    refine r_M_enter_L194 C 100000 σ74 0 v77 v76 v73 x2 x1 H locs ls q hq.symm hW (lv_sub hl [0, 1, 2, 3, 4, 5, 6] rfl) ?_
    intro σ78 v79 H locs ls hq hW hl
    subst hq
    have hX := nm2_st hX rfl
    refine lv_iload C.1 C.2.1 dX12_enter_261 (lv_at hl 2 rfl) ?_
    refine lv_istore_n (lv' := [(2, .int v76), (6, .int v79), (5, .int v77), (4, .int v76), (3, .int v73), (0, .ref h), (1, .int x1)]) C.1 C.2.1 dX12_enter_263 rfl hl (by decide) rfl (fun ls hl => ?_)
    refine lv_goto (tgt := 39) C.1 C.2.1 dX12_enter_264 (by decide) ?_
    exact ih σ78 v76 x1 H locs ls X hX hW (lv_sub hl [0, 5, 6] rfl) K0
def M_enter_L267 : Nat → St → Int32 → Int32 → Option (St × Int32)
  | 0, _, _, _ => none
  | n + 1, σ, x2, x1 => if x2 = 0 then some (σ, x2) else chkI x2 73 (chkI (σ.1 57 x2.toNatClampNeg) 73 (chkI x2 73 (nm (s1 σ 56 x2.toNatClampNeg (σ.1 56 (σ.1 57 x2.toNatClampNeg).toNatClampNeg)) (fun σ86 => chkI x2 73 (nm (σ86.1 57 x2.toNatClampNeg) (fun v87 => M_enter_L267 n σ86 v87 x1))))))
set_option maxHeartbeats 4000000 in
set_option maxRecDepth 100000 in
theorem r_M_enter_L267 {p : Program} {l : Launch} {e : Env} {s : State} {m : MethodId} {args : Array Value} {below : List Frame} {meth : Method} {c : Code} {Q : State → Prop} {Ev : EvT} {D : va_G} {cs : Nat → ClassId} {h : Nat} {a : Nat → Nat} {A : Nat → Prop} (C : Cx p s m args c cX12_enter 7 wsX12_enter RX12) : ∀ (n : Nat) (σ : St) (x2 : Int32) (x1 : Int32) (H : Heap) (locs : List Loc) (ls : Array Slot) (X : St × Int32), some X = M_enter_L267 n σ x2 x1 → GW Ev D (tyM cs) (wM h a cs) A s σ H locs → lv_has ls 7 [(2, .int x2), (0, .ref h), (1, .int x1)] → (∀ (τ : St) (z2 : Int32) (H : Heap) (locs : List Loc) (ls : Array Slot), X = (τ, z2) → GW Ev D (tyM cs) (wM h a cs) A s τ H locs → lv_has ls 7 [(2, .int z2), (0, .ref h), (1, .int x1)] → W p l e rm_M_enter s m args below meth c H locs 0 0 Q (F0 m 298 ls [])) → W p l e rm_M_enter s m args below meth c H locs 0 0 Q (F0 m 267 ls []) := by
  have hin : ∀ w ∈ wsX120, w ∈ wsX12_enter := fun w hw => List.mem_cons_of_mem _ (List.mem_append_right _ hw)
  have f52 : (Cond.fieldLink RX12 103 (TX12 52).1 (TX12 52).2.1 (TX12 52).2.2.1).before _ s = true := C.2.2.2.2 _ (List.mem_of_getElem? (i := 5) rfl)
  have f54 : (Cond.fieldLink RX12 109 (TX12 54).1 (TX12 54).2.1 (TX12 54).2.2.1).before _ s = true := C.2.2.2.2 _ (List.mem_of_getElem? (i := 6) rfl)
  have f55 : (Cond.fieldLink RX12 112 (TX12 55).1 (TX12 55).2.1 (TX12 55).2.2.1).before _ s = true := C.2.2.2.2 _ (List.mem_of_getElem? (i := 7) rfl)
  have f56 : (Cond.fieldLink RX12 115 (TX12 56).1 (TX12 56).2.1 (TX12 56).2.2.1).before _ s = true := C.2.2.2.2 _ (List.mem_of_getElem? (i := 4) rfl)
  have f57 : (Cond.fieldLink RX12 118 (TX12 57).1 (TX12 57).2.1 (TX12 57).2.2.1).before _ s = true := C.2.2.2.2 _ (List.mem_of_getElem? (i := 8) rfl)
  have f58 : (Cond.fieldLink RX12 121 (TX12 58).1 (TX12 58).2.1 (TX12 58).2.2.1).before _ s = true := C.2.2.2.2 _ (List.mem_of_getElem? (i := 1) rfl)
  have f60 : (Cond.fieldLink RX12 127 (TX12 60).1 (TX12 60).2.1 (TX12 60).2.2.1).before _ s = true := C.2.2.2.2 _ (List.mem_of_getElem? (i := 3) rfl)
  have k326 : (Cond.constant RX12 326 (100000000)).before _ s = true := C.2.2.2.2 _ (List.mem_of_getElem? (i := 2) rfl)
  intro n
  induction n with
  | zero =>
    intro σ x2 x1 H locs ls X hX hW hl K0
    cases hX
  | succ n ih =>
    intro σ x2 x1 H locs ls X hX hW hl K0
    unfold M_enter_L267 at hX
    refine lv_iload_n C.1 C.2.1 dX12_enter_267 rfl (lv_at hl 0 rfl) ?_
    refine lv_if_eq (tgt := 298) C.1 C.2.1 dX12_enter_268 (by decide) (fun c85 => ?_) (fun c85 => ?_)
    · have hX := br_p hX c85
      exact K0 σ x2 H locs ls (Option.some.inj hX) hW (lv_sub hl [0, 1, 2] rfl)
    have hX := br_n hX c85
    refine lv_aload_n C.1 C.2.1 dX12_enter_271 rfl (lv_at hl 1 rfl) ?_
    refine M_geta C hin hW 56 rfl (by decide) f56 dX12_enter_272 ?_
    refine lv_iload_n C.1 C.2.1 dX12_enter_275 rfl (lv_at hl 0 rfl) ?_
    refine lv_aload_n C.1 C.2.1 dX12_enter_276 rfl (lv_at hl 1 rfl) ?_
    refine M_geta C hin hW 56 rfl (by decide) f56 dX12_enter_277 ?_
    refine lv_aload_n C.1 C.2.1 dX12_enter_280 rfl (lv_at hl 1 rfl) ?_
    refine M_geta C hin hW 57 rfl (by decide) f57 dX12_enter_281 ?_
    refine lv_iload_n C.1 C.2.1 dX12_enter_284 rfl (lv_at hl 0 rfl) ?_
    obtain ⟨hi, hX⟩ := chkI_st hX
    refine M_ldI C hW 57 rfl hi dX12_enter_285 ?_
    obtain ⟨hi, hX⟩ := chkI_st hX
    refine M_ldI C hW 56 rfl hi dX12_enter_286 ?_
    obtain ⟨hi, hX⟩ := chkI_st hX
    refine M_stI C hW 56 rfl hi dX12_enter_287 (fun H locs σ86 eσ86 hW => ?_)
    have hX := nm_st hX eσ86
    refine lv_aload_n C.1 C.2.1 dX12_enter_288 rfl (lv_at hl 1 rfl) ?_
    refine M_geta C hin hW 57 rfl (by decide) f57 dX12_enter_289 ?_
    refine lv_iload_n C.1 C.2.1 dX12_enter_292 rfl (lv_at hl 0 rfl) ?_
    obtain ⟨hi, hX⟩ := chkI_st hX
    refine M_ldI C hW 57 rfl hi dX12_enter_293 ?_
    refine lv_topi (fun v87 ev87 => ?_)
    have hX := nm_st hX ev87
    refine lv_istore_n (lv' := [(2, .int v87), (0, .ref h), (1, .int x1)]) C.1 C.2.1 dX12_enter_294 rfl hl (by decide) rfl (fun ls hl => ?_)
    refine lv_goto (tgt := 267) C.1 C.2.1 dX12_enter_295 (by decide) ?_
    exact ih σ86 v87 x1 H locs ls X hX hW (lv_sub hl [0, 1, 2] rfl) K0
def M_enter (σ : St) (x1 : Int32) : Option (St) := bnd (M_enter_L2 100000 σ 0 x1) (fun q => nm2 q (fun σ9 v10 => chkI 0 73 (nm (s1 σ9 56 (0 : Int32).toNatClampNeg x1) (fun σ11 => bnd (M_enter_L39 100000 σ11 0 x1) (fun q => nm2 q (fun σ80 v81 => bnd (M_enter_L267 100000 σ80 v81 x1) (fun q => nm2 q (fun σ88 v89 => some σ88))))))))
set_option maxHeartbeats 4000000 in
set_option maxRecDepth 100000 in
theorem c_M_enter {Ev : EvT} (l : Launch) (D : va_G) (cs : Nat → ClassId) (h : Nat) (a : Nat → Nat) (σ : St) (x1 : Int32) (X : St) (hX : some X = M_enter σ x1) : cGv Ev l D (tyM cs) (wM h a cs) yX12_enter wsX12_enter rm_M_enter 0 0 [.ref h, .int x1] σ (fun u => u = X) := by
  refine G_inv (cc := cX12_enter) (maxL := 7) (ret := none) (by decide) rfl (Nat.le_of_ble_eq_true rfl) ?_
  intro p e s m below meth c A ls C hr hlk hini hA hW hl
  have C : Cx p s m _ c cX12_enter 7 wsX12_enter RX12 := C
  have hl : lv_has ls 7 [(0, .ref h), (1, .int x1)] := hl
  have hin : ∀ w ∈ wsX120, w ∈ wsX12_enter := fun w hw => List.mem_cons_of_mem _ (List.mem_append_right _ hw)
  have f52 : (Cond.fieldLink RX12 103 (TX12 52).1 (TX12 52).2.1 (TX12 52).2.2.1).before _ s = true := C.2.2.2.2 _ (List.mem_of_getElem? (i := 5) rfl)
  have f54 : (Cond.fieldLink RX12 109 (TX12 54).1 (TX12 54).2.1 (TX12 54).2.2.1).before _ s = true := C.2.2.2.2 _ (List.mem_of_getElem? (i := 6) rfl)
  have f55 : (Cond.fieldLink RX12 112 (TX12 55).1 (TX12 55).2.1 (TX12 55).2.2.1).before _ s = true := C.2.2.2.2 _ (List.mem_of_getElem? (i := 7) rfl)
  have f56 : (Cond.fieldLink RX12 115 (TX12 56).1 (TX12 56).2.1 (TX12 56).2.2.1).before _ s = true := C.2.2.2.2 _ (List.mem_of_getElem? (i := 4) rfl)
  have f57 : (Cond.fieldLink RX12 118 (TX12 57).1 (TX12 57).2.1 (TX12 57).2.2.1).before _ s = true := C.2.2.2.2 _ (List.mem_of_getElem? (i := 8) rfl)
  have f58 : (Cond.fieldLink RX12 121 (TX12 58).1 (TX12 58).2.1 (TX12 58).2.2.1).before _ s = true := C.2.2.2.2 _ (List.mem_of_getElem? (i := 1) rfl)
  have f60 : (Cond.fieldLink RX12 127 (TX12 60).1 (TX12 60).2.1 (TX12 60).2.2.1).before _ s = true := C.2.2.2.2 _ (List.mem_of_getElem? (i := 3) rfl)
  have k326 : (Cond.constant RX12 326 (100000000)).before _ s = true := C.2.2.2.2 _ (List.mem_of_getElem? (i := 2) rfl)
  obtain ⟨H, hH⟩ : ∃ H, H = s.heap := ⟨_, rfl⟩
  obtain ⟨locs, hlo⟩ : ∃ z : List Loc, z = [] := ⟨_, rfl⟩
  have hW : GW Ev D (tyM cs) (wM h a cs) A s σ H locs := by rw [hH, hlo]; exact hW
  rw [show W p l e rm_M_enter s m _ below meth c s.heap [] = W p l e rm_M_enter s m _ below meth c H locs from by rw [hH, hlo]]
  unfold M_enter at hX
  refine lv_iconst (v := 0) C.1 C.2.1 dX12_enter_0 (by decide) ?_
  refine lv_istore_n (lv' := [(2, .int 0), (0, .ref h), (1, .int x1)]) C.1 C.2.1 dX12_enter_1 rfl hl (by decide) rfl (fun ls hl => ?_)
  obtain ⟨q, hq, hX⟩ := bnd_st hX
  refine r_M_enter_L2 C 100000 σ 0 x1 H locs ls q hq.symm hW (lv_sub hl [0, 1, 2] rfl) ?_
  intro σ9 v10 H locs ls hq hW hl
  subst hq
  have hX := nm2_st hX rfl
  refine lv_aload_n C.1 C.2.1 dX12_enter_30 rfl (lv_at hl 1 rfl) ?_
  refine M_geta C hin hW 56 rfl (by decide) f56 dX12_enter_31 ?_
  refine lv_iconst (v := 0) C.1 C.2.1 dX12_enter_34 (by decide) ?_
  refine lv_iload_n C.1 C.2.1 dX12_enter_35 rfl (lv_at hl 2 rfl) ?_
  obtain ⟨hi, hX⟩ := chkI_st hX
  refine M_stI C hW 56 rfl hi dX12_enter_36 (fun H locs σ11 eσ11 hW => ?_)
  have hX := nm_st hX eσ11
  refine lv_iconst (v := 0) C.1 C.2.1 dX12_enter_37 (by decide) ?_
  refine lv_istore_n (lv' := [(2, .int 0), (0, .ref h), (1, .int x1)]) C.1 C.2.1 dX12_enter_38 rfl hl (by decide) rfl (fun ls hl => ?_)
  obtain ⟨q, hq, hX⟩ := bnd_st hX
  refine r_M_enter_L39 C 100000 σ11 0 x1 H locs ls q hq.symm hW (lv_sub hl [0, 1, 2] rfl) ?_
  intro σ80 v81 H locs ls hq hW hl
  subst hq
  have hX := nm2_st hX rfl
  obtain ⟨q, hq, hX⟩ := bnd_st hX
  refine r_M_enter_L267 C 100000 σ80 v81 x1 H locs ls q hq.symm hW (lv_sub hl [0, 1, 2] rfl) ?_
  intro σ88 v89 H locs ls hq hW hl
  subst hq
  have hX := nm2_st hX rfl
  exact G_retv C hr hlk hA hW (Option.some.inj hX).symm dX12_enter_298
abbrev rm_M_solve : Room := { frames := 1, cells := 0, slots := 0, locals := 26 }
def M_solve_L2 : Nat → St → Int32 → Int32 → Option (St × Int32)
  | 0, _, _, _ => none
  | n + 1, σ, x2, x1 => if 9 ≤ x2 then some (σ, x2) else chkI x2 9 (nm (s1 σ 54 x2.toNatClampNeg 0) (fun σ5 => nm (x2 + 1) (fun v6 => M_solve_L2 n σ5 v6 x1)))
set_option maxHeartbeats 4000000 in
set_option maxRecDepth 100000 in
theorem r_M_solve_L2 {p : Program} {l : Launch} {e : Env} {s : State} {m : MethodId} {args : Array Value} {below : List Frame} {meth : Method} {c : Code} {Q : State → Prop} {Ev : EvT} {D : va_G} {cs : Nat → ClassId} {h : Nat} {a : Nat → Nat} {A : Nat → Prop} (C : Cx p s m args c cX12_solve 4 wsX12_solve RX12) : ∀ (n : Nat) (σ : St) (x2 : Int32) (x1 : Int32) (H : Heap) (locs : List Loc) (ls : Array Slot) (X : St × Int32), some X = M_solve_L2 n σ x2 x1 → GW Ev D (tyM cs) (wM h a cs) A s σ H locs → lv_has ls 4 [(2, .int x2), (0, .ref h), (1, .int x1)] → (∀ (τ : St) (z2 : Int32) (H : Heap) (locs : List Loc) (ls : Array Slot), X = (τ, z2) → GW Ev D (tyM cs) (wM h a cs) A s τ H locs → lv_has ls 4 [(2, .int z2), (0, .ref h), (1, .int x1)] → W p l e rm_M_solve s m args below meth c H locs 0 0 Q (F0 m 21 ls [])) → W p l e rm_M_solve s m args below meth c H locs 0 0 Q (F0 m 2 ls []) := by
  have hin : ∀ w ∈ wsX120, w ∈ wsX12_solve := fun w hw => List.mem_cons_of_mem _ (List.mem_append_right _ hw)
  have f54 : (Cond.fieldLink RX12 109 (TX12 54).1 (TX12 54).2.1 (TX12 54).2.2.1).before _ s = true := C.2.2.2.2 _ (List.mem_of_getElem? (i := 1) rfl)
  intro n
  induction n with
  | zero =>
    intro σ x2 x1 H locs ls X hX hW hl K0
    cases hX
  | succ n ih =>
    intro σ x2 x1 H locs ls X hX hW hl K0
    unfold M_solve_L2 at hX
    refine lv_iload_n C.1 C.2.1 dX12_solve_2 rfl (lv_at hl 0 rfl) ?_
    refine lv_bipush (v := 9) C.1 C.2.1 dX12_solve_3 (by decide) ?_
    refine lv_icmp_ge (tgt := 21) C.1 C.2.1 dX12_solve_5 (by decide) (fun c4 => ?_) (fun c4 => ?_)
    · have hX := br_p hX c4
      exact K0 σ x2 H locs ls (Option.some.inj hX) hW (lv_sub hl [0, 1, 2] rfl)
    have hX := br_n hX c4
    refine lv_aload_n C.1 C.2.1 dX12_solve_8 rfl (lv_at hl 1 rfl) ?_
    refine M_geta C hin hW 54 rfl (by decide) f54 dX12_solve_9 ?_
    refine lv_iload_n C.1 C.2.1 dX12_solve_12 rfl (lv_at hl 0 rfl) ?_
    refine lv_iconst (v := 0) C.1 C.2.1 dX12_solve_13 (by decide) ?_
    obtain ⟨hi, hX⟩ := chkI_st hX
    refine M_stI C hW 54 rfl hi dX12_solve_14 (fun H locs σ5 eσ5 hW => ?_)
    have hX := nm_st hX eσ5
    obtain ⟨v6, ev6⟩ : ∃ z : Int32, z = x2 + 1 := ⟨_, rfl⟩
    have hX := nm_st hX ev6
    refine lv_iinc (v := v6) (lv' := [(2, .int v6), (0, .ref h), (1, .int x1)]) C.1 C.2.1 dX12_solve_15 hl (k := 0) rfl (by rw [ev6]; rfl) (by decide) rfl (fun ls hl => ?_)
    refine lv_goto (tgt := 2) C.1 C.2.1 dX12_solve_18 (by decide) ?_
    exact ih σ5 v6 x1 H locs ls X hX hW (lv_sub hl [0, 1, 2] rfl) K0
def M_solve_L23 : Nat → St → Int32 → Int32 → Option (St × Int32)
  | 0, _, _, _ => none
  | n + 1, σ, x2, x1 => if 72 < x2 then some (σ, x2) else chkI x2 73 (nm (s1 σ 55 x2.toNatClampNeg 0) (fun σ14 => chkI x2 73 (nm (s1 σ14 56 x2.toNatClampNeg 0) (fun σ15 => nm (x2 + 1) (fun v16 => M_solve_L23 n σ15 v16 x1)))))
set_option maxHeartbeats 4000000 in
set_option maxRecDepth 100000 in
theorem r_M_solve_L23 {p : Program} {l : Launch} {e : Env} {s : State} {m : MethodId} {args : Array Value} {below : List Frame} {meth : Method} {c : Code} {Q : State → Prop} {Ev : EvT} {D : va_G} {cs : Nat → ClassId} {h : Nat} {a : Nat → Nat} {A : Nat → Prop} (C : Cx p s m args c cX12_solve 4 wsX12_solve RX12) : ∀ (n : Nat) (σ : St) (x2 : Int32) (x1 : Int32) (H : Heap) (locs : List Loc) (ls : Array Slot) (X : St × Int32), some X = M_solve_L23 n σ x2 x1 → GW Ev D (tyM cs) (wM h a cs) A s σ H locs → lv_has ls 4 [(2, .int x2), (0, .ref h), (1, .int x1)] → (∀ (τ : St) (z2 : Int32) (H : Heap) (locs : List Loc) (ls : Array Slot), X = (τ, z2) → GW Ev D (tyM cs) (wM h a cs) A s τ H locs → lv_has ls 4 [(2, .int z2), (0, .ref h), (1, .int x1)] → W p l e rm_M_solve s m args below meth c H locs 0 0 Q (F0 m 49 ls [])) → W p l e rm_M_solve s m args below meth c H locs 0 0 Q (F0 m 23 ls []) := by
  have hin : ∀ w ∈ wsX120, w ∈ wsX12_solve := fun w hw => List.mem_cons_of_mem _ (List.mem_append_right _ hw)
  have f54 : (Cond.fieldLink RX12 109 (TX12 54).1 (TX12 54).2.1 (TX12 54).2.2.1).before _ s = true := C.2.2.2.2 _ (List.mem_of_getElem? (i := 1) rfl)
  have f55 : (Cond.fieldLink RX12 112 (TX12 55).1 (TX12 55).2.1 (TX12 55).2.2.1).before _ s = true := C.2.2.2.2 _ (List.mem_of_getElem? (i := 2) rfl)
  have f56 : (Cond.fieldLink RX12 115 (TX12 56).1 (TX12 56).2.1 (TX12 56).2.2.1).before _ s = true := C.2.2.2.2 _ (List.mem_of_getElem? (i := 3) rfl)
  intro n
  induction n with
  | zero =>
    intro σ x2 x1 H locs ls X hX hW hl K0
    cases hX
  | succ n ih =>
    intro σ x2 x1 H locs ls X hX hW hl K0
    unfold M_solve_L23 at hX
    refine lv_iload_n C.1 C.2.1 dX12_solve_23 rfl (lv_at hl 0 rfl) ?_
    refine lv_bipush (v := 72) C.1 C.2.1 dX12_solve_24 (by decide) ?_
    refine lv_icmp_gt (tgt := 49) C.1 C.2.1 dX12_solve_26 (by decide) (fun c13 => ?_) (fun c13 => ?_)
    · have hX := br_p hX c13
      exact K0 σ x2 H locs ls (Option.some.inj hX) hW (lv_sub hl [0, 1, 2] rfl)
    have hX := br_n hX c13
    refine lv_aload_n C.1 C.2.1 dX12_solve_29 rfl (lv_at hl 1 rfl) ?_
    refine M_geta C hin hW 55 rfl (by decide) f55 dX12_solve_30 ?_
    refine lv_iload_n C.1 C.2.1 dX12_solve_33 rfl (lv_at hl 0 rfl) ?_
    refine lv_iconst (v := 0) C.1 C.2.1 dX12_solve_34 (by decide) ?_
    obtain ⟨hi, hX⟩ := chkI_st hX
    refine M_stI C hW 55 rfl hi dX12_solve_35 (fun H locs σ14 eσ14 hW => ?_)
    have hX := nm_st hX eσ14
    refine lv_aload_n C.1 C.2.1 dX12_solve_36 rfl (lv_at hl 1 rfl) ?_
    refine M_geta C hin hW 56 rfl (by decide) f56 dX12_solve_37 ?_
    refine lv_iload_n C.1 C.2.1 dX12_solve_40 rfl (lv_at hl 0 rfl) ?_
    refine lv_iconst (v := 0) C.1 C.2.1 dX12_solve_41 (by decide) ?_
    obtain ⟨hi, hX⟩ := chkI_st hX
    refine M_stI C hW 56 rfl hi dX12_solve_42 (fun H locs σ15 eσ15 hW => ?_)
    have hX := nm_st hX eσ15
    obtain ⟨v16, ev16⟩ : ∃ z : Int32, z = x2 + 1 := ⟨_, rfl⟩
    have hX := nm_st hX ev16
    refine lv_iinc (v := v16) (lv' := [(2, .int v16), (0, .ref h), (1, .int x1)]) C.1 C.2.1 dX12_solve_43 hl (k := 0) rfl (by rw [ev16]; rfl) (by decide) rfl (fun ls hl => ?_)
    refine lv_goto (tgt := 23) C.1 C.2.1 dX12_solve_46 (by decide) ?_
    exact ih σ15 v16 x1 H locs ls X hX hW (lv_sub hl [0, 1, 2] rfl) K0
def M_solve_L51 : Nat → St → Int32 → Int32 → Option (St × Int32)
  | 0, _, _, _ => none
  | n + 1, σ, x2, x1 => if x1 < x2 then some (σ, x2) else bnd (M_enter σ x2) (fun σ23 => nm (x2 + 1) (fun v24 => M_solve_L51 n σ23 v24 x1))
set_option maxHeartbeats 4000000 in
set_option maxRecDepth 100000 in
theorem r_M_solve_L51 {p : Program} {l : Launch} {e : Env} {s : State} {m : MethodId} {args : Array Value} {below : List Frame} {meth : Method} {c : Code} {Q : State → Prop} {Ev : EvT} {D : va_G} {cs : Nat → ClassId} {h : Nat} {a : Nat → Nat} {A : Nat → Prop} (C : Cx p s m args c cX12_solve 4 wsX12_solve RX12) : ∀ (n : Nat) (σ : St) (x2 : Int32) (x1 : Int32) (H : Heap) (locs : List Loc) (ls : Array Slot) (X : St × Int32), some X = M_solve_L51 n σ x2 x1 → GW Ev D (tyM cs) (wM h a cs) A s σ H locs → lv_has ls 4 [(2, .int x2), (0, .ref h), (1, .int x1)] → (∀ (τ : St) (z2 : Int32) (H : Heap) (locs : List Loc) (ls : Array Slot), X = (τ, z2) → GW Ev D (tyM cs) (wM h a cs) A s τ H locs → lv_has ls 4 [(2, .int z2), (0, .ref h), (1, .int x1)] → W p l e rm_M_solve s m args below meth c H locs 0 0 Q (F0 m 67 ls [])) → W p l e rm_M_solve s m args below meth c H locs 0 0 Q (F0 m 51 ls []) := by
  have hin : ∀ w ∈ wsX120, w ∈ wsX12_solve := fun w hw => List.mem_cons_of_mem _ (List.mem_append_right _ hw)
  have f54 : (Cond.fieldLink RX12 109 (TX12 54).1 (TX12 54).2.1 (TX12 54).2.2.1).before _ s = true := C.2.2.2.2 _ (List.mem_of_getElem? (i := 1) rfl)
  have f55 : (Cond.fieldLink RX12 112 (TX12 55).1 (TX12 55).2.1 (TX12 55).2.2.1).before _ s = true := C.2.2.2.2 _ (List.mem_of_getElem? (i := 2) rfl)
  have f56 : (Cond.fieldLink RX12 115 (TX12 56).1 (TX12 56).2.1 (TX12 56).2.2.1).before _ s = true := C.2.2.2.2 _ (List.mem_of_getElem? (i := 3) rfl)
  intro n
  induction n with
  | zero =>
    intro σ x2 x1 H locs ls X hX hW hl K0
    cases hX
  | succ n ih =>
    intro σ x2 x1 H locs ls X hX hW hl K0
    unfold M_solve_L51 at hX
    refine lv_iload_n C.1 C.2.1 dX12_solve_51 rfl (lv_at hl 0 rfl) ?_
    refine lv_iload_n C.1 C.2.1 dX12_solve_52 rfl (lv_at hl 2 rfl) ?_
    refine lv_icmp_gt (tgt := 67) C.1 C.2.1 dX12_solve_53 (by decide) (fun c22 => ?_) (fun c22 => ?_)
    · have hX := br_p hX c22
      exact K0 σ x2 H locs ls (Option.some.inj hX) hW (lv_sub hl [0, 1, 2] rfl)
    have hX := br_n hX c22
    refine lv_aload_n C.1 C.2.1 dX12_solve_56 rfl (lv_at hl 1 rfl) ?_
    refine lv_iload_n C.1 C.2.1 dX12_solve_57 rfl (lv_at hl 0 rfl) ?_
    obtain ⟨σ23, hq, hX⟩ := bnd_st hX
    refine G_V0u (As := [.int x2]) (rest := []) C hW (c_M_enter l D cs h a σ x2 σ23 hq.symm) (cwV 1 C.2.2.2.2 gX12_solve_X12_enter rfl rfl rfl (by decide +kernel) ⟨Nat.le_of_ble_eq_true rfl, Nat.le_of_ble_eq_true rfl⟩) (M_recv hW) rfl hl.1 rfl (Nat.le_of_ble_eq_true rfl) dX12_solve_58 (fun H locs hW => ?_)
    obtain ⟨v24, ev24⟩ : ∃ z : Int32, z = x2 + 1 := ⟨_, rfl⟩
    have hX := nm_st hX ev24
    refine lv_iinc (v := v24) (lv' := [(2, .int v24), (0, .ref h), (1, .int x1)]) C.1 C.2.1 dX12_solve_61 hl (k := 0) rfl (by rw [ev24]; rfl) (by decide) rfl (fun ls hl => ?_)
    refine lv_goto (tgt := 51) C.1 C.2.1 dX12_solve_64 (by decide) ?_
    exact ih σ23 v24 x1 H locs ls X hX hW (lv_sub hl [0, 1, 2] rfl) K0
def M_solve_L71 : Nat → St → Int32 → Int32 → Int32 → Option (Int32 × Int32)
  | 0, _, _, _, _ => none
  | n + 1, σ, x3, x2, x1 => if 72 < x3 then some (x3, x2) else chkI x3 73 (if (σ.1 56 x3.toNatClampNeg) ≤ 0 then nm (x3 + 1) (fun v34 => M_solve_L71 n σ v34 x2 x1) else chkI x3 73 (chkI (((72 * ((σ.1 56 x3.toNatClampNeg) - 1)) + x3) - 1) 576 (nm (x2 + (σ.1 52 (((72 * ((σ.1 56 x3.toNatClampNeg) - 1)) + x3) - 1).toNatClampNeg)) (fun v35 => nm (x3 + 1) (fun v36 => M_solve_L71 n σ v36 v35 x1)))))
set_option maxHeartbeats 4000000 in
set_option maxRecDepth 100000 in
theorem r_M_solve_L71 {p : Program} {l : Launch} {e : Env} {s : State} {m : MethodId} {args : Array Value} {below : List Frame} {meth : Method} {c : Code} {Q : State → Prop} {Ev : EvT} {D : va_G} {cs : Nat → ClassId} {h : Nat} {a : Nat → Nat} {A : Nat → Prop} (C : Cx p s m args c cX12_solve 4 wsX12_solve RX12) : ∀ (n : Nat) (σ : St) (x3 : Int32) (x2 : Int32) (x1 : Int32) (H : Heap) (locs : List Loc) (ls : Array Slot) (X : Int32 × Int32), some X = M_solve_L71 n σ x3 x2 x1 → GW Ev D (tyM cs) (wM h a cs) A s σ H locs → lv_has ls 4 [(3, .int x3), (2, .int x2), (0, .ref h), (1, .int x1)] → (∀ (z3 : Int32) (z2 : Int32) (H : Heap) (locs : List Loc) (ls : Array Slot), X = (z3, z2) → GW Ev D (tyM cs) (wM h a cs) A s σ H locs → lv_has ls 4 [(3, .int z3), (2, .int z2), (0, .ref h), (1, .int x1)] → W p l e rm_M_solve s m args below meth c H locs 0 0 Q (F0 m 115 ls [])) → W p l e rm_M_solve s m args below meth c H locs 0 0 Q (F0 m 71 ls []) := by
  have hin : ∀ w ∈ wsX120, w ∈ wsX12_solve := fun w hw => List.mem_cons_of_mem _ (List.mem_append_right _ hw)
  have f52 : (Cond.fieldLink RX12 103 (TX12 52).1 (TX12 52).2.1 (TX12 52).2.2.1).before _ s = true := C.2.2.2.2 _ (List.mem_of_getElem? (i := 4) rfl)
  have f54 : (Cond.fieldLink RX12 109 (TX12 54).1 (TX12 54).2.1 (TX12 54).2.2.1).before _ s = true := C.2.2.2.2 _ (List.mem_of_getElem? (i := 1) rfl)
  have f55 : (Cond.fieldLink RX12 112 (TX12 55).1 (TX12 55).2.1 (TX12 55).2.2.1).before _ s = true := C.2.2.2.2 _ (List.mem_of_getElem? (i := 2) rfl)
  have f56 : (Cond.fieldLink RX12 115 (TX12 56).1 (TX12 56).2.1 (TX12 56).2.2.1).before _ s = true := C.2.2.2.2 _ (List.mem_of_getElem? (i := 3) rfl)
  intro n
  induction n with
  | zero =>
    intro σ x3 x2 x1 H locs ls X hX hW hl K0
    cases hX
  | succ n ih =>
    intro σ x3 x2 x1 H locs ls X hX hW hl K0
    unfold M_solve_L71 at hX
    refine lv_iload_n C.1 C.2.1 dX12_solve_71 rfl (lv_at hl 0 rfl) ?_
    refine lv_bipush (v := 72) C.1 C.2.1 dX12_solve_72 (by decide) ?_
    refine lv_icmp_gt (tgt := 115) C.1 C.2.1 dX12_solve_74 (by decide) (fun c32 => ?_) (fun c32 => ?_)
    · have hX := br_p hX c32
      exact K0 x3 x2 H locs ls (Option.some.inj hX) hW (lv_sub hl [0, 1, 2, 3] rfl)
    have hX := br_n hX c32
    refine lv_aload_n C.1 C.2.1 dX12_solve_77 rfl (lv_at hl 2 rfl) ?_
    refine M_geta C hin hW 56 rfl (by decide) f56 dX12_solve_78 ?_
    refine lv_iload_n C.1 C.2.1 dX12_solve_81 rfl (lv_at hl 0 rfl) ?_
    obtain ⟨hi, hX⟩ := chkI_st hX
    refine M_ldI C hW 56 rfl hi dX12_solve_82 ?_
    refine lv_if_le (tgt := 109) C.1 C.2.1 dX12_solve_83 (by decide) (fun c33 => ?_) (fun c33 => ?_)
    · have hX := br_p hX c33
      obtain ⟨v34, ev34⟩ : ∃ z : Int32, z = x3 + 1 := ⟨_, rfl⟩
      have hX := nm_st hX ev34
      refine lv_iinc (v := v34) (lv' := [(3, .int v34), (2, .int x2), (0, .ref h), (1, .int x1)]) C.1 C.2.1 dX12_solve_109 hl (k := 0) rfl (by rw [ev34]; rfl) (by decide) rfl (fun ls hl => ?_)
      refine lv_goto (tgt := 71) C.1 C.2.1 dX12_solve_112 (by decide) ?_
      exact ih σ v34 x2 x1 H locs ls X hX hW (lv_sub hl [0, 1, 2, 3] rfl) K0
    have hX := br_n hX c33
    refine lv_iload_n C.1 C.2.1 dX12_solve_86 rfl (lv_at hl 1 rfl) ?_
    refine lv_aload_n C.1 C.2.1 dX12_solve_87 rfl (lv_at hl 2 rfl) ?_
    refine M_geta C hin hW 52 rfl (by decide) f52 dX12_solve_88 ?_
    refine lv_bipush (v := 72) C.1 C.2.1 dX12_solve_91 (by decide) ?_
    refine lv_aload_n C.1 C.2.1 dX12_solve_93 rfl (lv_at hl 2 rfl) ?_
    refine M_geta C hin hW 56 rfl (by decide) f56 dX12_solve_94 ?_
    refine lv_iload_n C.1 C.2.1 dX12_solve_97 rfl (lv_at hl 0 rfl) ?_
    obtain ⟨hi, hX⟩ := chkI_st hX
    refine M_ldI C hW 56 rfl hi dX12_solve_98 ?_
    refine lv_iconst (v := 1) C.1 C.2.1 dX12_solve_99 (by decide) ?_
    refine lv_isub C.1 C.2.1 dX12_solve_100 ?_
    refine lv_imul C.1 C.2.1 dX12_solve_101 ?_
    refine lv_iload_n C.1 C.2.1 dX12_solve_102 rfl (lv_at hl 0 rfl) ?_
    refine lv_iadd C.1 C.2.1 dX12_solve_103 ?_
    refine lv_iconst (v := 1) C.1 C.2.1 dX12_solve_104 (by decide) ?_
    refine lv_isub C.1 C.2.1 dX12_solve_105 ?_
    obtain ⟨hi, hX⟩ := chkI_st hX
    refine M_ldI C hW 52 rfl hi dX12_solve_106 ?_
    refine lv_iadd C.1 C.2.1 dX12_solve_107 ?_
    refine lv_topi (fun v35 ev35 => ?_)
    have hX := nm_st hX ev35
    refine lv_istore_n (lv' := [(2, .int v35), (3, .int x3), (0, .ref h), (1, .int x1)]) C.1 C.2.1 dX12_solve_108 rfl hl (by decide) rfl (fun ls hl => ?_)
    obtain ⟨v36, ev36⟩ : ∃ z : Int32, z = x3 + 1 := ⟨_, rfl⟩
    have hX := nm_st hX ev36
    refine lv_iinc (v := v36) (lv' := [(3, .int v36), (2, .int v35), (0, .ref h), (1, .int x1)]) C.1 C.2.1 dX12_solve_109 hl (k := 1) rfl (by rw [ev36]; rfl) (by decide) rfl (fun ls hl => ?_)
    refine lv_goto (tgt := 71) C.1 C.2.1 dX12_solve_112 (by decide) ?_
    exact ih σ v36 v35 x1 H locs ls X hX hW (lv_sub hl [0, 1, 2, 3] rfl) K0
def M_solve (σ : St) (x1 : Int32) : Option (Int32 × St) := bnd (M_solve_L2 100000 σ 0 x1) (fun q => nm2 q (fun σ7 v8 => bnd (M_solve_L23 100000 σ7 0 x1) (fun q => nm2 q (fun σ17 v18 => bnd (M_solve_L51 100000 σ17 1 x1) (fun q => nm2 q (fun σ25 v26 => bnd (M_solve_L71 100000 σ25 1 0 x1) (fun q => nm2 q (fun v37 v38 => some (v38, σ25)))))))))
set_option maxHeartbeats 4000000 in
set_option maxRecDepth 100000 in
theorem c_M_solve {Ev : EvT} (l : Launch) (D : va_G) (cs : Nat → ClassId) (h : Nat) (a : Nat → Nat) (σ : St) (x1 : Int32) (X : Int32 × St) (hX : some X = M_solve σ x1) : cGi Ev l D (tyM cs) (wM h a cs) yX12_solve wsX12_solve rm_M_solve 0 0 [.ref h, .int x1] σ (fun r u => (r, u) = X) := by
  refine G_ini (cc := cX12_solve) (maxL := 4) (ret := some .int) (by decide) rfl (Nat.le_of_ble_eq_true rfl) ?_
  intro p e s m below meth c A ls C hr hlk hini hA hW hl
  have C : Cx p s m _ c cX12_solve 4 wsX12_solve RX12 := C
  have hl : lv_has ls 4 [(0, .ref h), (1, .int x1)] := hl
  have hin : ∀ w ∈ wsX120, w ∈ wsX12_solve := fun w hw => List.mem_cons_of_mem _ (List.mem_append_right _ hw)
  have f52 : (Cond.fieldLink RX12 103 (TX12 52).1 (TX12 52).2.1 (TX12 52).2.2.1).before _ s = true := C.2.2.2.2 _ (List.mem_of_getElem? (i := 4) rfl)
  have f54 : (Cond.fieldLink RX12 109 (TX12 54).1 (TX12 54).2.1 (TX12 54).2.2.1).before _ s = true := C.2.2.2.2 _ (List.mem_of_getElem? (i := 1) rfl)
  have f55 : (Cond.fieldLink RX12 112 (TX12 55).1 (TX12 55).2.1 (TX12 55).2.2.1).before _ s = true := C.2.2.2.2 _ (List.mem_of_getElem? (i := 2) rfl)
  have f56 : (Cond.fieldLink RX12 115 (TX12 56).1 (TX12 56).2.1 (TX12 56).2.2.1).before _ s = true := C.2.2.2.2 _ (List.mem_of_getElem? (i := 3) rfl)
  obtain ⟨H, hH⟩ : ∃ H, H = s.heap := ⟨_, rfl⟩
  obtain ⟨locs, hlo⟩ : ∃ z : List Loc, z = [] := ⟨_, rfl⟩
  have hW : GW Ev D (tyM cs) (wM h a cs) A s σ H locs := by rw [hH, hlo]; exact hW
  rw [show W p l e rm_M_solve s m _ below meth c s.heap [] = W p l e rm_M_solve s m _ below meth c H locs from by rw [hH, hlo]]
  unfold M_solve at hX
  refine lv_iconst (v := 0) C.1 C.2.1 dX12_solve_0 (by decide) ?_
  refine lv_istore_n (lv' := [(2, .int 0), (0, .ref h), (1, .int x1)]) C.1 C.2.1 dX12_solve_1 rfl hl (by decide) rfl (fun ls hl => ?_)
  obtain ⟨q, hq, hX⟩ := bnd_st hX
  refine r_M_solve_L2 C 100000 σ 0 x1 H locs ls q hq.symm hW (lv_sub hl [0, 1, 2] rfl) ?_
  intro σ7 v8 H locs ls hq hW hl
  subst hq
  have hX := nm2_st hX rfl
  refine lv_iconst (v := 0) C.1 C.2.1 dX12_solve_21 (by decide) ?_
  refine lv_istore_n (lv' := [(2, .int 0), (0, .ref h), (1, .int x1)]) C.1 C.2.1 dX12_solve_22 rfl hl (by decide) rfl (fun ls hl => ?_)
  obtain ⟨q, hq, hX⟩ := bnd_st hX
  refine r_M_solve_L23 C 100000 σ7 0 x1 H locs ls q hq.symm hW (lv_sub hl [0, 1, 2] rfl) ?_
  intro σ17 v18 H locs ls hq hW hl
  subst hq
  have hX := nm2_st hX rfl
  refine lv_iconst (v := 1) C.1 C.2.1 dX12_solve_49 (by decide) ?_
  refine lv_istore_n (lv' := [(2, .int 1), (0, .ref h), (1, .int x1)]) C.1 C.2.1 dX12_solve_50 rfl hl (by decide) rfl (fun ls hl => ?_)
  obtain ⟨q, hq, hX⟩ := bnd_st hX
  refine r_M_solve_L51 C 100000 σ17 1 x1 H locs ls q hq.symm hW (lv_sub hl [0, 1, 2] rfl) ?_
  intro σ25 v26 H locs ls hq hW hl
  subst hq
  have hX := nm2_st hX rfl
  refine lv_iconst (v := 0) C.1 C.2.1 dX12_solve_67 (by decide) ?_
  refine lv_istore_n (lv' := [(2, .int 0), (0, .ref h), (1, .int x1)]) C.1 C.2.1 dX12_solve_68 rfl hl (by decide) rfl (fun ls hl => ?_)
  refine lv_iconst (v := 1) C.1 C.2.1 dX12_solve_69 (by decide) ?_
  refine lv_istore_n (lv' := [(3, .int 1), (2, .int 0), (0, .ref h), (1, .int x1)]) C.1 C.2.1 dX12_solve_70 rfl hl (by decide) rfl (fun ls hl => ?_)
  obtain ⟨q, hq, hX⟩ := bnd_st hX
  refine r_M_solve_L71 C 100000 σ25 1 0 x1 H locs ls q hq.symm hW (lv_sub hl [0, 1, 2, 3] rfl) ?_
  intro v37 v38 H locs ls hq hW hl
  subst hq
  have hX := nm2_st hX rfl
  refine lv_iload_n C.1 C.2.1 dX12_solve_115 rfl (lv_at hl 1 rfl) ?_
  exact G_reti C hr hlk hA hW (Option.some.inj hX).symm dX12_solve_116
