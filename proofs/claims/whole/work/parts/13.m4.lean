abbrev rm_M_rule : Room := { frames := 2, cells := 0, slots := 0, locals := 44 }
def M_rule_B0 (σ : St) : Option (Int32) := bnd (M_isWord σ 6383461) (fun v17 => if v17 = 0 then bnd (M_isWord σ 114801865155950) (fun v20 => if v20 = 0 then bnd (M_isWord σ 482956242790) (fun v23 => if v23 = 0 then bnd (M_isWord σ 1684109683) (fun v26 => if v26 = 0 then bnd (M_isWord σ 431366693492) (fun v29 => if v29 = 0 then some (-1) else some 4) else some 3) else some 2) else some 1) else some 0)
set_option maxHeartbeats 4000000 in
set_option maxRecDepth 100000 in
theorem r_M_rule_B0 {p : Program} {l : Launch} {e : Env} {s : State} {m : MethodId} {args : Array Value} {below : List Frame} {meth : Method} {c : Code} {Q : State → Prop} {Ev : EvT} {D : va_G} {cs : Nat → ClassId} {h : Nat} {a : Nat → Nat} {A : Nat → Prop} (C : Cx p s m args c cX12_rule 3 wsX12_rule RX12) : ∀ (σ : St) (H : Heap) (locs : List Loc) (ls : Array Slot) (X : Int32), some X = M_rule_B0 σ → GW Ev D (tyM cs) (wM h a cs) A s σ H locs → lv_has ls 3 [(0, .ref h)] → (∀ (w0 : Int32) (H : Heap) (locs : List Loc) (ls : Array Slot), X = w0 → GW Ev D (tyM cs) (wM h a cs) A s σ H locs → lv_has ls 3 [(0, .ref h)] → W p l e rm_M_rule s m args below meth c H locs 0 0 Q (F0 m 71 ls [.int w0])) → W p l e rm_M_rule s m args below meth c H locs 0 0 Q (F0 m 0 ls []) := by
  have hin : ∀ w ∈ wsX120, w ∈ wsX12_rule := fun w hw => List.mem_cons_of_mem _ (List.mem_append_right _ hw)
  have k250 : (Cond.constantLong RX12 250 (6383461)).before _ s = true := C.2.2.2.2 _ (List.mem_of_getElem? (i := 1) rfl)
  have k256 : (Cond.constantLong RX12 256 (114801865155950)).before _ s = true := C.2.2.2.2 _ (List.mem_of_getElem? (i := 2) rfl)
  have k258 : (Cond.constantLong RX12 258 (482956242790)).before _ s = true := C.2.2.2.2 _ (List.mem_of_getElem? (i := 3) rfl)
  have k260 : (Cond.constantLong RX12 260 (1684109683)).before _ s = true := C.2.2.2.2 _ (List.mem_of_getElem? (i := 4) rfl)
  have k262 : (Cond.constantLong RX12 262 (431366693492)).before _ s = true := C.2.2.2.2 _ (List.mem_of_getElem? (i := 5) rfl)
  intro σ  H locs ls X hX hW hl K0
  unfold M_rule_B0 at hX
  refine lv_aload_n C.1 C.2.1 dX12_rule_0 rfl (lv_at hl 0 rfl) ?_
  refine lv_ldc2 (v := 6383461) C.1 C.2.1 C.2.2.2.1 k250 dX12_rule_1 ?_
  obtain ⟨v17, hq, hX⟩ := bnd_st hX
  refine G_V0p (As := [.long 6383461]) (rest := []) C hW (c_M_isWord l D cs h a σ 6383461 v17 hq.symm) (cwV 1 C.2.2.2.2 gX12_rule_X12_isWord rfl rfl rfl (by decide +kernel) ⟨Nat.le_of_ble_eq_true rfl, Nat.le_of_ble_eq_true rfl⟩) (M_recv hW) rfl hl.1 rfl (Nat.le_of_ble_eq_true rfl) dX12_rule_4 (fun H locs hW => ?_)
  refine lv_if_eq (tgt := 14) C.1 C.2.1 dX12_rule_7 (by decide) (fun c18 => ?_) (fun c18 => ?_)
  · have hX := br_p hX c18
    refine lv_aload_n C.1 C.2.1 dX12_rule_14 rfl (lv_at hl 0 rfl) ?_
    refine lv_ldc2 (v := 114801865155950) C.1 C.2.1 C.2.2.2.1 k256 dX12_rule_15 ?_
    obtain ⟨v20, hq, hX⟩ := bnd_st hX
    refine G_V0p (As := [.long 114801865155950]) (rest := []) C hW (c_M_isWord l D cs h a σ 114801865155950 v20 hq.symm) (cwV 1 C.2.2.2.2 gX12_rule_X12_isWord rfl rfl rfl (by decide +kernel) ⟨Nat.le_of_ble_eq_true rfl, Nat.le_of_ble_eq_true rfl⟩) (M_recv hW) rfl hl.1 rfl (Nat.le_of_ble_eq_true rfl) dX12_rule_18 (fun H locs hW => ?_)
    refine lv_if_eq (tgt := 28) C.1 C.2.1 dX12_rule_21 (by decide) (fun c21 => ?_) (fun c21 => ?_)
    · have hX := br_p hX c21
      refine lv_aload_n C.1 C.2.1 dX12_rule_28 rfl (lv_at hl 0 rfl) ?_
      refine lv_ldc2 (v := 482956242790) C.1 C.2.1 C.2.2.2.1 k258 dX12_rule_29 ?_
      obtain ⟨v23, hq, hX⟩ := bnd_st hX
      refine G_V0p (As := [.long 482956242790]) (rest := []) C hW (c_M_isWord l D cs h a σ 482956242790 v23 hq.symm) (cwV 1 C.2.2.2.2 gX12_rule_X12_isWord rfl rfl rfl (by decide +kernel) ⟨Nat.le_of_ble_eq_true rfl, Nat.le_of_ble_eq_true rfl⟩) (M_recv hW) rfl hl.1 rfl (Nat.le_of_ble_eq_true rfl) dX12_rule_32 (fun H locs hW => ?_)
      refine lv_if_eq (tgt := 42) C.1 C.2.1 dX12_rule_35 (by decide) (fun c24 => ?_) (fun c24 => ?_)
      · have hX := br_p hX c24
        refine lv_aload_n C.1 C.2.1 dX12_rule_42 rfl (lv_at hl 0 rfl) ?_
        refine lv_ldc2 (v := 1684109683) C.1 C.2.1 C.2.2.2.1 k260 dX12_rule_43 ?_
        obtain ⟨v26, hq, hX⟩ := bnd_st hX
        refine G_V0p (As := [.long 1684109683]) (rest := []) C hW (c_M_isWord l D cs h a σ 1684109683 v26 hq.symm) (cwV 1 C.2.2.2.2 gX12_rule_X12_isWord rfl rfl rfl (by decide +kernel) ⟨Nat.le_of_ble_eq_true rfl, Nat.le_of_ble_eq_true rfl⟩) (M_recv hW) rfl hl.1 rfl (Nat.le_of_ble_eq_true rfl) dX12_rule_46 (fun H locs hW => ?_)
        refine lv_if_eq (tgt := 56) C.1 C.2.1 dX12_rule_49 (by decide) (fun c27 => ?_) (fun c27 => ?_)
        · have hX := br_p hX c27
          refine lv_aload_n C.1 C.2.1 dX12_rule_56 rfl (lv_at hl 0 rfl) ?_
          refine lv_ldc2 (v := 431366693492) C.1 C.2.1 C.2.2.2.1 k262 dX12_rule_57 ?_
          obtain ⟨v29, hq, hX⟩ := bnd_st hX
          refine G_V0p (As := [.long 431366693492]) (rest := []) C hW (c_M_isWord l D cs h a σ 431366693492 v29 hq.symm) (cwV 1 C.2.2.2.2 gX12_rule_X12_isWord rfl rfl rfl (by decide +kernel) ⟨Nat.le_of_ble_eq_true rfl, Nat.le_of_ble_eq_true rfl⟩) (M_recv hW) rfl hl.1 rfl (Nat.le_of_ble_eq_true rfl) dX12_rule_60 (fun H locs hW => ?_)
          refine lv_if_eq (tgt := 70) C.1 C.2.1 dX12_rule_63 (by decide) (fun c30 => ?_) (fun c30 => ?_)
          · have hX := br_p hX c30
            refine lv_iconst (v := -1) C.1 C.2.1 dX12_rule_70 (by decide) ?_
            exact K0 (-1) H locs ls (Option.some.inj hX) hW (lv_sub hl [0] rfl)
          have hX := br_n hX c30
          refine lv_iconst (v := 4) C.1 C.2.1 dX12_rule_66 (by decide) ?_
          refine lv_goto (tgt := 71) C.1 C.2.1 dX12_rule_67 (by decide) ?_
          exact K0 4 H locs ls (Option.some.inj hX) hW (lv_sub hl [0] rfl)
        have hX := br_n hX c27
        refine lv_iconst (v := 3) C.1 C.2.1 dX12_rule_52 (by decide) ?_
        refine lv_goto (tgt := 71) C.1 C.2.1 dX12_rule_53 (by decide) ?_
        exact K0 3 H locs ls (Option.some.inj hX) hW (lv_sub hl [0] rfl)
      have hX := br_n hX c24
      refine lv_iconst (v := 2) C.1 C.2.1 dX12_rule_38 (by decide) ?_
      refine lv_goto (tgt := 71) C.1 C.2.1 dX12_rule_39 (by decide) ?_
      exact K0 2 H locs ls (Option.some.inj hX) hW (lv_sub hl [0] rfl)
    have hX := br_n hX c21
    refine lv_iconst (v := 1) C.1 C.2.1 dX12_rule_24 (by decide) ?_
    refine lv_goto (tgt := 71) C.1 C.2.1 dX12_rule_25 (by decide) ?_
    exact K0 1 H locs ls (Option.some.inj hX) hW (lv_sub hl [0] rfl)
  have hX := br_n hX c18
  refine lv_iconst (v := 0) C.1 C.2.1 dX12_rule_10 (by decide) ?_
  refine lv_goto (tgt := 71) C.1 C.2.1 dX12_rule_11 (by decide) ?_
  exact K0 0 H locs ls (Option.some.inj hX) hW (lv_sub hl [0] rfl)
def M_rule_B232 (σ : St) (x2 : Int32) (x1 : Int32) (y0 : Int32) : Option (Int32) := if x1 = 0 then some 120 else if x1 = 2 then some 9 else some 999
set_option maxHeartbeats 4000000 in
set_option maxRecDepth 100000 in
theorem r_M_rule_B232 {p : Program} {l : Launch} {e : Env} {s : State} {m : MethodId} {args : Array Value} {below : List Frame} {meth : Method} {c : Code} {Q : State → Prop} {Ev : EvT} {D : va_G} {cs : Nat → ClassId} {h : Nat} {a : Nat → Nat} {A : Nat → Prop} (C : Cx p s m args c cX12_rule 3 wsX12_rule RX12) : ∀ (σ : St) (x2 : Int32) (x1 : Int32) (y0 : Int32) (H : Heap) (locs : List Loc) (ls : Array Slot) (X : Int32), some X = M_rule_B232 σ x2 x1 y0 → GW Ev D (tyM cs) (wM h a cs) A s σ H locs → lv_has ls 3 [(2, .int x2), (1, .int x1), (0, .ref h)] → (∀ (w0 : Int32) (H : Heap) (locs : List Loc) (ls : Array Slot), X = w0 → GW Ev D (tyM cs) (wM h a cs) A s σ H locs → lv_has ls 3 [(2, .int x2), (1, .int x1), (0, .ref h)] → W p l e rm_M_rule s m args below meth c H locs 0 0 Q (F0 m 254 ls [.int w0, .int y0])) → W p l e rm_M_rule s m args below meth c H locs 0 0 Q (F0 m 232 ls [.int y0]) := by
  have hin : ∀ w ∈ wsX120, w ∈ wsX12_rule := fun w hw => List.mem_cons_of_mem _ (List.mem_append_right _ hw)
  have f25 : (Cond.fieldLink RX12 67 (TX12 25).1 (TX12 25).2.1 (TX12 25).2.2.1).before _ s = true := C.2.2.2.2 _ (List.mem_of_getElem? (i := 6) rfl)
  have f26 : (Cond.fieldLink RX12 214 (TX12 26).1 (TX12 26).2.1 (TX12 26).2.2.1).before _ s = true := C.2.2.2.2 _ (List.mem_of_getElem? (i := 13) rfl)
  have f28 : (Cond.fieldLink RX12 227 (TX12 28).1 (TX12 28).2.1 (TX12 28).2.2.1).before _ s = true := C.2.2.2.2 _ (List.mem_of_getElem? (i := 14) rfl)
  have k250 : (Cond.constantLong RX12 250 (6383461)).before _ s = true := C.2.2.2.2 _ (List.mem_of_getElem? (i := 1) rfl)
  have k256 : (Cond.constantLong RX12 256 (114801865155950)).before _ s = true := C.2.2.2.2 _ (List.mem_of_getElem? (i := 2) rfl)
  have k258 : (Cond.constantLong RX12 258 (482956242790)).before _ s = true := C.2.2.2.2 _ (List.mem_of_getElem? (i := 3) rfl)
  have k260 : (Cond.constantLong RX12 260 (1684109683)).before _ s = true := C.2.2.2.2 _ (List.mem_of_getElem? (i := 4) rfl)
  have k262 : (Cond.constantLong RX12 262 (431366693492)).before _ s = true := C.2.2.2.2 _ (List.mem_of_getElem? (i := 5) rfl)
  intro σ x2 x1 y0 H locs ls X hX hW hl K0
  unfold M_rule_B232 at hX
  refine lv_iload_n C.1 C.2.1 dX12_rule_232 rfl (lv_at hl 1 rfl) ?_
  refine lv_if_ne (tgt := 241) C.1 C.2.1 dX12_rule_233 (by decide) (fun c41 => ?_) (fun c41 => ?_)
  · have hX := br_n hX c41
    refine lv_iload_n C.1 C.2.1 dX12_rule_241 rfl (lv_at hl 1 rfl) ?_
    refine lv_iconst (v := 2) C.1 C.2.1 dX12_rule_242 (by decide) ?_
    refine lv_icmp_ne (tgt := 251) C.1 C.2.1 dX12_rule_243 (by decide) (fun c42 => ?_) (fun c42 => ?_)
    · have hX := br_n hX c42
      refine lv_sipush (v := 999) C.1 C.2.1 dX12_rule_251 (by decide) ?_
      exact K0 999 H locs ls (Option.some.inj hX) hW (lv_sub hl [0, 1, 2] rfl)
    have hX := br_p hX c42
    refine lv_bipush (v := 9) C.1 C.2.1 dX12_rule_246 (by decide) ?_
    refine lv_goto (tgt := 254) C.1 C.2.1 dX12_rule_248 (by decide) ?_
    exact K0 9 H locs ls (Option.some.inj hX) hW (lv_sub hl [0, 1, 2] rfl)
  have hX := br_p hX c41
  refine lv_bipush (v := 120) C.1 C.2.1 dX12_rule_236 (by decide) ?_
  refine lv_goto (tgt := 254) C.1 C.2.1 dX12_rule_238 (by decide) ?_
  exact K0 120 H locs ls (Option.some.inj hX) hW (lv_sub hl [0, 1, 2] rfl)
def M_rule_B162 (σ : St) (x2 : Int32) (x1 : Int32) : Option (Int32) := bnd (M_isWord σ 439855375716) (fun v60 => if v60 = 0 then bnd (M_isWord σ 521561009767) (fun v63 => if v63 = 0 then bnd (M_isWord σ 121424671892601) (fun v66 => if v66 = 0 then some (-1) else some 2) else some 1) else some 0)
set_option maxHeartbeats 4000000 in
set_option maxRecDepth 100000 in
theorem r_M_rule_B162 {p : Program} {l : Launch} {e : Env} {s : State} {m : MethodId} {args : Array Value} {below : List Frame} {meth : Method} {c : Code} {Q : State → Prop} {Ev : EvT} {D : va_G} {cs : Nat → ClassId} {h : Nat} {a : Nat → Nat} {A : Nat → Prop} (C : Cx p s m args c cX12_rule 3 wsX12_rule RX12) : ∀ (σ : St) (x2 : Int32) (x1 : Int32) (H : Heap) (locs : List Loc) (ls : Array Slot) (X : Int32), some X = M_rule_B162 σ x2 x1 → GW Ev D (tyM cs) (wM h a cs) A s σ H locs → lv_has ls 3 [(2, .int x2), (1, .int x1), (0, .ref h)] → (∀ (w0 : Int32) (H : Heap) (locs : List Loc) (ls : Array Slot), X = w0 → GW Ev D (tyM cs) (wM h a cs) A s σ H locs → lv_has ls 3 [(2, .int x2), (1, .int x1), (0, .ref h)] → W p l e rm_M_rule s m args below meth c H locs 0 0 Q (F0 m 205 ls [.int w0])) → W p l e rm_M_rule s m args below meth c H locs 0 0 Q (F0 m 162 ls []) := by
  have hin : ∀ w ∈ wsX120, w ∈ wsX12_rule := fun w hw => List.mem_cons_of_mem _ (List.mem_append_right _ hw)
  have f25 : (Cond.fieldLink RX12 67 (TX12 25).1 (TX12 25).2.1 (TX12 25).2.2.1).before _ s = true := C.2.2.2.2 _ (List.mem_of_getElem? (i := 6) rfl)
  have f26 : (Cond.fieldLink RX12 214 (TX12 26).1 (TX12 26).2.1 (TX12 26).2.2.1).before _ s = true := C.2.2.2.2 _ (List.mem_of_getElem? (i := 13) rfl)
  have f27 : (Cond.fieldLink RX12 211 (TX12 27).1 (TX12 27).2.1 (TX12 27).2.2.1).before _ s = true := C.2.2.2.2 _ (List.mem_of_getElem? (i := 7) rfl)
  have f28 : (Cond.fieldLink RX12 227 (TX12 28).1 (TX12 28).2.1 (TX12 28).2.2.1).before _ s = true := C.2.2.2.2 _ (List.mem_of_getElem? (i := 14) rfl)
  have k250 : (Cond.constantLong RX12 250 (6383461)).before _ s = true := C.2.2.2.2 _ (List.mem_of_getElem? (i := 1) rfl)
  have k256 : (Cond.constantLong RX12 256 (114801865155950)).before _ s = true := C.2.2.2.2 _ (List.mem_of_getElem? (i := 2) rfl)
  have k258 : (Cond.constantLong RX12 258 (482956242790)).before _ s = true := C.2.2.2.2 _ (List.mem_of_getElem? (i := 3) rfl)
  have k260 : (Cond.constantLong RX12 260 (1684109683)).before _ s = true := C.2.2.2.2 _ (List.mem_of_getElem? (i := 4) rfl)
  have k262 : (Cond.constantLong RX12 262 (431366693492)).before _ s = true := C.2.2.2.2 _ (List.mem_of_getElem? (i := 5) rfl)
  have k271 : (Cond.constantLong RX12 271 (439855375716)).before _ s = true := C.2.2.2.2 _ (List.mem_of_getElem? (i := 10) rfl)
  have k273 : (Cond.constantLong RX12 273 (521561009767)).before _ s = true := C.2.2.2.2 _ (List.mem_of_getElem? (i := 11) rfl)
  have k275 : (Cond.constantLong RX12 275 (121424671892601)).before _ s = true := C.2.2.2.2 _ (List.mem_of_getElem? (i := 12) rfl)
  intro σ x2 x1 H locs ls X hX hW hl K0
  unfold M_rule_B162 at hX
  refine lv_aload_n C.1 C.2.1 dX12_rule_162 rfl (lv_at hl 2 rfl) ?_
  refine lv_ldc2 (v := 439855375716) C.1 C.2.1 C.2.2.2.1 k271 dX12_rule_163 ?_
  obtain ⟨v60, hq, hX⟩ := bnd_st hX
  refine G_V0p (As := [.long 439855375716]) (rest := []) C hW (c_M_isWord l D cs h a σ 439855375716 v60 hq.symm) (cwV 1 C.2.2.2.2 gX12_rule_X12_isWord rfl rfl rfl (by decide +kernel) ⟨Nat.le_of_ble_eq_true rfl, Nat.le_of_ble_eq_true rfl⟩) (M_recv hW) rfl hl.1 rfl (Nat.le_of_ble_eq_true rfl) dX12_rule_166 (fun H locs hW => ?_)
  refine lv_if_eq (tgt := 176) C.1 C.2.1 dX12_rule_169 (by decide) (fun c61 => ?_) (fun c61 => ?_)
  · have hX := br_p hX c61
    refine lv_aload_n C.1 C.2.1 dX12_rule_176 rfl (lv_at hl 2 rfl) ?_
    refine lv_ldc2 (v := 521561009767) C.1 C.2.1 C.2.2.2.1 k273 dX12_rule_177 ?_
    obtain ⟨v63, hq, hX⟩ := bnd_st hX
    refine G_V0p (As := [.long 521561009767]) (rest := []) C hW (c_M_isWord l D cs h a σ 521561009767 v63 hq.symm) (cwV 1 C.2.2.2.2 gX12_rule_X12_isWord rfl rfl rfl (by decide +kernel) ⟨Nat.le_of_ble_eq_true rfl, Nat.le_of_ble_eq_true rfl⟩) (M_recv hW) rfl hl.1 rfl (Nat.le_of_ble_eq_true rfl) dX12_rule_180 (fun H locs hW => ?_)
    refine lv_if_eq (tgt := 190) C.1 C.2.1 dX12_rule_183 (by decide) (fun c64 => ?_) (fun c64 => ?_)
    · have hX := br_p hX c64
      refine lv_aload_n C.1 C.2.1 dX12_rule_190 rfl (lv_at hl 2 rfl) ?_
      refine lv_ldc2 (v := 121424671892601) C.1 C.2.1 C.2.2.2.1 k275 dX12_rule_191 ?_
      obtain ⟨v66, hq, hX⟩ := bnd_st hX
      refine G_V0p (As := [.long 121424671892601]) (rest := []) C hW (c_M_isWord l D cs h a σ 121424671892601 v66 hq.symm) (cwV 1 C.2.2.2.2 gX12_rule_X12_isWord rfl rfl rfl (by decide +kernel) ⟨Nat.le_of_ble_eq_true rfl, Nat.le_of_ble_eq_true rfl⟩) (M_recv hW) rfl hl.1 rfl (Nat.le_of_ble_eq_true rfl) dX12_rule_194 (fun H locs hW => ?_)
      refine lv_if_eq (tgt := 204) C.1 C.2.1 dX12_rule_197 (by decide) (fun c67 => ?_) (fun c67 => ?_)
      · have hX := br_p hX c67
        refine lv_iconst (v := -1) C.1 C.2.1 dX12_rule_204 (by decide) ?_
        exact K0 (-1) H locs ls (Option.some.inj hX) hW (lv_sub hl [0, 1, 2] rfl)
      have hX := br_n hX c67
      refine lv_iconst (v := 2) C.1 C.2.1 dX12_rule_200 (by decide) ?_
      refine lv_goto (tgt := 205) C.1 C.2.1 dX12_rule_201 (by decide) ?_
      exact K0 2 H locs ls (Option.some.inj hX) hW (lv_sub hl [0, 1, 2] rfl)
    have hX := br_n hX c64
    refine lv_iconst (v := 1) C.1 C.2.1 dX12_rule_186 (by decide) ?_
    refine lv_goto (tgt := 205) C.1 C.2.1 dX12_rule_187 (by decide) ?_
    exact K0 1 H locs ls (Option.some.inj hX) hW (lv_sub hl [0, 1, 2] rfl)
  have hX := br_n hX c61
  refine lv_iconst (v := 0) C.1 C.2.1 dX12_rule_172 (by decide) ?_
  refine lv_goto (tgt := 205) C.1 C.2.1 dX12_rule_173 (by decide) ?_
  exact K0 0 H locs ls (Option.some.inj hX) hW (lv_sub hl [0, 1, 2] rfl)
def M_rule_B118 (σ : St) (x2 : Int32) (x1 : Int32) : Option (Int32) := bnd (M_isWord σ 108170671449444) (fun v79 => if v79 = 0 then bnd (M_isWord σ 448377483876) (fun v82 => if v82 = 0 then some (-1) else some 1) else some 0)
set_option maxHeartbeats 4000000 in
set_option maxRecDepth 100000 in
theorem r_M_rule_B118 {p : Program} {l : Launch} {e : Env} {s : State} {m : MethodId} {args : Array Value} {below : List Frame} {meth : Method} {c : Code} {Q : State → Prop} {Ev : EvT} {D : va_G} {cs : Nat → ClassId} {h : Nat} {a : Nat → Nat} {A : Nat → Prop} (C : Cx p s m args c cX12_rule 3 wsX12_rule RX12) : ∀ (σ : St) (x2 : Int32) (x1 : Int32) (H : Heap) (locs : List Loc) (ls : Array Slot) (X : Int32), some X = M_rule_B118 σ x2 x1 → GW Ev D (tyM cs) (wM h a cs) A s σ H locs → lv_has ls 3 [(2, .int x2), (1, .int x1), (0, .ref h)] → (∀ (w0 : Int32) (H : Heap) (locs : List Loc) (ls : Array Slot), X = w0 → GW Ev D (tyM cs) (wM h a cs) A s σ H locs → lv_has ls 3 [(2, .int x2), (1, .int x1), (0, .ref h)] → W p l e rm_M_rule s m args below meth c H locs 0 0 Q (F0 m 147 ls [.int w0])) → W p l e rm_M_rule s m args below meth c H locs 0 0 Q (F0 m 118 ls []) := by
  have hin : ∀ w ∈ wsX120, w ∈ wsX12_rule := fun w hw => List.mem_cons_of_mem _ (List.mem_append_right _ hw)
  have f25 : (Cond.fieldLink RX12 67 (TX12 25).1 (TX12 25).2.1 (TX12 25).2.2.1).before _ s = true := C.2.2.2.2 _ (List.mem_of_getElem? (i := 6) rfl)
  have f26 : (Cond.fieldLink RX12 214 (TX12 26).1 (TX12 26).2.1 (TX12 26).2.2.1).before _ s = true := C.2.2.2.2 _ (List.mem_of_getElem? (i := 13) rfl)
  have f27 : (Cond.fieldLink RX12 211 (TX12 27).1 (TX12 27).2.1 (TX12 27).2.2.1).before _ s = true := C.2.2.2.2 _ (List.mem_of_getElem? (i := 7) rfl)
  have f28 : (Cond.fieldLink RX12 227 (TX12 28).1 (TX12 28).2.1 (TX12 28).2.2.1).before _ s = true := C.2.2.2.2 _ (List.mem_of_getElem? (i := 14) rfl)
  have k250 : (Cond.constantLong RX12 250 (6383461)).before _ s = true := C.2.2.2.2 _ (List.mem_of_getElem? (i := 1) rfl)
  have k256 : (Cond.constantLong RX12 256 (114801865155950)).before _ s = true := C.2.2.2.2 _ (List.mem_of_getElem? (i := 2) rfl)
  have k258 : (Cond.constantLong RX12 258 (482956242790)).before _ s = true := C.2.2.2.2 _ (List.mem_of_getElem? (i := 3) rfl)
  have k260 : (Cond.constantLong RX12 260 (1684109683)).before _ s = true := C.2.2.2.2 _ (List.mem_of_getElem? (i := 4) rfl)
  have k262 : (Cond.constantLong RX12 262 (431366693492)).before _ s = true := C.2.2.2.2 _ (List.mem_of_getElem? (i := 5) rfl)
  have k267 : (Cond.constantLong RX12 267 (108170671449444)).before _ s = true := C.2.2.2.2 _ (List.mem_of_getElem? (i := 8) rfl)
  have k269 : (Cond.constantLong RX12 269 (448377483876)).before _ s = true := C.2.2.2.2 _ (List.mem_of_getElem? (i := 9) rfl)
  have k271 : (Cond.constantLong RX12 271 (439855375716)).before _ s = true := C.2.2.2.2 _ (List.mem_of_getElem? (i := 10) rfl)
  have k273 : (Cond.constantLong RX12 273 (521561009767)).before _ s = true := C.2.2.2.2 _ (List.mem_of_getElem? (i := 11) rfl)
  have k275 : (Cond.constantLong RX12 275 (121424671892601)).before _ s = true := C.2.2.2.2 _ (List.mem_of_getElem? (i := 12) rfl)
  intro σ x2 x1 H locs ls X hX hW hl K0
  unfold M_rule_B118 at hX
  refine lv_aload_n C.1 C.2.1 dX12_rule_118 rfl (lv_at hl 2 rfl) ?_
  refine lv_ldc2 (v := 108170671449444) C.1 C.2.1 C.2.2.2.1 k267 dX12_rule_119 ?_
  obtain ⟨v79, hq, hX⟩ := bnd_st hX
  refine G_V0p (As := [.long 108170671449444]) (rest := []) C hW (c_M_isWord l D cs h a σ 108170671449444 v79 hq.symm) (cwV 1 C.2.2.2.2 gX12_rule_X12_isWord rfl rfl rfl (by decide +kernel) ⟨Nat.le_of_ble_eq_true rfl, Nat.le_of_ble_eq_true rfl⟩) (M_recv hW) rfl hl.1 rfl (Nat.le_of_ble_eq_true rfl) dX12_rule_122 (fun H locs hW => ?_)
  refine lv_if_eq (tgt := 132) C.1 C.2.1 dX12_rule_125 (by decide) (fun c80 => ?_) (fun c80 => ?_)
  · have hX := br_p hX c80
    refine lv_aload_n C.1 C.2.1 dX12_rule_132 rfl (lv_at hl 2 rfl) ?_
    refine lv_ldc2 (v := 448377483876) C.1 C.2.1 C.2.2.2.1 k269 dX12_rule_133 ?_
    obtain ⟨v82, hq, hX⟩ := bnd_st hX
    refine G_V0p (As := [.long 448377483876]) (rest := []) C hW (c_M_isWord l D cs h a σ 448377483876 v82 hq.symm) (cwV 1 C.2.2.2.2 gX12_rule_X12_isWord rfl rfl rfl (by decide +kernel) ⟨Nat.le_of_ble_eq_true rfl, Nat.le_of_ble_eq_true rfl⟩) (M_recv hW) rfl hl.1 rfl (Nat.le_of_ble_eq_true rfl) dX12_rule_136 (fun H locs hW => ?_)
    refine lv_if_eq (tgt := 146) C.1 C.2.1 dX12_rule_139 (by decide) (fun c83 => ?_) (fun c83 => ?_)
    · have hX := br_p hX c83
      refine lv_iconst (v := -1) C.1 C.2.1 dX12_rule_146 (by decide) ?_
      exact K0 (-1) H locs ls (Option.some.inj hX) hW (lv_sub hl [0, 1, 2] rfl)
    have hX := br_n hX c83
    refine lv_iconst (v := 1) C.1 C.2.1 dX12_rule_142 (by decide) ?_
    refine lv_goto (tgt := 147) C.1 C.2.1 dX12_rule_143 (by decide) ?_
    exact K0 1 H locs ls (Option.some.inj hX) hW (lv_sub hl [0, 1, 2] rfl)
  have hX := br_n hX c80
  refine lv_iconst (v := 0) C.1 C.2.1 dX12_rule_128 (by decide) ?_
  refine lv_goto (tgt := 147) C.1 C.2.1 dX12_rule_129 (by decide) ?_
  exact K0 0 H locs ls (Option.some.inj hX) hW (lv_sub hl [0, 1, 2] rfl)
def M_rule_B113 (σ : St) (x2 : Int32) (x1 : Int32) : Option (Nat × St × Int32 × Int32) := if x1 = 1 then bnd (M_rule_B118 σ x2 x1) (fun v102 => if 0 ≤ v102 then some (4, σ, v102, 0) else bnd2 (M_cant σ) (fun v105 σ104 => some (0, σ104, v102, v105))) else if x1 = 4 then bnd (M_rule_B162 σ x2 x1) (fun v98 => if 0 ≤ v98 then some (4, σ, v98, 0) else bnd2 (M_cant σ) (fun v101 σ100 => some (1, σ100, v98, v101))) else if (σ.1 26 0) = 2 then bnd (M_rule_B232 σ x2 x1 (σ.1 28 0)) (fun v91 => if (σ.1 28 0) ≤ v91 then nm (σ.1 28 0) (fun v93 => some (4, σ, v93, 0)) else bnd2 (M_wrong σ 3 (σ.1 27 0)) (fun v95 σ94 => some (3, σ94, x2, v95))) else bnd2 (M_cant σ) (fun v97 σ96 => some (2, σ96, x2, v97))
set_option maxHeartbeats 4000000 in
set_option maxRecDepth 100000 in
theorem r_M_rule_B113 {p : Program} {l : Launch} {e : Env} {s : State} {m : MethodId} {args : Array Value} {below : List Frame} {meth : Method} {c : Code} {Q : State → Prop} {Ev : EvT} {D : va_G} {cs : Nat → ClassId} {h : Nat} {a : Nat → Nat} {A : Nat → Prop} (C : Cx p s m args c cX12_rule 3 wsX12_rule RX12) : ∀ (σ : St) (x2 : Int32) (x1 : Int32) (H : Heap) (locs : List Loc) (ls : Array Slot) (X : Nat × St × Int32 × Int32), some X = M_rule_B113 σ x2 x1 → GW Ev D (tyM cs) (wM h a cs) A s σ H locs → lv_has ls 3 [(2, .int x2), (1, .int x1), (0, .ref h)] → (∀ (τ : St) (z2 : Int32) (w0 : Int32) (H : Heap) (locs : List Loc) (ls : Array Slot), X = (0, τ, z2, w0) → GW Ev D (tyM cs) (wM h a cs) A s τ H locs → lv_has ls 3 [(2, .int z2), (1, .int x1), (0, .ref h)] → W p l e rm_M_rule s m args below meth c H locs 0 0 Q (F0 m 156 ls [.int w0])) → (∀ (τ : St) (z2 : Int32) (w0 : Int32) (H : Heap) (locs : List Loc) (ls : Array Slot), X = (1, τ, z2, w0) → GW Ev D (tyM cs) (wM h a cs) A s τ H locs → lv_has ls 3 [(2, .int z2), (1, .int x1), (0, .ref h)] → W p l e rm_M_rule s m args below meth c H locs 0 0 Q (F0 m 214 ls [.int w0])) → (∀ (τ : St) (z2 : Int32) (w0 : Int32) (H : Heap) (locs : List Loc) (ls : Array Slot), X = (2, τ, z2, w0) → GW Ev D (tyM cs) (wM h a cs) A s τ H locs → lv_has ls 3 [(2, .int z2), (1, .int x1), (0, .ref h)] → W p l e rm_M_rule s m args below meth c H locs 0 0 Q (F0 m 227 ls [.int w0])) → (∀ (τ : St) (z2 : Int32) (w0 : Int32) (H : Heap) (locs : List Loc) (ls : Array Slot), X = (3, τ, z2, w0) → GW Ev D (tyM cs) (wM h a cs) A s τ H locs → lv_has ls 3 [(2, .int z2), (1, .int x1), (0, .ref h)] → W p l e rm_M_rule s m args below meth c H locs 0 0 Q (F0 m 266 ls [.int w0])) → (∀ (τ : St) (z2 : Int32) (w0 : Int32) (H : Heap) (locs : List Loc) (ls : Array Slot), X = (4, τ, z2, w0) → GW Ev D (tyM cs) (wM h a cs) A s τ H locs → lv_has ls 3 [(2, .int z2), (1, .int x1), (0, .ref h)] → W p l e rm_M_rule s m args below meth c H locs 0 0 Q (F0 m 272 ls [])) → W p l e rm_M_rule s m args below meth c H locs 0 0 Q (F0 m 113 ls []) := by
  have hin : ∀ w ∈ wsX120, w ∈ wsX12_rule := fun w hw => List.mem_cons_of_mem _ (List.mem_append_right _ hw)
  have f25 : (Cond.fieldLink RX12 67 (TX12 25).1 (TX12 25).2.1 (TX12 25).2.2.1).before _ s = true := C.2.2.2.2 _ (List.mem_of_getElem? (i := 6) rfl)
  have f26 : (Cond.fieldLink RX12 214 (TX12 26).1 (TX12 26).2.1 (TX12 26).2.2.1).before _ s = true := C.2.2.2.2 _ (List.mem_of_getElem? (i := 13) rfl)
  have f27 : (Cond.fieldLink RX12 211 (TX12 27).1 (TX12 27).2.1 (TX12 27).2.2.1).before _ s = true := C.2.2.2.2 _ (List.mem_of_getElem? (i := 7) rfl)
  have f28 : (Cond.fieldLink RX12 227 (TX12 28).1 (TX12 28).2.1 (TX12 28).2.2.1).before _ s = true := C.2.2.2.2 _ (List.mem_of_getElem? (i := 14) rfl)
  have k250 : (Cond.constantLong RX12 250 (6383461)).before _ s = true := C.2.2.2.2 _ (List.mem_of_getElem? (i := 1) rfl)
  have k256 : (Cond.constantLong RX12 256 (114801865155950)).before _ s = true := C.2.2.2.2 _ (List.mem_of_getElem? (i := 2) rfl)
  have k258 : (Cond.constantLong RX12 258 (482956242790)).before _ s = true := C.2.2.2.2 _ (List.mem_of_getElem? (i := 3) rfl)
  have k260 : (Cond.constantLong RX12 260 (1684109683)).before _ s = true := C.2.2.2.2 _ (List.mem_of_getElem? (i := 4) rfl)
  have k262 : (Cond.constantLong RX12 262 (431366693492)).before _ s = true := C.2.2.2.2 _ (List.mem_of_getElem? (i := 5) rfl)
  have k267 : (Cond.constantLong RX12 267 (108170671449444)).before _ s = true := C.2.2.2.2 _ (List.mem_of_getElem? (i := 8) rfl)
  have k269 : (Cond.constantLong RX12 269 (448377483876)).before _ s = true := C.2.2.2.2 _ (List.mem_of_getElem? (i := 9) rfl)
  have k271 : (Cond.constantLong RX12 271 (439855375716)).before _ s = true := C.2.2.2.2 _ (List.mem_of_getElem? (i := 10) rfl)
  have k273 : (Cond.constantLong RX12 273 (521561009767)).before _ s = true := C.2.2.2.2 _ (List.mem_of_getElem? (i := 11) rfl)
  have k275 : (Cond.constantLong RX12 275 (121424671892601)).before _ s = true := C.2.2.2.2 _ (List.mem_of_getElem? (i := 12) rfl)
  intro σ x2 x1 H locs ls X hX hW hl K0 K1 K2 K3 K4
  unfold M_rule_B113 at hX
  refine lv_iload_n C.1 C.2.1 dX12_rule_113 rfl (lv_at hl 1 rfl) ?_
  refine lv_iconst (v := 1) C.1 C.2.1 dX12_rule_114 (by decide) ?_
  refine lv_icmp_ne (tgt := 157) C.1 C.2.1 dX12_rule_115 (by decide) (fun c88 => ?_) (fun c88 => ?_)
  · have hX := br_n hX c88
    refine lv_iload_n C.1 C.2.1 dX12_rule_157 rfl (lv_at hl 1 rfl) ?_
    refine lv_iconst (v := 4) C.1 C.2.1 dX12_rule_158 (by decide) ?_
    refine lv_icmp_ne (tgt := 215) C.1 C.2.1 dX12_rule_159 (by decide) (fun c89 => ?_) (fun c89 => ?_)
    · have hX := br_n hX c89
      refine lv_aload_n C.1 C.2.1 dX12_rule_215 rfl (lv_at hl 2 rfl) ?_
      refine M_geti C hin hW 26 (by decide) f26 dX12_rule_216 ?_
      refine lv_iconst (v := 2) C.1 C.2.1 dX12_rule_219 (by decide) ?_
      refine lv_icmp_eq (tgt := 228) C.1 C.2.1 dX12_rule_220 (by decide) (fun c90 => ?_) (fun c90 => ?_)
      · have hX := br_p hX c90
        refine lv_aload_n C.1 C.2.1 dX12_rule_228 rfl (lv_at hl 2 rfl) ?_
        refine M_geti C hin hW 28 (by decide) f28 dX12_rule_229 ?_
        obtain ⟨v91, hq, hX⟩ := bnd_st hX
        refine r_M_rule_B232 C σ x2 x1 (σ.1 28 0) H locs ls v91 hq.symm hW (lv_sub hl [0, 1, 2] rfl) ?_
        intro z0 H locs ls hq hW hl
        subst hq
        refine lv_icmp_le (tgt := 267) C.1 C.2.1 dX12_rule_254 (by decide) (fun c92 => ?_) (fun c92 => ?_)
        · have hX := br_p hX c92
          refine lv_aload_n C.1 C.2.1 dX12_rule_267 rfl (lv_at hl 2 rfl) ?_
          refine M_geti C hin hW 28 (by decide) f28 dX12_rule_268 ?_
          refine lv_topi (fun v93 ev93 => ?_)
          have hX := nm_st hX ev93
          refine lv_istore_n (lv' := [(2, .int v93), (1, .int x1), (0, .ref h)]) C.1 C.2.1 dX12_rule_271 rfl hl (by decide) rfl (fun ls hl => ?_)
          exact K4 σ v93 0 H locs ls (Option.some.inj hX) hW (lv_sub hl [0, 1, 2] rfl)
        have hX := br_n hX c92
        refine lv_aload_n C.1 C.2.1 dX12_rule_257 rfl (lv_at hl 2 rfl) ?_
        refine lv_iconst (v := 3) C.1 C.2.1 dX12_rule_258 (by decide) ?_
        refine lv_aload_n C.1 C.2.1 dX12_rule_259 rfl (lv_at hl 2 rfl) ?_
        refine M_geti C hin hW 27 (by decide) f27 dX12_rule_260 ?_
        obtain ⟨v95, σ94, hq, hX⟩ := bnd2_st hX
        refine G_V0e (As := [.int 3, .int (σ.1 27 0)]) (rest := []) C hW (c_M_wrong l D cs h a σ 3 (σ.1 27 0) (v95, σ94) hq.symm) (cwV 2 C.2.2.2.2 gX12_rule_X12_wrong rfl rfl rfl (by decide +kernel) ⟨Nat.le_of_ble_eq_true rfl, Nat.le_of_ble_eq_true rfl⟩) (M_recv hW) rfl hl.1 rfl (Nat.le_of_ble_eq_true rfl) dX12_rule_263 (fun H locs hW => ?_)
        exact K3 σ94 x2 v95 H locs ls (Option.some.inj hX) hW (lv_sub hl [0, 1, 2] rfl)
      have hX := br_n hX c90
      refine lv_aload_n C.1 C.2.1 dX12_rule_223 rfl (lv_at hl 2 rfl) ?_
      obtain ⟨v97, σ96, hq, hX⟩ := bnd2_st hX
      refine G_V0e (As := []) (rest := []) C hW (c_M_cant l D cs h a σ (v97, σ96) hq.symm) (cwV 0 C.2.2.2.2 gX12_rule_X12_cant rfl rfl rfl (by decide +kernel) ⟨Nat.le_of_ble_eq_true rfl, Nat.le_of_ble_eq_true rfl⟩) (M_recv hW) rfl hl.1 rfl (Nat.le_of_ble_eq_true rfl) dX12_rule_224 (fun H locs hW => ?_)
      exact K2 σ96 x2 v97 H locs ls (Option.some.inj hX) hW (lv_sub hl [0, 1, 2] rfl)
    have hX := br_p hX c89
    obtain ⟨v98, hq, hX⟩ := bnd_st hX
    refine r_M_rule_B162 C σ x2 x1 H locs ls v98 hq.symm hW (lv_sub hl [0, 1, 2] rfl) ?_
    intro z0 H locs ls hq hW hl
    subst hq
    refine lv_istore_n (lv' := [(2, .int v98), (1, .int x1), (0, .ref h)]) C.1 C.2.1 dX12_rule_205 rfl hl (by decide) rfl (fun ls hl => ?_)
    refine lv_iload_n C.1 C.2.1 dX12_rule_206 rfl (lv_at hl 0 rfl) ?_
    refine lv_if_ge (tgt := 272) C.1 C.2.1 dX12_rule_207 (by decide) (fun c99 => ?_) (fun c99 => ?_)
    · have hX := br_p hX c99
      exact K4 σ v98 0 H locs ls (Option.some.inj hX) hW (lv_sub hl [0, 1, 2] rfl)
    have hX := br_n hX c99
    refine lv_aload_n C.1 C.2.1 dX12_rule_210 rfl (lv_at hl 2 rfl) ?_
    obtain ⟨v101, σ100, hq, hX⟩ := bnd2_st hX
    refine G_V0e (As := []) (rest := []) C hW (c_M_cant l D cs h a σ (v101, σ100) hq.symm) (cwV 0 C.2.2.2.2 gX12_rule_X12_cant rfl rfl rfl (by decide +kernel) ⟨Nat.le_of_ble_eq_true rfl, Nat.le_of_ble_eq_true rfl⟩) (M_recv hW) rfl hl.1 rfl (Nat.le_of_ble_eq_true rfl) dX12_rule_211 (fun H locs hW => ?_)
    exact K1 σ100 v98 v101 H locs ls (Option.some.inj hX) hW (lv_sub hl [0, 1, 2] rfl)
  have hX := br_p hX c88
  obtain ⟨v102, hq, hX⟩ := bnd_st hX
  refine r_M_rule_B118 C σ x2 x1 H locs ls v102 hq.symm hW (lv_sub hl [0, 1, 2] rfl) ?_
  intro z0 H locs ls hq hW hl
  subst hq
  refine lv_istore_n (lv' := [(2, .int v102), (1, .int x1), (0, .ref h)]) C.1 C.2.1 dX12_rule_147 rfl hl (by decide) rfl (fun ls hl => ?_)
  refine lv_iload_n C.1 C.2.1 dX12_rule_148 rfl (lv_at hl 0 rfl) ?_
  refine lv_if_ge (tgt := 272) C.1 C.2.1 dX12_rule_149 (by decide) (fun c103 => ?_) (fun c103 => ?_)
  · have hX := br_p hX c103
    exact K4 σ v102 0 H locs ls (Option.some.inj hX) hW (lv_sub hl [0, 1, 2] rfl)
  have hX := br_n hX c103
  refine lv_aload_n C.1 C.2.1 dX12_rule_152 rfl (lv_at hl 2 rfl) ?_
  obtain ⟨v105, σ104, hq, hX⟩ := bnd2_st hX
  refine G_V0e (As := []) (rest := []) C hW (c_M_cant l D cs h a σ (v105, σ104) hq.symm) (cwV 0 C.2.2.2.2 gX12_rule_X12_cant rfl rfl rfl (by decide +kernel) ⟨Nat.le_of_ble_eq_true rfl, Nat.le_of_ble_eq_true rfl⟩) (M_recv hW) rfl hl.1 rfl (Nat.le_of_ble_eq_true rfl) dX12_rule_153 (fun H locs hW => ?_)
  exact K0 σ104 v102 v105 H locs ls (Option.some.inj hX) hW (lv_sub hl [0, 1, 2] rfl)
def M_rule (σ : St) : Option (Int32 × St) := bnd (M_rule_B0 σ) (fun v31 => if 0 ≤ v31 then chkI v31 5 (if (σ.1 25 v31.toNatClampNeg) = 0 then chkI v31 5 (nm (s1 σ 25 v31.toNatClampNeg (vp_nar .boolean 1)) (fun σ34 => bnd (M_next σ34) (fun σ35 => bnd (M_rule_B113 σ35 (-1) v31) (fun q => nm2 q (fun j q => nm2 q (fun σ106 q => nm2 q (fun v107 v108 => if j = 0 then chkZ v108 (some (v108, σ106)) else if j = 1 then chkZ v108 (some (v108, σ106)) else if j = 2 then chkZ v108 (some (v108, σ106)) else if j = 3 then chkZ v108 (some (v108, σ106)) else if j = 4 then chkI v31 5 (nm (s1 σ106 24 v31.toNatClampNeg v107) (fun σ121 => bnd (M_next σ121) (fun σ122 => if (σ122.1 26 0) = 3 then bnd (M_next σ122) (fun σ124 => some (1, σ124)) else bnd2 (M_cant σ122) (fun v126 σ125 => chkZ v126 (some (v126, σ125)))))) else none))))))) else bnd2 (M_wrong σ 4 (σ.1 27 0)) (fun v128 σ127 => chkZ v128 (some (v128, σ127)))) else bnd2 (M_cant σ) (fun v130 σ129 => chkZ v130 (some (v130, σ129))))
set_option maxHeartbeats 4000000 in
set_option maxRecDepth 100000 in
theorem c_M_rule {Ev : EvT} (l : Launch) (D : va_G) (cs : Nat → ClassId) (h : Nat) (a : Nat → Nat) (σ : St) (X : Int32 × St) (hX : some X = M_rule σ) : cGi Ev l D (tyM cs) (wM h a cs) yX12_rule wsX12_rule rm_M_rule 0 0 [.ref h] σ (fun r u => (r, u) = X) := by
  refine G_ini (cc := cX12_rule) (maxL := 3) (ret := some .boolean) (by decide) rfl (Nat.le_of_ble_eq_true rfl) ?_
  intro p e s m below meth c A ls C hr hlk hini hA hW hl
  have C : Cx p s m _ c cX12_rule 3 wsX12_rule RX12 := C
  have hl : lv_has ls 3 [(0, .ref h)] := hl
  have hin : ∀ w ∈ wsX120, w ∈ wsX12_rule := fun w hw => List.mem_cons_of_mem _ (List.mem_append_right _ hw)
  have f24 : (Cond.fieldLink RX12 64 (TX12 24).1 (TX12 24).2.1 (TX12 24).2.2.1).before _ s = true := C.2.2.2.2 _ (List.mem_of_getElem? (i := 15) rfl)
  have f25 : (Cond.fieldLink RX12 67 (TX12 25).1 (TX12 25).2.1 (TX12 25).2.2.1).before _ s = true := C.2.2.2.2 _ (List.mem_of_getElem? (i := 6) rfl)
  have f26 : (Cond.fieldLink RX12 214 (TX12 26).1 (TX12 26).2.1 (TX12 26).2.2.1).before _ s = true := C.2.2.2.2 _ (List.mem_of_getElem? (i := 13) rfl)
  have f27 : (Cond.fieldLink RX12 211 (TX12 27).1 (TX12 27).2.1 (TX12 27).2.2.1).before _ s = true := C.2.2.2.2 _ (List.mem_of_getElem? (i := 7) rfl)
  have f28 : (Cond.fieldLink RX12 227 (TX12 28).1 (TX12 28).2.1 (TX12 28).2.2.1).before _ s = true := C.2.2.2.2 _ (List.mem_of_getElem? (i := 14) rfl)
  have k250 : (Cond.constantLong RX12 250 (6383461)).before _ s = true := C.2.2.2.2 _ (List.mem_of_getElem? (i := 1) rfl)
  have k256 : (Cond.constantLong RX12 256 (114801865155950)).before _ s = true := C.2.2.2.2 _ (List.mem_of_getElem? (i := 2) rfl)
  have k258 : (Cond.constantLong RX12 258 (482956242790)).before _ s = true := C.2.2.2.2 _ (List.mem_of_getElem? (i := 3) rfl)
  have k260 : (Cond.constantLong RX12 260 (1684109683)).before _ s = true := C.2.2.2.2 _ (List.mem_of_getElem? (i := 4) rfl)
  have k262 : (Cond.constantLong RX12 262 (431366693492)).before _ s = true := C.2.2.2.2 _ (List.mem_of_getElem? (i := 5) rfl)
  have k267 : (Cond.constantLong RX12 267 (108170671449444)).before _ s = true := C.2.2.2.2 _ (List.mem_of_getElem? (i := 8) rfl)
  have k269 : (Cond.constantLong RX12 269 (448377483876)).before _ s = true := C.2.2.2.2 _ (List.mem_of_getElem? (i := 9) rfl)
  have k271 : (Cond.constantLong RX12 271 (439855375716)).before _ s = true := C.2.2.2.2 _ (List.mem_of_getElem? (i := 10) rfl)
  have k273 : (Cond.constantLong RX12 273 (521561009767)).before _ s = true := C.2.2.2.2 _ (List.mem_of_getElem? (i := 11) rfl)
  have k275 : (Cond.constantLong RX12 275 (121424671892601)).before _ s = true := C.2.2.2.2 _ (List.mem_of_getElem? (i := 12) rfl)
  obtain ⟨H, hH⟩ : ∃ H, H = s.heap := ⟨_, rfl⟩
  obtain ⟨locs, hlo⟩ : ∃ z : List Loc, z = [] := ⟨_, rfl⟩
  have hW : GW Ev D (tyM cs) (wM h a cs) A s σ H locs := by rw [hH, hlo]; exact hW
  rw [show W p l e rm_M_rule s m _ below meth c s.heap [] = W p l e rm_M_rule s m _ below meth c H locs from by rw [hH, hlo]]
  unfold M_rule at hX
  obtain ⟨v31, hq, hX⟩ := bnd_st hX
  refine r_M_rule_B0 C σ H locs ls v31 hq.symm hW (lv_sub hl [0] rfl) ?_
  intro z0 H locs ls hq hW hl
  subst hq
  refine lv_istore_n (lv' := [(1, .int v31), (0, .ref h)]) C.1 C.2.1 dX12_rule_71 rfl hl (by decide) rfl (fun ls hl => ?_)
  refine lv_iload_n C.1 C.2.1 dX12_rule_72 rfl (lv_at hl 0 rfl) ?_
  refine lv_if_ge (tgt := 81) C.1 C.2.1 dX12_rule_73 (by decide) (fun c32 => ?_) (fun c32 => ?_)
  · have hX := br_p hX c32
    refine lv_aload_n C.1 C.2.1 dX12_rule_81 rfl (lv_at hl 1 rfl) ?_
    refine M_geta C hin hW 25 rfl (by decide) f25 dX12_rule_82 ?_
    refine lv_iload_n C.1 C.2.1 dX12_rule_85 rfl (lv_at hl 0 rfl) ?_
    obtain ⟨hi, hX⟩ := chkI_st hX
    refine M_ldZ C hW 25 rfl hi dX12_rule_86 ?_
    refine lv_if_eq (tgt := 100) C.1 C.2.1 dX12_rule_87 (by decide) (fun c33 => ?_) (fun c33 => ?_)
    · have hX := br_p hX c33
      refine lv_aload_n C.1 C.2.1 dX12_rule_100 rfl (lv_at hl 1 rfl) ?_
      refine M_geta C hin hW 25 rfl (by decide) f25 dX12_rule_101 ?_
      refine lv_iload_n C.1 C.2.1 dX12_rule_104 rfl (lv_at hl 0 rfl) ?_
      refine lv_iconst (v := 1) C.1 C.2.1 dX12_rule_105 (by decide) ?_
      obtain ⟨hi, hX⟩ := chkI_st hX
      refine M_stZ C hW 25 rfl hi dX12_rule_106 (fun H locs σ34 eσ34 hW => ?_)
      have hX := nm_st hX eσ34
      refine lv_aload_n C.1 C.2.1 dX12_rule_107 rfl (lv_at hl 1 rfl) ?_
      obtain ⟨σ35, hq, hX⟩ := bnd_st hX
      refine G_V0u (As := []) (rest := []) C hW (c_M_next l D cs h a σ34 σ35 hq.symm) (cwV 0 C.2.2.2.2 gX12_rule_X12_next rfl rfl rfl (by decide +kernel) ⟨Nat.le_of_ble_eq_true rfl, Nat.le_of_ble_eq_true rfl⟩) (M_recv hW) rfl hl.1 rfl (Nat.le_of_ble_eq_true rfl) dX12_rule_108 (fun H locs hW => ?_)
      refine lv_iconst (v := -1) C.1 C.2.1 dX12_rule_111 (by decide) ?_
      refine lv_istore_n (lv' := [(2, .int (-1)), (1, .int v31), (0, .ref h)]) C.1 C.2.1 dX12_rule_112 rfl hl (by decide) rfl (fun ls hl => ?_)
      obtain ⟨q, hq, hX⟩ := bnd_st hX
      refine r_M_rule_B113 C σ35 (-1) v31 H locs ls q hq.symm hW (lv_sub hl [0, 1, 2] rfl) ?_ ?_ ?_ ?_ ?_
      · intro σ106 v107 v108 H locs ls hq hW hl
        subst hq
        have hX := nm2_st hX rfl
        have hX := nm2_st hX rfl
        have hX := nm2_st hX rfl
        have hX := br_p hX rfl
        obtain ⟨hz, hX⟩ := chkZ_st hX
        exact G_retz C hr hlk hA hW hz.1 (Option.some.inj hX).symm dX12_rule_156
      · intro σ109 v110 v111 H locs ls hq hW hl
        subst hq
        have hX := nm2_st hX rfl
        have hX := nm2_st hX rfl
        have hX := nm2_st hX rfl
        have hX := br_n hX (by decide)
        have hX := br_p hX rfl
        obtain ⟨hz, hX⟩ := chkZ_st hX
        exact G_retz C hr hlk hA hW hz.1 (Option.some.inj hX).symm dX12_rule_214
      · intro σ112 v113 v114 H locs ls hq hW hl
        subst hq
        have hX := nm2_st hX rfl
        have hX := nm2_st hX rfl
        have hX := nm2_st hX rfl
        have hX := br_n hX (by decide)
        have hX := br_n hX (by decide)
        have hX := br_p hX rfl
        obtain ⟨hz, hX⟩ := chkZ_st hX
        exact G_retz C hr hlk hA hW hz.1 (Option.some.inj hX).symm dX12_rule_227
      · intro σ115 v116 v117 H locs ls hq hW hl
        subst hq
        have hX := nm2_st hX rfl
        have hX := nm2_st hX rfl
        have hX := nm2_st hX rfl
        have hX := br_n hX (by decide)
        have hX := br_n hX (by decide)
        have hX := br_n hX (by decide)
        have hX := br_p hX rfl
        obtain ⟨hz, hX⟩ := chkZ_st hX
        exact G_retz C hr hlk hA hW hz.1 (Option.some.inj hX).symm dX12_rule_266
      intro σ118 v119 v120 H locs ls hq hW hl
      subst hq
      have hX := nm2_st hX rfl
      have hX := nm2_st hX rfl
      have hX := nm2_st hX rfl
      have hX := br_n hX (by decide)
      have hX := br_n hX (by decide)
      have hX := br_n hX (by decide)
      have hX := br_n hX (by decide)
      have hX := br_p hX rfl
      refine lv_aload_n C.1 C.2.1 dX12_rule_272 rfl (lv_at hl 2 rfl) ?_
      refine M_geta C hin hW 24 rfl (by decide) f24 dX12_rule_273 ?_
      refine lv_iload_n C.1 C.2.1 dX12_rule_276 rfl (lv_at hl 1 rfl) ?_
      refine lv_iload_n C.1 C.2.1 dX12_rule_277 rfl (lv_at hl 0 rfl) ?_
      obtain ⟨hi, hX⟩ := chkI_st hX
      refine M_stI C hW 24 rfl hi dX12_rule_278 (fun H locs σ121 eσ121 hW => ?_)
      have hX := nm_st hX eσ121
      refine lv_aload_n C.1 C.2.1 dX12_rule_279 rfl (lv_at hl 2 rfl) ?_
      obtain ⟨σ122, hq, hX⟩ := bnd_st hX
      refine G_V0u (As := []) (rest := []) C hW (c_M_next l D cs h a σ121 σ122 hq.symm) (cwV 0 C.2.2.2.2 gX12_rule_X12_next rfl rfl rfl (by decide +kernel) ⟨Nat.le_of_ble_eq_true rfl, Nat.le_of_ble_eq_true rfl⟩) (M_recv hW) rfl hl.1 rfl (Nat.le_of_ble_eq_true rfl) dX12_rule_280 (fun H locs hW => ?_)
      refine lv_aload_n C.1 C.2.1 dX12_rule_283 rfl (lv_at hl 2 rfl) ?_
      refine M_geti C hin hW 26 (by decide) f26 dX12_rule_284 ?_
      refine lv_iconst (v := 3) C.1 C.2.1 dX12_rule_287 (by decide) ?_
      refine lv_icmp_eq (tgt := 296) C.1 C.2.1 dX12_rule_288 (by decide) (fun c123 => ?_) (fun c123 => ?_)
      · have hX := br_p hX c123
        refine lv_aload_n C.1 C.2.1 dX12_rule_296 rfl (lv_at hl 2 rfl) ?_
        obtain ⟨σ124, hq, hX⟩ := bnd_st hX
        refine G_V0u (As := []) (rest := []) C hW (c_M_next l D cs h a σ122 σ124 hq.symm) (cwV 0 C.2.2.2.2 gX12_rule_X12_next rfl rfl rfl (by decide +kernel) ⟨Nat.le_of_ble_eq_true rfl, Nat.le_of_ble_eq_true rfl⟩) (M_recv hW) rfl hl.1 rfl (Nat.le_of_ble_eq_true rfl) dX12_rule_297 (fun H locs hW => ?_)
        refine lv_iconst (v := 1) C.1 C.2.1 dX12_rule_300 (by decide) ?_
        exact G_retz C hr hlk hA hW rfl (Option.some.inj hX).symm dX12_rule_301
      have hX := br_n hX c123
      refine lv_aload_n C.1 C.2.1 dX12_rule_291 rfl (lv_at hl 2 rfl) ?_
      obtain ⟨v126, σ125, hq, hX⟩ := bnd2_st hX
      refine G_V0e (As := []) (rest := []) C hW (c_M_cant l D cs h a σ122 (v126, σ125) hq.symm) (cwV 0 C.2.2.2.2 gX12_rule_X12_cant rfl rfl rfl (by decide +kernel) ⟨Nat.le_of_ble_eq_true rfl, Nat.le_of_ble_eq_true rfl⟩) (M_recv hW) rfl hl.1 rfl (Nat.le_of_ble_eq_true rfl) dX12_rule_292 (fun H locs hW => ?_)
      obtain ⟨hz, hX⟩ := chkZ_st hX
      exact G_retz C hr hlk hA hW hz.1 (Option.some.inj hX).symm dX12_rule_295
    have hX := br_n hX c33
    refine lv_aload_n C.1 C.2.1 dX12_rule_90 rfl (lv_at hl 1 rfl) ?_
    refine lv_iconst (v := 4) C.1 C.2.1 dX12_rule_91 (by decide) ?_
    refine lv_aload_n C.1 C.2.1 dX12_rule_92 rfl (lv_at hl 1 rfl) ?_
    refine M_geti C hin hW 27 (by decide) f27 dX12_rule_93 ?_
    obtain ⟨v128, σ127, hq, hX⟩ := bnd2_st hX
    refine G_V0e (As := [.int 4, .int (σ.1 27 0)]) (rest := []) C hW (c_M_wrong l D cs h a σ 4 (σ.1 27 0) (v128, σ127) hq.symm) (cwV 2 C.2.2.2.2 gX12_rule_X12_wrong rfl rfl rfl (by decide +kernel) ⟨Nat.le_of_ble_eq_true rfl, Nat.le_of_ble_eq_true rfl⟩) (M_recv hW) rfl hl.1 rfl (Nat.le_of_ble_eq_true rfl) dX12_rule_96 (fun H locs hW => ?_)
    obtain ⟨hz, hX⟩ := chkZ_st hX
    exact G_retz C hr hlk hA hW hz.1 (Option.some.inj hX).symm dX12_rule_99
  have hX := br_n hX c32
  refine lv_aload_n C.1 C.2.1 dX12_rule_76 rfl (lv_at hl 1 rfl) ?_
  obtain ⟨v130, σ129, hq, hX⟩ := bnd2_st hX
  refine G_V0e (As := []) (rest := []) C hW (c_M_cant l D cs h a σ (v130, σ129) hq.symm) (cwV 0 C.2.2.2.2 gX12_rule_X12_cant rfl rfl rfl (by decide +kernel) ⟨Nat.le_of_ble_eq_true rfl, Nat.le_of_ble_eq_true rfl⟩) (M_recv hW) rfl hl.1 rfl (Nat.le_of_ble_eq_true rfl) dX12_rule_77 (fun H locs hW => ?_)
  obtain ⟨hz, hX⟩ := chkZ_st hX
  exact G_retz C hr hlk hA hW hz.1 (Option.some.inj hX).symm dX12_rule_80
abbrev rm_M_law : Room := { frames := 3, cells := 0, slots := 0, locals := 66 }
def M_law_B33 (σ : St) (x1 : Int32) (y0 : Int32) : Option (Int32) := if x1 = 1 then some 1 else if x1 = 3 then some 999 else if x1 = 4 then some 2 else some 0
set_option maxHeartbeats 4000000 in
set_option maxRecDepth 100000 in
theorem r_M_law_B33 {p : Program} {l : Launch} {e : Env} {s : State} {m : MethodId} {args : Array Value} {below : List Frame} {meth : Method} {c : Code} {Q : State → Prop} {Ev : EvT} {D : va_G} {cs : Nat → ClassId} {h : Nat} {a : Nat → Nat} {A : Nat → Prop} (C : Cx p s m args c cX12_law 3 wsX12_law RX12) : ∀ (σ : St) (x1 : Int32) (y0 : Int32) (H : Heap) (locs : List Loc) (ls : Array Slot) (X : Int32), some X = M_law_B33 σ x1 y0 → GW Ev D (tyM cs) (wM h a cs) A s σ H locs → lv_has ls 3 [(1, .int x1), (0, .ref h)] → (∀ (w0 : Int32) (H : Heap) (locs : List Loc) (ls : Array Slot), X = w0 → GW Ev D (tyM cs) (wM h a cs) A s σ H locs → lv_has ls 3 [(1, .int x1), (0, .ref h)] → W p l e rm_M_law s m args below meth c H locs 0 0 Q (F0 m 63 ls [.int w0, .int y0, .ref ((a 24))])) → W p l e rm_M_law s m args below meth c H locs 0 0 Q (F0 m 33 ls [.int y0, .ref ((a 24))]) := by
  have hin : ∀ w ∈ wsX120, w ∈ wsX12_law := fun w hw => List.mem_cons_of_mem _ (List.mem_append_right _ hw)
  have f0 : (Cond.fieldLink RX12 133 (TX12 0).1 (TX12 0).2.1 (TX12 0).2.2.1).before _ s = true := C.2.2.2.2 _ (List.mem_of_getElem? (i := 1) rfl)
  have f24 : (Cond.fieldLink RX12 64 (TX12 24).1 (TX12 24).2.1 (TX12 24).2.2.1).before _ s = true := C.2.2.2.2 _ (List.mem_of_getElem? (i := 4) rfl)
  have f25 : (Cond.fieldLink RX12 67 (TX12 25).1 (TX12 25).2.1 (TX12 25).2.2.1).before _ s = true := C.2.2.2.2 _ (List.mem_of_getElem? (i := 3) rfl)
  have f29 : (Cond.fieldLink RX12 230 (TX12 29).1 (TX12 29).2.1 (TX12 29).2.2.1).before _ s = true := C.2.2.2.2 _ (List.mem_of_getElem? (i := 2) rfl)
  intro σ x1 y0 H locs ls X hX hW hl K0
  unfold M_law_B33 at hX
  refine lv_iload_n C.1 C.2.1 dX12_law_33 rfl (lv_at hl 0 rfl) ?_
  refine lv_iconst (v := 1) C.1 C.2.1 dX12_law_34 (by decide) ?_
  refine lv_icmp_ne (tgt := 42) C.1 C.2.1 dX12_law_35 (by decide) (fun c9 => ?_) (fun c9 => ?_)
  · have hX := br_n hX c9
    refine lv_iload_n C.1 C.2.1 dX12_law_42 rfl (lv_at hl 0 rfl) ?_
    refine lv_iconst (v := 3) C.1 C.2.1 dX12_law_43 (by decide) ?_
    refine lv_icmp_ne (tgt := 53) C.1 C.2.1 dX12_law_44 (by decide) (fun c10 => ?_) (fun c10 => ?_)
    · have hX := br_n hX c10
      refine lv_iload_n C.1 C.2.1 dX12_law_53 rfl (lv_at hl 0 rfl) ?_
      refine lv_iconst (v := 4) C.1 C.2.1 dX12_law_54 (by decide) ?_
      refine lv_icmp_ne (tgt := 62) C.1 C.2.1 dX12_law_55 (by decide) (fun c11 => ?_) (fun c11 => ?_)
      · have hX := br_n hX c11
        refine lv_iconst (v := 0) C.1 C.2.1 dX12_law_62 (by decide) ?_
        exact K0 0 H locs ls (Option.some.inj hX) hW (lv_sub hl [0, 1] rfl)
      have hX := br_p hX c11
      refine lv_iconst (v := 2) C.1 C.2.1 dX12_law_58 (by decide) ?_
      refine lv_goto (tgt := 63) C.1 C.2.1 dX12_law_59 (by decide) ?_
      exact K0 2 H locs ls (Option.some.inj hX) hW (lv_sub hl [0, 1] rfl)
    have hX := br_p hX c10
    refine lv_sipush (v := 999) C.1 C.2.1 dX12_law_47 (by decide) ?_
    refine lv_goto (tgt := 63) C.1 C.2.1 dX12_law_50 (by decide) ?_
    exact K0 999 H locs ls (Option.some.inj hX) hW (lv_sub hl [0, 1] rfl)
  have hX := br_p hX c9
  refine lv_iconst (v := 1) C.1 C.2.1 dX12_law_38 (by decide) ?_
  refine lv_goto (tgt := 63) C.1 C.2.1 dX12_law_39 (by decide) ?_
  exact K0 1 H locs ls (Option.some.inj hX) hW (lv_sub hl [0, 1] rfl)
def M_law_L16 : Nat → St → Int32 → Option (St × Int32)
  | 0, _, _ => none
  | n + 1, σ, x1 => if 5 ≤ x1 then some (σ, x1) else chkI x1 5 (nm (s1 σ 25 x1.toNatClampNeg (vp_nar .boolean 0)) (fun σ16 => bnd (M_law_B33 σ16 x1 x1) (fun v17 => chkI x1 5 (nm (s1 σ16 24 x1.toNatClampNeg v17) (fun σ18 => nm (x1 + 1) (fun v19 => M_law_L16 n σ18 v19))))))
set_option maxHeartbeats 4000000 in
set_option maxRecDepth 100000 in
theorem r_M_law_L16 {p : Program} {l : Launch} {e : Env} {s : State} {m : MethodId} {args : Array Value} {below : List Frame} {meth : Method} {c : Code} {Q : State → Prop} {Ev : EvT} {D : va_G} {cs : Nat → ClassId} {h : Nat} {a : Nat → Nat} {A : Nat → Prop} (C : Cx p s m args c cX12_law 3 wsX12_law RX12) : ∀ (n : Nat) (σ : St) (x1 : Int32) (H : Heap) (locs : List Loc) (ls : Array Slot) (X : St × Int32), some X = M_law_L16 n σ x1 → GW Ev D (tyM cs) (wM h a cs) A s σ H locs → lv_has ls 3 [(1, .int x1), (0, .ref h)] → (∀ (τ : St) (z1 : Int32) (H : Heap) (locs : List Loc) (ls : Array Slot), X = (τ, z1) → GW Ev D (tyM cs) (wM h a cs) A s τ H locs → lv_has ls 3 [(1, .int z1), (0, .ref h)] → W p l e rm_M_law s m args below meth c H locs 0 0 Q (F0 m 70 ls [])) → W p l e rm_M_law s m args below meth c H locs 0 0 Q (F0 m 16 ls []) := by
  have hin : ∀ w ∈ wsX120, w ∈ wsX12_law := fun w hw => List.mem_cons_of_mem _ (List.mem_append_right _ hw)
  have f0 : (Cond.fieldLink RX12 133 (TX12 0).1 (TX12 0).2.1 (TX12 0).2.2.1).before _ s = true := C.2.2.2.2 _ (List.mem_of_getElem? (i := 1) rfl)
  have f24 : (Cond.fieldLink RX12 64 (TX12 24).1 (TX12 24).2.1 (TX12 24).2.2.1).before _ s = true := C.2.2.2.2 _ (List.mem_of_getElem? (i := 4) rfl)
  have f25 : (Cond.fieldLink RX12 67 (TX12 25).1 (TX12 25).2.1 (TX12 25).2.2.1).before _ s = true := C.2.2.2.2 _ (List.mem_of_getElem? (i := 3) rfl)
  have f29 : (Cond.fieldLink RX12 230 (TX12 29).1 (TX12 29).2.1 (TX12 29).2.2.1).before _ s = true := C.2.2.2.2 _ (List.mem_of_getElem? (i := 2) rfl)
  intro n
  induction n with
  | zero =>
    intro σ x1 H locs ls X hX hW hl K0
    cases hX
  | succ n ih =>
    intro σ x1 H locs ls X hX hW hl K0
    unfold M_law_L16 at hX
    refine lv_iload_n C.1 C.2.1 dX12_law_16 rfl (lv_at hl 0 rfl) ?_
    refine lv_iconst (v := 5) C.1 C.2.1 dX12_law_17 (by decide) ?_
    refine lv_icmp_ge (tgt := 70) C.1 C.2.1 dX12_law_18 (by decide) (fun c15 => ?_) (fun c15 => ?_)
    · have hX := br_p hX c15
      exact K0 σ x1 H locs ls (Option.some.inj hX) hW (lv_sub hl [0, 1] rfl)
    have hX := br_n hX c15
    refine lv_aload_n C.1 C.2.1 dX12_law_21 rfl (lv_at hl 1 rfl) ?_
    refine M_geta C hin hW 25 rfl (by decide) f25 dX12_law_22 ?_
    refine lv_iload_n C.1 C.2.1 dX12_law_25 rfl (lv_at hl 0 rfl) ?_
    refine lv_iconst (v := 0) C.1 C.2.1 dX12_law_26 (by decide) ?_
    obtain ⟨hi, hX⟩ := chkI_st hX
    refine M_stZ C hW 25 rfl hi dX12_law_27 (fun H locs σ16 eσ16 hW => ?_)
    have hX := nm_st hX eσ16
    refine lv_aload_n C.1 C.2.1 dX12_law_28 rfl (lv_at hl 1 rfl) ?_
    refine M_geta C hin hW 24 rfl (by decide) f24 dX12_law_29 ?_
    refine lv_iload_n C.1 C.2.1 dX12_law_32 rfl (lv_at hl 0 rfl) ?_
    obtain ⟨v17, hq, hX⟩ := bnd_st hX
    refine r_M_law_B33 C σ16 x1 x1 H locs ls v17 hq.symm hW (lv_sub hl [0, 1] rfl) ?_
    intro z0 H locs ls hq hW hl
    subst hq
    obtain ⟨hi, hX⟩ := chkI_st hX
    refine M_stI C hW 24 rfl hi dX12_law_63 (fun H locs σ18 eσ18 hW => ?_)
    have hX := nm_st hX eσ18
    obtain ⟨v19, ev19⟩ : ∃ z : Int32, z = x1 + 1 := ⟨_, rfl⟩
    have hX := nm_st hX ev19
    refine lv_iinc (v := v19) (lv' := [(1, .int v19), (0, .ref h)]) C.1 C.2.1 dX12_law_64 hl (k := 0) rfl (by rw [ev19]; rfl) (by decide) rfl (fun ls hl => ?_)
    refine lv_goto (tgt := 16) C.1 C.2.1 dX12_law_67 (by decide) ?_
    exact ih σ18 v19 H locs ls X hX hW (lv_sub hl [0, 1] rfl) K0
def M_law_L76 : Nat → St → Int32 → Option (Nat × St × Int32 × Int32)
  | 0, _, _ => none
  | n + 1, σ, x1 => if (σ.1 26 0) = 0 then some (1, σ, x1, 0) else bnd2 (M_rule σ) (fun v30 σ29 => if v30 = 0 then some (0, σ29, x1, ((-1) - (σ29.1 30 0))) else nm (x1 + 1) (fun v32 => M_law_L76 n σ29 v32))
set_option maxHeartbeats 4000000 in
set_option maxRecDepth 100000 in
theorem r_M_law_L76 {p : Program} {l : Launch} {e : Env} {s : State} {m : MethodId} {args : Array Value} {below : List Frame} {meth : Method} {c : Code} {Q : State → Prop} {Ev : EvT} {D : va_G} {cs : Nat → ClassId} {h : Nat} {a : Nat → Nat} {A : Nat → Prop} (C : Cx p s m args c cX12_law 3 wsX12_law RX12) : ∀ (n : Nat) (σ : St) (x1 : Int32) (H : Heap) (locs : List Loc) (ls : Array Slot) (X : Nat × St × Int32 × Int32), some X = M_law_L76 n σ x1 → GW Ev D (tyM cs) (wM h a cs) A s σ H locs → lv_has ls 3 [(1, .int x1), (0, .ref h)] → (∀ (τ : St) (z1 : Int32) (w0 : Int32) (H : Heap) (locs : List Loc) (ls : Array Slot), X = (0, τ, z1, w0) → GW Ev D (tyM cs) (wM h a cs) A s τ H locs → lv_has ls 3 [(1, .int z1), (0, .ref h)] → W p l e rm_M_law s m args below meth c H locs 0 0 Q (F0 m 96 ls [.int w0])) → (∀ (τ : St) (z1 : Int32) (w0 : Int32) (H : Heap) (locs : List Loc) (ls : Array Slot), X = (1, τ, z1, w0) → GW Ev D (tyM cs) (wM h a cs) A s τ H locs → lv_has ls 3 [(1, .int z1), (0, .ref h)] → W p l e rm_M_law s m args below meth c H locs 0 0 Q (F0 m 103 ls [])) → W p l e rm_M_law s m args below meth c H locs 0 0 Q (F0 m 76 ls []) := by
  have hin : ∀ w ∈ wsX120, w ∈ wsX12_law := fun w hw => List.mem_cons_of_mem _ (List.mem_append_right _ hw)
  have f0 : (Cond.fieldLink RX12 133 (TX12 0).1 (TX12 0).2.1 (TX12 0).2.2.1).before _ s = true := C.2.2.2.2 _ (List.mem_of_getElem? (i := 1) rfl)
  have f24 : (Cond.fieldLink RX12 64 (TX12 24).1 (TX12 24).2.1 (TX12 24).2.2.1).before _ s = true := C.2.2.2.2 _ (List.mem_of_getElem? (i := 4) rfl)
  have f25 : (Cond.fieldLink RX12 67 (TX12 25).1 (TX12 25).2.1 (TX12 25).2.2.1).before _ s = true := C.2.2.2.2 _ (List.mem_of_getElem? (i := 3) rfl)
  have f26 : (Cond.fieldLink RX12 214 (TX12 26).1 (TX12 26).2.1 (TX12 26).2.2.1).before _ s = true := C.2.2.2.2 _ (List.mem_of_getElem? (i := 5) rfl)
  have f29 : (Cond.fieldLink RX12 230 (TX12 29).1 (TX12 29).2.1 (TX12 29).2.2.1).before _ s = true := C.2.2.2.2 _ (List.mem_of_getElem? (i := 2) rfl)
  have f30 : (Cond.fieldLink RX12 233 (TX12 30).1 (TX12 30).2.1 (TX12 30).2.2.1).before _ s = true := C.2.2.2.2 _ (List.mem_of_getElem? (i := 6) rfl)
  intro n
  induction n with
  | zero =>
    intro σ x1 H locs ls X hX hW hl K0 K1
    cases hX
  | succ n ih =>
    intro σ x1 H locs ls X hX hW hl K0 K1
    unfold M_law_L76 at hX
    refine lv_aload_n C.1 C.2.1 dX12_law_76 rfl (lv_at hl 1 rfl) ?_
    refine M_geti C hin hW 26 (by decide) f26 dX12_law_77 ?_
    refine lv_if_eq (tgt := 103) C.1 C.2.1 dX12_law_80 (by decide) (fun c28 => ?_) (fun c28 => ?_)
    · have hX := br_p hX c28
      exact K1 σ x1 0 H locs ls (Option.some.inj hX) hW (lv_sub hl [0, 1] rfl)
    have hX := br_n hX c28
    refine lv_aload_n C.1 C.2.1 dX12_law_83 rfl (lv_at hl 1 rfl) ?_
    obtain ⟨v30, σ29, hq, hX⟩ := bnd2_st hX
    refine G_V0e (As := []) (rest := []) C hW (c_M_rule l D cs h a σ (v30, σ29) hq.symm) (cwV 0 C.2.2.2.2 gX12_law_X12_rule rfl rfl rfl (by decide +kernel) ⟨Nat.le_of_ble_eq_true rfl, Nat.le_of_ble_eq_true rfl⟩) (M_recv hW) rfl hl.1 rfl (Nat.le_of_ble_eq_true rfl) dX12_law_84 (fun H locs hW => ?_)
    refine lv_if_ne (tgt := 97) C.1 C.2.1 dX12_law_87 (by decide) (fun c31 => ?_) (fun c31 => ?_)
    · have hX := br_n hX c31
      obtain ⟨v32, ev32⟩ : ∃ z : Int32, z = x1 + 1 := ⟨_, rfl⟩
      have hX := nm_st hX ev32
      refine lv_iinc (v := v32) (lv' := [(1, .int v32), (0, .ref h)]) C.1 C.2.1 dX12_law_97 hl (k := 0) rfl (by rw [ev32]; rfl) (by decide) rfl (fun ls hl => ?_)
      refine lv_goto (tgt := 76) C.1 C.2.1 dX12_law_100 (by decide) ?_
      exact ih σ29 v32 H locs ls X hX hW (lv_sub hl [0, 1] rfl) K0 K1
    have hX := br_p hX c31
    refine lv_iconst (v := -1) C.1 C.2.1 dX12_law_90 (by decide) ?_
    refine lv_aload_n C.1 C.2.1 dX12_law_91 rfl (lv_at hl 1 rfl) ?_
    refine M_geti C hin hW 30 (by decide) f30 dX12_law_92 ?_
    refine lv_isub C.1 C.2.1 dX12_law_95 ?_
    exact K0 σ29 x1 ((-1) - (σ29.1 30 0)) H locs ls (Option.some.inj hX) hW (lv_sub hl [0, 1] rfl)
def M_law_L105 : Nat → St → Int32 → Int32 → Option (St × Int32)
  | 0, _, _, _ => none
  | n + 1, σ, x2, x1 => if 5 ≤ x2 then some (σ, x2) else chkI x2 5 (chkI x2 5 (nm (s1 σ 23 x2.toNatClampNeg (σ.1 24 x2.toNatClampNeg)) (fun σ43 => nm (x2 + 1) (fun v44 => M_law_L105 n σ43 v44 x1))))
set_option maxHeartbeats 4000000 in
set_option maxRecDepth 100000 in
theorem r_M_law_L105 {p : Program} {l : Launch} {e : Env} {s : State} {m : MethodId} {args : Array Value} {below : List Frame} {meth : Method} {c : Code} {Q : State → Prop} {Ev : EvT} {D : va_G} {cs : Nat → ClassId} {h : Nat} {a : Nat → Nat} {A : Nat → Prop} (C : Cx p s m args c cX12_law 3 wsX12_law RX12) : ∀ (n : Nat) (σ : St) (x2 : Int32) (x1 : Int32) (H : Heap) (locs : List Loc) (ls : Array Slot) (X : St × Int32), some X = M_law_L105 n σ x2 x1 → GW Ev D (tyM cs) (wM h a cs) A s σ H locs → lv_has ls 3 [(2, .int x2), (1, .int x1), (0, .ref h)] → (∀ (τ : St) (z2 : Int32) (H : Heap) (locs : List Loc) (ls : Array Slot), X = (τ, z2) → GW Ev D (tyM cs) (wM h a cs) A s τ H locs → lv_has ls 3 [(2, .int z2), (1, .int x1), (0, .ref h)] → W p l e rm_M_law s m args below meth c H locs 0 0 Q (F0 m 128 ls [])) → W p l e rm_M_law s m args below meth c H locs 0 0 Q (F0 m 105 ls []) := by
  have hin : ∀ w ∈ wsX120, w ∈ wsX12_law := fun w hw => List.mem_cons_of_mem _ (List.mem_append_right _ hw)
  have f0 : (Cond.fieldLink RX12 133 (TX12 0).1 (TX12 0).2.1 (TX12 0).2.2.1).before _ s = true := C.2.2.2.2 _ (List.mem_of_getElem? (i := 1) rfl)
  have f23 : (Cond.fieldLink RX12 61 (TX12 23).1 (TX12 23).2.1 (TX12 23).2.2.1).before _ s = true := C.2.2.2.2 _ (List.mem_of_getElem? (i := 7) rfl)
  have f24 : (Cond.fieldLink RX12 64 (TX12 24).1 (TX12 24).2.1 (TX12 24).2.2.1).before _ s = true := C.2.2.2.2 _ (List.mem_of_getElem? (i := 4) rfl)
  have f25 : (Cond.fieldLink RX12 67 (TX12 25).1 (TX12 25).2.1 (TX12 25).2.2.1).before _ s = true := C.2.2.2.2 _ (List.mem_of_getElem? (i := 3) rfl)
  have f26 : (Cond.fieldLink RX12 214 (TX12 26).1 (TX12 26).2.1 (TX12 26).2.2.1).before _ s = true := C.2.2.2.2 _ (List.mem_of_getElem? (i := 5) rfl)
  have f29 : (Cond.fieldLink RX12 230 (TX12 29).1 (TX12 29).2.1 (TX12 29).2.2.1).before _ s = true := C.2.2.2.2 _ (List.mem_of_getElem? (i := 2) rfl)
  have f30 : (Cond.fieldLink RX12 233 (TX12 30).1 (TX12 30).2.1 (TX12 30).2.2.1).before _ s = true := C.2.2.2.2 _ (List.mem_of_getElem? (i := 6) rfl)
  intro n
  induction n with
  | zero =>
    intro σ x2 x1 H locs ls X hX hW hl K0
    cases hX
  | succ n ih =>
    intro σ x2 x1 H locs ls X hX hW hl K0
    unfold M_law_L105 at hX
    refine lv_iload_n C.1 C.2.1 dX12_law_105 rfl (lv_at hl 0 rfl) ?_
    refine lv_iconst (v := 5) C.1 C.2.1 dX12_law_106 (by decide) ?_
    refine lv_icmp_ge (tgt := 128) C.1 C.2.1 dX12_law_107 (by decide) (fun c42 => ?_) (fun c42 => ?_)
    · have hX := br_p hX c42
      exact K0 σ x2 H locs ls (Option.some.inj hX) hW (lv_sub hl [0, 1, 2] rfl)
    have hX := br_n hX c42
    refine lv_aload_n C.1 C.2.1 dX12_law_110 rfl (lv_at hl 2 rfl) ?_
    refine M_geta C hin hW 23 rfl (by decide) f23 dX12_law_111 ?_
    refine lv_iload_n C.1 C.2.1 dX12_law_114 rfl (lv_at hl 0 rfl) ?_
    refine lv_aload_n C.1 C.2.1 dX12_law_115 rfl (lv_at hl 2 rfl) ?_
    refine M_geta C hin hW 24 rfl (by decide) f24 dX12_law_116 ?_
    refine lv_iload_n C.1 C.2.1 dX12_law_119 rfl (lv_at hl 0 rfl) ?_
    obtain ⟨hi, hX⟩ := chkI_st hX
    refine M_ldI C hW 24 rfl hi dX12_law_120 ?_
    obtain ⟨hi, hX⟩ := chkI_st hX
    refine M_stI C hW 23 rfl hi dX12_law_121 (fun H locs σ43 eσ43 hW => ?_)
    have hX := nm_st hX eσ43
    obtain ⟨v44, ev44⟩ : ∃ z : Int32, z = x2 + 1 := ⟨_, rfl⟩
    have hX := nm_st hX ev44
    refine lv_iinc (v := v44) (lv' := [(2, .int v44), (1, .int x1), (0, .ref h)]) C.1 C.2.1 dX12_law_122 hl (k := 0) rfl (by rw [ev44]; rfl) (by decide) rfl (fun ls hl => ?_)
    refine lv_goto (tgt := 105) C.1 C.2.1 dX12_law_125 (by decide) ?_
    exact ih σ43 v44 x1 H locs ls X hX hW (lv_sub hl [0, 1, 2] rfl) K0
def M_law (σ : St) : Option (Int32 × St) := nm (s1 σ 0 0 0) (fun σ1 => bnd (M_taken σ1) (fun σ2 => nm (s1 σ2 29 0 0) (fun σ3 => bnd (M_law_L16 100000 σ3 0) (fun q => nm2 q (fun σ20 v21 => bnd (M_next σ20) (fun σ22 => bnd (M_law_L76 100000 σ22 0) (fun q => nm2 q (fun j q => nm2 q (fun σ33 q => nm2 q (fun v34 v35 => if j = 0 then some (v35, σ33) else if j = 1 then bnd (M_law_L105 100000 σ33 0 v34) (fun q => nm2 q (fun σ45 v46 => nm (s1 σ45 31 0 v34) (fun σ47 => some (v34, σ47)))) else none))))))))))
set_option maxHeartbeats 4000000 in
set_option maxRecDepth 100000 in
theorem c_M_law {Ev : EvT} (l : Launch) (D : va_G) (cs : Nat → ClassId) (h : Nat) (a : Nat → Nat) (σ : St) (X : Int32 × St) (hX : some X = M_law σ) : cGi Ev l D (tyM cs) (wM h a cs) yX12_law wsX12_law rm_M_law 0 0 [.ref h] σ (fun r u => (r, u) = X) := by
  refine G_ini (cc := cX12_law) (maxL := 3) (ret := some .int) (by decide) rfl (Nat.le_of_ble_eq_true rfl) ?_
  intro p e s m below meth c A ls C hr hlk hini hA hW hl
  have C : Cx p s m _ c cX12_law 3 wsX12_law RX12 := C
  have hl : lv_has ls 3 [(0, .ref h)] := hl
  have hin : ∀ w ∈ wsX120, w ∈ wsX12_law := fun w hw => List.mem_cons_of_mem _ (List.mem_append_right _ hw)
  have f0 : (Cond.fieldLink RX12 133 (TX12 0).1 (TX12 0).2.1 (TX12 0).2.2.1).before _ s = true := C.2.2.2.2 _ (List.mem_of_getElem? (i := 1) rfl)
  have f23 : (Cond.fieldLink RX12 61 (TX12 23).1 (TX12 23).2.1 (TX12 23).2.2.1).before _ s = true := C.2.2.2.2 _ (List.mem_of_getElem? (i := 7) rfl)
  have f24 : (Cond.fieldLink RX12 64 (TX12 24).1 (TX12 24).2.1 (TX12 24).2.2.1).before _ s = true := C.2.2.2.2 _ (List.mem_of_getElem? (i := 4) rfl)
  have f25 : (Cond.fieldLink RX12 67 (TX12 25).1 (TX12 25).2.1 (TX12 25).2.2.1).before _ s = true := C.2.2.2.2 _ (List.mem_of_getElem? (i := 3) rfl)
  have f26 : (Cond.fieldLink RX12 214 (TX12 26).1 (TX12 26).2.1 (TX12 26).2.2.1).before _ s = true := C.2.2.2.2 _ (List.mem_of_getElem? (i := 5) rfl)
  have f29 : (Cond.fieldLink RX12 230 (TX12 29).1 (TX12 29).2.1 (TX12 29).2.2.1).before _ s = true := C.2.2.2.2 _ (List.mem_of_getElem? (i := 2) rfl)
  have f30 : (Cond.fieldLink RX12 233 (TX12 30).1 (TX12 30).2.1 (TX12 30).2.2.1).before _ s = true := C.2.2.2.2 _ (List.mem_of_getElem? (i := 6) rfl)
  have f31 : (Cond.fieldLink RX12 247 (TX12 31).1 (TX12 31).2.1 (TX12 31).2.2.1).before _ s = true := C.2.2.2.2 _ (List.mem_of_getElem? (i := 8) rfl)
  obtain ⟨H, hH⟩ : ∃ H, H = s.heap := ⟨_, rfl⟩
  obtain ⟨locs, hlo⟩ : ∃ z : List Loc, z = [] := ⟨_, rfl⟩
  have hW : GW Ev D (tyM cs) (wM h a cs) A s σ H locs := by rw [hH, hlo]; exact hW
  rw [show W p l e rm_M_law s m _ below meth c s.heap [] = W p l e rm_M_law s m _ below meth c H locs from by rw [hH, hlo]]
  unfold M_law at hX
  refine lv_aload_n C.1 C.2.1 dX12_law_0 rfl (lv_at hl 0 rfl) ?_
  refine lv_iconst (v := 0) C.1 C.2.1 dX12_law_1 (by decide) ?_
  refine M_puti C hin hW 0 rfl f0 dX12_law_2 (fun H locs σ1 eσ1 hW => ?_)
  have hX := nm_st hX eσ1
  refine lv_aload_n C.1 C.2.1 dX12_law_5 rfl (lv_at hl 0 rfl) ?_
  obtain ⟨σ2, hq, hX⟩ := bnd_st hX
  refine G_V0u (As := []) (rest := []) C hW (c_M_taken l D cs h a σ1 σ2 hq.symm) (cwV 0 C.2.2.2.2 gX12_law_X12_taken rfl rfl rfl (by decide +kernel) ⟨Nat.le_of_ble_eq_true rfl, Nat.le_of_ble_eq_true rfl⟩) (M_recv hW) rfl hl.1 rfl (Nat.le_of_ble_eq_true rfl) dX12_law_6 (fun H locs hW => ?_)
  refine lv_aload_n C.1 C.2.1 dX12_law_9 rfl (lv_at hl 0 rfl) ?_
  refine lv_iconst (v := 0) C.1 C.2.1 dX12_law_10 (by decide) ?_
  refine M_puti C hin hW 29 rfl f29 dX12_law_11 (fun H locs σ3 eσ3 hW => ?_)
  have hX := nm_st hX eσ3
  refine lv_iconst (v := 0) C.1 C.2.1 dX12_law_14 (by decide) ?_
  refine lv_istore_n (lv' := [(1, .int 0), (0, .ref h)]) C.1 C.2.1 dX12_law_15 rfl hl (by decide) rfl (fun ls hl => ?_)
  obtain ⟨q, hq, hX⟩ := bnd_st hX
  refine r_M_law_L16 C 100000 σ3 0 H locs ls q hq.symm hW (lv_sub hl [0, 1] rfl) ?_
  intro σ20 v21 H locs ls hq hW hl
  subst hq
  have hX := nm2_st hX rfl
  refine lv_iconst (v := 0) C.1 C.2.1 dX12_law_70 (by decide) ?_
  refine lv_istore_n (lv' := [(1, .int 0), (0, .ref h)]) C.1 C.2.1 dX12_law_71 rfl hl (by decide) rfl (fun ls hl => ?_)
  refine lv_aload_n C.1 C.2.1 dX12_law_72 rfl (lv_at hl 1 rfl) ?_
  obtain ⟨σ22, hq, hX⟩ := bnd_st hX
  refine G_V0u (As := []) (rest := []) C hW (c_M_next l D cs h a σ20 σ22 hq.symm) (cwV 0 C.2.2.2.2 gX12_law_X12_next rfl rfl rfl (by decide +kernel) ⟨Nat.le_of_ble_eq_true rfl, Nat.le_of_ble_eq_true rfl⟩) (M_recv hW) rfl hl.1 rfl (Nat.le_of_ble_eq_true rfl) dX12_law_73 (fun H locs hW => ?_)
  obtain ⟨q, hq, hX⟩ := bnd_st hX
  refine r_M_law_L76 C 100000 σ22 0 H locs ls q hq.symm hW (lv_sub hl [0, 1] rfl) ?_ ?_
  · intro σ33 v34 v35 H locs ls hq hW hl
    subst hq
    have hX := nm2_st hX rfl
    have hX := nm2_st hX rfl
    have hX := nm2_st hX rfl
    have hX := br_p hX rfl
    exact G_reti C hr hlk hA hW (Option.some.inj hX).symm dX12_law_96
  intro σ36 v37 v38 H locs ls hq hW hl
  subst hq
  have hX := nm2_st hX rfl
  have hX := nm2_st hX rfl
  have hX := nm2_st hX rfl
  have hX := br_n hX (by decide)
  have hX := br_p hX rfl
  refine lv_iconst (v := 0) C.1 C.2.1 dX12_law_103 (by decide) ?_
  refine lv_istore_n (lv' := [(2, .int 0), (1, .int v37), (0, .ref h)]) C.1 C.2.1 dX12_law_104 rfl hl (by decide) rfl (fun ls hl => ?_)
  obtain ⟨q, hq, hX⟩ := bnd_st hX
  refine r_M_law_L105 C 100000 σ36 0 v37 H locs ls q hq.symm hW (lv_sub hl [0, 1, 2] rfl) ?_
  intro σ45 v46 H locs ls hq hW hl
  subst hq
  have hX := nm2_st hX rfl
  refine lv_aload_n C.1 C.2.1 dX12_law_128 rfl (lv_at hl 2 rfl) ?_
  refine lv_iload_n C.1 C.2.1 dX12_law_129 rfl (lv_at hl 1 rfl) ?_
  refine M_puti C hin hW 31 rfl f31 dX12_law_130 (fun H locs σ47 eσ47 hW => ?_)
  have hX := nm_st hX eσ47
  refine lv_iload_n C.1 C.2.1 dX12_law_133 rfl (lv_at hl 1 rfl) ?_
  exact G_reti C hr hlk hA hW (Option.some.inj hX).symm dX12_law_134
