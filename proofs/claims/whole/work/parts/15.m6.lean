abbrev rm_M_person : Room := { frames := 1, cells := 0, slots := 0, locals := 22 }
def M_person_B36 (σ : St) (x1 : Int32) (x2 : Int32) (x3 : Int32) (x4 : Int32) (y0 : Int32) (y1 : Int32) : Option (Int32) := if x2 = 0 then some 7 else some 63
set_option maxHeartbeats 4000000 in
set_option maxRecDepth 100000 in
theorem r_M_person_B36 {p : Program} {l : Launch} {e : Env} {s : State} {m : MethodId} {args : Array Value} {below : List Frame} {meth : Method} {c : Code} {Q : State → Prop} {Ev : EvT} {D : va_G} {cs : Nat → ClassId} {h : Nat} {a : Nat → Nat} {A : Nat → Prop} (C : Cx p s m args c cX12_person 8 wsX12_person RX12) : ∀ (σ : St) (x1 : Int32) (x2 : Int32) (x3 : Int32) (x4 : Int32) (y0 : Int32) (y1 : Int32) (H : Heap) (locs : List Loc) (ls : Array Slot) (X : Int32), some X = M_person_B36 σ x1 x2 x3 x4 y0 y1 → GW Ev D (tyM cs) (wM h a cs) A s σ H locs → lv_has ls 8 [(0, .ref h), (1, .int x1), (2, .int x2), (3, .int x3), (4, .int x4)] → (∀ (w0 : Int32) (H : Heap) (locs : List Loc) (ls : Array Slot), X = w0 → GW Ev D (tyM cs) (wM h a cs) A s σ H locs → lv_has ls 8 [(0, .ref h), (1, .int x1), (2, .int x2), (3, .int x3), (4, .int x4)] → W p l e rm_M_person s m args below meth c H locs 0 0 Q (F0 m 47 ls [.int w0, .int y0, .int y1])) → W p l e rm_M_person s m args below meth c H locs 0 0 Q (F0 m 36 ls [.int y0, .int y1]) := by
  have hin : ∀ w ∈ wsX120, w ∈ wsX12_person := fun w hw => List.mem_cons_of_mem _ (List.mem_append_right _ hw)
  have f0 : (Cond.fieldLink RX12 133 (TX12 0).1 (TX12 0).2.1 (TX12 0).2.2.1).before _ s = true := C.2.2.2.2 _ (List.mem_of_getElem? (i := 1) rfl)
  have f3 : (Cond.fieldLink RX12 144 (TX12 3).1 (TX12 3).2.1 (TX12 3).2.2.1).before _ s = true := C.2.2.2.2 _ (List.mem_of_getElem? (i := 4) rfl)
  have f20 : (Cond.fieldLink RX12 150 (TX12 20).1 (TX12 20).2.1 (TX12 20).2.2.1).before _ s = true := C.2.2.2.2 _ (List.mem_of_getElem? (i := 2) rfl)
  have f22 : (Cond.fieldLink RX12 153 (TX12 22).1 (TX12 22).2.1 (TX12 22).2.2.1).before _ s = true := C.2.2.2.2 _ (List.mem_of_getElem? (i := 3) rfl)
  intro σ x1 x2 x3 x4 y0 y1 H locs ls X hX hW hl K0
  unfold M_person_B36 at hX
  refine lv_iload_n C.1 C.2.1 dX12_person_36 rfl (lv_at hl 2 rfl) ?_
  refine lv_if_eq (tgt := 45) C.1 C.2.1 dX12_person_37 (by decide) (fun c7 => ?_) (fun c7 => ?_)
  · have hX := br_p hX c7
    refine lv_bipush (v := 7) C.1 C.2.1 dX12_person_45 (by decide) ?_
    exact K0 7 H locs ls (Option.some.inj hX) hW (lv_sub hl [0, 1, 2, 3, 4] rfl)
  have hX := br_n hX c7
  refine lv_bipush (v := 63) C.1 C.2.1 dX12_person_40 (by decide) ?_
  refine lv_goto (tgt := 47) C.1 C.2.1 dX12_person_42 (by decide) ?_
  exact K0 63 H locs ls (Option.some.inj hX) hW (lv_sub hl [0, 1, 2, 3, 4] rfl)
def M_person_L82 : Nat → St → Int32 → Int64 → Int32 → Int32 → Int32 → Int32 → Option (Nat × St × Int32 × Int64 × Int32)
  | 0, _, _, _, _, _, _, _ => none
  | n + 1, σ, x7, x5, x1, x2, x3, x4 => if (σ.1 3 0) ≤ x7 then some (1, σ, x7, x5, 0) else chkI x7 200 (bnd (M_isQuarter (σ.1 1 x7.toNatClampNeg)) (fun v23 => if v23 = 0 then some (0, σ, x7, x5, (-1)) else chkI x7 200 (if (lg_cmp ((x5 >>> ((σ.1 1 x7.toNatClampNeg).toInt64 &&& 63)) &&& 1) 1) = 0 then some (0, σ, x7, x5, (-1)) else chkI x7 200 (nm (x5 ||| (1 <<< ((σ.1 1 x7.toNatClampNeg).toInt64 &&& 63))) (fun v26 => chkI x7 200 (chkI ((12 * (σ.1 20 0)) + x7) 360 (nm (s1 σ 16 ((12 * (σ.1 20 0)) + x7).toNatClampNeg (σ.1 1 x7.toNatClampNeg)) (fun σ27 => nm (x7 + 1) (fun v28 => M_person_L82 n σ27 v28 v26 x1 x2 x3 x4)))))))))
set_option maxHeartbeats 4000000 in
set_option maxRecDepth 100000 in
theorem r_M_person_L82 {p : Program} {l : Launch} {e : Env} {s : State} {m : MethodId} {args : Array Value} {below : List Frame} {meth : Method} {c : Code} {Q : State → Prop} {Ev : EvT} {D : va_G} {cs : Nat → ClassId} {h : Nat} {a : Nat → Nat} {A : Nat → Prop} (C : Cx p s m args c cX12_person 8 wsX12_person RX12) : ∀ (n : Nat) (σ : St) (x7 : Int32) (x5 : Int64) (x1 : Int32) (x2 : Int32) (x3 : Int32) (x4 : Int32) (H : Heap) (locs : List Loc) (ls : Array Slot) (X : Nat × St × Int32 × Int64 × Int32), some X = M_person_L82 n σ x7 x5 x1 x2 x3 x4 → GW Ev D (tyM cs) (wM h a cs) A s σ H locs → lv_has ls 8 [(7, .int x7), (5, .long x5), (0, .ref h), (1, .int x1), (2, .int x2), (3, .int x3), (4, .int x4)] → (∀ (τ : St) (z7 : Int32) (z5 : Int64) (w0 : Int32) (H : Heap) (locs : List Loc) (ls : Array Slot), X = (0, τ, z7, z5, w0) → GW Ev D (tyM cs) (wM h a cs) A s τ H locs → lv_has ls 8 [(7, .int z7), (5, .long z5), (0, .ref h), (1, .int x1), (2, .int x2), (3, .int x3), (4, .int x4)] → W p l e rm_M_person s m args below meth c H locs 0 0 Q (F0 m 122 ls [.int w0])) → (∀ (τ : St) (z7 : Int32) (z5 : Int64) (w0 : Int32) (H : Heap) (locs : List Loc) (ls : Array Slot), X = (1, τ, z7, z5, w0) → GW Ev D (tyM cs) (wM h a cs) A s τ H locs → lv_has ls 8 [(7, .int z7), (5, .long z5), (0, .ref h), (1, .int x1), (2, .int x2), (3, .int x3), (4, .int x4)] → W p l e rm_M_person s m args below meth c H locs 0 0 Q (F0 m 165 ls [])) → W p l e rm_M_person s m args below meth c H locs 0 0 Q (F0 m 82 ls []) := by
  have hin : ∀ w ∈ wsX120, w ∈ wsX12_person := fun w hw => List.mem_cons_of_mem _ (List.mem_append_right _ hw)
  have f0 : (Cond.fieldLink RX12 133 (TX12 0).1 (TX12 0).2.1 (TX12 0).2.2.1).before _ s = true := C.2.2.2.2 _ (List.mem_of_getElem? (i := 1) rfl)
  have f1 : (Cond.fieldLink RX12 7 (TX12 1).1 (TX12 1).2.1 (TX12 1).2.2.1).before _ s = true := C.2.2.2.2 _ (List.mem_of_getElem? (i := 5) rfl)
  have f3 : (Cond.fieldLink RX12 144 (TX12 3).1 (TX12 3).2.1 (TX12 3).2.2.1).before _ s = true := C.2.2.2.2 _ (List.mem_of_getElem? (i := 4) rfl)
  have f16 : (Cond.fieldLink RX12 47 (TX12 16).1 (TX12 16).2.1 (TX12 16).2.2.1).before _ s = true := C.2.2.2.2 _ (List.mem_of_getElem? (i := 6) rfl)
  have f20 : (Cond.fieldLink RX12 150 (TX12 20).1 (TX12 20).2.1 (TX12 20).2.2.1).before _ s = true := C.2.2.2.2 _ (List.mem_of_getElem? (i := 2) rfl)
  have f22 : (Cond.fieldLink RX12 153 (TX12 22).1 (TX12 22).2.1 (TX12 22).2.2.1).before _ s = true := C.2.2.2.2 _ (List.mem_of_getElem? (i := 3) rfl)
  intro n
  induction n with
  | zero =>
    intro σ x7 x5 x1 x2 x3 x4 H locs ls X hX hW hl K0 K1
    cases hX
  | succ n ih =>
    intro σ x7 x5 x1 x2 x3 x4 H locs ls X hX hW hl K0 K1
    unfold M_person_L82 at hX
    refine lv_iload C.1 C.2.1 dX12_person_82 (lv_at hl 0 rfl) ?_
    refine lv_aload_n C.1 C.2.1 dX12_person_84 rfl (lv_at hl 2 rfl) ?_
    refine M_geti C hin hW 3 (by decide) f3 dX12_person_85 ?_
    refine lv_icmp_ge (tgt := 165) C.1 C.2.1 dX12_person_88 (by decide) (fun c22 => ?_) (fun c22 => ?_)
    · have hX := br_p hX c22
      exact K1 σ x7 x5 0 H locs ls (Option.some.inj hX) hW (lv_sub hl [0, 1, 2, 3, 4, 5, 6] rfl)
    have hX := br_n hX c22
    refine lv_aload_n C.1 C.2.1 dX12_person_91 rfl (lv_at hl 2 rfl) ?_
    refine M_geta C hin hW 1 rfl (by decide) f1 dX12_person_92 ?_
    refine lv_iload C.1 C.2.1 dX12_person_95 (lv_at hl 0 rfl) ?_
    obtain ⟨hi, hX⟩ := chkI_st hX
    refine M_ldB C hW 1 rfl hi dX12_person_97 ?_
    obtain ⟨v23, hq, hX⟩ := bnd_st hX
    refine G_S0s (As := [.int (σ.1 1 x7.toNatClampNeg)]) (rest := []) C hW (c_M_isQuarter l D (tyM cs) (wM h a cs) σ (σ.1 1 x7.toNatClampNeg) v23 hq.symm) (cwS 1 C.2.2.2.2 gX12_person_X12_isQuarter rfl rfl rfl (by decide +kernel) ⟨Nat.le_of_ble_eq_true rfl, Nat.le_of_ble_eq_true rfl⟩) rfl hl.1 rfl (Nat.le_of_ble_eq_true rfl) dX12_person_98 (fun H locs hW => ?_)
    refine lv_if_eq (tgt := 121) C.1 C.2.1 dX12_person_101 (by decide) (fun c24 => ?_) (fun c24 => ?_)
    · have hX := br_p hX c24
      refine lv_iconst (v := -1) C.1 C.2.1 dX12_person_121 (by decide) ?_
      exact K0 σ x7 x5 (-1) H locs ls (Option.some.inj hX) hW (lv_sub hl [0, 1, 2, 3, 4, 5, 6] rfl)
    have hX := br_n hX c24
    refine lv_lload C.1 C.2.1 dX12_person_104 (lv_at hl 1 rfl) ?_
    refine lv_aload_n C.1 C.2.1 dX12_person_106 rfl (lv_at hl 2 rfl) ?_
    refine M_geta C hin hW 1 rfl (by decide) f1 dX12_person_107 ?_
    refine lv_iload C.1 C.2.1 dX12_person_110 (lv_at hl 0 rfl) ?_
    obtain ⟨hi, hX⟩ := chkI_st hX
    refine M_ldB C hW 1 rfl hi dX12_person_112 ?_
    refine lv_lshr C.1 C.2.1 dX12_person_113 rfl ?_
    refine lv_lconst (v := 1) C.1 C.2.1 dX12_person_114 (by decide) ?_
    refine lv_land C.1 C.2.1 dX12_person_115 ?_
    refine lv_lconst (v := 1) C.1 C.2.1 dX12_person_116 (by decide) ?_
    refine W.lcmp C.1 C.2.1 dX12_person_117 ?_
    refine lv_if_ne (tgt := 123) C.1 C.2.1 dX12_person_118 (by decide) (fun c25 => ?_) (fun c25 => ?_)
    · have hX := br_n hX c25
      refine lv_lload C.1 C.2.1 dX12_person_123 (lv_at hl 1 rfl) ?_
      refine lv_lconst (v := 1) C.1 C.2.1 dX12_person_125 (by decide) ?_
      refine lv_aload_n C.1 C.2.1 dX12_person_126 rfl (lv_at hl 2 rfl) ?_
      refine M_geta C hin hW 1 rfl (by decide) f1 dX12_person_127 ?_
      refine lv_iload C.1 C.2.1 dX12_person_130 (lv_at hl 0 rfl) ?_
      obtain ⟨hi, hX⟩ := chkI_st hX
      refine M_ldB C hW 1 rfl hi dX12_person_132 ?_
      refine lv_lshl C.1 C.2.1 dX12_person_133 rfl ?_
      refine lv_lor C.1 C.2.1 dX12_person_134 ?_
      refine lv_topl (fun v26 ev26 => ?_)
      have hX := nm_st hX ev26
      refine lv_lstore (lv' := [(5, .long v26), (7, .int x7), (0, .ref h), (1, .int x1), (2, .int x2), (3, .int x3), (4, .int x4)]) C.1 C.2.1 dX12_person_135 hl (by decide) rfl (fun ls hl => ?_)
      refine lv_aload_n C.1 C.2.1 dX12_person_137 rfl (lv_at hl 2 rfl) ?_
      refine M_geta C hin hW 16 rfl (by decide) f16 dX12_person_138 ?_
      refine lv_bipush (v := 12) C.1 C.2.1 dX12_person_141 (by decide) ?_
      refine lv_aload_n C.1 C.2.1 dX12_person_143 rfl (lv_at hl 2 rfl) ?_
      refine M_geti C hin hW 20 (by decide) f20 dX12_person_144 ?_
      refine lv_imul C.1 C.2.1 dX12_person_147 ?_
      refine lv_iload C.1 C.2.1 dX12_person_148 (lv_at hl 1 rfl) ?_
      refine lv_iadd C.1 C.2.1 dX12_person_150 ?_
      refine lv_aload_n C.1 C.2.1 dX12_person_151 rfl (lv_at hl 2 rfl) ?_
      refine M_geta C hin hW 1 rfl (by decide) f1 dX12_person_152 ?_
      refine lv_iload C.1 C.2.1 dX12_person_155 (lv_at hl 1 rfl) ?_
      obtain ⟨hi, hX⟩ := chkI_st hX
      refine M_ldB C hW 1 rfl hi dX12_person_157 ?_
      obtain ⟨hi, hX⟩ := chkI_st hX
      refine M_stI C hW 16 rfl hi dX12_person_158 (fun H locs σ27 eσ27 hW => ?_)
      have hX := nm_st hX eσ27
      obtain ⟨v28, ev28⟩ : ∃ z : Int32, z = x7 + 1 := ⟨_, rfl⟩
      have hX := nm_st hX ev28
      refine lv_iinc (v := v28) (lv' := [(7, .int v28), (5, .long v26), (0, .ref h), (1, .int x1), (2, .int x2), (3, .int x3), (4, .int x4)]) C.1 C.2.1 dX12_person_159 hl (k := 1) rfl (by rw [ev28]; rfl) (by decide) rfl (fun ls hl => ?_)
      refine lv_goto (tgt := 82) C.1 C.2.1 dX12_person_162 (by decide) ?_
      exact ih σ27 v28 v26 x1 x2 x3 x4 H locs ls X hX hW (lv_sub hl [0, 1, 2, 3, 4, 5, 6] rfl) K0 K1
    have hX := br_p hX c25
    refine lv_iconst (v := -1) C.1 C.2.1 dX12_person_121 (by decide) ?_
    exact K0 σ x7 x5 (-1) H locs ls (Option.some.inj hX) hW (lv_sub hl [0, 1, 2, 3, 4, 5, 6] rfl)
def M_person_B186 (σ : St) (x7 : Int32) (x5 : Int64) (x1 : Int32) (x2 : Int32) (x3 : Int32) (x4 : Int32) (y0 : Int32) : Option (Int32) := if x2 = 0 then some (-1) else some x1
set_option maxHeartbeats 4000000 in
set_option maxRecDepth 100000 in
theorem r_M_person_B186 {p : Program} {l : Launch} {e : Env} {s : State} {m : MethodId} {args : Array Value} {below : List Frame} {meth : Method} {c : Code} {Q : State → Prop} {Ev : EvT} {D : va_G} {cs : Nat → ClassId} {h : Nat} {a : Nat → Nat} {A : Nat → Prop} (C : Cx p s m args c cX12_person 8 wsX12_person RX12) : ∀ (σ : St) (x7 : Int32) (x5 : Int64) (x1 : Int32) (x2 : Int32) (x3 : Int32) (x4 : Int32) (y0 : Int32) (H : Heap) (locs : List Loc) (ls : Array Slot) (X : Int32), some X = M_person_B186 σ x7 x5 x1 x2 x3 x4 y0 → GW Ev D (tyM cs) (wM h a cs) A s σ H locs → lv_has ls 8 [(7, .int x7), (5, .long x5), (0, .ref h), (1, .int x1), (2, .int x2), (3, .int x3), (4, .int x4)] → (∀ (w0 : Int32) (H : Heap) (locs : List Loc) (ls : Array Slot), X = w0 → GW Ev D (tyM cs) (wM h a cs) A s σ H locs → lv_has ls 8 [(7, .int x7), (5, .long x5), (0, .ref h), (1, .int x1), (2, .int x2), (3, .int x3), (4, .int x4)] → W p l e rm_M_person s m args below meth c H locs 0 0 Q (F0 m 195 ls [.int w0, .int y0, .ref ((a 8))])) → W p l e rm_M_person s m args below meth c H locs 0 0 Q (F0 m 186 ls [.int y0, .ref ((a 8))]) := by
  have hin : ∀ w ∈ wsX120, w ∈ wsX12_person := fun w hw => List.mem_cons_of_mem _ (List.mem_append_right _ hw)
  have f0 : (Cond.fieldLink RX12 133 (TX12 0).1 (TX12 0).2.1 (TX12 0).2.2.1).before _ s = true := C.2.2.2.2 _ (List.mem_of_getElem? (i := 1) rfl)
  have f1 : (Cond.fieldLink RX12 7 (TX12 1).1 (TX12 1).2.1 (TX12 1).2.2.1).before _ s = true := C.2.2.2.2 _ (List.mem_of_getElem? (i := 5) rfl)
  have f3 : (Cond.fieldLink RX12 144 (TX12 3).1 (TX12 3).2.1 (TX12 3).2.2.1).before _ s = true := C.2.2.2.2 _ (List.mem_of_getElem? (i := 4) rfl)
  have f8 : (Cond.fieldLink RX12 23 (TX12 8).1 (TX12 8).2.1 (TX12 8).2.2.1).before _ s = true := C.2.2.2.2 _ (List.mem_of_getElem? (i := 8) rfl)
  have f16 : (Cond.fieldLink RX12 47 (TX12 16).1 (TX12 16).2.1 (TX12 16).2.2.1).before _ s = true := C.2.2.2.2 _ (List.mem_of_getElem? (i := 6) rfl)
  have f17 : (Cond.fieldLink RX12 50 (TX12 17).1 (TX12 17).2.1 (TX12 17).2.2.1).before _ s = true := C.2.2.2.2 _ (List.mem_of_getElem? (i := 7) rfl)
  have f20 : (Cond.fieldLink RX12 150 (TX12 20).1 (TX12 20).2.1 (TX12 20).2.2.1).before _ s = true := C.2.2.2.2 _ (List.mem_of_getElem? (i := 2) rfl)
  have f22 : (Cond.fieldLink RX12 153 (TX12 22).1 (TX12 22).2.1 (TX12 22).2.2.1).before _ s = true := C.2.2.2.2 _ (List.mem_of_getElem? (i := 3) rfl)
  intro σ x7 x5 x1 x2 x3 x4 y0 H locs ls X hX hW hl K0
  unfold M_person_B186 at hX
  refine lv_iload_n C.1 C.2.1 dX12_person_186 rfl (lv_at hl 4 rfl) ?_
  refine lv_if_eq (tgt := 194) C.1 C.2.1 dX12_person_187 (by decide) (fun c39 => ?_) (fun c39 => ?_)
  · have hX := br_p hX c39
    refine lv_iconst (v := -1) C.1 C.2.1 dX12_person_194 (by decide) ?_
    exact K0 (-1) H locs ls (Option.some.inj hX) hW (lv_sub hl [0, 1, 2, 3, 4, 5, 6] rfl)
  have hX := br_n hX c39
  refine lv_iload_n C.1 C.2.1 dX12_person_190 rfl (lv_at hl 3 rfl) ?_
  refine lv_goto (tgt := 195) C.1 C.2.1 dX12_person_191 (by decide) ?_
  exact K0 x1 H locs ls (Option.some.inj hX) hW (lv_sub hl [0, 1, 2, 3, 4, 5, 6] rfl)
def M_person_B204 (σ : St) (x7 : Int32) (x5 : Int64) (x1 : Int32) (x2 : Int32) (x3 : Int32) (x4 : Int32) (y0 : Int32) : Option (Int32) := if x2 = 0 then some x1 else some (x1 / 8)
set_option maxHeartbeats 4000000 in
set_option maxRecDepth 100000 in
theorem r_M_person_B204 {p : Program} {l : Launch} {e : Env} {s : State} {m : MethodId} {args : Array Value} {below : List Frame} {meth : Method} {c : Code} {Q : State → Prop} {Ev : EvT} {D : va_G} {cs : Nat → ClassId} {h : Nat} {a : Nat → Nat} {A : Nat → Prop} (C : Cx p s m args c cX12_person 8 wsX12_person RX12) : ∀ (σ : St) (x7 : Int32) (x5 : Int64) (x1 : Int32) (x2 : Int32) (x3 : Int32) (x4 : Int32) (y0 : Int32) (H : Heap) (locs : List Loc) (ls : Array Slot) (X : Int32), some X = M_person_B204 σ x7 x5 x1 x2 x3 x4 y0 → GW Ev D (tyM cs) (wM h a cs) A s σ H locs → lv_has ls 8 [(7, .int x7), (5, .long x5), (0, .ref h), (1, .int x1), (2, .int x2), (3, .int x3), (4, .int x4)] → (∀ (w0 : Int32) (H : Heap) (locs : List Loc) (ls : Array Slot), X = w0 → GW Ev D (tyM cs) (wM h a cs) A s σ H locs → lv_has ls 8 [(7, .int x7), (5, .long x5), (0, .ref h), (1, .int x1), (2, .int x2), (3, .int x3), (4, .int x4)] → W p l e rm_M_person s m args below meth c H locs 0 0 Q (F0 m 216 ls [.int w0, .int y0, .ref ((a 9))])) → W p l e rm_M_person s m args below meth c H locs 0 0 Q (F0 m 204 ls [.int y0, .ref ((a 9))]) := by
  have hin : ∀ w ∈ wsX120, w ∈ wsX12_person := fun w hw => List.mem_cons_of_mem _ (List.mem_append_right _ hw)
  have f0 : (Cond.fieldLink RX12 133 (TX12 0).1 (TX12 0).2.1 (TX12 0).2.2.1).before _ s = true := C.2.2.2.2 _ (List.mem_of_getElem? (i := 1) rfl)
  have f1 : (Cond.fieldLink RX12 7 (TX12 1).1 (TX12 1).2.1 (TX12 1).2.2.1).before _ s = true := C.2.2.2.2 _ (List.mem_of_getElem? (i := 5) rfl)
  have f3 : (Cond.fieldLink RX12 144 (TX12 3).1 (TX12 3).2.1 (TX12 3).2.2.1).before _ s = true := C.2.2.2.2 _ (List.mem_of_getElem? (i := 4) rfl)
  have f8 : (Cond.fieldLink RX12 23 (TX12 8).1 (TX12 8).2.1 (TX12 8).2.2.1).before _ s = true := C.2.2.2.2 _ (List.mem_of_getElem? (i := 8) rfl)
  have f9 : (Cond.fieldLink RX12 26 (TX12 9).1 (TX12 9).2.1 (TX12 9).2.2.1).before _ s = true := C.2.2.2.2 _ (List.mem_of_getElem? (i := 9) rfl)
  have f16 : (Cond.fieldLink RX12 47 (TX12 16).1 (TX12 16).2.1 (TX12 16).2.2.1).before _ s = true := C.2.2.2.2 _ (List.mem_of_getElem? (i := 6) rfl)
  have f17 : (Cond.fieldLink RX12 50 (TX12 17).1 (TX12 17).2.1 (TX12 17).2.2.1).before _ s = true := C.2.2.2.2 _ (List.mem_of_getElem? (i := 7) rfl)
  have f20 : (Cond.fieldLink RX12 150 (TX12 20).1 (TX12 20).2.1 (TX12 20).2.2.1).before _ s = true := C.2.2.2.2 _ (List.mem_of_getElem? (i := 2) rfl)
  have f22 : (Cond.fieldLink RX12 153 (TX12 22).1 (TX12 22).2.1 (TX12 22).2.2.1).before _ s = true := C.2.2.2.2 _ (List.mem_of_getElem? (i := 3) rfl)
  intro σ x7 x5 x1 x2 x3 x4 y0 H locs ls X hX hW hl K0
  unfold M_person_B204 at hX
  refine lv_iload_n C.1 C.2.1 dX12_person_204 rfl (lv_at hl 4 rfl) ?_
  refine lv_if_eq (tgt := 215) C.1 C.2.1 dX12_person_205 (by decide) (fun c43 => ?_) (fun c43 => ?_)
  · have hX := br_p hX c43
    refine lv_iload_n C.1 C.2.1 dX12_person_215 rfl (lv_at hl 3 rfl) ?_
    exact K0 x1 H locs ls (Option.some.inj hX) hW (lv_sub hl [0, 1, 2, 3, 4, 5, 6] rfl)
  have hX := br_n hX c43
  refine lv_iload_n C.1 C.2.1 dX12_person_208 rfl (lv_at hl 3 rfl) ?_
  refine lv_bipush (v := 8) C.1 C.2.1 dX12_person_209 (by decide) ?_
  refine lv_idiv C.1 C.2.1 dX12_person_211 (by decide) ?_
  refine lv_goto (tgt := 216) C.1 C.2.1 dX12_person_212 (by decide) ?_
  exact K0 (x1 / 8) H locs ls (Option.some.inj hX) hW (lv_sub hl [0, 1, 2, 3, 4, 5, 6] rfl)
def M_person (σ : St) (x1 : Int32) (x2 : Int32) (x3 : Int32) (x4 : Int32) : Option (Int32 × St) := nm (s1 σ 0 0 0) (fun σ1 => bnd (M_taken σ1) (fun σ2 => if (σ2.1 20 0) = 30 then some ((-1), σ2) else if (σ2.1 22 0) = 0 then if 12 < (σ2.1 3 0) then some ((-1), σ2) else bnd (M_person_B36 σ2 x1 x2 x3 x4 0 x1) (fun v8 => bnd (M_isIn x1 0 v8) (fun v9 => if v9 = 0 then some ((-1), σ2) else bnd (M_isIn x3 1 9) (fun v11 => if v11 = 0 then some ((-1), σ2) else bnd (M_isIn x4 0 120) (fun v13 => if v13 = 0 then some ((-1), σ2) else bnd (M_person_L82 100000 σ2 0 0 x1 x2 x3 x4) (fun q => nm2 q (fun j q => nm2 q (fun σ29 q => nm2 q (fun v30 q => nm2 q (fun v31 v32 => if j = 0 then some (v32, σ29) else if j = 1 then chkI (σ29.1 20 0) 30 (nm (s1 σ29 17 (σ29.1 20 0).toNatClampNeg (σ29.1 3 0)) (fun σ37 => bnd (M_person_B186 σ37 v30 v31 x1 x2 x3 x4 (σ37.1 20 0)) (fun v40 => chkI (σ37.1 20 0) 30 (nm (s1 σ37 8 (σ37.1 20 0).toNatClampNeg v40) (fun σ41 => bnd (M_person_B204 σ41 v30 v31 x1 x2 x3 x4 (σ41.1 20 0)) (fun v44 => chkI (σ41.1 20 0) 30 (nm (s1 σ41 9 (σ41.1 20 0).toNatClampNeg v44) (fun σ45 => chkI (σ45.1 20 0) 30 (nm (s1 σ45 19 (σ45.1 20 0).toNatClampNeg (vp_nar .boolean x2)) (fun σ46 => chkI (σ46.1 20 0) 30 (nm (s1 σ46 10 (σ46.1 20 0).toNatClampNeg x3) (fun σ47 => chkI (σ47.1 20 0) 30 (nm (s1 σ47 11 (σ47.1 20 0).toNatClampNeg x4) (fun σ48 => chkI (σ48.1 20 0) 30 (nm (s1 σ48 12 (σ48.1 20 0).toNatClampNeg (-1)) (fun σ49 => chkI (σ49.1 20 0) 30 (nm (s1 σ49 14 (σ49.1 20 0).toNatClampNeg (-1)) (fun σ50 => chkI (σ50.1 20 0) 30 (nm (s1 σ50 15 (σ50.1 20 0).toNatClampNeg (-1)) (fun σ51 => chkI (σ51.1 20 0) 30 (nm (s2 σ51 18 (σ51.1 20 0).toNatClampNeg 0) (fun σ52 => nm (s1 σ52 20 0 ((σ52.1 20 0) + 1)) (fun σ53 => some ((σ53.1 20 0) - 1, σ53)))))))))))))))))))))))) else none))))))))) else some ((-1), σ2)))
set_option maxHeartbeats 4000000 in
set_option maxRecDepth 100000 in
theorem c_M_person {Ev : EvT} (l : Launch) (D : va_G) (cs : Nat → ClassId) (h : Nat) (a : Nat → Nat) (σ : St) (x1 : Int32) (x2 : Int32) (x3 : Int32) (x4 : Int32) (X : Int32 × St) (hX : some X = M_person σ x1 x2 x3 x4) : cGi Ev l D (tyM cs) (wM h a cs) yX12_person wsX12_person rm_M_person 0 0 [.ref h, .int x1, .int x2, .int x3, .int x4] σ (fun r u => (r, u) = X) := by
  refine G_ini (cc := cX12_person) (maxL := 8) (ret := some .int) (by decide) rfl (Nat.le_of_ble_eq_true rfl) ?_
  intro p e s m below meth c A ls C hr hlk hini hA hW hl
  have C : Cx p s m _ c cX12_person 8 wsX12_person RX12 := C
  have hl : lv_has ls 8 [(0, .ref h), (1, .int x1), (2, .int x2), (3, .int x3), (4, .int x4)] := hl
  have hin : ∀ w ∈ wsX120, w ∈ wsX12_person := fun w hw => List.mem_cons_of_mem _ (List.mem_append_right _ hw)
  have f0 : (Cond.fieldLink RX12 133 (TX12 0).1 (TX12 0).2.1 (TX12 0).2.2.1).before _ s = true := C.2.2.2.2 _ (List.mem_of_getElem? (i := 1) rfl)
  have f1 : (Cond.fieldLink RX12 7 (TX12 1).1 (TX12 1).2.1 (TX12 1).2.2.1).before _ s = true := C.2.2.2.2 _ (List.mem_of_getElem? (i := 5) rfl)
  have f3 : (Cond.fieldLink RX12 144 (TX12 3).1 (TX12 3).2.1 (TX12 3).2.2.1).before _ s = true := C.2.2.2.2 _ (List.mem_of_getElem? (i := 4) rfl)
  have f8 : (Cond.fieldLink RX12 23 (TX12 8).1 (TX12 8).2.1 (TX12 8).2.2.1).before _ s = true := C.2.2.2.2 _ (List.mem_of_getElem? (i := 8) rfl)
  have f9 : (Cond.fieldLink RX12 26 (TX12 9).1 (TX12 9).2.1 (TX12 9).2.2.1).before _ s = true := C.2.2.2.2 _ (List.mem_of_getElem? (i := 9) rfl)
  have f10 : (Cond.fieldLink RX12 29 (TX12 10).1 (TX12 10).2.1 (TX12 10).2.2.1).before _ s = true := C.2.2.2.2 _ (List.mem_of_getElem? (i := 11) rfl)
  have f11 : (Cond.fieldLink RX12 32 (TX12 11).1 (TX12 11).2.1 (TX12 11).2.2.1).before _ s = true := C.2.2.2.2 _ (List.mem_of_getElem? (i := 12) rfl)
  have f12 : (Cond.fieldLink RX12 35 (TX12 12).1 (TX12 12).2.1 (TX12 12).2.2.1).before _ s = true := C.2.2.2.2 _ (List.mem_of_getElem? (i := 13) rfl)
  have f14 : (Cond.fieldLink RX12 41 (TX12 14).1 (TX12 14).2.1 (TX12 14).2.2.1).before _ s = true := C.2.2.2.2 _ (List.mem_of_getElem? (i := 14) rfl)
  have f15 : (Cond.fieldLink RX12 44 (TX12 15).1 (TX12 15).2.1 (TX12 15).2.2.1).before _ s = true := C.2.2.2.2 _ (List.mem_of_getElem? (i := 15) rfl)
  have f16 : (Cond.fieldLink RX12 47 (TX12 16).1 (TX12 16).2.1 (TX12 16).2.2.1).before _ s = true := C.2.2.2.2 _ (List.mem_of_getElem? (i := 6) rfl)
  have f17 : (Cond.fieldLink RX12 50 (TX12 17).1 (TX12 17).2.1 (TX12 17).2.2.1).before _ s = true := C.2.2.2.2 _ (List.mem_of_getElem? (i := 7) rfl)
  have f18 : (Cond.fieldLink RX12 53 (TX12 18).1 (TX12 18).2.1 (TX12 18).2.2.1).before _ s = true := C.2.2.2.2 _ (List.mem_of_getElem? (i := 16) rfl)
  have f19 : (Cond.fieldLink RX12 57 (TX12 19).1 (TX12 19).2.1 (TX12 19).2.2.1).before _ s = true := C.2.2.2.2 _ (List.mem_of_getElem? (i := 10) rfl)
  have f20 : (Cond.fieldLink RX12 150 (TX12 20).1 (TX12 20).2.1 (TX12 20).2.2.1).before _ s = true := C.2.2.2.2 _ (List.mem_of_getElem? (i := 2) rfl)
  have f22 : (Cond.fieldLink RX12 153 (TX12 22).1 (TX12 22).2.1 (TX12 22).2.2.1).before _ s = true := C.2.2.2.2 _ (List.mem_of_getElem? (i := 3) rfl)
  obtain ⟨H, hH⟩ : ∃ H, H = s.heap := ⟨_, rfl⟩
  obtain ⟨locs, hlo⟩ : ∃ z : List Loc, z = [] := ⟨_, rfl⟩
  have hW : GW Ev D (tyM cs) (wM h a cs) A s σ H locs := by rw [hH, hlo]; exact hW
  rw [show W p l e rm_M_person s m _ below meth c s.heap [] = W p l e rm_M_person s m _ below meth c H locs from by rw [hH, hlo]]
  unfold M_person at hX
  refine lv_aload_n C.1 C.2.1 dX12_person_0 rfl (lv_at hl 0 rfl) ?_
  refine lv_iconst (v := 0) C.1 C.2.1 dX12_person_1 (by decide) ?_
  refine M_puti C hin hW 0 rfl f0 dX12_person_2 (fun H locs σ1 eσ1 hW => ?_)
  have hX := nm_st hX eσ1
  refine lv_aload_n C.1 C.2.1 dX12_person_5 rfl (lv_at hl 0 rfl) ?_
  obtain ⟨σ2, hq, hX⟩ := bnd_st hX
  refine G_V0u (As := []) (rest := []) C hW (c_M_taken l D cs h a σ1 σ2 hq.symm) (cwV 0 C.2.2.2.2 gX12_person_X12_taken rfl rfl rfl (by decide +kernel) ⟨Nat.le_of_ble_eq_true rfl, Nat.le_of_ble_eq_true rfl⟩) (M_recv hW) rfl hl.1 rfl (Nat.le_of_ble_eq_true rfl) dX12_person_6 (fun H locs hW => ?_)
  refine lv_aload_n C.1 C.2.1 dX12_person_9 rfl (lv_at hl 0 rfl) ?_
  refine M_geti C hin hW 20 (by decide) f20 dX12_person_10 ?_
  refine lv_bipush (v := 30) C.1 C.2.1 dX12_person_13 (by decide) ?_
  refine lv_icmp_eq (tgt := 74) C.1 C.2.1 dX12_person_15 (by decide) (fun c3 => ?_) (fun c3 => ?_)
  · have hX := br_p hX c3
    refine lv_iconst (v := -1) C.1 C.2.1 dX12_person_74 (by decide) ?_
    exact G_reti C hr hlk hA hW (Option.some.inj hX).symm dX12_person_75
  have hX := br_n hX c3
  refine lv_aload_n C.1 C.2.1 dX12_person_18 rfl (lv_at hl 0 rfl) ?_
  refine M_geti C hin hW 22 (by decide) f22 dX12_person_19 ?_
  refine lv_if_ne (tgt := 74) C.1 C.2.1 dX12_person_22 (by decide) (fun c4 => ?_) (fun c4 => ?_)
  · have hX := br_n hX c4
    refine lv_iconst (v := -1) C.1 C.2.1 dX12_person_74 (by decide) ?_
    exact G_reti C hr hlk hA hW (Option.some.inj hX).symm dX12_person_75
  have hX := br_p hX c4
  refine lv_aload_n C.1 C.2.1 dX12_person_25 rfl (lv_at hl 0 rfl) ?_
  refine M_geti C hin hW 3 (by decide) f3 dX12_person_26 ?_
  refine lv_bipush (v := 12) C.1 C.2.1 dX12_person_29 (by decide) ?_
  refine lv_icmp_gt (tgt := 74) C.1 C.2.1 dX12_person_31 (by decide) (fun c5 => ?_) (fun c5 => ?_)
  · have hX := br_p hX c5
    refine lv_iconst (v := -1) C.1 C.2.1 dX12_person_74 (by decide) ?_
    exact G_reti C hr hlk hA hW (Option.some.inj hX).symm dX12_person_75
  have hX := br_n hX c5
  refine lv_iload_n C.1 C.2.1 dX12_person_34 rfl (lv_at hl 1 rfl) ?_
  refine lv_iconst (v := 0) C.1 C.2.1 dX12_person_35 (by decide) ?_
  obtain ⟨v8, hq, hX⟩ := bnd_st hX
  refine r_M_person_B36 C σ2 x1 x2 x3 x4 0 x1 H locs ls v8 hq.symm hW (lv_sub hl [0, 1, 2, 3, 4] rfl) ?_
  intro z0 H locs ls hq hW hl
  subst hq
  obtain ⟨v9, hq, hX⟩ := bnd_st hX
  refine G_S0s (As := [.int x1, .int 0, .int v8]) (rest := []) C hW (c_M_isIn l D (tyM cs) (wM h a cs) σ2 x1 0 v8 v9 hq.symm) (cwS 3 C.2.2.2.2 gX12_person_X12_isIn rfl rfl rfl (by decide +kernel) ⟨Nat.le_of_ble_eq_true rfl, Nat.le_of_ble_eq_true rfl⟩) rfl hl.1 rfl (Nat.le_of_ble_eq_true rfl) dX12_person_47 (fun H locs hW => ?_)
  refine lv_if_eq (tgt := 74) C.1 C.2.1 dX12_person_50 (by decide) (fun c10 => ?_) (fun c10 => ?_)
  · have hX := br_p hX c10
    refine lv_iconst (v := -1) C.1 C.2.1 dX12_person_74 (by decide) ?_
    exact G_reti C hr hlk hA hW (Option.some.inj hX).symm dX12_person_75
  have hX := br_n hX c10
  refine lv_iload_n C.1 C.2.1 dX12_person_53 rfl (lv_at hl 3 rfl) ?_
  refine lv_iconst (v := 1) C.1 C.2.1 dX12_person_54 (by decide) ?_
  refine lv_bipush (v := 9) C.1 C.2.1 dX12_person_55 (by decide) ?_
  obtain ⟨v11, hq, hX⟩ := bnd_st hX
  refine G_S0s (As := [.int x3, .int 1, .int 9]) (rest := []) C hW (c_M_isIn l D (tyM cs) (wM h a cs) σ2 x3 1 9 v11 hq.symm) (cwS 3 C.2.2.2.2 gX12_person_X12_isIn rfl rfl rfl (by decide +kernel) ⟨Nat.le_of_ble_eq_true rfl, Nat.le_of_ble_eq_true rfl⟩) rfl hl.1 rfl (Nat.le_of_ble_eq_true rfl) dX12_person_57 (fun H locs hW => ?_)
  refine lv_if_eq (tgt := 74) C.1 C.2.1 dX12_person_60 (by decide) (fun c12 => ?_) (fun c12 => ?_)
  · have hX := br_p hX c12
    refine lv_iconst (v := -1) C.1 C.2.1 dX12_person_74 (by decide) ?_
    exact G_reti C hr hlk hA hW (Option.some.inj hX).symm dX12_person_75
  have hX := br_n hX c12
  refine lv_iload C.1 C.2.1 dX12_person_63 (lv_at hl 4 rfl) ?_
  refine lv_iconst (v := 0) C.1 C.2.1 dX12_person_65 (by decide) ?_
  refine lv_bipush (v := 120) C.1 C.2.1 dX12_person_66 (by decide) ?_
  obtain ⟨v13, hq, hX⟩ := bnd_st hX
  refine G_S0s (As := [.int x4, .int 0, .int 120]) (rest := []) C hW (c_M_isIn l D (tyM cs) (wM h a cs) σ2 x4 0 120 v13 hq.symm) (cwS 3 C.2.2.2.2 gX12_person_X12_isIn rfl rfl rfl (by decide +kernel) ⟨Nat.le_of_ble_eq_true rfl, Nat.le_of_ble_eq_true rfl⟩) rfl hl.1 rfl (Nat.le_of_ble_eq_true rfl) dX12_person_68 (fun H locs hW => ?_)
  refine lv_if_ne (tgt := 76) C.1 C.2.1 dX12_person_71 (by decide) (fun c14 => ?_) (fun c14 => ?_)
  · have hX := br_n hX c14
    refine lv_lconst (v := 0) C.1 C.2.1 dX12_person_76 (by decide) ?_
    refine lv_lstore (lv' := [(5, .long 0), (0, .ref h), (1, .int x1), (2, .int x2), (3, .int x3), (4, .int x4)]) C.1 C.2.1 dX12_person_77 hl (by decide) rfl (fun ls hl => ?_)
    refine lv_iconst (v := 0) C.1 C.2.1 dX12_person_79 (by decide) ?_
    refine lv_istore (lv' := [(7, .int 0), (5, .long 0), (0, .ref h), (1, .int x1), (2, .int x2), (3, .int x3), (4, .int x4)]) C.1 C.2.1 dX12_person_80 hl (by decide) rfl (fun ls hl => ?_)
    obtain ⟨q, hq, hX⟩ := bnd_st hX
    refine r_M_person_L82 C 100000 σ2 0 0 x1 x2 x3 x4 H locs ls q hq.symm hW (lv_sub hl [0, 1, 2, 3, 4, 5, 6] rfl) ?_ ?_
    · intro σ29 v30 v31 v32 H locs ls hq hW hl
      subst hq
      have hX := nm2_st hX rfl
      have hX := nm2_st hX rfl
      have hX := nm2_st hX rfl
      have hX := nm2_st hX rfl
      have hX := br_p hX rfl
      exact G_reti C hr hlk hA hW (Option.some.inj hX).symm dX12_person_122
    intro σ33 v34 v35 v36 H locs ls hq hW hl
    subst hq
    have hX := nm2_st hX rfl
    have hX := nm2_st hX rfl
    have hX := nm2_st hX rfl
    have hX := nm2_st hX rfl
    have hX := br_n hX (by decide)
    have hX := br_p hX rfl
    refine lv_aload_n C.1 C.2.1 dX12_person_165 rfl (lv_at hl 2 rfl) ?_
    refine M_geta C hin hW 17 rfl (by decide) f17 dX12_person_166 ?_
    refine lv_aload_n C.1 C.2.1 dX12_person_169 rfl (lv_at hl 2 rfl) ?_
    refine M_geti C hin hW 20 (by decide) f20 dX12_person_170 ?_
    refine lv_aload_n C.1 C.2.1 dX12_person_173 rfl (lv_at hl 2 rfl) ?_
    refine M_geti C hin hW 3 (by decide) f3 dX12_person_174 ?_
    obtain ⟨hi, hX⟩ := chkI_st hX
    refine M_stI C hW 17 rfl hi dX12_person_177 (fun H locs σ37 eσ37 hW => ?_)
    have hX := nm_st hX eσ37
    refine lv_aload_n C.1 C.2.1 dX12_person_178 rfl (lv_at hl 2 rfl) ?_
    refine M_geta C hin hW 8 rfl (by decide) f8 dX12_person_179 ?_
    refine lv_aload_n C.1 C.2.1 dX12_person_182 rfl (lv_at hl 2 rfl) ?_
    refine M_geti C hin hW 20 (by decide) f20 dX12_person_183 ?_
    obtain ⟨v40, hq, hX⟩ := bnd_st hX
    refine r_M_person_B186 C σ37 v34 v35 x1 x2 x3 x4 (σ37.1 20 0) H locs ls v40 hq.symm hW (lv_sub hl [0, 1, 2, 3, 4, 5, 6] rfl) ?_
    intro z0 H locs ls hq hW hl
    subst hq
    obtain ⟨hi, hX⟩ := chkI_st hX
    refine M_stI C hW 8 rfl hi dX12_person_195 (fun H locs σ41 eσ41 hW => ?_)
    have hX := nm_st hX eσ41
    refine lv_aload_n C.1 C.2.1 dX12_person_196 rfl (lv_at hl 2 rfl) ?_
    refine M_geta C hin hW 9 rfl (by decide) f9 dX12_person_197 ?_
    refine lv_aload_n C.1 C.2.1 dX12_person_200 rfl (lv_at hl 2 rfl) ?_
    refine M_geti C hin hW 20 (by decide) f20 dX12_person_201 ?_
    obtain ⟨v44, hq, hX⟩ := bnd_st hX
    refine r_M_person_B204 C σ41 v34 v35 x1 x2 x3 x4 (σ41.1 20 0) H locs ls v44 hq.symm hW (lv_sub hl [0, 1, 2, 3, 4, 5, 6] rfl) ?_
    intro z0 H locs ls hq hW hl
    subst hq
    obtain ⟨hi, hX⟩ := chkI_st hX
    refine M_stI C hW 9 rfl hi dX12_person_216 (fun H locs σ45 eσ45 hW => ?_)
    have hX := nm_st hX eσ45
    refine lv_aload_n C.1 C.2.1 dX12_person_217 rfl (lv_at hl 2 rfl) ?_
    refine M_geta C hin hW 19 rfl (by decide) f19 dX12_person_218 ?_
    refine lv_aload_n C.1 C.2.1 dX12_person_221 rfl (lv_at hl 2 rfl) ?_
    refine M_geti C hin hW 20 (by decide) f20 dX12_person_222 ?_
    refine lv_iload_n C.1 C.2.1 dX12_person_225 rfl (lv_at hl 4 rfl) ?_
    obtain ⟨hi, hX⟩ := chkI_st hX
    refine M_stZ C hW 19 rfl hi dX12_person_226 (fun H locs σ46 eσ46 hW => ?_)
    have hX := nm_st hX eσ46
    refine lv_aload_n C.1 C.2.1 dX12_person_227 rfl (lv_at hl 2 rfl) ?_
    refine M_geta C hin hW 10 rfl (by decide) f10 dX12_person_228 ?_
    refine lv_aload_n C.1 C.2.1 dX12_person_231 rfl (lv_at hl 2 rfl) ?_
    refine M_geti C hin hW 20 (by decide) f20 dX12_person_232 ?_
    refine lv_iload_n C.1 C.2.1 dX12_person_235 rfl (lv_at hl 5 rfl) ?_
    obtain ⟨hi, hX⟩ := chkI_st hX
    refine M_stI C hW 10 rfl hi dX12_person_236 (fun H locs σ47 eσ47 hW => ?_)
    have hX := nm_st hX eσ47
    refine lv_aload_n C.1 C.2.1 dX12_person_237 rfl (lv_at hl 2 rfl) ?_
    refine M_geta C hin hW 11 rfl (by decide) f11 dX12_person_238 ?_
    refine lv_aload_n C.1 C.2.1 dX12_person_241 rfl (lv_at hl 2 rfl) ?_
    refine M_geti C hin hW 20 (by decide) f20 dX12_person_242 ?_
    refine lv_iload C.1 C.2.1 dX12_person_245 (lv_at hl 6 rfl) ?_
    obtain ⟨hi, hX⟩ := chkI_st hX
    refine M_stI C hW 11 rfl hi dX12_person_247 (fun H locs σ48 eσ48 hW => ?_)
    have hX := nm_st hX eσ48
    refine lv_aload_n C.1 C.2.1 dX12_person_248 rfl (lv_at hl 2 rfl) ?_
    refine M_geta C hin hW 12 rfl (by decide) f12 dX12_person_249 ?_
    refine lv_aload_n C.1 C.2.1 dX12_person_252 rfl (lv_at hl 2 rfl) ?_
    refine M_geti C hin hW 20 (by decide) f20 dX12_person_253 ?_
    refine lv_iconst (v := -1) C.1 C.2.1 dX12_person_256 (by decide) ?_
    obtain ⟨hi, hX⟩ := chkI_st hX
    refine M_stI C hW 12 rfl hi dX12_person_257 (fun H locs σ49 eσ49 hW => ?_)
    have hX := nm_st hX eσ49
    refine lv_aload_n C.1 C.2.1 dX12_person_258 rfl (lv_at hl 2 rfl) ?_
    refine M_geta C hin hW 14 rfl (by decide) f14 dX12_person_259 ?_
    refine lv_aload_n C.1 C.2.1 dX12_person_262 rfl (lv_at hl 2 rfl) ?_
    refine M_geti C hin hW 20 (by decide) f20 dX12_person_263 ?_
    refine lv_iconst (v := -1) C.1 C.2.1 dX12_person_266 (by decide) ?_
    obtain ⟨hi, hX⟩ := chkI_st hX
    refine M_stI C hW 14 rfl hi dX12_person_267 (fun H locs σ50 eσ50 hW => ?_)
    have hX := nm_st hX eσ50
    refine lv_aload_n C.1 C.2.1 dX12_person_268 rfl (lv_at hl 2 rfl) ?_
    refine M_geta C hin hW 15 rfl (by decide) f15 dX12_person_269 ?_
    refine lv_aload_n C.1 C.2.1 dX12_person_272 rfl (lv_at hl 2 rfl) ?_
    refine M_geti C hin hW 20 (by decide) f20 dX12_person_273 ?_
    refine lv_iconst (v := -1) C.1 C.2.1 dX12_person_276 (by decide) ?_
    obtain ⟨hi, hX⟩ := chkI_st hX
    refine M_stI C hW 15 rfl hi dX12_person_277 (fun H locs σ51 eσ51 hW => ?_)
    have hX := nm_st hX eσ51
    refine lv_aload_n C.1 C.2.1 dX12_person_278 rfl (lv_at hl 2 rfl) ?_
    refine M_geta C hin hW 18 rfl (by decide) f18 dX12_person_279 ?_
    refine lv_aload_n C.1 C.2.1 dX12_person_282 rfl (lv_at hl 2 rfl) ?_
    refine M_geti C hin hW 20 (by decide) f20 dX12_person_283 ?_
    refine lv_lconst (v := 0) C.1 C.2.1 dX12_person_286 (by decide) ?_
    obtain ⟨hi, hX⟩ := chkI_st hX
    refine M_stJ C hW 18 rfl hi dX12_person_287 (fun H locs σ52 eσ52 hW => ?_)
    have hX := nm_st hX eσ52
    refine lv_aload_n C.1 C.2.1 dX12_person_288 rfl (lv_at hl 2 rfl) ?_
    refine lv_dup C.1 C.2.1 dX12_person_289 rfl ?_
    refine M_geti C hin hW 20 (by decide) f20 dX12_person_290 ?_
    refine lv_iconst (v := 1) C.1 C.2.1 dX12_person_293 (by decide) ?_
    refine lv_iadd C.1 C.2.1 dX12_person_294 ?_
    refine M_puti C hin hW 20 rfl f20 dX12_person_295 (fun H locs σ53 eσ53 hW => ?_)
    have hX := nm_st hX eσ53
    refine lv_aload_n C.1 C.2.1 dX12_person_298 rfl (lv_at hl 2 rfl) ?_
    refine M_geti C hin hW 20 (by decide) f20 dX12_person_299 ?_
    refine lv_iconst (v := 1) C.1 C.2.1 dX12_person_302 (by decide) ?_
    refine lv_isub C.1 C.2.1 dX12_person_303 ?_
    exact G_reti C hr hlk hA hW (Option.some.inj hX).symm dX12_person_304
  have hX := br_p hX c14
  refine lv_iconst (v := -1) C.1 C.2.1 dX12_person_74 (by decide) ?_
  exact G_reti C hr hlk hA hW (Option.some.inj hX).symm dX12_person_75
abbrev rm_M_file : Room := { frames := 1, cells := 0, slots := 0, locals := 21 }
def M_file_L33 : Nat → St → Int32 → Int32 → Int32 → Option (Nat × Int32 × Int32)
  | 0, _, _, _, _ => none
  | n + 1, σ, x3, x1, x2 => if (σ.1 41 0) ≤ x3 then some (1, x3, 0) else chkI x3 60 (if (σ.1 34 x3.toNatClampNeg) = x1 then chkI x3 60 (if (σ.1 35 x3.toNatClampNeg) = x2 then some (0, x3, (-1)) else nm (x3 + 1) (fun v17 => M_file_L33 n σ v17 x1 x2)) else nm (x3 + 1) (fun v15 => M_file_L33 n σ v15 x1 x2))
set_option maxHeartbeats 4000000 in
set_option maxRecDepth 100000 in
theorem r_M_file_L33 {p : Program} {l : Launch} {e : Env} {s : State} {m : MethodId} {args : Array Value} {below : List Frame} {meth : Method} {c : Code} {Q : State → Prop} {Ev : EvT} {D : va_G} {cs : Nat → ClassId} {h : Nat} {a : Nat → Nat} {A : Nat → Prop} (C : Cx p s m args c cX12_file 4 wsX12_file RX12) : ∀ (n : Nat) (σ : St) (x3 : Int32) (x1 : Int32) (x2 : Int32) (H : Heap) (locs : List Loc) (ls : Array Slot) (X : Nat × Int32 × Int32), some X = M_file_L33 n σ x3 x1 x2 → GW Ev D (tyM cs) (wM h a cs) A s σ H locs → lv_has ls 4 [(3, .int x3), (0, .ref h), (1, .int x1), (2, .int x2)] → (∀ (z3 : Int32) (w0 : Int32) (H : Heap) (locs : List Loc) (ls : Array Slot), X = (0, z3, w0) → GW Ev D (tyM cs) (wM h a cs) A s σ H locs → lv_has ls 4 [(3, .int z3), (0, .ref h), (1, .int x1), (2, .int x2)] → W p l e rm_M_file s m args below meth c H locs 0 0 Q (F0 m 62 ls [.int w0])) → (∀ (z3 : Int32) (w0 : Int32) (H : Heap) (locs : List Loc) (ls : Array Slot), X = (1, z3, w0) → GW Ev D (tyM cs) (wM h a cs) A s σ H locs → lv_has ls 4 [(3, .int z3), (0, .ref h), (1, .int x1), (2, .int x2)] → W p l e rm_M_file s m args below meth c H locs 0 0 Q (F0 m 69 ls [])) → W p l e rm_M_file s m args below meth c H locs 0 0 Q (F0 m 33 ls []) := by
  have hin : ∀ w ∈ wsX120, w ∈ wsX12_file := fun w hw => List.mem_cons_of_mem _ (List.mem_append_right _ hw)
  have f0 : (Cond.fieldLink RX12 133 (TX12 0).1 (TX12 0).2.1 (TX12 0).2.2.1).before _ s = true := C.2.2.2.2 _ (List.mem_of_getElem? (i := 1) rfl)
  have f34 : (Cond.fieldLink RX12 70 (TX12 34).1 (TX12 34).2.1 (TX12 34).2.2.1).before _ s = true := C.2.2.2.2 _ (List.mem_of_getElem? (i := 3) rfl)
  have f35 : (Cond.fieldLink RX12 73 (TX12 35).1 (TX12 35).2.1 (TX12 35).2.2.1).before _ s = true := C.2.2.2.2 _ (List.mem_of_getElem? (i := 4) rfl)
  have f41 : (Cond.fieldLink RX12 280 (TX12 41).1 (TX12 41).2.1 (TX12 41).2.2.1).before _ s = true := C.2.2.2.2 _ (List.mem_of_getElem? (i := 2) rfl)
  intro n
  induction n with
  | zero =>
    intro σ x3 x1 x2 H locs ls X hX hW hl K0 K1
    cases hX
  | succ n ih =>
    intro σ x3 x1 x2 H locs ls X hX hW hl K0 K1
    unfold M_file_L33 at hX
    refine lv_iload_n C.1 C.2.1 dX12_file_33 rfl (lv_at hl 0 rfl) ?_
    refine lv_aload_n C.1 C.2.1 dX12_file_34 rfl (lv_at hl 1 rfl) ?_
    refine M_geti C hin hW 41 (by decide) f41 dX12_file_35 ?_
    refine lv_icmp_ge (tgt := 69) C.1 C.2.1 dX12_file_38 (by decide) (fun c13 => ?_) (fun c13 => ?_)
    · have hX := br_p hX c13
      exact K1 x3 0 H locs ls (Option.some.inj hX) hW (lv_sub hl [0, 1, 2, 3] rfl)
    have hX := br_n hX c13
    refine lv_aload_n C.1 C.2.1 dX12_file_41 rfl (lv_at hl 1 rfl) ?_
    refine M_geta C hin hW 34 rfl (by decide) f34 dX12_file_42 ?_
    refine lv_iload_n C.1 C.2.1 dX12_file_45 rfl (lv_at hl 0 rfl) ?_
    obtain ⟨hi, hX⟩ := chkI_st hX
    refine M_ldI C hW 34 rfl hi dX12_file_46 ?_
    refine lv_iload_n C.1 C.2.1 dX12_file_47 rfl (lv_at hl 2 rfl) ?_
    refine lv_icmp_ne (tgt := 63) C.1 C.2.1 dX12_file_48 (by decide) (fun c14 => ?_) (fun c14 => ?_)
    · have hX := br_n hX c14
      obtain ⟨v15, ev15⟩ : ∃ z : Int32, z = x3 + 1 := ⟨_, rfl⟩
      have hX := nm_st hX ev15
      refine lv_iinc (v := v15) (lv' := [(3, .int v15), (0, .ref h), (1, .int x1), (2, .int x2)]) C.1 C.2.1 dX12_file_63 hl (k := 0) rfl (by rw [ev15]; rfl) (by decide) rfl (fun ls hl => ?_)
      refine lv_goto (tgt := 33) C.1 C.2.1 dX12_file_66 (by decide) ?_
      exact ih σ v15 x1 x2 H locs ls X hX hW (lv_sub hl [0, 1, 2, 3] rfl) K0 K1
    have hX := br_p hX c14
    refine lv_aload_n C.1 C.2.1 dX12_file_51 rfl (lv_at hl 1 rfl) ?_
    refine M_geta C hin hW 35 rfl (by decide) f35 dX12_file_52 ?_
    refine lv_iload_n C.1 C.2.1 dX12_file_55 rfl (lv_at hl 0 rfl) ?_
    obtain ⟨hi, hX⟩ := chkI_st hX
    refine M_ldI C hW 35 rfl hi dX12_file_56 ?_
    refine lv_iload_n C.1 C.2.1 dX12_file_57 rfl (lv_at hl 3 rfl) ?_
    refine lv_icmp_ne (tgt := 63) C.1 C.2.1 dX12_file_58 (by decide) (fun c16 => ?_) (fun c16 => ?_)
    · have hX := br_n hX c16
      obtain ⟨v17, ev17⟩ : ∃ z : Int32, z = x3 + 1 := ⟨_, rfl⟩
      have hX := nm_st hX ev17
      refine lv_iinc (v := v17) (lv' := [(3, .int v17), (0, .ref h), (1, .int x1), (2, .int x2)]) C.1 C.2.1 dX12_file_63 hl (k := 0) rfl (by rw [ev17]; rfl) (by decide) rfl (fun ls hl => ?_)
      refine lv_goto (tgt := 33) C.1 C.2.1 dX12_file_66 (by decide) ?_
      exact ih σ v17 x1 x2 H locs ls X hX hW (lv_sub hl [0, 1, 2, 3] rfl) K0 K1
    have hX := br_p hX c16
    refine lv_iconst (v := -1) C.1 C.2.1 dX12_file_61 (by decide) ?_
    exact K0 x3 (-1) H locs ls (Option.some.inj hX) hW (lv_sub hl [0, 1, 2, 3] rfl)
def M_file (σ : St) (x1 : Int32) (x2 : Int32) : Option (Int32 × St) := nm (s1 σ 0 0 0) (fun σ1 => if (σ1.1 41 0) = 60 then some ((-1), σ1) else bnd (M_isPerson σ1 x1) (fun v4 => if v4 = 0 then some ((-1), σ1) else bnd (M_isQuarter x2) (fun v6 => if v6 = 0 then some ((-1), σ1) else bnd (M_file_L33 100000 σ1 0 x1 x2) (fun q => nm2 q (fun j q => nm2 q (fun v18 v19 => if j = 0 then some (v19, σ1) else if j = 1 then chkI (σ1.1 41 0) 60 (nm (s1 σ1 34 (σ1.1 41 0).toNatClampNeg x1) (fun σ22 => chkI (σ22.1 41 0) 60 (nm (s1 σ22 35 (σ22.1 41 0).toNatClampNeg x2) (fun σ23 => chkI (σ23.1 41 0) 60 (nm (s1 σ23 36 (σ23.1 41 0).toNatClampNeg (σ23.1 32 0)) (fun σ24 => nm (s1 σ24 41 0 ((σ24.1 41 0) + 1)) (fun σ25 => some ((σ25.1 41 0) - 1, σ25)))))))) else none))))))
set_option maxHeartbeats 4000000 in
set_option maxRecDepth 100000 in
theorem c_M_file {Ev : EvT} (l : Launch) (D : va_G) (cs : Nat → ClassId) (h : Nat) (a : Nat → Nat) (σ : St) (x1 : Int32) (x2 : Int32) (X : Int32 × St) (hX : some X = M_file σ x1 x2) : cGi Ev l D (tyM cs) (wM h a cs) yX12_file wsX12_file rm_M_file 0 0 [.ref h, .int x1, .int x2] σ (fun r u => (r, u) = X) := by
  refine G_ini (cc := cX12_file) (maxL := 4) (ret := some .int) (by decide) rfl (Nat.le_of_ble_eq_true rfl) ?_
  intro p e s m below meth c A ls C hr hlk hini hA hW hl
  have C : Cx p s m _ c cX12_file 4 wsX12_file RX12 := C
  have hl : lv_has ls 4 [(0, .ref h), (1, .int x1), (2, .int x2)] := hl
  have hin : ∀ w ∈ wsX120, w ∈ wsX12_file := fun w hw => List.mem_cons_of_mem _ (List.mem_append_right _ hw)
  have f0 : (Cond.fieldLink RX12 133 (TX12 0).1 (TX12 0).2.1 (TX12 0).2.2.1).before _ s = true := C.2.2.2.2 _ (List.mem_of_getElem? (i := 1) rfl)
  have f32 : (Cond.fieldLink RX12 277 (TX12 32).1 (TX12 32).2.1 (TX12 32).2.2.1).before _ s = true := C.2.2.2.2 _ (List.mem_of_getElem? (i := 6) rfl)
  have f34 : (Cond.fieldLink RX12 70 (TX12 34).1 (TX12 34).2.1 (TX12 34).2.2.1).before _ s = true := C.2.2.2.2 _ (List.mem_of_getElem? (i := 3) rfl)
  have f35 : (Cond.fieldLink RX12 73 (TX12 35).1 (TX12 35).2.1 (TX12 35).2.2.1).before _ s = true := C.2.2.2.2 _ (List.mem_of_getElem? (i := 4) rfl)
  have f36 : (Cond.fieldLink RX12 76 (TX12 36).1 (TX12 36).2.1 (TX12 36).2.2.1).before _ s = true := C.2.2.2.2 _ (List.mem_of_getElem? (i := 5) rfl)
  have f41 : (Cond.fieldLink RX12 280 (TX12 41).1 (TX12 41).2.1 (TX12 41).2.2.1).before _ s = true := C.2.2.2.2 _ (List.mem_of_getElem? (i := 2) rfl)
  obtain ⟨H, hH⟩ : ∃ H, H = s.heap := ⟨_, rfl⟩
  obtain ⟨locs, hlo⟩ : ∃ z : List Loc, z = [] := ⟨_, rfl⟩
  have hW : GW Ev D (tyM cs) (wM h a cs) A s σ H locs := by rw [hH, hlo]; exact hW
  rw [show W p l e rm_M_file s m _ below meth c s.heap [] = W p l e rm_M_file s m _ below meth c H locs from by rw [hH, hlo]]
  unfold M_file at hX
  refine lv_aload_n C.1 C.2.1 dX12_file_0 rfl (lv_at hl 0 rfl) ?_
  refine lv_iconst (v := 0) C.1 C.2.1 dX12_file_1 (by decide) ?_
  refine M_puti C hin hW 0 rfl f0 dX12_file_2 (fun H locs σ1 eσ1 hW => ?_)
  have hX := nm_st hX eσ1
  refine lv_aload_n C.1 C.2.1 dX12_file_5 rfl (lv_at hl 0 rfl) ?_
  refine M_geti C hin hW 41 (by decide) f41 dX12_file_6 ?_
  refine lv_bipush (v := 60) C.1 C.2.1 dX12_file_9 (by decide) ?_
  refine lv_icmp_eq (tgt := 29) C.1 C.2.1 dX12_file_11 (by decide) (fun c2 => ?_) (fun c2 => ?_)
  · have hX := br_p hX c2
    refine lv_iconst (v := -1) C.1 C.2.1 dX12_file_29 (by decide) ?_
    exact G_reti C hr hlk hA hW (Option.some.inj hX).symm dX12_file_30
  have hX := br_n hX c2
  refine lv_aload_n C.1 C.2.1 dX12_file_14 rfl (lv_at hl 0 rfl) ?_
  refine lv_iload_n C.1 C.2.1 dX12_file_15 rfl (lv_at hl 1 rfl) ?_
  obtain ⟨v4, hq, hX⟩ := bnd_st hX
  refine G_V0p (As := [.int x1]) (rest := []) C hW (c_M_isPerson l D cs h a σ1 x1 v4 hq.symm) (cwV 1 C.2.2.2.2 gX12_file_X12_isPerson rfl rfl rfl (by decide +kernel) ⟨Nat.le_of_ble_eq_true rfl, Nat.le_of_ble_eq_true rfl⟩) (M_recv hW) rfl hl.1 rfl (Nat.le_of_ble_eq_true rfl) dX12_file_16 (fun H locs hW => ?_)
  refine lv_if_eq (tgt := 29) C.1 C.2.1 dX12_file_19 (by decide) (fun c5 => ?_) (fun c5 => ?_)
  · have hX := br_p hX c5
    refine lv_iconst (v := -1) C.1 C.2.1 dX12_file_29 (by decide) ?_
    exact G_reti C hr hlk hA hW (Option.some.inj hX).symm dX12_file_30
  have hX := br_n hX c5
  refine lv_iload_n C.1 C.2.1 dX12_file_22 rfl (lv_at hl 2 rfl) ?_
  obtain ⟨v6, hq, hX⟩ := bnd_st hX
  refine G_S0s (As := [.int x2]) (rest := []) C hW (c_M_isQuarter l D (tyM cs) (wM h a cs) σ1 x2 v6 hq.symm) (cwS 1 C.2.2.2.2 gX12_file_X12_isQuarter rfl rfl rfl (by decide +kernel) ⟨Nat.le_of_ble_eq_true rfl, Nat.le_of_ble_eq_true rfl⟩) rfl hl.1 rfl (Nat.le_of_ble_eq_true rfl) dX12_file_23 (fun H locs hW => ?_)
  refine lv_if_ne (tgt := 31) C.1 C.2.1 dX12_file_26 (by decide) (fun c7 => ?_) (fun c7 => ?_)
  · have hX := br_n hX c7
    refine lv_iconst (v := 0) C.1 C.2.1 dX12_file_31 (by decide) ?_
    refine lv_istore_n (lv' := [(3, .int 0), (0, .ref h), (1, .int x1), (2, .int x2)]) C.1 C.2.1 dX12_file_32 rfl hl (by decide) rfl (fun ls hl => ?_)
    obtain ⟨q, hq, hX⟩ := bnd_st hX
    refine r_M_file_L33 C 100000 σ1 0 x1 x2 H locs ls q hq.symm hW (lv_sub hl [0, 1, 2, 3] rfl) ?_ ?_
    · intro v18 v19 H locs ls hq hW hl
      subst hq
      have hX := nm2_st hX rfl
      have hX := nm2_st hX rfl
      have hX := br_p hX rfl
      exact G_reti C hr hlk hA hW (Option.some.inj hX).symm dX12_file_62
    intro v20 v21 H locs ls hq hW hl
    subst hq
    have hX := nm2_st hX rfl
    have hX := nm2_st hX rfl
    have hX := br_n hX (by decide)
    have hX := br_p hX rfl
    refine lv_aload_n C.1 C.2.1 dX12_file_69 rfl (lv_at hl 1 rfl) ?_
    refine M_geta C hin hW 34 rfl (by decide) f34 dX12_file_70 ?_
    refine lv_aload_n C.1 C.2.1 dX12_file_73 rfl (lv_at hl 1 rfl) ?_
    refine M_geti C hin hW 41 (by decide) f41 dX12_file_74 ?_
    refine lv_iload_n C.1 C.2.1 dX12_file_77 rfl (lv_at hl 2 rfl) ?_
    obtain ⟨hi, hX⟩ := chkI_st hX
    refine M_stI C hW 34 rfl hi dX12_file_78 (fun H locs σ22 eσ22 hW => ?_)
    have hX := nm_st hX eσ22
    refine lv_aload_n C.1 C.2.1 dX12_file_79 rfl (lv_at hl 1 rfl) ?_
    refine M_geta C hin hW 35 rfl (by decide) f35 dX12_file_80 ?_
    refine lv_aload_n C.1 C.2.1 dX12_file_83 rfl (lv_at hl 1 rfl) ?_
    refine M_geti C hin hW 41 (by decide) f41 dX12_file_84 ?_
    refine lv_iload_n C.1 C.2.1 dX12_file_87 rfl (lv_at hl 3 rfl) ?_
    obtain ⟨hi, hX⟩ := chkI_st hX
    refine M_stI C hW 35 rfl hi dX12_file_88 (fun H locs σ23 eσ23 hW => ?_)
    have hX := nm_st hX eσ23
    refine lv_aload_n C.1 C.2.1 dX12_file_89 rfl (lv_at hl 1 rfl) ?_
    refine M_geta C hin hW 36 rfl (by decide) f36 dX12_file_90 ?_
    refine lv_aload_n C.1 C.2.1 dX12_file_93 rfl (lv_at hl 1 rfl) ?_
    refine M_geti C hin hW 41 (by decide) f41 dX12_file_94 ?_
    refine lv_aload_n C.1 C.2.1 dX12_file_97 rfl (lv_at hl 1 rfl) ?_
    refine M_geti C hin hW 32 (by decide) f32 dX12_file_98 ?_
    obtain ⟨hi, hX⟩ := chkI_st hX
    refine M_stI C hW 36 rfl hi dX12_file_101 (fun H locs σ24 eσ24 hW => ?_)
    have hX := nm_st hX eσ24
    refine lv_aload_n C.1 C.2.1 dX12_file_102 rfl (lv_at hl 1 rfl) ?_
    refine lv_dup C.1 C.2.1 dX12_file_103 rfl ?_
    refine M_geti C hin hW 41 (by decide) f41 dX12_file_104 ?_
    refine lv_iconst (v := 1) C.1 C.2.1 dX12_file_107 (by decide) ?_
    refine lv_iadd C.1 C.2.1 dX12_file_108 ?_
    refine M_puti C hin hW 41 rfl f41 dX12_file_109 (fun H locs σ25 eσ25 hW => ?_)
    have hX := nm_st hX eσ25
    refine lv_aload_n C.1 C.2.1 dX12_file_112 rfl (lv_at hl 1 rfl) ?_
    refine M_geti C hin hW 41 (by decide) f41 dX12_file_113 ?_
    refine lv_iconst (v := 1) C.1 C.2.1 dX12_file_116 (by decide) ?_
    refine lv_isub C.1 C.2.1 dX12_file_117 ?_
    exact G_reti C hr hlk hA hW (Option.some.inj hX).symm dX12_file_118
  have hX := br_p hX c7
  refine lv_iconst (v := -1) C.1 C.2.1 dX12_file_29 (by decide) ?_
  exact G_reti C hr hlk hA hW (Option.some.inj hX).symm dX12_file_30
abbrev rm_M_witness : Room := { frames := 1, cells := 0, slots := 0, locals := 21 }
def M_witness_L100 : Nat → St → Int32 → Int32 → Int32 → Int32 → Int32 → Option (Int32 × Int32)
  | 0, _, _, _, _, _, _ => none
  | n + 1, σ, x5, x4, x1, x2, x3 => if (σ.1 42 0) ≤ x5 then some (x5, x4) else chkI x5 200 (if (σ.1 37 x5.toNatClampNeg) = x1 then nm (x4 + 1) (fun v24 => nm (x5 + 1) (fun v25 => M_witness_L100 n σ v25 v24 x1 x2 x3)) else nm (x4 + 0) (fun v22 => nm (x5 + 1) (fun v23 => M_witness_L100 n σ v23 v22 x1 x2 x3)))
set_option maxHeartbeats 4000000 in
set_option maxRecDepth 100000 in
theorem r_M_witness_L100 {p : Program} {l : Launch} {e : Env} {s : State} {m : MethodId} {args : Array Value} {below : List Frame} {meth : Method} {c : Code} {Q : State → Prop} {Ev : EvT} {D : va_G} {cs : Nat → ClassId} {h : Nat} {a : Nat → Nat} {A : Nat → Prop} (C : Cx p s m args c cX12_witness 6 wsX12_witness RX12) : ∀ (n : Nat) (σ : St) (x5 : Int32) (x4 : Int32) (x1 : Int32) (x2 : Int32) (x3 : Int32) (H : Heap) (locs : List Loc) (ls : Array Slot) (X : Int32 × Int32), some X = M_witness_L100 n σ x5 x4 x1 x2 x3 → GW Ev D (tyM cs) (wM h a cs) A s σ H locs → lv_has ls 6 [(5, .int x5), (4, .int x4), (0, .ref h), (1, .int x1), (2, .int x2), (3, .int x3)] → (∀ (z5 : Int32) (z4 : Int32) (H : Heap) (locs : List Loc) (ls : Array Slot), X = (z5, z4) → GW Ev D (tyM cs) (wM h a cs) A s σ H locs → lv_has ls 6 [(5, .int z5), (4, .int z4), (0, .ref h), (1, .int x1), (2, .int x2), (3, .int x3)] → W p l e rm_M_witness s m args below meth c H locs 0 0 Q (F0 m 136 ls [])) → W p l e rm_M_witness s m args below meth c H locs 0 0 Q (F0 m 100 ls []) := by
  have hin : ∀ w ∈ wsX120, w ∈ wsX12_witness := fun w hw => List.mem_cons_of_mem _ (List.mem_append_right _ hw)
  have f0 : (Cond.fieldLink RX12 133 (TX12 0).1 (TX12 0).2.1 (TX12 0).2.2.1).before _ s = true := C.2.2.2.2 _ (List.mem_of_getElem? (i := 1) rfl)
  have f32 : (Cond.fieldLink RX12 277 (TX12 32).1 (TX12 32).2.1 (TX12 32).2.2.1).before _ s = true := C.2.2.2.2 _ (List.mem_of_getElem? (i := 5) rfl)
  have f37 : (Cond.fieldLink RX12 79 (TX12 37).1 (TX12 37).2.1 (TX12 37).2.2.1).before _ s = true := C.2.2.2.2 _ (List.mem_of_getElem? (i := 3) rfl)
  have f38 : (Cond.fieldLink RX12 82 (TX12 38).1 (TX12 38).2.1 (TX12 38).2.2.1).before _ s = true := C.2.2.2.2 _ (List.mem_of_getElem? (i := 4) rfl)
  have f39 : (Cond.fieldLink RX12 85 (TX12 39).1 (TX12 39).2.1 (TX12 39).2.2.1).before _ s = true := C.2.2.2.2 _ (List.mem_of_getElem? (i := 6) rfl)
  have f40 : (Cond.fieldLink RX12 88 (TX12 40).1 (TX12 40).2.1 (TX12 40).2.2.1).before _ s = true := C.2.2.2.2 _ (List.mem_of_getElem? (i := 7) rfl)
  have f42 : (Cond.fieldLink RX12 283 (TX12 42).1 (TX12 42).2.1 (TX12 42).2.2.1).before _ s = true := C.2.2.2.2 _ (List.mem_of_getElem? (i := 2) rfl)
  intro n
  induction n with
  | zero =>
    intro σ x5 x4 x1 x2 x3 H locs ls X hX hW hl K0
    cases hX
  | succ n ih =>
    intro σ x5 x4 x1 x2 x3 H locs ls X hX hW hl K0
    unfold M_witness_L100 at hX
    refine lv_iload C.1 C.2.1 dX12_witness_100 (lv_at hl 0 rfl) ?_
    refine lv_aload_n C.1 C.2.1 dX12_witness_102 rfl (lv_at hl 2 rfl) ?_
    refine M_geti C hin hW 42 (by decide) f42 dX12_witness_103 ?_
    refine lv_icmp_ge (tgt := 136) C.1 C.2.1 dX12_witness_106 (by decide) (fun c20 => ?_) (fun c20 => ?_)
    · have hX := br_p hX c20
      exact K0 x5 x4 H locs ls (Option.some.inj hX) hW (lv_sub hl [0, 1, 2, 3, 4, 5] rfl)
    have hX := br_n hX c20
    refine lv_iload C.1 C.2.1 dX12_witness_109 (lv_at hl 1 rfl) ?_
    refine lv_aload_n C.1 C.2.1 dX12_witness_111 rfl (lv_at hl 2 rfl) ?_
    refine M_geta C hin hW 37 rfl (by decide) f37 dX12_witness_112 ?_
    refine lv_iload C.1 C.2.1 dX12_witness_115 (lv_at hl 0 rfl) ?_
    obtain ⟨hi, hX⟩ := chkI_st hX
    refine M_ldI C hW 37 rfl hi dX12_witness_117 ?_
    refine lv_iload_n C.1 C.2.1 dX12_witness_118 rfl (lv_at hl 3 rfl) ?_
    refine lv_icmp_ne (tgt := 126) C.1 C.2.1 dX12_witness_119 (by decide) (fun c21 => ?_) (fun c21 => ?_)
    · have hX := br_n hX c21
      refine lv_iconst (v := 0) C.1 C.2.1 dX12_witness_126 (by decide) ?_
      refine lv_iadd C.1 C.2.1 dX12_witness_127 ?_
      refine lv_topi (fun v22 ev22 => ?_)
      have hX := nm_st hX ev22
      refine lv_istore (lv' := [(4, .int v22), (5, .int x5), (0, .ref h), (1, .int x1), (2, .int x2), (3, .int x3)]) C.1 C.2.1 dX12_witness_128 hl (by decide) rfl (fun ls hl => ?_)
      obtain ⟨v23, ev23⟩ : ∃ z : Int32, z = x5 + 1 := ⟨_, rfl⟩
      have hX := nm_st hX ev23
      refine lv_iinc (v := v23) (lv' := [(5, .int v23), (4, .int v22), (0, .ref h), (1, .int x1), (2, .int x2), (3, .int x3)]) C.1 C.2.1 dX12_witness_130 hl (k := 1) rfl (by rw [ev23]; rfl) (by decide) rfl (fun ls hl => ?_)
      refine lv_goto (tgt := 100) C.1 C.2.1 dX12_witness_133 (by decide) ?_
      exact ih σ v23 v22 x1 x2 x3 H locs ls X hX hW (lv_sub hl [0, 1, 2, 3, 4, 5] rfl) K0
    have hX := br_p hX c21
    refine lv_iconst (v := 1) C.1 C.2.1 dX12_witness_122 (by decide) ?_
    refine lv_goto (tgt := 127) C.1 C.2.1 dX12_witness_123 (by decide) ?_
    refine lv_iadd C.1 C.2.1 dX12_witness_127 ?_
    refine lv_topi (fun v24 ev24 => ?_)
    have hX := nm_st hX ev24
    refine lv_istore (lv' := [(4, .int v24), (5, .int x5), (0, .ref h), (1, .int x1), (2, .int x2), (3, .int x3)]) C.1 C.2.1 dX12_witness_128 hl (by decide) rfl (fun ls hl => ?_)
    obtain ⟨v25, ev25⟩ : ∃ z : Int32, z = x5 + 1 := ⟨_, rfl⟩
    have hX := nm_st hX ev25
    refine lv_iinc (v := v25) (lv' := [(5, .int v25), (4, .int v24), (0, .ref h), (1, .int x1), (2, .int x2), (3, .int x3)]) C.1 C.2.1 dX12_witness_130 hl (k := 1) rfl (by rw [ev25]; rfl) (by decide) rfl (fun ls hl => ?_)
    refine lv_goto (tgt := 100) C.1 C.2.1 dX12_witness_133 (by decide) ?_
    exact ih σ v25 v24 x1 x2 x3 H locs ls X hX hW (lv_sub hl [0, 1, 2, 3, 4, 5] rfl) K0
def M_witness (σ : St) (x1 : Int32) (x2 : Int32) (x3 : Int32) : Option (Int32 × St) := nm (s1 σ 0 0 0) (fun σ1 => if (σ1.1 42 0) = 200 then some ((-1), σ1) else bnd (M_isClaim σ1 x1) (fun v4 => if v4 = 0 then some ((-1), σ1) else if x2 < 0 then some ((-1), σ1) else if x3 < x2 then some ((-1), σ1) else if x3 ≤ 9999 then chkI (σ1.1 42 0) 200 (nm (s1 σ1 37 (σ1.1 42 0).toNatClampNeg x1) (fun σ9 => chkI (σ9.1 42 0) 200 (nm (s1 σ9 38 (σ9.1 42 0).toNatClampNeg (σ9.1 32 0)) (fun σ10 => chkI (σ10.1 42 0) 200 (nm (s1 σ10 39 (σ10.1 42 0).toNatClampNeg x2) (fun σ11 => chkI (σ11.1 42 0) 200 (nm (s1 σ11 40 (σ11.1 42 0).toNatClampNeg x3) (fun σ12 => nm (s1 σ12 42 0 ((σ12.1 42 0) + 1)) (fun σ13 => bnd (M_witness_L100 100000 σ13 0 0 x1 x2 x3) (fun q => nm2 q (fun v26 v27 => some (v27, σ13)))))))))))) else some ((-1), σ1)))
set_option maxHeartbeats 4000000 in
set_option maxRecDepth 100000 in
theorem c_M_witness {Ev : EvT} (l : Launch) (D : va_G) (cs : Nat → ClassId) (h : Nat) (a : Nat → Nat) (σ : St) (x1 : Int32) (x2 : Int32) (x3 : Int32) (X : Int32 × St) (hX : some X = M_witness σ x1 x2 x3) : cGi Ev l D (tyM cs) (wM h a cs) yX12_witness wsX12_witness rm_M_witness 0 0 [.ref h, .int x1, .int x2, .int x3] σ (fun r u => (r, u) = X) := by
  refine G_ini (cc := cX12_witness) (maxL := 6) (ret := some .int) (by decide) rfl (Nat.le_of_ble_eq_true rfl) ?_
  intro p e s m below meth c A ls C hr hlk hini hA hW hl
  have C : Cx p s m _ c cX12_witness 6 wsX12_witness RX12 := C
  have hl : lv_has ls 6 [(0, .ref h), (1, .int x1), (2, .int x2), (3, .int x3)] := hl
  have hin : ∀ w ∈ wsX120, w ∈ wsX12_witness := fun w hw => List.mem_cons_of_mem _ (List.mem_append_right _ hw)
  have f0 : (Cond.fieldLink RX12 133 (TX12 0).1 (TX12 0).2.1 (TX12 0).2.2.1).before _ s = true := C.2.2.2.2 _ (List.mem_of_getElem? (i := 1) rfl)
  have f32 : (Cond.fieldLink RX12 277 (TX12 32).1 (TX12 32).2.1 (TX12 32).2.2.1).before _ s = true := C.2.2.2.2 _ (List.mem_of_getElem? (i := 5) rfl)
  have f37 : (Cond.fieldLink RX12 79 (TX12 37).1 (TX12 37).2.1 (TX12 37).2.2.1).before _ s = true := C.2.2.2.2 _ (List.mem_of_getElem? (i := 3) rfl)
  have f38 : (Cond.fieldLink RX12 82 (TX12 38).1 (TX12 38).2.1 (TX12 38).2.2.1).before _ s = true := C.2.2.2.2 _ (List.mem_of_getElem? (i := 4) rfl)
  have f39 : (Cond.fieldLink RX12 85 (TX12 39).1 (TX12 39).2.1 (TX12 39).2.2.1).before _ s = true := C.2.2.2.2 _ (List.mem_of_getElem? (i := 6) rfl)
  have f40 : (Cond.fieldLink RX12 88 (TX12 40).1 (TX12 40).2.1 (TX12 40).2.2.1).before _ s = true := C.2.2.2.2 _ (List.mem_of_getElem? (i := 7) rfl)
  have f42 : (Cond.fieldLink RX12 283 (TX12 42).1 (TX12 42).2.1 (TX12 42).2.2.1).before _ s = true := C.2.2.2.2 _ (List.mem_of_getElem? (i := 2) rfl)
  obtain ⟨H, hH⟩ : ∃ H, H = s.heap := ⟨_, rfl⟩
  obtain ⟨locs, hlo⟩ : ∃ z : List Loc, z = [] := ⟨_, rfl⟩
  have hW : GW Ev D (tyM cs) (wM h a cs) A s σ H locs := by rw [hH, hlo]; exact hW
  rw [show W p l e rm_M_witness s m _ below meth c s.heap [] = W p l e rm_M_witness s m _ below meth c H locs from by rw [hH, hlo]]
  unfold M_witness at hX
  refine lv_aload_n C.1 C.2.1 dX12_witness_0 rfl (lv_at hl 0 rfl) ?_
  refine lv_iconst (v := 0) C.1 C.2.1 dX12_witness_1 (by decide) ?_
  refine M_puti C hin hW 0 rfl f0 dX12_witness_2 (fun H locs σ1 eσ1 hW => ?_)
  have hX := nm_st hX eσ1
  refine lv_aload_n C.1 C.2.1 dX12_witness_5 rfl (lv_at hl 0 rfl) ?_
  refine M_geti C hin hW 42 (by decide) f42 dX12_witness_6 ?_
  refine lv_sipush (v := 200) C.1 C.2.1 dX12_witness_9 (by decide) ?_
  refine lv_icmp_eq (tgt := 39) C.1 C.2.1 dX12_witness_12 (by decide) (fun c2 => ?_) (fun c2 => ?_)
  · have hX := br_p hX c2
    refine lv_iconst (v := -1) C.1 C.2.1 dX12_witness_39 (by decide) ?_
    exact G_reti C hr hlk hA hW (Option.some.inj hX).symm dX12_witness_40
  have hX := br_n hX c2
  refine lv_aload_n C.1 C.2.1 dX12_witness_15 rfl (lv_at hl 0 rfl) ?_
  refine lv_iload_n C.1 C.2.1 dX12_witness_16 rfl (lv_at hl 1 rfl) ?_
  obtain ⟨v4, hq, hX⟩ := bnd_st hX
  refine G_V0p (As := [.int x1]) (rest := []) C hW (c_M_isClaim l D cs h a σ1 x1 v4 hq.symm) (cwV 1 C.2.2.2.2 gX12_witness_X12_isClaim rfl rfl rfl (by decide +kernel) ⟨Nat.le_of_ble_eq_true rfl, Nat.le_of_ble_eq_true rfl⟩) (M_recv hW) rfl hl.1 rfl (Nat.le_of_ble_eq_true rfl) dX12_witness_17 (fun H locs hW => ?_)
  refine lv_if_eq (tgt := 39) C.1 C.2.1 dX12_witness_20 (by decide) (fun c5 => ?_) (fun c5 => ?_)
  · have hX := br_p hX c5
    refine lv_iconst (v := -1) C.1 C.2.1 dX12_witness_39 (by decide) ?_
    exact G_reti C hr hlk hA hW (Option.some.inj hX).symm dX12_witness_40
  have hX := br_n hX c5
  refine lv_iload_n C.1 C.2.1 dX12_witness_23 rfl (lv_at hl 2 rfl) ?_
  refine lv_if_lt (tgt := 39) C.1 C.2.1 dX12_witness_24 (by decide) (fun c6 => ?_) (fun c6 => ?_)
  · have hX := br_p hX c6
    refine lv_iconst (v := -1) C.1 C.2.1 dX12_witness_39 (by decide) ?_
    exact G_reti C hr hlk hA hW (Option.some.inj hX).symm dX12_witness_40
  have hX := br_n hX c6
  refine lv_iload_n C.1 C.2.1 dX12_witness_27 rfl (lv_at hl 3 rfl) ?_
  refine lv_iload_n C.1 C.2.1 dX12_witness_28 rfl (lv_at hl 2 rfl) ?_
  refine lv_icmp_lt (tgt := 39) C.1 C.2.1 dX12_witness_29 (by decide) (fun c7 => ?_) (fun c7 => ?_)
  · have hX := br_p hX c7
    refine lv_iconst (v := -1) C.1 C.2.1 dX12_witness_39 (by decide) ?_
    exact G_reti C hr hlk hA hW (Option.some.inj hX).symm dX12_witness_40
  have hX := br_n hX c7
  refine lv_iload_n C.1 C.2.1 dX12_witness_32 rfl (lv_at hl 3 rfl) ?_
  refine lv_sipush (v := 9999) C.1 C.2.1 dX12_witness_33 (by decide) ?_
  refine lv_icmp_le (tgt := 41) C.1 C.2.1 dX12_witness_36 (by decide) (fun c8 => ?_) (fun c8 => ?_)
  · have hX := br_p hX c8
    refine lv_aload_n C.1 C.2.1 dX12_witness_41 rfl (lv_at hl 0 rfl) ?_
    refine M_geta C hin hW 37 rfl (by decide) f37 dX12_witness_42 ?_
    refine lv_aload_n C.1 C.2.1 dX12_witness_45 rfl (lv_at hl 0 rfl) ?_
    refine M_geti C hin hW 42 (by decide) f42 dX12_witness_46 ?_
    refine lv_iload_n C.1 C.2.1 dX12_witness_49 rfl (lv_at hl 1 rfl) ?_
    obtain ⟨hi, hX⟩ := chkI_st hX
    refine M_stI C hW 37 rfl hi dX12_witness_50 (fun H locs σ9 eσ9 hW => ?_)
    have hX := nm_st hX eσ9
    refine lv_aload_n C.1 C.2.1 dX12_witness_51 rfl (lv_at hl 0 rfl) ?_
    refine M_geta C hin hW 38 rfl (by decide) f38 dX12_witness_52 ?_
    refine lv_aload_n C.1 C.2.1 dX12_witness_55 rfl (lv_at hl 0 rfl) ?_
    refine M_geti C hin hW 42 (by decide) f42 dX12_witness_56 ?_
    refine lv_aload_n C.1 C.2.1 dX12_witness_59 rfl (lv_at hl 0 rfl) ?_
    refine M_geti C hin hW 32 (by decide) f32 dX12_witness_60 ?_
    obtain ⟨hi, hX⟩ := chkI_st hX
    refine M_stI C hW 38 rfl hi dX12_witness_63 (fun H locs σ10 eσ10 hW => ?_)
    have hX := nm_st hX eσ10
    refine lv_aload_n C.1 C.2.1 dX12_witness_64 rfl (lv_at hl 0 rfl) ?_
    refine M_geta C hin hW 39 rfl (by decide) f39 dX12_witness_65 ?_
    refine lv_aload_n C.1 C.2.1 dX12_witness_68 rfl (lv_at hl 0 rfl) ?_
    refine M_geti C hin hW 42 (by decide) f42 dX12_witness_69 ?_
    refine lv_iload_n C.1 C.2.1 dX12_witness_72 rfl (lv_at hl 2 rfl) ?_
    obtain ⟨hi, hX⟩ := chkI_st hX
    refine M_stI C hW 39 rfl hi dX12_witness_73 (fun H locs σ11 eσ11 hW => ?_)
    have hX := nm_st hX eσ11
    refine lv_aload_n C.1 C.2.1 dX12_witness_74 rfl (lv_at hl 0 rfl) ?_
    refine M_geta C hin hW 40 rfl (by decide) f40 dX12_witness_75 ?_
    refine lv_aload_n C.1 C.2.1 dX12_witness_78 rfl (lv_at hl 0 rfl) ?_
    refine M_geti C hin hW 42 (by decide) f42 dX12_witness_79 ?_
    refine lv_iload_n C.1 C.2.1 dX12_witness_82 rfl (lv_at hl 3 rfl) ?_
    obtain ⟨hi, hX⟩ := chkI_st hX
    refine M_stI C hW 40 rfl hi dX12_witness_83 (fun H locs σ12 eσ12 hW => ?_)
    have hX := nm_st hX eσ12
    refine lv_aload_n C.1 C.2.1 dX12_witness_84 rfl (lv_at hl 0 rfl) ?_
    refine lv_dup C.1 C.2.1 dX12_witness_85 rfl ?_
    refine M_geti C hin hW 42 (by decide) f42 dX12_witness_86 ?_
    refine lv_iconst (v := 1) C.1 C.2.1 dX12_witness_89 (by decide) ?_
    refine lv_iadd C.1 C.2.1 dX12_witness_90 ?_
    refine M_puti C hin hW 42 rfl f42 dX12_witness_91 (fun H locs σ13 eσ13 hW => ?_)
    have hX := nm_st hX eσ13
    refine lv_iconst (v := 0) C.1 C.2.1 dX12_witness_94 (by decide) ?_
    refine lv_istore (lv' := [(4, .int 0), (0, .ref h), (1, .int x1), (2, .int x2), (3, .int x3)]) C.1 C.2.1 dX12_witness_95 hl (by decide) rfl (fun ls hl => ?_)
    refine lv_iconst (v := 0) C.1 C.2.1 dX12_witness_97 (by decide) ?_
    refine lv_istore (lv' := [(5, .int 0), (4, .int 0), (0, .ref h), (1, .int x1), (2, .int x2), (3, .int x3)]) C.1 C.2.1 dX12_witness_98 hl (by decide) rfl (fun ls hl => ?_)
    obtain ⟨q, hq, hX⟩ := bnd_st hX
    refine r_M_witness_L100 C 100000 σ13 0 0 x1 x2 x3 H locs ls q hq.symm hW (lv_sub hl [0, 1, 2, 3, 4, 5] rfl) ?_
    intro v26 v27 H locs ls hq hW hl
    subst hq
    have hX := nm2_st hX rfl
    refine lv_iload C.1 C.2.1 dX12_witness_136 (lv_at hl 1 rfl) ?_
    exact G_reti C hr hlk hA hW (Option.some.inj hX).symm dX12_witness_138
  have hX := br_n hX c8
  refine lv_iconst (v := -1) C.1 C.2.1 dX12_witness_39 (by decide) ?_
  exact G_reti C hr hlk hA hW (Option.some.inj hX).symm dX12_witness_40
abbrev rm_M_tells : Room := { frames := 0, cells := 0, slots := 0, locals := 0 }
def M_tells (σ : St) (x1 : Int32) (x2 : Int32) (x3 : Int32) : Option (Int32) := chkI x1 200 (if (σ.1 37 x1.toNatClampNeg) = x2 then chkI x1 200 (if x3 < (σ.1 38 x1.toNatClampNeg) then some 0 else some 1) else some 0)
set_option maxHeartbeats 4000000 in
set_option maxRecDepth 100000 in
theorem c_M_tells {Ev : EvT} (l : Launch) (D : va_G) (cs : Nat → ClassId) (h : Nat) (a : Nat → Nat) (σ : St) (x1 : Int32) (x2 : Int32) (x3 : Int32) (X : Int32) (hX : some X = M_tells σ x1 x2 x3) : cGi Ev l D (tyM cs) (wM h a cs) yX12_tells wsX12_tells rm_M_tells 0 0 [.ref h, .int x1, .int x2, .int x3] σ (fun r u => r = X ∧ u = σ) := by
  refine G_ini (cc := cX12_tells) (maxL := 4) (ret := some .boolean) (by decide) rfl (Nat.le_of_ble_eq_true rfl) ?_
  intro p e s m below meth c A ls C hr hlk hini hA hW hl
  have C : Cx p s m _ c cX12_tells 4 wsX12_tells RX12 := C
  have hl : lv_has ls 4 [(0, .ref h), (1, .int x1), (2, .int x2), (3, .int x3)] := hl
  have hin : ∀ w ∈ wsX120, w ∈ wsX12_tells := fun w hw => List.mem_cons_of_mem _ (List.mem_append_right _ hw)
  have f37 : (Cond.fieldLink RX12 79 (TX12 37).1 (TX12 37).2.1 (TX12 37).2.2.1).before _ s = true := C.2.2.2.2 _ (List.mem_of_getElem? (i := 1) rfl)
  have f38 : (Cond.fieldLink RX12 82 (TX12 38).1 (TX12 38).2.1 (TX12 38).2.2.1).before _ s = true := C.2.2.2.2 _ (List.mem_of_getElem? (i := 2) rfl)
  obtain ⟨H, hH⟩ : ∃ H, H = s.heap := ⟨_, rfl⟩
  obtain ⟨locs, hlo⟩ : ∃ z : List Loc, z = [] := ⟨_, rfl⟩
  have hW : GW Ev D (tyM cs) (wM h a cs) A s σ H locs := by rw [hH, hlo]; exact hW
  rw [show W p l e rm_M_tells s m _ below meth c s.heap [] = W p l e rm_M_tells s m _ below meth c H locs from by rw [hH, hlo]]
  unfold M_tells at hX
  refine lv_aload_n C.1 C.2.1 dX12_tells_0 rfl (lv_at hl 0 rfl) ?_
  refine M_geta C hin hW 37 rfl (by decide) f37 dX12_tells_1 ?_
  refine lv_iload_n C.1 C.2.1 dX12_tells_4 rfl (lv_at hl 1 rfl) ?_
  obtain ⟨hi, hX⟩ := chkI_st hX
  refine M_ldI C hW 37 rfl hi dX12_tells_5 ?_
  refine lv_iload_n C.1 C.2.1 dX12_tells_6 rfl (lv_at hl 2 rfl) ?_
  refine lv_icmp_ne (tgt := 24) C.1 C.2.1 dX12_tells_7 (by decide) (fun c1 => ?_) (fun c1 => ?_)
  · have hX := br_n hX c1
    refine lv_iconst (v := 0) C.1 C.2.1 dX12_tells_24 (by decide) ?_
    exact G_retz C hr hlk hA hW rfl ⟨(Option.some.inj hX).symm, rfl⟩ dX12_tells_25
  have hX := br_p hX c1
  refine lv_aload_n C.1 C.2.1 dX12_tells_10 rfl (lv_at hl 0 rfl) ?_
  refine M_geta C hin hW 38 rfl (by decide) f38 dX12_tells_11 ?_
  refine lv_iload_n C.1 C.2.1 dX12_tells_14 rfl (lv_at hl 1 rfl) ?_
  obtain ⟨hi, hX⟩ := chkI_st hX
  refine M_ldI C hW 38 rfl hi dX12_tells_15 ?_
  refine lv_iload_n C.1 C.2.1 dX12_tells_16 rfl (lv_at hl 3 rfl) ?_
  refine lv_icmp_gt (tgt := 24) C.1 C.2.1 dX12_tells_17 (by decide) (fun c2 => ?_) (fun c2 => ?_)
  · have hX := br_p hX c2
    refine lv_iconst (v := 0) C.1 C.2.1 dX12_tells_24 (by decide) ?_
    exact G_retz C hr hlk hA hW rfl ⟨(Option.some.inj hX).symm, rfl⟩ dX12_tells_25
  have hX := br_n hX c2
  refine lv_iconst (v := 1) C.1 C.2.1 dX12_tells_20 (by decide) ?_
  refine lv_goto (tgt := 25) C.1 C.2.1 dX12_tells_21 (by decide) ?_
  exact G_retz C hr hlk hA hW rfl ⟨(Option.some.inj hX).symm, rfl⟩ dX12_tells_25
abbrev rm_M_look : Room := { frames := 1, cells := 0, slots := 0, locals := 23 }
def M_look_L51 : Nat → St → Int32 → Int32 → Int32 → Int32 → Int32 → Int32 → Option (Int32 × Int32 × Int32)
  | 0, _, _, _, _, _, _, _ => none
  | n + 1, σ, x6, x5, x4, x3, x1, x2 => if (σ.1 42 0) ≤ x6 then some (x6, x5, x4) else bnd (M_tells σ x6 x1 x2) (fun v24 => if v24 = 0 then nm (x6 + 1) (fun v26 => M_look_L51 n σ v26 x5 x4 x3 x1 x2) else chkI x6 200 (chkI x3 200 (if (σ.1 39 x3.toNatClampNeg) < (σ.1 39 x6.toNatClampNeg) then nm (x6 + 1) (fun v28 => M_look_L51 n σ v28 x5 x4 x3 x1 x2) else chkI x6 200 (chkI x3 200 (if (σ.1 39 x3.toNatClampNeg) ≤ (σ.1 40 x6.toNatClampNeg) then nm (x4 + 1) (fun v30 => chkI x6 200 (if x5 ≤ (σ.1 40 x6.toNatClampNeg) then nm (x6 + 1) (fun v32 => M_look_L51 n σ v32 x5 v30 x3 x1 x2) else chkI x6 200 (nm (σ.1 40 x6.toNatClampNeg) (fun v33 => nm (x6 + 1) (fun v34 => M_look_L51 n σ v34 v33 v30 x3 x1 x2))))) else nm (x6 + 1) (fun v35 => M_look_L51 n σ v35 x5 x4 x3 x1 x2))))))
set_option maxHeartbeats 4000000 in
set_option maxRecDepth 100000 in
theorem r_M_look_L51 {p : Program} {l : Launch} {e : Env} {s : State} {m : MethodId} {args : Array Value} {below : List Frame} {meth : Method} {c : Code} {Q : State → Prop} {Ev : EvT} {D : va_G} {cs : Nat → ClassId} {h : Nat} {a : Nat → Nat} {A : Nat → Prop} (C : Cx p s m args c cX12_look 7 wsX12_look RX12) : ∀ (n : Nat) (σ : St) (x6 : Int32) (x5 : Int32) (x4 : Int32) (x3 : Int32) (x1 : Int32) (x2 : Int32) (H : Heap) (locs : List Loc) (ls : Array Slot) (X : Int32 × Int32 × Int32), some X = M_look_L51 n σ x6 x5 x4 x3 x1 x2 → GW Ev D (tyM cs) (wM h a cs) A s σ H locs → lv_has ls 7 [(6, .int x6), (5, .int x5), (4, .int x4), (3, .int x3), (0, .ref h), (1, .int x1), (2, .int x2)] → (∀ (z6 : Int32) (z5 : Int32) (z4 : Int32) (H : Heap) (locs : List Loc) (ls : Array Slot), X = (z6, z5, z4) → GW Ev D (tyM cs) (wM h a cs) A s σ H locs → lv_has ls 7 [(6, .int z6), (5, .int z5), (4, .int z4), (3, .int x3), (0, .ref h), (1, .int x1), (2, .int x2)] → W p l e rm_M_look s m args below meth c H locs 0 0 Q (F0 m 141 ls [])) → W p l e rm_M_look s m args below meth c H locs 0 0 Q (F0 m 51 ls []) := by
  have hin : ∀ w ∈ wsX120, w ∈ wsX12_look := fun w hw => List.mem_cons_of_mem _ (List.mem_append_right _ hw)
  have f39 : (Cond.fieldLink RX12 85 (TX12 39).1 (TX12 39).2.1 (TX12 39).2.2.1).before _ s = true := C.2.2.2.2 _ (List.mem_of_getElem? (i := 5) rfl)
  have f40 : (Cond.fieldLink RX12 88 (TX12 40).1 (TX12 40).2.1 (TX12 40).2.2.1).before _ s = true := C.2.2.2.2 _ (List.mem_of_getElem? (i := 6) rfl)
  have f42 : (Cond.fieldLink RX12 283 (TX12 42).1 (TX12 42).2.1 (TX12 42).2.2.1).before _ s = true := C.2.2.2.2 _ (List.mem_of_getElem? (i := 4) rfl)
  have f43 : (Cond.fieldLink RX12 289 (TX12 43).1 (TX12 43).2.1 (TX12 43).2.2.1).before _ s = true := C.2.2.2.2 _ (List.mem_of_getElem? (i := 1) rfl)
  have f44 : (Cond.fieldLink RX12 292 (TX12 44).1 (TX12 44).2.1 (TX12 44).2.2.1).before _ s = true := C.2.2.2.2 _ (List.mem_of_getElem? (i := 2) rfl)
  have f45 : (Cond.fieldLink RX12 295 (TX12 45).1 (TX12 45).2.1 (TX12 45).2.2.1).before _ s = true := C.2.2.2.2 _ (List.mem_of_getElem? (i := 3) rfl)
  intro n
  induction n with
  | zero =>
    intro σ x6 x5 x4 x3 x1 x2 H locs ls X hX hW hl K0
    cases hX
  | succ n ih =>
    intro σ x6 x5 x4 x3 x1 x2 H locs ls X hX hW hl K0
    unfold M_look_L51 at hX
    refine lv_iload C.1 C.2.1 dX12_look_51 (lv_at hl 0 rfl) ?_
    refine lv_aload_n C.1 C.2.1 dX12_look_53 rfl (lv_at hl 4 rfl) ?_
    refine M_geti C hin hW 42 (by decide) f42 dX12_look_54 ?_
    refine lv_icmp_ge (tgt := 141) C.1 C.2.1 dX12_look_57 (by decide) (fun c22 => ?_) (fun c22 => ?_)
    · have hX := br_p hX c22
      exact K0 x6 x5 x4 H locs ls (Option.some.inj hX) hW (lv_sub hl [0, 1, 2, 3, 4, 5, 6] rfl)
    have hX := br_n hX c22
    refine lv_aload_n C.1 C.2.1 dX12_look_60 rfl (lv_at hl 4 rfl) ?_
    refine lv_iload C.1 C.2.1 dX12_look_61 (lv_at hl 0 rfl) ?_
    refine lv_iload_n C.1 C.2.1 dX12_look_63 rfl (lv_at hl 5 rfl) ?_
    refine lv_iload_n C.1 C.2.1 dX12_look_64 rfl (lv_at hl 6 rfl) ?_
    obtain ⟨v24, hq, hX⟩ := bnd_st hX
    refine G_V0p (As := [.int x6, .int x1, .int x2]) (rest := []) C hW (c_M_tells l D cs h a σ x6 x1 x2 v24 hq.symm) (cwV 3 C.2.2.2.2 gX12_look_X12_tells rfl rfl rfl (by decide +kernel) ⟨Nat.le_of_ble_eq_true rfl, Nat.le_of_ble_eq_true rfl⟩) (M_recv hW) rfl hl.1 rfl (Nat.le_of_ble_eq_true rfl) dX12_look_65 (fun H locs hW => ?_)
    refine lv_if_eq (tgt := 135) C.1 C.2.1 dX12_look_68 (by decide) (fun c25 => ?_) (fun c25 => ?_)
    · have hX := br_p hX c25
      obtain ⟨v26, ev26⟩ : ∃ z : Int32, z = x6 + 1 := ⟨_, rfl⟩
      have hX := nm_st hX ev26
      refine lv_iinc (v := v26) (lv' := [(6, .int v26), (5, .int x5), (4, .int x4), (3, .int x3), (0, .ref h), (1, .int x1), (2, .int x2)]) C.1 C.2.1 dX12_look_135 hl (k := 0) rfl (by rw [ev26]; rfl) (by decide) rfl (fun ls hl => ?_)
      refine lv_goto (tgt := 51) C.1 C.2.1 dX12_look_138 (by decide) ?_
      exact ih σ v26 x5 x4 x3 x1 x2 H locs ls X hX hW (lv_sub hl [0, 1, 2, 3, 4, 5, 6] rfl) K0
    have hX := br_n hX c25
    refine lv_aload_n C.1 C.2.1 dX12_look_71 rfl (lv_at hl 4 rfl) ?_
    refine M_geta C hin hW 39 rfl (by decide) f39 dX12_look_72 ?_
    refine lv_iload C.1 C.2.1 dX12_look_75 (lv_at hl 0 rfl) ?_
    obtain ⟨hi, hX⟩ := chkI_st hX
    refine M_ldI C hW 39 rfl hi dX12_look_77 ?_
    refine lv_aload_n C.1 C.2.1 dX12_look_78 rfl (lv_at hl 4 rfl) ?_
    refine M_geta C hin hW 39 rfl (by decide) f39 dX12_look_79 ?_
    refine lv_iload_n C.1 C.2.1 dX12_look_82 rfl (lv_at hl 3 rfl) ?_
    obtain ⟨hi, hX⟩ := chkI_st hX
    refine M_ldI C hW 39 rfl hi dX12_look_83 ?_
    refine lv_icmp_gt (tgt := 135) C.1 C.2.1 dX12_look_84 (by decide) (fun c27 => ?_) (fun c27 => ?_)
    · have hX := br_p hX c27
      obtain ⟨v28, ev28⟩ : ∃ z : Int32, z = x6 + 1 := ⟨_, rfl⟩
      have hX := nm_st hX ev28
      refine lv_iinc (v := v28) (lv' := [(6, .int v28), (5, .int x5), (4, .int x4), (3, .int x3), (0, .ref h), (1, .int x1), (2, .int x2)]) C.1 C.2.1 dX12_look_135 hl (k := 0) rfl (by rw [ev28]; rfl) (by decide) rfl (fun ls hl => ?_)
      refine lv_goto (tgt := 51) C.1 C.2.1 dX12_look_138 (by decide) ?_
      exact ih σ v28 x5 x4 x3 x1 x2 H locs ls X hX hW (lv_sub hl [0, 1, 2, 3, 4, 5, 6] rfl) K0
    have hX := br_n hX c27
    refine lv_aload_n C.1 C.2.1 dX12_look_87 rfl (lv_at hl 4 rfl) ?_
    refine M_geta C hin hW 40 rfl (by decide) f40 dX12_look_88 ?_
    refine lv_iload C.1 C.2.1 dX12_look_91 (lv_at hl 0 rfl) ?_
    obtain ⟨hi, hX⟩ := chkI_st hX
    refine M_ldI C hW 40 rfl hi dX12_look_93 ?_
    refine lv_aload_n C.1 C.2.1 dX12_look_94 rfl (lv_at hl 4 rfl) ?_
    refine M_geta C hin hW 39 rfl (by decide) f39 dX12_look_95 ?_
    refine lv_iload_n C.1 C.2.1 dX12_look_98 rfl (lv_at hl 3 rfl) ?_
    obtain ⟨hi, hX⟩ := chkI_st hX
    refine M_ldI C hW 39 rfl hi dX12_look_99 ?_
    refine lv_icmp_ge (tgt := 106) C.1 C.2.1 dX12_look_100 (by decide) (fun c29 => ?_) (fun c29 => ?_)
    · have hX := br_p hX c29
      obtain ⟨v30, ev30⟩ : ∃ z : Int32, z = x4 + 1 := ⟨_, rfl⟩
      have hX := nm_st hX ev30
      refine lv_iinc (v := v30) (lv' := [(4, .int v30), (6, .int x6), (5, .int x5), (3, .int x3), (0, .ref h), (1, .int x1), (2, .int x2)]) C.1 C.2.1 dX12_look_106 hl (k := 2) rfl (by rw [ev30]; rfl) (by decide) rfl (fun ls hl => ?_)
      refine lv_aload_n C.1 C.2.1 dX12_look_109 rfl (lv_at hl 4 rfl) ?_
      refine M_geta C hin hW 40 rfl (by decide) f40 dX12_look_110 ?_
      refine lv_iload C.1 C.2.1 dX12_look_113 (lv_at hl 1 rfl) ?_
      obtain ⟨hi, hX⟩ := chkI_st hX
      refine M_ldI C hW 40 rfl hi dX12_look_115 ?_
      refine lv_iload C.1 C.2.1 dX12_look_116 (lv_at hl 2 rfl) ?_
      refine lv_icmp_ge (tgt := 131) C.1 C.2.1 dX12_look_118 (by decide) (fun c31 => ?_) (fun c31 => ?_)
      · have hX := br_p hX c31
        refine lv_iload C.1 C.2.1 dX12_look_131 (lv_at hl 2 rfl) ?_
        refine lv_istore (lv' := [(5, .int x5), (4, .int v30), (6, .int x6), (3, .int x3), (0, .ref h), (1, .int x1), (2, .int x2)]) C.1 C.2.1 dX12_look_133 hl (by decide) rfl (fun ls hl => ?_)
        obtain ⟨v32, ev32⟩ : ∃ z : Int32, z = x6 + 1 := ⟨_, rfl⟩
        have hX := nm_st hX ev32
        refine lv_iinc (v := v32) (lv' := [(6, .int v32), (5, .int x5), (4, .int v30), (3, .int x3), (0, .ref h), (1, .int x1), (2, .int x2)]) C.1 C.2.1 dX12_look_135 hl (k := 2) rfl (by rw [ev32]; rfl) (by decide) rfl (fun ls hl => ?_)
        refine lv_goto (tgt := 51) C.1 C.2.1 dX12_look_138 (by decide) ?_
        exact ih σ v32 x5 v30 x3 x1 x2 H locs ls X hX hW (lv_sub hl [0, 1, 2, 3, 4, 5, 6] rfl) K0
      have hX := br_n hX c31
      refine lv_aload_n C.1 C.2.1 dX12_look_121 rfl (lv_at hl 4 rfl) ?_
      refine M_geta C hin hW 40 rfl (by decide) f40 dX12_look_122 ?_
      refine lv_iload C.1 C.2.1 dX12_look_125 (lv_at hl 1 rfl) ?_
      obtain ⟨hi, hX⟩ := chkI_st hX
      refine M_ldI C hW 40 rfl hi dX12_look_127 ?_
      refine lv_goto (tgt := 133) C.1 C.2.1 dX12_look_128 (by decide) ?_
      refine lv_topi (fun v33 ev33 => ?_)
      have hX := nm_st hX ev33
      refine lv_istore (lv' := [(5, .int v33), (4, .int v30), (6, .int x6), (3, .int x3), (0, .ref h), (1, .int x1), (2, .int x2)]) C.1 C.2.1 dX12_look_133 hl (by decide) rfl (fun ls hl => ?_)
      obtain ⟨v34, ev34⟩ : ∃ z : Int32, z = x6 + 1 := ⟨_, rfl⟩
      have hX := nm_st hX ev34
      refine lv_iinc (v := v34) (lv' := [(6, .int v34), (5, .int v33), (4, .int v30), (3, .int x3), (0, .ref h), (1, .int x1), (2, .int x2)]) C.1 C.2.1 dX12_look_135 hl (k := 2) rfl (by rw [ev34]; rfl) (by decide) rfl (fun ls hl => ?_)
      refine lv_goto (tgt := 51) C.1 C.2.1 dX12_look_138 (by decide) ?_
      exact ih σ v34 v33 v30 x3 x1 x2 H locs ls X hX hW (lv_sub hl [0, 1, 2, 3, 4, 5, 6] rfl) K0
    have hX := br_n hX c29
    refine lv_goto (tgt := 135) C.1 C.2.1 dX12_look_103 (by decide) ?_
    obtain ⟨v35, ev35⟩ : ∃ z : Int32, z = x6 + 1 := ⟨_, rfl⟩
    have hX := nm_st hX ev35
    refine lv_iinc (v := v35) (lv' := [(6, .int v35), (5, .int x5), (4, .int x4), (3, .int x3), (0, .ref h), (1, .int x1), (2, .int x2)]) C.1 C.2.1 dX12_look_135 hl (k := 0) rfl (by rw [ev35]; rfl) (by decide) rfl (fun ls hl => ?_)
    refine lv_goto (tgt := 51) C.1 C.2.1 dX12_look_138 (by decide) ?_
    exact ih σ v35 x5 x4 x3 x1 x2 H locs ls X hX hW (lv_sub hl [0, 1, 2, 3, 4, 5, 6] rfl) K0
def M_look_L19 : Nat → St → Int32 → Int32 → Int32 → Option (St × Int32)
  | 0, _, _, _, _ => none
  | n + 1, σ, x3, x1, x2 => if (σ.1 42 0) ≤ x3 then some (σ, x3) else bnd (M_tells σ x3 x1 x2) (fun v55 => if v55 = 0 then nm (x3 + 1) (fun v73 => M_look_L19 n σ v73 x1 x2) else bnd (M_look_L51 100000 σ 0 9999 0 x3 x1 x2) (fun q => nm2 q (fun v57 q => nm2 q (fun v58 v59 => if v59 < (σ.1 45 0) then nm (x3 + 1) (fun v61 => M_look_L19 n σ v61 x1 x2) else if v59 = (σ.1 45 0) then chkI x3 200 (if (σ.1 39 x3.toNatClampNeg) < (σ.1 43 0) then nm (s1 σ 45 0 v59) (fun σ68 => chkI x3 200 (nm (s1 σ68 43 0 (σ68.1 39 x3.toNatClampNeg)) (fun σ69 => nm (s1 σ69 44 0 v58) (fun σ70 => nm (x3 + 1) (fun v71 => M_look_L19 n σ70 v71 x1 x2))))) else nm (x3 + 1) (fun v72 => M_look_L19 n σ v72 x1 x2)) else nm (s1 σ 45 0 v59) (fun σ63 => chkI x3 200 (nm (s1 σ63 43 0 (σ63.1 39 x3.toNatClampNeg)) (fun σ64 => nm (s1 σ64 44 0 v58) (fun σ65 => nm (x3 + 1) (fun v66 => M_look_L19 n σ65 v66 x1 x2)))))))))
set_option maxHeartbeats 4000000 in
set_option maxRecDepth 100000 in
theorem r_M_look_L19 {p : Program} {l : Launch} {e : Env} {s : State} {m : MethodId} {args : Array Value} {below : List Frame} {meth : Method} {c : Code} {Q : State → Prop} {Ev : EvT} {D : va_G} {cs : Nat → ClassId} {h : Nat} {a : Nat → Nat} {A : Nat → Prop} (C : Cx p s m args c cX12_look 7 wsX12_look RX12) : ∀ (n : Nat) (σ : St) (x3 : Int32) (x1 : Int32) (x2 : Int32) (H : Heap) (locs : List Loc) (ls : Array Slot) (X : St × Int32), some X = M_look_L19 n σ x3 x1 x2 → GW Ev D (tyM cs) (wM h a cs) A s σ H locs → lv_has ls 7 [(3, .int x3), (0, .ref h), (1, .int x1), (2, .int x2)] → (∀ (τ : St) (z3 : Int32) (H : Heap) (locs : List Loc) (ls : Array Slot), X = (τ, z3) → GW Ev D (tyM cs) (wM h a cs) A s τ H locs → lv_has ls 7 [(3, .int z3), (0, .ref h), (1, .int x1), (2, .int x2)] → W p l e rm_M_look s m args below meth c H locs 0 0 Q (F0 m 203 ls [])) → W p l e rm_M_look s m args below meth c H locs 0 0 Q (F0 m 19 ls []) := by
  have hin : ∀ w ∈ wsX120, w ∈ wsX12_look := fun w hw => List.mem_cons_of_mem _ (List.mem_append_right _ hw)
  have f39 : (Cond.fieldLink RX12 85 (TX12 39).1 (TX12 39).2.1 (TX12 39).2.2.1).before _ s = true := C.2.2.2.2 _ (List.mem_of_getElem? (i := 5) rfl)
  have f40 : (Cond.fieldLink RX12 88 (TX12 40).1 (TX12 40).2.1 (TX12 40).2.2.1).before _ s = true := C.2.2.2.2 _ (List.mem_of_getElem? (i := 6) rfl)
  have f42 : (Cond.fieldLink RX12 283 (TX12 42).1 (TX12 42).2.1 (TX12 42).2.2.1).before _ s = true := C.2.2.2.2 _ (List.mem_of_getElem? (i := 4) rfl)
  have f43 : (Cond.fieldLink RX12 289 (TX12 43).1 (TX12 43).2.1 (TX12 43).2.2.1).before _ s = true := C.2.2.2.2 _ (List.mem_of_getElem? (i := 1) rfl)
  have f44 : (Cond.fieldLink RX12 292 (TX12 44).1 (TX12 44).2.1 (TX12 44).2.2.1).before _ s = true := C.2.2.2.2 _ (List.mem_of_getElem? (i := 2) rfl)
  have f45 : (Cond.fieldLink RX12 295 (TX12 45).1 (TX12 45).2.1 (TX12 45).2.2.1).before _ s = true := C.2.2.2.2 _ (List.mem_of_getElem? (i := 3) rfl)
  intro n
  induction n with
  | zero =>
    intro σ x3 x1 x2 H locs ls X hX hW hl K0
    cases hX
  | succ n ih =>
    intro σ x3 x1 x2 H locs ls X hX hW hl K0
    unfold M_look_L19 at hX
    refine lv_iload_n C.1 C.2.1 dX12_look_19 rfl (lv_at hl 0 rfl) ?_
    refine lv_aload_n C.1 C.2.1 dX12_look_20 rfl (lv_at hl 1 rfl) ?_
    refine M_geti C hin hW 42 (by decide) f42 dX12_look_21 ?_
    refine lv_icmp_ge (tgt := 203) C.1 C.2.1 dX12_look_24 (by decide) (fun c53 => ?_) (fun c53 => ?_)
    · have hX := br_p hX c53
      exact K0 σ x3 H locs ls (Option.some.inj hX) hW (lv_sub hl [0, 1, 2, 3] rfl)
    have hX := br_n hX c53
    refine lv_aload_n C.1 C.2.1 dX12_look_27 rfl (lv_at hl 1 rfl) ?_
    refine lv_iload_n C.1 C.2.1 dX12_look_28 rfl (lv_at hl 0 rfl) ?_
    refine lv_iload_n C.1 C.2.1 dX12_look_29 rfl (lv_at hl 2 rfl) ?_
    refine lv_iload_n C.1 C.2.1 dX12_look_30 rfl (lv_at hl 3 rfl) ?_
    obtain ⟨v55, hq, hX⟩ := bnd_st hX
    refine G_V0p (As := [.int x3, .int x1, .int x2]) (rest := []) C hW (c_M_tells l D cs h a σ x3 x1 x2 v55 hq.symm) (cwV 3 C.2.2.2.2 gX12_look_X12_tells rfl rfl rfl (by decide +kernel) ⟨Nat.le_of_ble_eq_true rfl, Nat.le_of_ble_eq_true rfl⟩) (M_recv hW) rfl hl.1 rfl (Nat.le_of_ble_eq_true rfl) dX12_look_31 (fun H locs hW => ?_)
    refine lv_if_ne (tgt := 40) C.1 C.2.1 dX12_look_34 (by decide) (fun c56 => ?_) (fun c56 => ?_)
    · have hX := br_n hX c56
      refine lv_iconst (v := 0) C.1 C.2.1 dX12_look_40 (by decide) ?_
      refine lv_istore (lv' := [(4, .int 0), (3, .int x3), (0, .ref h), (1, .int x1), (2, .int x2)]) C.1 C.2.1 dX12_look_41 hl (by decide) rfl (fun ls hl => ?_)
      refine lv_sipush (v := 9999) C.1 C.2.1 dX12_look_43 (by decide) ?_
      refine lv_istore (lv' := [(5, .int 9999), (4, .int 0), (3, .int x3), (0, .ref h), (1, .int x1), (2, .int x2)]) C.1 C.2.1 dX12_look_46 hl (by decide) rfl (fun ls hl => ?_)
      refine lv_iconst (v := 0) C.1 C.2.1 dX12_look_48 (by decide) ?_
      refine lv_istore (lv' := [(6, .int 0), (5, .int 9999), (4, .int 0), (3, .int x3), (0, .ref h), (1, .int x1), (2, .int x2)]) C.1 C.2.1 dX12_look_49 hl (by decide) rfl (fun ls hl => ?_)
      obtain ⟨q, hq, hX⟩ := bnd_st hX
      refine r_M_look_L51 C 100000 σ 0 9999 0 x3 x1 x2 H locs ls q hq.symm hW (lv_sub hl [0, 1, 2, 3, 4, 5, 6] rfl) ?_
      intro v57 v58 v59 H locs ls hq hW hl
      subst hq
      have hX := nm2_st hX rfl
      have hX := nm2_st hX rfl
      refine lv_iload C.1 C.2.1 dX12_look_141 (lv_at hl 2 rfl) ?_
      refine lv_aload_n C.1 C.2.1 dX12_look_143 rfl (lv_at hl 4 rfl) ?_
      refine M_geti C hin hW 45 (by decide) f45 dX12_look_144 ?_
      refine lv_icmp_lt (tgt := 197) C.1 C.2.1 dX12_look_147 (by decide) (fun c60 => ?_) (fun c60 => ?_)
      · have hX := br_p hX c60
        obtain ⟨v61, ev61⟩ : ∃ z : Int32, z = x3 + 1 := ⟨_, rfl⟩
        have hX := nm_st hX ev61
        refine lv_iinc (v := v61) (lv' := [(3, .int v61), (6, .int v57), (5, .int v58), (4, .int v59), (0, .ref h), (1, .int x1), (2, .int x2)]) C.1 C.2.1 dX12_look_197 hl (k := 3) rfl (by rw [ev61]; rfl) (by decide) rfl (fun ls hl => ?_)
        refine lv_goto (tgt := 19) C.1 C.2.1 dX12_look_200 (by decide) ?_
        exact ih σ v61 x1 x2 H locs ls X hX hW (lv_sub hl [0, 4, 5, 6] rfl) K0
      have hX := br_n hX c60
      refine lv_iload C.1 C.2.1 dX12_look_150 (lv_at hl 2 rfl) ?_
      refine lv_aload_n C.1 C.2.1 dX12_look_152 rfl (lv_at hl 4 rfl) ?_
      refine M_geti C hin hW 45 (by decide) f45 dX12_look_153 ?_
      refine lv_icmp_ne (tgt := 175) C.1 C.2.1 dX12_look_156 (by decide) (fun c62 => ?_) (fun c62 => ?_)
      · have hX := br_n hX c62
        refine lv_aload_n C.1 C.2.1 dX12_look_175 rfl (lv_at hl 4 rfl) ?_
        refine lv_iload C.1 C.2.1 dX12_look_176 (lv_at hl 2 rfl) ?_
        refine M_puti C hin hW 45 rfl f45 dX12_look_178 (fun H locs σ63 eσ63 hW => ?_)
        have hX := nm_st hX eσ63
        refine lv_aload_n C.1 C.2.1 dX12_look_181 rfl (lv_at hl 4 rfl) ?_
        refine lv_aload_n C.1 C.2.1 dX12_look_182 rfl (lv_at hl 4 rfl) ?_
        refine M_geta C hin hW 39 rfl (by decide) f39 dX12_look_183 ?_
        refine lv_iload_n C.1 C.2.1 dX12_look_186 rfl (lv_at hl 3 rfl) ?_
        obtain ⟨hi, hX⟩ := chkI_st hX
        refine M_ldI C hW 39 rfl hi dX12_look_187 ?_
        refine M_puti C hin hW 43 rfl f43 dX12_look_188 (fun H locs σ64 eσ64 hW => ?_)
        have hX := nm_st hX eσ64
        refine lv_aload_n C.1 C.2.1 dX12_look_191 rfl (lv_at hl 4 rfl) ?_
        refine lv_iload C.1 C.2.1 dX12_look_192 (lv_at hl 1 rfl) ?_
        refine M_puti C hin hW 44 rfl f44 dX12_look_194 (fun H locs σ65 eσ65 hW => ?_)
        have hX := nm_st hX eσ65
        obtain ⟨v66, ev66⟩ : ∃ z : Int32, z = x3 + 1 := ⟨_, rfl⟩
        have hX := nm_st hX ev66
        refine lv_iinc (v := v66) (lv' := [(3, .int v66), (6, .int v57), (5, .int v58), (4, .int v59), (0, .ref h), (1, .int x1), (2, .int x2)]) C.1 C.2.1 dX12_look_197 hl (k := 3) rfl (by rw [ev66]; rfl) (by decide) rfl (fun ls hl => ?_)
        refine lv_goto (tgt := 19) C.1 C.2.1 dX12_look_200 (by decide) ?_
        exact ih σ65 v66 x1 x2 H locs ls X hX hW (lv_sub hl [0, 4, 5, 6] rfl) K0
      have hX := br_p hX c62
      refine lv_aload_n C.1 C.2.1 dX12_look_159 rfl (lv_at hl 4 rfl) ?_
      refine M_geta C hin hW 39 rfl (by decide) f39 dX12_look_160 ?_
      refine lv_iload_n C.1 C.2.1 dX12_look_163 rfl (lv_at hl 3 rfl) ?_
      obtain ⟨hi, hX⟩ := chkI_st hX
      refine M_ldI C hW 39 rfl hi dX12_look_164 ?_
      refine lv_aload_n C.1 C.2.1 dX12_look_165 rfl (lv_at hl 4 rfl) ?_
      refine M_geti C hin hW 43 (by decide) f43 dX12_look_166 ?_
      refine lv_icmp_lt (tgt := 175) C.1 C.2.1 dX12_look_169 (by decide) (fun c67 => ?_) (fun c67 => ?_)
      · have hX := br_p hX c67
        refine lv_aload_n C.1 C.2.1 dX12_look_175 rfl (lv_at hl 4 rfl) ?_
        refine lv_iload C.1 C.2.1 dX12_look_176 (lv_at hl 2 rfl) ?_
        refine M_puti C hin hW 45 rfl f45 dX12_look_178 (fun H locs σ68 eσ68 hW => ?_)
        have hX := nm_st hX eσ68
        refine lv_aload_n C.1 C.2.1 dX12_look_181 rfl (lv_at hl 4 rfl) ?_
        refine lv_aload_n C.1 C.2.1 dX12_look_182 rfl (lv_at hl 4 rfl) ?_
        refine M_geta C hin hW 39 rfl (by decide) f39 dX12_look_183 ?_
        refine lv_iload_n C.1 C.2.1 dX12_look_186 rfl (lv_at hl 3 rfl) ?_
        obtain ⟨hi, hX⟩ := chkI_st hX
        refine M_ldI C hW 39 rfl hi dX12_look_187 ?_
        refine M_puti C hin hW 43 rfl f43 dX12_look_188 (fun H locs σ69 eσ69 hW => ?_)
        have hX := nm_st hX eσ69
        refine lv_aload_n C.1 C.2.1 dX12_look_191 rfl (lv_at hl 4 rfl) ?_
        refine lv_iload C.1 C.2.1 dX12_look_192 (lv_at hl 1 rfl) ?_
        refine M_puti C hin hW 44 rfl f44 dX12_look_194 (fun H locs σ70 eσ70 hW => ?_)
        have hX := nm_st hX eσ70
        obtain ⟨v71, ev71⟩ : ∃ z : Int32, z = x3 + 1 := ⟨_, rfl⟩
        have hX := nm_st hX ev71
        refine lv_iinc (v := v71) (lv' := [(3, .int v71), (6, .int v57), (5, .int v58), (4, .int v59), (0, .ref h), (1, .int x1), (2, .int x2)]) C.1 C.2.1 dX12_look_197 hl (k := 3) rfl (by rw [ev71]; rfl) (by decide) rfl (fun ls hl => ?_)
        refine lv_goto (tgt := 19) C.1 C.2.1 dX12_look_200 (by decide) ?_
        exact ih σ70 v71 x1 x2 H locs ls X hX hW (lv_sub hl [0, 4, 5, 6] rfl) K0
      have hX := br_n hX c67
      refine lv_goto (tgt := 197) C.1 C.2.1 dX12_look_172 (by decide) ?_
      obtain ⟨v72, ev72⟩ : ∃ z : Int32, z = x3 + 1 := ⟨_, rfl⟩
      have hX := nm_st hX ev72
      refine lv_iinc (v := v72) (lv' := [(3, .int v72), (6, .int v57), (5, .int v58), (4, .int v59), (0, .ref h), (1, .int x1), (2, .int x2)]) C.1 C.2.1 dX12_look_197 hl (k := 3) rfl (by rw [ev72]; rfl) (by decide) rfl (fun ls hl => ?_)
      refine lv_goto (tgt := 19) C.1 C.2.1 dX12_look_200 (by decide) ?_
      exact ih σ v72 x1 x2 H locs ls X hX hW (lv_sub hl [0, 4, 5, 6] rfl) K0
    have hX := br_p hX c56
    refine lv_goto (tgt := 197) C.1 C.2.1 dX12_look_37 (by decide) ?_
    obtain ⟨v73, ev73⟩ : ∃ z : Int32, z = x3 + 1 := ⟨_, rfl⟩
    have hX := nm_st hX ev73
    refine lv_iinc (v := v73) (lv' := [(3, .int v73), (0, .ref h), (1, .int x1), (2, .int x2)]) C.1 C.2.1 dX12_look_197 hl (k := 0) rfl (by rw [ev73]; rfl) (by decide) rfl (fun ls hl => ?_)
    refine lv_goto (tgt := 19) C.1 C.2.1 dX12_look_200 (by decide) ?_
    exact ih σ v73 x1 x2 H locs ls X hX hW (lv_sub hl [0, 1, 2, 3] rfl) K0
def M_look (σ : St) (x1 : Int32) (x2 : Int32) : Option (St) := nm (s1 σ 43 0 0) (fun σ1 => nm (s1 σ1 44 0 9999) (fun σ2 => nm (s1 σ2 45 0 0) (fun σ3 => bnd (M_look_L19 100000 σ3 0 x1 x2) (fun q => nm2 q (fun σ74 v75 => some σ74)))))
set_option maxHeartbeats 4000000 in
set_option maxRecDepth 100000 in
theorem c_M_look {Ev : EvT} (l : Launch) (D : va_G) (cs : Nat → ClassId) (h : Nat) (a : Nat → Nat) (σ : St) (x1 : Int32) (x2 : Int32) (X : St) (hX : some X = M_look σ x1 x2) : cGv Ev l D (tyM cs) (wM h a cs) yX12_look wsX12_look rm_M_look 0 0 [.ref h, .int x1, .int x2] σ (fun u => u = X) := by
  refine G_inv (cc := cX12_look) (maxL := 7) (ret := none) (by decide) rfl (Nat.le_of_ble_eq_true rfl) ?_
  intro p e s m below meth c A ls C hr hlk hini hA hW hl
  have C : Cx p s m _ c cX12_look 7 wsX12_look RX12 := C
  have hl : lv_has ls 7 [(0, .ref h), (1, .int x1), (2, .int x2)] := hl
  have hin : ∀ w ∈ wsX120, w ∈ wsX12_look := fun w hw => List.mem_cons_of_mem _ (List.mem_append_right _ hw)
  have f39 : (Cond.fieldLink RX12 85 (TX12 39).1 (TX12 39).2.1 (TX12 39).2.2.1).before _ s = true := C.2.2.2.2 _ (List.mem_of_getElem? (i := 5) rfl)
  have f40 : (Cond.fieldLink RX12 88 (TX12 40).1 (TX12 40).2.1 (TX12 40).2.2.1).before _ s = true := C.2.2.2.2 _ (List.mem_of_getElem? (i := 6) rfl)
  have f42 : (Cond.fieldLink RX12 283 (TX12 42).1 (TX12 42).2.1 (TX12 42).2.2.1).before _ s = true := C.2.2.2.2 _ (List.mem_of_getElem? (i := 4) rfl)
  have f43 : (Cond.fieldLink RX12 289 (TX12 43).1 (TX12 43).2.1 (TX12 43).2.2.1).before _ s = true := C.2.2.2.2 _ (List.mem_of_getElem? (i := 1) rfl)
  have f44 : (Cond.fieldLink RX12 292 (TX12 44).1 (TX12 44).2.1 (TX12 44).2.2.1).before _ s = true := C.2.2.2.2 _ (List.mem_of_getElem? (i := 2) rfl)
  have f45 : (Cond.fieldLink RX12 295 (TX12 45).1 (TX12 45).2.1 (TX12 45).2.2.1).before _ s = true := C.2.2.2.2 _ (List.mem_of_getElem? (i := 3) rfl)
  obtain ⟨H, hH⟩ : ∃ H, H = s.heap := ⟨_, rfl⟩
  obtain ⟨locs, hlo⟩ : ∃ z : List Loc, z = [] := ⟨_, rfl⟩
  have hW : GW Ev D (tyM cs) (wM h a cs) A s σ H locs := by rw [hH, hlo]; exact hW
  rw [show W p l e rm_M_look s m _ below meth c s.heap [] = W p l e rm_M_look s m _ below meth c H locs from by rw [hH, hlo]]
  unfold M_look at hX
  refine lv_aload_n C.1 C.2.1 dX12_look_0 rfl (lv_at hl 0 rfl) ?_
  refine lv_iconst (v := 0) C.1 C.2.1 dX12_look_1 (by decide) ?_
  refine M_puti C hin hW 43 rfl f43 dX12_look_2 (fun H locs σ1 eσ1 hW => ?_)
  have hX := nm_st hX eσ1
  refine lv_aload_n C.1 C.2.1 dX12_look_5 rfl (lv_at hl 0 rfl) ?_
  refine lv_sipush (v := 9999) C.1 C.2.1 dX12_look_6 (by decide) ?_
  refine M_puti C hin hW 44 rfl f44 dX12_look_9 (fun H locs σ2 eσ2 hW => ?_)
  have hX := nm_st hX eσ2
  refine lv_aload_n C.1 C.2.1 dX12_look_12 rfl (lv_at hl 0 rfl) ?_
  refine lv_iconst (v := 0) C.1 C.2.1 dX12_look_13 (by decide) ?_
  refine M_puti C hin hW 45 rfl f45 dX12_look_14 (fun H locs σ3 eσ3 hW => ?_)
  have hX := nm_st hX eσ3
  refine lv_iconst (v := 0) C.1 C.2.1 dX12_look_17 (by decide) ?_
  refine lv_istore_n (lv' := [(3, .int 0), (0, .ref h), (1, .int x1), (2, .int x2)]) C.1 C.2.1 dX12_look_18 rfl hl (by decide) rfl (fun ls hl => ?_)
  obtain ⟨q, hq, hX⟩ := bnd_st hX
  refine r_M_look_L19 C 100000 σ3 0 x1 x2 H locs ls q hq.symm hW (lv_sub hl [0, 1, 2, 3] rfl) ?_
  intro σ74 v75 H locs ls hq hW hl
  subst hq
  have hX := nm2_st hX rfl
  exact G_retv C hr hlk hA hW (Option.some.inj hX).symm dX12_look_203
abbrev rm_M_counts : Room := { frames := 1, cells := 0, slots := 0, locals := 21 }
def M_counts (σ : St) (x1 : Int32) (x2 : Int32) : Option (Int32) := bnd (M_isClaim σ x1) (fun v2 => if v2 = 0 then some 0 else chkI x1 60 (if x2 < (σ.1 36 x1.toNatClampNeg) then some 0 else some 1))
set_option maxHeartbeats 4000000 in
set_option maxRecDepth 100000 in
theorem c_M_counts {Ev : EvT} (l : Launch) (D : va_G) (cs : Nat → ClassId) (h : Nat) (a : Nat → Nat) (σ : St) (x1 : Int32) (x2 : Int32) (X : Int32) (hX : some X = M_counts σ x1 x2) : cGi Ev l D (tyM cs) (wM h a cs) yX12_counts wsX12_counts rm_M_counts 0 0 [.ref h, .int x1, .int x2] σ (fun r u => r = X ∧ u = σ) := by
  refine G_ini (cc := cX12_counts) (maxL := 3) (ret := some .boolean) (by decide) rfl (Nat.le_of_ble_eq_true rfl) ?_
  intro p e s m below meth c A ls C hr hlk hini hA hW hl
  have C : Cx p s m _ c cX12_counts 3 wsX12_counts RX12 := C
  have hl : lv_has ls 3 [(0, .ref h), (1, .int x1), (2, .int x2)] := hl
  have hin : ∀ w ∈ wsX120, w ∈ wsX12_counts := fun w hw => List.mem_cons_of_mem _ (List.mem_append_right _ hw)
  have f36 : (Cond.fieldLink RX12 76 (TX12 36).1 (TX12 36).2.1 (TX12 36).2.2.1).before _ s = true := C.2.2.2.2 _ (List.mem_of_getElem? (i := 1) rfl)
  obtain ⟨H, hH⟩ : ∃ H, H = s.heap := ⟨_, rfl⟩
  obtain ⟨locs, hlo⟩ : ∃ z : List Loc, z = [] := ⟨_, rfl⟩
  have hW : GW Ev D (tyM cs) (wM h a cs) A s σ H locs := by rw [hH, hlo]; exact hW
  rw [show W p l e rm_M_counts s m _ below meth c s.heap [] = W p l e rm_M_counts s m _ below meth c H locs from by rw [hH, hlo]]
  unfold M_counts at hX
  refine lv_aload_n C.1 C.2.1 dX12_counts_0 rfl (lv_at hl 0 rfl) ?_
  refine lv_iload_n C.1 C.2.1 dX12_counts_1 rfl (lv_at hl 1 rfl) ?_
  obtain ⟨v2, hq, hX⟩ := bnd_st hX
  refine G_V0p (As := [.int x1]) (rest := []) C hW (c_M_isClaim l D cs h a σ x1 v2 hq.symm) (cwV 1 C.2.2.2.2 gX12_counts_X12_isClaim rfl rfl rfl (by decide +kernel) ⟨Nat.le_of_ble_eq_true rfl, Nat.le_of_ble_eq_true rfl⟩) (M_recv hW) rfl hl.1 rfl (Nat.le_of_ble_eq_true rfl) dX12_counts_2 (fun H locs hW => ?_)
  refine lv_if_eq (tgt := 22) C.1 C.2.1 dX12_counts_5 (by decide) (fun c3 => ?_) (fun c3 => ?_)
  · have hX := br_p hX c3
    refine lv_iconst (v := 0) C.1 C.2.1 dX12_counts_22 (by decide) ?_
    exact G_retz C hr hlk hA hW rfl ⟨(Option.some.inj hX).symm, rfl⟩ dX12_counts_23
  have hX := br_n hX c3
  refine lv_aload_n C.1 C.2.1 dX12_counts_8 rfl (lv_at hl 0 rfl) ?_
  refine M_geta C hin hW 36 rfl (by decide) f36 dX12_counts_9 ?_
  refine lv_iload_n C.1 C.2.1 dX12_counts_12 rfl (lv_at hl 1 rfl) ?_
  obtain ⟨hi, hX⟩ := chkI_st hX
  refine M_ldI C hW 36 rfl hi dX12_counts_13 ?_
  refine lv_iload_n C.1 C.2.1 dX12_counts_14 rfl (lv_at hl 2 rfl) ?_
  refine lv_icmp_gt (tgt := 22) C.1 C.2.1 dX12_counts_15 (by decide) (fun c4 => ?_) (fun c4 => ?_)
  · have hX := br_p hX c4
    refine lv_iconst (v := 0) C.1 C.2.1 dX12_counts_22 (by decide) ?_
    exact G_retz C hr hlk hA hW rfl ⟨(Option.some.inj hX).symm, rfl⟩ dX12_counts_23
  have hX := br_n hX c4
  refine lv_iconst (v := 1) C.1 C.2.1 dX12_counts_18 (by decide) ?_
  refine lv_goto (tgt := 23) C.1 C.2.1 dX12_counts_19 (by decide) ?_
  exact G_retz C hr hlk hA hW rfl ⟨(Option.some.inj hX).symm, rfl⟩ dX12_counts_23
