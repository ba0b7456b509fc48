abbrev rm_M_choose : Room := { frames := 3, cells := 0, slots := 0, locals := 68 }
def M_choose_L4 : Nat → St → Int32 → Int32 → Int32 → Option (Int32 × Int32)
  | 0, _, _, _, _ => none
  | n + 1, σ, x3, x2, x1 => chkI x1 30 (if (σ.1 17 x1.toNatClampNeg) ≤ x3 then some (x3, x2) else chkI ((12 * x1) + x3) 360 (nm (σ.1 16 ((12 * x1) + x3).toNatClampNeg) (fun v11 => chkI x1 30 (if (lg_cmp (((σ.2 18 x1.toNatClampNeg) >>> (v11.toInt64 &&& 63)) &&& 1) 0) = 0 then bnd (M_isBetter σ x1 v11 x2) (fun v15 => if v15 = 0 then nm (x3 + 1) (fun v17 => M_choose_L4 n σ v17 x2 x1) else nm (x3 + 1) (fun v18 => M_choose_L4 n σ v18 v11 x1)) else nm (x3 + 1) (fun v13 => M_choose_L4 n σ v13 x2 x1)))))
set_option maxHeartbeats 4000000 in
set_option maxRecDepth 100000 in
theorem r_M_choose_L4 {p : Program} {l : Launch} {e : Env} {s : State} {m : MethodId} {args : Array Value} {below : List Frame} {meth : Method} {c : Code} {Q : State → Prop} {Ev : EvT} {D : va_G} {cs : Nat → ClassId} {h : Nat} {a : Nat → Nat} {A : Nat → Prop} (C : Cx p s m args c cX12_choose 5 wsX12_choose RX12) : ∀ (n : Nat) (σ : St) (x3 : Int32) (x2 : Int32) (x1 : Int32) (H : Heap) (locs : List Loc) (ls : Array Slot) (X : Int32 × Int32), some X = M_choose_L4 n σ x3 x2 x1 → GW Ev D (tyM cs) (wM h a cs) A s σ H locs → lv_has ls 5 [(3, .int x3), (2, .int x2), (0, .ref h), (1, .int x1)] → (∀ (z3 : Int32) (z2 : Int32) (H : Heap) (locs : List Loc) (ls : Array Slot), X = (z3, z2) → GW Ev D (tyM cs) (wM h a cs) A s σ H locs → lv_has ls 5 [(3, .int z3), (2, .int z2), (0, .ref h), (1, .int x1)] → W p l e rm_M_choose s m args below meth c H locs 0 0 Q (F0 m 63 ls [])) → W p l e rm_M_choose s m args below meth c H locs 0 0 Q (F0 m 4 ls []) := by
  have hin : ∀ w ∈ wsX120, w ∈ wsX12_choose := fun w hw => List.mem_cons_of_mem _ (List.mem_append_right _ hw)
  have f16 : (Cond.fieldLink RX12 47 (TX12 16).1 (TX12 16).2.1 (TX12 16).2.2.1).before _ s = true := C.2.2.2.2 _ (List.mem_of_getElem? (i := 2) rfl)
  have f17 : (Cond.fieldLink RX12 50 (TX12 17).1 (TX12 17).2.1 (TX12 17).2.2.1).before _ s = true := C.2.2.2.2 _ (List.mem_of_getElem? (i := 1) rfl)
  have f18 : (Cond.fieldLink RX12 53 (TX12 18).1 (TX12 18).2.1 (TX12 18).2.2.1).before _ s = true := C.2.2.2.2 _ (List.mem_of_getElem? (i := 3) rfl)
  intro n
  induction n with
  | zero =>
    intro σ x3 x2 x1 H locs ls X hX hW hl K0
    cases hX
  | succ n ih =>
    intro σ x3 x2 x1 H locs ls X hX hW hl K0
    unfold M_choose_L4 at hX
    refine lv_iload_n C.1 C.2.1 dX12_choose_4 rfl (lv_at hl 0 rfl) ?_
    refine lv_aload_n C.1 C.2.1 dX12_choose_5 rfl (lv_at hl 2 rfl) ?_
    refine M_geta C hin hW 17 rfl (by decide) f17 dX12_choose_6 ?_
    refine lv_iload_n C.1 C.2.1 dX12_choose_9 rfl (lv_at hl 3 rfl) ?_
    obtain ⟨hi, hX⟩ := chkI_st hX
    refine M_ldI C hW 17 rfl hi dX12_choose_10 ?_
    refine lv_icmp_ge (tgt := 63) C.1 C.2.1 dX12_choose_11 (by decide) (fun c10 => ?_) (fun c10 => ?_)
    · have hX := br_p hX c10
      exact K0 x3 x2 H locs ls (Option.some.inj hX) hW (lv_sub hl [0, 1, 2, 3] rfl)
    have hX := br_n hX c10
    refine lv_aload_n C.1 C.2.1 dX12_choose_14 rfl (lv_at hl 2 rfl) ?_
    refine M_geta C hin hW 16 rfl (by decide) f16 dX12_choose_15 ?_
    refine lv_bipush (v := 12) C.1 C.2.1 dX12_choose_18 (by decide) ?_
    refine lv_iload_n C.1 C.2.1 dX12_choose_20 rfl (lv_at hl 3 rfl) ?_
    refine lv_imul C.1 C.2.1 dX12_choose_21 ?_
    refine lv_iload_n C.1 C.2.1 dX12_choose_22 rfl (lv_at hl 0 rfl) ?_
    refine lv_iadd C.1 C.2.1 dX12_choose_23 ?_
    obtain ⟨hi, hX⟩ := chkI_st hX
    refine M_ldI C hW 16 rfl hi dX12_choose_24 ?_
    refine lv_topi (fun v11 ev11 => ?_)
    have hX := nm_st hX ev11
    refine lv_istore (lv' := [(4, .int v11), (3, .int x3), (2, .int x2), (0, .ref h), (1, .int x1)]) C.1 C.2.1 dX12_choose_25 hl (by decide) rfl (fun ls hl => ?_)
    refine lv_aload_n C.1 C.2.1 dX12_choose_27 rfl (lv_at hl 3 rfl) ?_
    refine M_geta C hin hW 18 rfl (by decide) f18 dX12_choose_28 ?_
    refine lv_iload_n C.1 C.2.1 dX12_choose_31 rfl (lv_at hl 4 rfl) ?_
    obtain ⟨hi, hX⟩ := chkI_st hX
    refine M_ldJ C hW 18 rfl hi dX12_choose_32 ?_
    refine lv_iload C.1 C.2.1 dX12_choose_33 (lv_at hl 0 rfl) ?_
    refine lv_lshr C.1 C.2.1 dX12_choose_35 rfl ?_
    refine lv_lconst (v := 1) C.1 C.2.1 dX12_choose_36 (by decide) ?_
    refine lv_land C.1 C.2.1 dX12_choose_37 ?_
    refine lv_lconst (v := 0) C.1 C.2.1 dX12_choose_38 (by decide) ?_
    refine W.lcmp C.1 C.2.1 dX12_choose_39 ?_
    refine lv_if_ne (tgt := 57) C.1 C.2.1 dX12_choose_40 (by decide) (fun c12 => ?_) (fun c12 => ?_)
    · have hX := br_n hX c12
      obtain ⟨v13, ev13⟩ : ∃ z : Int32, z = x3 + 1 := ⟨_, rfl⟩
      have hX := nm_st hX ev13
      refine lv_iinc (v := v13) (lv' := [(3, .int v13), (4, .int v11), (2, .int x2), (0, .ref h), (1, .int x1)]) C.1 C.2.1 dX12_choose_57 hl (k := 1) rfl (by rw [ev13]; rfl) (by decide) rfl (fun ls hl => ?_)
      refine lv_goto (tgt := 4) C.1 C.2.1 dX12_choose_60 (by decide) ?_
      exact ih σ v13 x2 x1 H locs ls X hX hW (lv_sub hl [0, 2, 3, 4] rfl) K0
    have hX := br_p hX c12
    refine lv_aload_n C.1 C.2.1 dX12_choose_43 rfl (lv_at hl 3 rfl) ?_
    refine lv_iload_n C.1 C.2.1 dX12_choose_44 rfl (lv_at hl 4 rfl) ?_
    refine lv_iload C.1 C.2.1 dX12_choose_45 (lv_at hl 0 rfl) ?_
    refine lv_iload_n C.1 C.2.1 dX12_choose_47 rfl (lv_at hl 2 rfl) ?_
    obtain ⟨v15, hq, hX⟩ := bnd_st hX
    refine G_V0p (As := [.int x1, .int v11, .int x2]) (rest := []) C hW (c_M_isBetter l D cs h a σ x1 v11 x2 v15 hq.symm) (cwV 3 C.2.2.2.2 gX12_choose_X12_isBetter rfl rfl rfl (by decide +kernel) ⟨Nat.le_of_ble_eq_true rfl, Nat.le_of_ble_eq_true rfl⟩) (M_recv hW) rfl hl.1 rfl (Nat.le_of_ble_eq_true rfl) dX12_choose_48 (fun H locs hW => ?_)
    refine lv_if_eq (tgt := 57) C.1 C.2.1 dX12_choose_51 (by decide) (fun c16 => ?_) (fun c16 => ?_)
    · have hX := br_p hX c16
      obtain ⟨v17, ev17⟩ : ∃ z : Int32, z = x3 + 1 := ⟨_, rfl⟩
      have hX := nm_st hX ev17
      refine lv_iinc (v := v17) (lv' := [(3, .int v17), (4, .int v11), (2, .int x2), (0, .ref h), (1, .int x1)]) C.1 C.2.1 dX12_choose_57 hl (k := 1) rfl (by rw [ev17]; rfl) (by decide) rfl (fun ls hl => ?_)
      refine lv_goto (tgt := 4) C.1 C.2.1 dX12_choose_60 (by decide) ?_
      exact ih σ v17 x2 x1 H locs ls X hX hW (lv_sub hl [0, 2, 3, 4] rfl) K0
    have hX := br_n hX c16
    refine lv_iload C.1 C.2.1 dX12_choose_54 (lv_at hl 0 rfl) ?_
    refine lv_istore_n (lv' := [(2, .int v11), (4, .int v11), (3, .int x3), (0, .ref h), (1, .int x1)]) C.1 C.2.1 dX12_choose_56 rfl hl (by decide) rfl (fun ls hl => ?_)
    obtain ⟨v18, ev18⟩ : ∃ z : Int32, z = x3 + 1 := ⟨_, rfl⟩
    have hX := nm_st hX ev18
    refine lv_iinc (v := v18) (lv' := [(3, .int v18), (2, .int v11), (4, .int v11), (0, .ref h), (1, .int x1)]) C.1 C.2.1 dX12_choose_57 hl (k := 2) rfl (by rw [ev18]; rfl) (by decide) rfl (fun ls hl => ?_)
    refine lv_goto (tgt := 4) C.1 C.2.1 dX12_choose_60 (by decide) ?_
    exact ih σ v18 v11 x1 H locs ls X hX hW (lv_sub hl [0, 1, 3, 4] rfl) K0
def M_choose_L0 : Nat → St → Int32 → Option (Nat × St)
  | 0, _, _ => none
  | n + 1, σ, x1 => bnd (M_choose_L4 100000 σ 0 (-1) x1) (fun q => nm2 q (fun v28 v29 => chkI x1 30 (nm (s1 σ 12 x1.toNatClampNeg v29) (fun σ30 => if 0 ≤ v29 then chkI x1 30 (if v29 = (σ30.1 8 x1.toNatClampNeg) then chkI v29 64 (if 0 ≤ (σ30.1 7 v29.toNatClampNeg) then chkI x1 30 (chkI x1 30 (nm (s2 σ30 18 x1.toNatClampNeg ((σ30.2 18 x1.toNatClampNeg) ||| (1 <<< (v29.toInt64 &&& 63)))) (fun σ34 => M_choose_L0 n σ34 x1))) else bnd (M_stakes σ30 x1) (fun σ35 => some (2, σ35))) else bnd (M_setOut σ30 x1) (fun σ36 => some (1, σ36))) else some (0, σ30)))))
set_option maxHeartbeats 4000000 in
set_option maxRecDepth 100000 in
theorem r_M_choose_L0 {p : Program} {l : Launch} {e : Env} {s : State} {m : MethodId} {args : Array Value} {below : List Frame} {meth : Method} {c : Code} {Q : State → Prop} {Ev : EvT} {D : va_G} {cs : Nat → ClassId} {h : Nat} {a : Nat → Nat} {A : Nat → Prop} (C : Cx p s m args c cX12_choose 5 wsX12_choose RX12) : ∀ (n : Nat) (σ : St) (x1 : Int32) (H : Heap) (locs : List Loc) (ls : Array Slot) (X : Nat × St), some X = M_choose_L0 n σ x1 → GW Ev D (tyM cs) (wM h a cs) A s σ H locs → lv_has ls 5 [(0, .ref h), (1, .int x1)] → (∀ (τ : St) (H : Heap) (locs : List Loc) (ls : Array Slot), X = (0, τ) → GW Ev D (tyM cs) (wM h a cs) A s τ H locs → lv_has ls 5 [(0, .ref h), (1, .int x1)] → W p l e rm_M_choose s m args below meth c H locs 0 0 Q (F0 m 74 ls [])) → (∀ (τ : St) (H : Heap) (locs : List Loc) (ls : Array Slot), X = (1, τ) → GW Ev D (tyM cs) (wM h a cs) A s τ H locs → lv_has ls 5 [(0, .ref h), (1, .int x1)] → W p l e rm_M_choose s m args below meth c H locs 0 0 Q (F0 m 90 ls [])) → (∀ (τ : St) (H : Heap) (locs : List Loc) (ls : Array Slot), X = (2, τ) → GW Ev D (tyM cs) (wM h a cs) A s τ H locs → lv_has ls 5 [(0, .ref h), (1, .int x1)] → W p l e rm_M_choose s m args below meth c H locs 0 0 Q (F0 m 105 ls [])) → W p l e rm_M_choose s m args below meth c H locs 0 0 Q (F0 m 0 ls []) := by
  have hin : ∀ w ∈ wsX120, w ∈ wsX12_choose := fun w hw => List.mem_cons_of_mem _ (List.mem_append_right _ hw)
  have f7 : (Cond.fieldLink RX12 20 (TX12 7).1 (TX12 7).2.1 (TX12 7).2.2.1).before _ s = true := C.2.2.2.2 _ (List.mem_of_getElem? (i := 6) rfl)
  have f8 : (Cond.fieldLink RX12 23 (TX12 8).1 (TX12 8).2.1 (TX12 8).2.2.1).before _ s = true := C.2.2.2.2 _ (List.mem_of_getElem? (i := 5) rfl)
  have f12 : (Cond.fieldLink RX12 35 (TX12 12).1 (TX12 12).2.1 (TX12 12).2.2.1).before _ s = true := C.2.2.2.2 _ (List.mem_of_getElem? (i := 4) rfl)
  have f16 : (Cond.fieldLink RX12 47 (TX12 16).1 (TX12 16).2.1 (TX12 16).2.2.1).before _ s = true := C.2.2.2.2 _ (List.mem_of_getElem? (i := 2) rfl)
  have f17 : (Cond.fieldLink RX12 50 (TX12 17).1 (TX12 17).2.1 (TX12 17).2.2.1).before _ s = true := C.2.2.2.2 _ (List.mem_of_getElem? (i := 1) rfl)
  have f18 : (Cond.fieldLink RX12 53 (TX12 18).1 (TX12 18).2.1 (TX12 18).2.2.1).before _ s = true := C.2.2.2.2 _ (List.mem_of_getElem? (i := 3) rfl)
  intro n
  induction n with
  | zero =>
    intro σ x1 H locs ls X hX hW hl K0 K1 K2
    cases hX
  | succ n ih =>
    intro σ x1 H locs ls X hX hW hl K0 K1 K2
    unfold M_choose_L0 at hX
    refine lv_iconst (v := -1) C.1 C.2.1 dX12_choose_0 (by decide) ?_
    refine lv_istore_n (lv' := [(2, .int (-1)), (0, .ref h), (1, .int x1)]) C.1 C.2.1 dX12_choose_1 rfl hl (by decide) rfl (fun ls hl => ?_)
    refine lv_iconst (v := 0) C.1 C.2.1 dX12_choose_2 (by decide) ?_
    refine lv_istore_n (lv' := [(3, .int 0), (2, .int (-1)), (0, .ref h), (1, .int x1)]) C.1 C.2.1 dX12_choose_3 rfl hl (by decide) rfl (fun ls hl => ?_)
    obtain ⟨q, hq, hX⟩ := bnd_st hX
    refine r_M_choose_L4 C 100000 σ 0 (-1) x1 H locs ls q hq.symm hW (lv_sub hl [0, 1, 2, 3] rfl) ?_
    intro v28 v29 H locs ls hq hW hl
    subst hq
    have hX := nm2_st hX rfl
    refine lv_aload_n C.1 C.2.1 dX12_choose_63 rfl (lv_at hl 2 rfl) ?_
    refine M_geta C hin hW 12 rfl (by decide) f12 dX12_choose_64 ?_
    refine lv_iload_n C.1 C.2.1 dX12_choose_67 rfl (lv_at hl 3 rfl) ?_
    refine lv_iload_n C.1 C.2.1 dX12_choose_68 rfl (lv_at hl 1 rfl) ?_
    obtain ⟨hi, hX⟩ := chkI_st hX
    refine M_stI C hW 12 rfl hi dX12_choose_69 (fun H locs σ30 eσ30 hW => ?_)
    have hX := nm_st hX eσ30
    refine lv_iload_n C.1 C.2.1 dX12_choose_70 rfl (lv_at hl 1 rfl) ?_
    refine lv_if_ge (tgt := 75) C.1 C.2.1 dX12_choose_71 (by decide) (fun c31 => ?_) (fun c31 => ?_)
    · have hX := br_p hX c31
      refine lv_iload_n C.1 C.2.1 dX12_choose_75 rfl (lv_at hl 1 rfl) ?_
      refine lv_aload_n C.1 C.2.1 dX12_choose_76 rfl (lv_at hl 2 rfl) ?_
      refine M_geta C hin hW 8 rfl (by decide) f8 dX12_choose_77 ?_
      refine lv_iload_n C.1 C.2.1 dX12_choose_80 rfl (lv_at hl 3 rfl) ?_
      obtain ⟨hi, hX⟩ := chkI_st hX
      refine M_ldI C hW 8 rfl hi dX12_choose_81 ?_
      refine lv_icmp_eq (tgt := 91) C.1 C.2.1 dX12_choose_82 (by decide) (fun c32 => ?_) (fun c32 => ?_)
      · have hX := br_p hX c32
        refine lv_aload_n C.1 C.2.1 dX12_choose_91 rfl (lv_at hl 2 rfl) ?_
        refine M_geta C hin hW 7 rfl (by decide) f7 dX12_choose_92 ?_
        refine lv_iload_n C.1 C.2.1 dX12_choose_95 rfl (lv_at hl 1 rfl) ?_
        obtain ⟨hi, hX⟩ := chkI_st hX
        refine M_ldI C hW 7 rfl hi dX12_choose_96 ?_
        refine lv_if_ge (tgt := 106) C.1 C.2.1 dX12_choose_97 (by decide) (fun c33 => ?_) (fun c33 => ?_)
        · have hX := br_p hX c33
          refine lv_aload_n C.1 C.2.1 dX12_choose_106 rfl (lv_at hl 2 rfl) ?_
          refine M_geta C hin hW 18 rfl (by decide) f18 dX12_choose_107 ?_
          refine lv_iload_n C.1 C.2.1 dX12_choose_110 rfl (lv_at hl 3 rfl) ?_
          refine lv_aload_n C.1 C.2.1 dX12_choose_111 rfl (lv_at hl 2 rfl) ?_
          refine M_geta C hin hW 18 rfl (by decide) f18 dX12_choose_112 ?_
          refine lv_iload_n C.1 C.2.1 dX12_choose_115 rfl (lv_at hl 3 rfl) ?_
          obtain ⟨hi, hX⟩ := chkI_st hX
          refine M_ldJ C hW 18 rfl hi dX12_choose_116 ?_
          refine lv_lconst (v := 1) C.1 C.2.1 dX12_choose_117 (by decide) ?_
          refine lv_iload_n C.1 C.2.1 dX12_choose_118 rfl (lv_at hl 1 rfl) ?_
          refine lv_lshl C.1 C.2.1 dX12_choose_119 rfl ?_
          refine lv_lor C.1 C.2.1 dX12_choose_120 ?_
          obtain ⟨hi, hX⟩ := chkI_st hX
          refine M_stJ C hW 18 rfl hi dX12_choose_121 (fun H locs σ34 eσ34 hW => ?_)
          have hX := nm_st hX eσ34
          refine lv_goto (tgt := 0) C.1 C.2.1 dX12_choose_122 (by decide) ?_
          exact ih σ34 x1 H locs ls X hX hW (lv_sub hl [2, 3] rfl) K0 K1 K2
        have hX := br_n hX c33
        refine lv_aload_n C.1 C.2.1 dX12_choose_100 rfl (lv_at hl 2 rfl) ?_
        refine lv_iload_n C.1 C.2.1 dX12_choose_101 rfl (lv_at hl 3 rfl) ?_
        obtain ⟨σ35, hq, hX⟩ := bnd_st hX
        refine G_V0u (As := [.int x1]) (rest := []) C hW (c_M_stakes l D cs h a σ30 x1 σ35 hq.symm) (cwV 1 C.2.2.2.2 gX12_choose_X12_stakes rfl rfl rfl (by decide +kernel) ⟨Nat.le_of_ble_eq_true rfl, Nat.le_of_ble_eq_true rfl⟩) (M_recv hW) rfl hl.1 rfl (Nat.le_of_ble_eq_true rfl) dX12_choose_102 (fun H locs hW => ?_)
        exact K2 σ35 H locs ls (Option.some.inj hX) hW (lv_sub hl [2, 3] rfl)
      have hX := br_n hX c32
      refine lv_aload_n C.1 C.2.1 dX12_choose_85 rfl (lv_at hl 2 rfl) ?_
      refine lv_iload_n C.1 C.2.1 dX12_choose_86 rfl (lv_at hl 3 rfl) ?_
      obtain ⟨σ36, hq, hX⟩ := bnd_st hX
      refine G_V0u (As := [.int x1]) (rest := []) C hW (c_M_setOut l D cs h a σ30 x1 σ36 hq.symm) (cwV 1 C.2.2.2.2 gX12_choose_X12_setOut rfl rfl rfl (by decide +kernel) ⟨Nat.le_of_ble_eq_true rfl, Nat.le_of_ble_eq_true rfl⟩) (M_recv hW) rfl hl.1 rfl (Nat.le_of_ble_eq_true rfl) dX12_choose_87 (fun H locs hW => ?_)
      exact K1 σ36 H locs ls (Option.some.inj hX) hW (lv_sub hl [2, 3] rfl)
    have hX := br_n hX c31
    exact K0 σ30 H locs ls (Option.some.inj hX) hW (lv_sub hl [2, 3] rfl)
def M_choose (σ : St) (x1 : Int32) : Option (St) := bnd (M_choose_L0 100000 σ x1) (fun q => nm2 q (fun j σ37 => if j = 0 then some σ37 else if j = 1 then some σ37 else if j = 2 then some σ37 else none))
set_option maxHeartbeats 4000000 in
set_option maxRecDepth 100000 in
theorem c_M_choose {Ev : EvT} (l : Launch) (D : va_G) (cs : Nat → ClassId) (h : Nat) (a : Nat → Nat) (σ : St) (x1 : Int32) (X : St) (hX : some X = M_choose σ x1) : cGv Ev l D (tyM cs) (wM h a cs) yX12_choose wsX12_choose rm_M_choose 0 0 [.ref h, .int x1] σ (fun u => u = X) := by
  refine G_inv (cc := cX12_choose) (maxL := 5) (ret := none) (by decide) rfl (Nat.le_of_ble_eq_true rfl) ?_
  intro p e s m below meth c A ls C hr hlk hini hA hW hl
  have C : Cx p s m _ c cX12_choose 5 wsX12_choose RX12 := C
  have hl : lv_has ls 5 [(0, .ref h), (1, .int x1)] := hl
  have hin : ∀ w ∈ wsX120, w ∈ wsX12_choose := fun w hw => List.mem_cons_of_mem _ (List.mem_append_right _ hw)
  have f7 : (Cond.fieldLink RX12 20 (TX12 7).1 (TX12 7).2.1 (TX12 7).2.2.1).before _ s = true := C.2.2.2.2 _ (List.mem_of_getElem? (i := 6) rfl)
  have f8 : (Cond.fieldLink RX12 23 (TX12 8).1 (TX12 8).2.1 (TX12 8).2.2.1).before _ s = true := C.2.2.2.2 _ (List.mem_of_getElem? (i := 5) rfl)
  have f12 : (Cond.fieldLink RX12 35 (TX12 12).1 (TX12 12).2.1 (TX12 12).2.2.1).before _ s = true := C.2.2.2.2 _ (List.mem_of_getElem? (i := 4) rfl)
  have f16 : (Cond.fieldLink RX12 47 (TX12 16).1 (TX12 16).2.1 (TX12 16).2.2.1).before _ s = true := C.2.2.2.2 _ (List.mem_of_getElem? (i := 2) rfl)
  have f17 : (Cond.fieldLink RX12 50 (TX12 17).1 (TX12 17).2.1 (TX12 17).2.2.1).before _ s = true := C.2.2.2.2 _ (List.mem_of_getElem? (i := 1) rfl)
  have f18 : (Cond.fieldLink RX12 53 (TX12 18).1 (TX12 18).2.1 (TX12 18).2.2.1).before _ s = true := C.2.2.2.2 _ (List.mem_of_getElem? (i := 3) rfl)
  obtain ⟨H, hH⟩ : ∃ H, H = s.heap := ⟨_, rfl⟩
  obtain ⟨locs, hlo⟩ : ∃ z : List Loc, z = [] := ⟨_, rfl⟩
  have hW : GW Ev D (tyM cs) (wM h a cs) A s σ H locs := by rw [hH, hlo]; exact hW
  rw [show W p l e rm_M_choose s m _ below meth c s.heap [] = W p l e rm_M_choose s m _ below meth c H locs from by rw [hH, hlo]]
  unfold M_choose at hX
  obtain ⟨q, hq, hX⟩ := bnd_st hX
  refine r_M_choose_L0 C 100000 σ x1 H locs ls q hq.symm hW (lv_sub hl [0, 1] rfl) ?_ ?_ ?_
  · intro σ37 H locs ls hq hW hl
    subst hq
    have hX := nm2_st hX rfl
    have hX := br_p hX rfl
    exact G_retv C hr hlk hA hW (Option.some.inj hX).symm dX12_choose_74
  · intro σ38 H locs ls hq hW hl
    subst hq
    have hX := nm2_st hX rfl
    have hX := br_n hX (by decide)
    have hX := br_p hX rfl
    exact G_retv C hr hlk hA hW (Option.some.inj hX).symm dX12_choose_90
  intro σ39 H locs ls hq hW hl
  subst hq
  have hX := nm2_st hX rfl
  have hX := br_n hX (by decide)
  have hX := br_n hX (by decide)
  have hX := br_p hX rfl
  exact G_retv C hr hlk hA hW (Option.some.inj hX).symm dX12_choose_105
abbrev rm_M_comes : Room := { frames := 4, cells := 0, slots := 0, locals := 92 }
def M_comes (σ : St) (x1 : Int32) : Option (St) := bnd (M_nextOf σ x1) (fun v2 => chkI x1 30 (nm (s1 σ 8 x1.toNatClampNeg v2) (fun σ3 => chkI x1 30 (chkI x1 30 (nm (s1 σ3 9 x1.toNatClampNeg ((σ3.1 8 x1.toNatClampNeg) / 8)) (fun σ4 => chkI x1 30 (chkI (σ4.1 8 x1.toNatClampNeg) 64 (if (σ4.1 7 (σ4.1 8 x1.toNatClampNeg).toNatClampNeg) < 0 then chkI x1 30 (chkI x1 30 (if (σ4.1 8 x1.toNatClampNeg) = (σ4.1 12 x1.toNatClampNeg) then chkI x1 30 (chkI (σ4.1 8 x1.toNatClampNeg) 64 (if 0 ≤ (σ4.1 7 (σ4.1 8 x1.toNatClampNeg).toNatClampNeg) then bnd (M_choose σ4 x1) (fun σ8 => some σ8) else bnd (M_stakes σ4 x1) (fun σ9 => some σ9))) else bnd (M_setOut σ4 x1) (fun σ10 => some σ10))) else chkI x1 30 (chkI x1 30 (chkI x1 30 (nm (s2 σ4 18 x1.toNatClampNeg ((σ4.2 18 x1.toNatClampNeg) ||| (1 <<< ((σ4.1 8 x1.toNatClampNeg).toInt64 &&& 63)))) (fun σ11 => chkI x1 30 (chkI x1 30 (if (σ11.1 8 x1.toNatClampNeg) = (σ11.1 12 x1.toNatClampNeg) then chkI x1 30 (chkI (σ11.1 8 x1.toNatClampNeg) 64 (if 0 ≤ (σ11.1 7 (σ11.1 8 x1.toNatClampNeg).toNatClampNeg) then bnd (M_choose σ11 x1) (fun σ14 => some σ14) else bnd (M_stakes σ11 x1) (fun σ15 => some σ15))) else bnd (M_setOut σ11 x1) (fun σ16 => some σ16)))))))))))))))
set_option maxHeartbeats 4000000 in
set_option maxRecDepth 100000 in
theorem c_M_comes {Ev : EvT} (l : Launch) (D : va_G) (cs : Nat → ClassId) (h : Nat) (a : Nat → Nat) (σ : St) (x1 : Int32) (X : St) (hX : some X = M_comes σ x1) : cGv Ev l D (tyM cs) (wM h a cs) yX12_comes wsX12_comes rm_M_comes 0 0 [.ref h, .int x1] σ (fun u => u = X) := by
  refine G_inv (cc := cX12_comes) (maxL := 2) (ret := none) (by decide) rfl (Nat.le_of_ble_eq_true rfl) ?_
  intro p e s m below meth c A ls C hr hlk hini hA hW hl
  have C : Cx p s m _ c cX12_comes 2 wsX12_comes RX12 := C
  have hl : lv_has ls 2 [(0, .ref h), (1, .int x1)] := hl
  have hin : ∀ w ∈ wsX120, w ∈ wsX12_comes := fun w hw => List.mem_cons_of_mem _ (List.mem_append_right _ hw)
  have f7 : (Cond.fieldLink RX12 20 (TX12 7).1 (TX12 7).2.1 (TX12 7).2.2.1).before _ s = true := C.2.2.2.2 _ (List.mem_of_getElem? (i := 3) rfl)
  have f8 : (Cond.fieldLink RX12 23 (TX12 8).1 (TX12 8).2.1 (TX12 8).2.2.1).before _ s = true := C.2.2.2.2 _ (List.mem_of_getElem? (i := 1) rfl)
  have f9 : (Cond.fieldLink RX12 26 (TX12 9).1 (TX12 9).2.1 (TX12 9).2.2.1).before _ s = true := C.2.2.2.2 _ (List.mem_of_getElem? (i := 2) rfl)
  have f12 : (Cond.fieldLink RX12 35 (TX12 12).1 (TX12 12).2.1 (TX12 12).2.2.1).before _ s = true := C.2.2.2.2 _ (List.mem_of_getElem? (i := 5) rfl)
  have f18 : (Cond.fieldLink RX12 53 (TX12 18).1 (TX12 18).2.1 (TX12 18).2.2.1).before _ s = true := C.2.2.2.2 _ (List.mem_of_getElem? (i := 4) rfl)
  obtain ⟨H, hH⟩ : ∃ H, H = s.heap := ⟨_, rfl⟩
  obtain ⟨locs, hlo⟩ : ∃ z : List Loc, z = [] := ⟨_, rfl⟩
  have hW : GW Ev D (tyM cs) (wM h a cs) A s σ H locs := by rw [hH, hlo]; exact hW
  rw [show W p l e rm_M_comes s m _ below meth c s.heap [] = W p l e rm_M_comes s m _ below meth c H locs from by rw [hH, hlo]]
  unfold M_comes at hX
  refine lv_aload_n C.1 C.2.1 dX12_comes_0 rfl (lv_at hl 0 rfl) ?_
  refine M_geta C hin hW 8 rfl (by decide) f8 dX12_comes_1 ?_
  refine lv_iload_n C.1 C.2.1 dX12_comes_4 rfl (lv_at hl 1 rfl) ?_
  refine lv_aload_n C.1 C.2.1 dX12_comes_5 rfl (lv_at hl 0 rfl) ?_
  refine lv_iload_n C.1 C.2.1 dX12_comes_6 rfl (lv_at hl 1 rfl) ?_
  obtain ⟨v2, hq, hX⟩ := bnd_st hX
  refine G_V0p (As := [.int x1]) (rest := [.int x1, .ref ((a 8))]) C hW (c_M_nextOf l D cs h a σ x1 v2 hq.symm) (cwV 1 C.2.2.2.2 gX12_comes_X12_nextOf rfl rfl rfl (by decide +kernel) ⟨Nat.le_of_ble_eq_true rfl, Nat.le_of_ble_eq_true rfl⟩) (M_recv hW) rfl hl.1 rfl (Nat.le_of_ble_eq_true rfl) dX12_comes_7 (fun H locs hW => ?_)
  obtain ⟨hi, hX⟩ := chkI_st hX
  refine M_stI C hW 8 rfl hi dX12_comes_10 (fun H locs σ3 eσ3 hW => ?_)
  have hX := nm_st hX eσ3
  refine lv_aload_n C.1 C.2.1 dX12_comes_11 rfl (lv_at hl 0 rfl) ?_
  refine M_geta C hin hW 9 rfl (by decide) f9 dX12_comes_12 ?_
  refine lv_iload_n C.1 C.2.1 dX12_comes_15 rfl (lv_at hl 1 rfl) ?_
  refine lv_aload_n C.1 C.2.1 dX12_comes_16 rfl (lv_at hl 0 rfl) ?_
  refine M_geta C hin hW 8 rfl (by decide) f8 dX12_comes_17 ?_
  refine lv_iload_n C.1 C.2.1 dX12_comes_20 rfl (lv_at hl 1 rfl) ?_
  obtain ⟨hi, hX⟩ := chkI_st hX
  refine M_ldI C hW 8 rfl hi dX12_comes_21 ?_
  refine lv_bipush (v := 8) C.1 C.2.1 dX12_comes_22 (by decide) ?_
  refine lv_idiv C.1 C.2.1 dX12_comes_24 (by decide) ?_
  obtain ⟨hi, hX⟩ := chkI_st hX
  refine M_stI C hW 9 rfl hi dX12_comes_25 (fun H locs σ4 eσ4 hW => ?_)
  have hX := nm_st hX eσ4
  refine lv_aload_n C.1 C.2.1 dX12_comes_26 rfl (lv_at hl 0 rfl) ?_
  refine M_geta C hin hW 7 rfl (by decide) f7 dX12_comes_27 ?_
  refine lv_aload_n C.1 C.2.1 dX12_comes_30 rfl (lv_at hl 0 rfl) ?_
  refine M_geta C hin hW 8 rfl (by decide) f8 dX12_comes_31 ?_
  refine lv_iload_n C.1 C.2.1 dX12_comes_34 rfl (lv_at hl 1 rfl) ?_
  obtain ⟨hi, hX⟩ := chkI_st hX
  refine M_ldI C hW 8 rfl hi dX12_comes_35 ?_
  obtain ⟨hi, hX⟩ := chkI_st hX
  refine M_ldI C hW 7 rfl hi dX12_comes_36 ?_
  refine lv_if_lt (tgt := 61) C.1 C.2.1 dX12_comes_37 (by decide) (fun c5 => ?_) (fun c5 => ?_)
  · have hX := br_p hX c5
    refine lv_aload_n C.1 C.2.1 dX12_comes_61 rfl (lv_at hl 0 rfl) ?_
    refine M_geta C hin hW 8 rfl (by decide) f8 dX12_comes_62 ?_
    refine lv_iload_n C.1 C.2.1 dX12_comes_65 rfl (lv_at hl 1 rfl) ?_
    obtain ⟨hi, hX⟩ := chkI_st hX
    refine M_ldI C hW 8 rfl hi dX12_comes_66 ?_
    refine lv_aload_n C.1 C.2.1 dX12_comes_67 rfl (lv_at hl 0 rfl) ?_
    refine M_geta C hin hW 12 rfl (by decide) f12 dX12_comes_68 ?_
    refine lv_iload_n C.1 C.2.1 dX12_comes_71 rfl (lv_at hl 1 rfl) ?_
    obtain ⟨hi, hX⟩ := chkI_st hX
    refine M_ldI C hW 12 rfl hi dX12_comes_72 ?_
    refine lv_icmp_eq (tgt := 84) C.1 C.2.1 dX12_comes_73 (by decide) (fun c6 => ?_) (fun c6 => ?_)
    · have hX := br_p hX c6
      refine lv_aload_n C.1 C.2.1 dX12_comes_84 rfl (lv_at hl 0 rfl) ?_
      refine M_geta C hin hW 7 rfl (by decide) f7 dX12_comes_85 ?_
      refine lv_aload_n C.1 C.2.1 dX12_comes_88 rfl (lv_at hl 0 rfl) ?_
      refine M_geta C hin hW 8 rfl (by decide) f8 dX12_comes_89 ?_
      refine lv_iload_n C.1 C.2.1 dX12_comes_92 rfl (lv_at hl 1 rfl) ?_
      obtain ⟨hi, hX⟩ := chkI_st hX
      refine M_ldI C hW 8 rfl hi dX12_comes_93 ?_
      obtain ⟨hi, hX⟩ := chkI_st hX
      refine M_ldI C hW 7 rfl hi dX12_comes_94 ?_
      refine lv_if_ge (tgt := 106) C.1 C.2.1 dX12_comes_95 (by decide) (fun c7 => ?_) (fun c7 => ?_)
      · have hX := br_p hX c7
        refine lv_aload_n C.1 C.2.1 dX12_comes_106 rfl (lv_at hl 0 rfl) ?_
        refine lv_iload_n C.1 C.2.1 dX12_comes_107 rfl (lv_at hl 1 rfl) ?_
        obtain ⟨σ8, hq, hX⟩ := bnd_st hX
        refine G_V0u (As := [.int x1]) (rest := []) C hW (c_M_choose l D cs h a σ4 x1 σ8 hq.symm) (cwV 1 C.2.2.2.2 gX12_comes_X12_choose rfl rfl rfl (by decide +kernel) ⟨Nat.le_of_ble_eq_true rfl, Nat.le_of_ble_eq_true rfl⟩) (M_recv hW) rfl hl.1 rfl (Nat.le_of_ble_eq_true rfl) dX12_comes_108 (fun H locs hW => ?_)
        exact G_retv C hr hlk hA hW (Option.some.inj hX).symm dX12_comes_111
      have hX := br_n hX c7
      refine lv_aload_n C.1 C.2.1 dX12_comes_98 rfl (lv_at hl 0 rfl) ?_
      refine lv_iload_n C.1 C.2.1 dX12_comes_99 rfl (lv_at hl 1 rfl) ?_
      obtain ⟨σ9, hq, hX⟩ := bnd_st hX
      refine G_V0u (As := [.int x1]) (rest := []) C hW (c_M_stakes l D cs h a σ4 x1 σ9 hq.symm) (cwV 1 C.2.2.2.2 gX12_comes_X12_stakes rfl rfl rfl (by decide +kernel) ⟨Nat.le_of_ble_eq_true rfl, Nat.le_of_ble_eq_true rfl⟩) (M_recv hW) rfl hl.1 rfl (Nat.le_of_ble_eq_true rfl) dX12_comes_100 (fun H locs hW => ?_)
      refine lv_goto (tgt := 111) C.1 C.2.1 dX12_comes_103 (by decide) ?_
      exact G_retv C hr hlk hA hW (Option.some.inj hX).symm dX12_comes_111
    have hX := br_n hX c6
    refine lv_aload_n C.1 C.2.1 dX12_comes_76 rfl (lv_at hl 0 rfl) ?_
    refine lv_iload_n C.1 C.2.1 dX12_comes_77 rfl (lv_at hl 1 rfl) ?_
    obtain ⟨σ10, hq, hX⟩ := bnd_st hX
    refine G_V0u (As := [.int x1]) (rest := []) C hW (c_M_setOut l D cs h a σ4 x1 σ10 hq.symm) (cwV 1 C.2.2.2.2 gX12_comes_X12_setOut rfl rfl rfl (by decide +kernel) ⟨Nat.le_of_ble_eq_true rfl, Nat.le_of_ble_eq_true rfl⟩) (M_recv hW) rfl hl.1 rfl (Nat.le_of_ble_eq_true rfl) dX12_comes_78 (fun H locs hW => ?_)
    refine lv_goto (tgt := 111) C.1 C.2.1 dX12_comes_81 (by decide) ?_
    exact G_retv C hr hlk hA hW (Option.some.inj hX).symm dX12_comes_111
  have hX := br_n hX c5
  refine lv_aload_n C.1 C.2.1 dX12_comes_40 rfl (lv_at hl 0 rfl) ?_
  refine M_geta C hin hW 18 rfl (by decide) f18 dX12_comes_41 ?_
  refine lv_iload_n C.1 C.2.1 dX12_comes_44 rfl (lv_at hl 1 rfl) ?_
  refine lv_aload_n C.1 C.2.1 dX12_comes_45 rfl (lv_at hl 0 rfl) ?_
  refine M_geta C hin hW 18 rfl (by decide) f18 dX12_comes_46 ?_
  refine lv_iload_n C.1 C.2.1 dX12_comes_49 rfl (lv_at hl 1 rfl) ?_
  obtain ⟨hi, hX⟩ := chkI_st hX
  refine M_ldJ C hW 18 rfl hi dX12_comes_50 ?_
  refine lv_lconst (v := 1) C.1 C.2.1 dX12_comes_51 (by decide) ?_
  refine lv_aload_n C.1 C.2.1 dX12_comes_52 rfl (lv_at hl 0 rfl) ?_
  refine M_geta C hin hW 8 rfl (by decide) f8 dX12_comes_53 ?_
  refine lv_iload_n C.1 C.2.1 dX12_comes_56 rfl (lv_at hl 1 rfl) ?_
  obtain ⟨hi, hX⟩ := chkI_st hX
  refine M_ldI C hW 8 rfl hi dX12_comes_57 ?_
  refine lv_lshl C.1 C.2.1 dX12_comes_58 rfl ?_
  refine lv_lor C.1 C.2.1 dX12_comes_59 ?_
  obtain ⟨hi, hX⟩ := chkI_st hX
  refine M_stJ C hW 18 rfl hi dX12_comes_60 (fun H locs σ11 eσ11 hW => ?_)
  have hX := nm_st hX eσ11
  refine lv_aload_n C.1 C.2.1 dX12_comes_61 rfl (lv_at hl 0 rfl) ?_
  refine M_geta C hin hW 8 rfl (by decide) f8 dX12_comes_62 ?_
  refine lv_iload_n C.1 C.2.1 dX12_comes_65 rfl (lv_at hl 1 rfl) ?_
  obtain ⟨hi, hX⟩ := chkI_st hX
  refine M_ldI C hW 8 rfl hi dX12_comes_66 ?_
  refine lv_aload_n C.1 C.2.1 dX12_comes_67 rfl (lv_at hl 0 rfl) ?_
  refine M_geta C hin hW 12 rfl (by decide) f12 dX12_comes_68 ?_
  refine lv_iload_n C.1 C.2.1 dX12_comes_71 rfl (lv_at hl 1 rfl) ?_
  obtain ⟨hi, hX⟩ := chkI_st hX
  refine M_ldI C hW 12 rfl hi dX12_comes_72 ?_
  refine lv_icmp_eq (tgt := 84) C.1 C.2.1 dX12_comes_73 (by decide) (fun c12 => ?_) (fun c12 => ?_)
  · have hX := br_p hX c12
    refine lv_aload_n C.1 C.2.1 dX12_comes_84 rfl (lv_at hl 0 rfl) ?_
    refine M_geta C hin hW 7 rfl (by decide) f7 dX12_comes_85 ?_
    refine lv_aload_n C.1 C.2.1 dX12_comes_88 rfl (lv_at hl 0 rfl) ?_
    refine M_geta C hin hW 8 rfl (by decide) f8 dX12_comes_89 ?_
    refine lv_iload_n C.1 C.2.1 dX12_comes_92 rfl (lv_at hl 1 rfl) ?_
    obtain ⟨hi, hX⟩ := chkI_st hX
    refine M_ldI C hW 8 rfl hi dX12_comes_93 ?_
    obtain ⟨hi, hX⟩ := chkI_st hX
    refine M_ldI C hW 7 rfl hi dX12_comes_94 ?_
    refine lv_if_ge (tgt := 106) C.1 C.2.1 dX12_comes_95 (by decide) (fun c13 => ?_) (fun c13 => ?_)
    · have hX := br_p hX c13
      refine lv_aload_n C.1 C.2.1 dX12_comes_106 rfl (lv_at hl 0 rfl) ?_
      refine lv_iload_n C.1 C.2.1 dX12_comes_107 rfl (lv_at hl 1 rfl) ?_
      obtain ⟨σ14, hq, hX⟩ := bnd_st hX
      refine G_V0u (As := [.int x1]) (rest := []) C hW (c_M_choose l D cs h a σ11 x1 σ14 hq.symm) (cwV 1 C.2.2.2.2 gX12_comes_X12_choose rfl rfl rfl (by decide +kernel) ⟨Nat.le_of_ble_eq_true rfl, Nat.le_of_ble_eq_true rfl⟩) (M_recv hW) rfl hl.1 rfl (Nat.le_of_ble_eq_true rfl) dX12_comes_108 (fun H locs hW => ?_)
      exact G_retv C hr hlk hA hW (Option.some.inj hX).symm dX12_comes_111
    have hX := br_n hX c13
    refine lv_aload_n C.1 C.2.1 dX12_comes_98 rfl (lv_at hl 0 rfl) ?_
    refine lv_iload_n C.1 C.2.1 dX12_comes_99 rfl (lv_at hl 1 rfl) ?_
    obtain ⟨σ15, hq, hX⟩ := bnd_st hX
    refine G_V0u (As := [.int x1]) (rest := []) C hW (c_M_stakes l D cs h a σ11 x1 σ15 hq.symm) (cwV 1 C.2.2.2.2 gX12_comes_X12_stakes rfl rfl rfl (by decide +kernel) ⟨Nat.le_of_ble_eq_true rfl, Nat.le_of_ble_eq_true rfl⟩) (M_recv hW) rfl hl.1 rfl (Nat.le_of_ble_eq_true rfl) dX12_comes_100 (fun H locs hW => ?_)
    refine lv_goto (tgt := 111) C.1 C.2.1 dX12_comes_103 (by decide) ?_
    exact G_retv C hr hlk hA hW (Option.some.inj hX).symm dX12_comes_111
  have hX := br_n hX c12
  refine lv_aload_n C.1 C.2.1 dX12_comes_76 rfl (lv_at hl 0 rfl) ?_
  refine lv_iload_n C.1 C.2.1 dX12_comes_77 rfl (lv_at hl 1 rfl) ?_
  obtain ⟨σ16, hq, hX⟩ := bnd_st hX
  refine G_V0u (As := [.int x1]) (rest := []) C hW (c_M_setOut l D cs h a σ11 x1 σ16 hq.symm) (cwV 1 C.2.2.2.2 gX12_comes_X12_setOut rfl rfl rfl (by decide +kernel) ⟨Nat.le_of_ble_eq_true rfl, Nat.le_of_ble_eq_true rfl⟩) (M_recv hW) rfl hl.1 rfl (Nat.le_of_ble_eq_true rfl) dX12_comes_78 (fun H locs hW => ?_)
  refine lv_goto (tgt := 111) C.1 C.2.1 dX12_comes_81 (by decide) ?_
  exact G_retv C hr hlk hA hW (Option.some.inj hX).symm dX12_comes_111
abbrev rm_M_run : Room := { frames := 5, cells := 0, slots := 0, locals := 113 }
def M_run_L102 : Nat → St → Int32 → Int32 → Int32 → Option (St × Int32)
  | 0, _, _, _, _ => none
  | n + 1, σ, x3, x2, x1 => if (σ.1 20 0) ≤ x3 then some (σ, x3) else chkI x3 30 (if (σ.1 12 x3.toNatClampNeg) < 0 then nm (x3 + 1) (fun v17 => M_run_L102 n σ v17 x2 x1) else chkI x3 30 (if (σ.1 13 x3.toNatClampNeg) = (σ.1 21 0) then bnd (M_comes σ x3) (fun σ20 => nm (x3 + 1) (fun v21 => M_run_L102 n σ20 v21 x2 x1)) else nm (x3 + 1) (fun v19 => M_run_L102 n σ v19 x2 x1)))
set_option maxHeartbeats 4000000 in
set_option maxRecDepth 100000 in
theorem r_M_run_L102 {p : Program} {l : Launch} {e : Env} {s : State} {m : MethodId} {args : Array Value} {below : List Frame} {meth : Method} {c : Code} {Q : State → Prop} {Ev : EvT} {D : va_G} {cs : Nat → ClassId} {h : Nat} {a : Nat → Nat} {A : Nat → Prop} (C : Cx p s m args c cX12_run 4 wsX12_run RX12) : ∀ (n : Nat) (σ : St) (x3 : Int32) (x2 : Int32) (x1 : Int32) (H : Heap) (locs : List Loc) (ls : Array Slot) (X : St × Int32), some X = M_run_L102 n σ x3 x2 x1 → GW Ev D (tyM cs) (wM h a cs) A s σ H locs → lv_has ls 4 [(3, .int x3), (2, .int x2), (0, .ref h), (1, .int x1)] → (∀ (τ : St) (z3 : Int32) (H : Heap) (locs : List Loc) (ls : Array Slot), X = (τ, z3) → GW Ev D (tyM cs) (wM h a cs) A s τ H locs → lv_has ls 4 [(3, .int z3), (2, .int x2), (0, .ref h), (1, .int x1)] → W p l e rm_M_run s m args below meth c H locs 0 0 Q (F0 m 143 ls [])) → W p l e rm_M_run s m args below meth c H locs 0 0 Q (F0 m 102 ls []) := by
  have hin : ∀ w ∈ wsX120, w ∈ wsX12_run := fun w hw => List.mem_cons_of_mem _ (List.mem_append_right _ hw)
  have f0 : (Cond.fieldLink RX12 133 (TX12 0).1 (TX12 0).2.1 (TX12 0).2.2.1).before _ s = true := C.2.2.2.2 _ (List.mem_of_getElem? (i := 1) rfl)
  have f12 : (Cond.fieldLink RX12 35 (TX12 12).1 (TX12 12).2.1 (TX12 12).2.2.1).before _ s = true := C.2.2.2.2 _ (List.mem_of_getElem? (i := 6) rfl)
  have f13 : (Cond.fieldLink RX12 38 (TX12 13).1 (TX12 13).2.1 (TX12 13).2.2.1).before _ s = true := C.2.2.2.2 _ (List.mem_of_getElem? (i := 7) rfl)
  have f20 : (Cond.fieldLink RX12 150 (TX12 20).1 (TX12 20).2.1 (TX12 20).2.2.1).before _ s = true := C.2.2.2.2 _ (List.mem_of_getElem? (i := 4) rfl)
  have f21 : (Cond.fieldLink RX12 176 (TX12 21).1 (TX12 21).2.1 (TX12 21).2.2.1).before _ s = true := C.2.2.2.2 _ (List.mem_of_getElem? (i := 5) rfl)
  have f22 : (Cond.fieldLink RX12 153 (TX12 22).1 (TX12 22).2.1 (TX12 22).2.2.1).before _ s = true := C.2.2.2.2 _ (List.mem_of_getElem? (i := 2) rfl)
  intro n
  induction n with
  | zero =>
    intro σ x3 x2 x1 H locs ls X hX hW hl K0
    cases hX
  | succ n ih =>
    intro σ x3 x2 x1 H locs ls X hX hW hl K0
    unfold M_run_L102 at hX
    refine lv_iload_n C.1 C.2.1 dX12_run_102 rfl (lv_at hl 0 rfl) ?_
    refine lv_aload_n C.1 C.2.1 dX12_run_103 rfl (lv_at hl 2 rfl) ?_
    refine M_geti C hin hW 20 (by decide) f20 dX12_run_104 ?_
    refine lv_icmp_ge (tgt := 143) C.1 C.2.1 dX12_run_107 (by decide) (fun c15 => ?_) (fun c15 => ?_)
    · have hX := br_p hX c15
      exact K0 σ x3 H locs ls (Option.some.inj hX) hW (lv_sub hl [0, 1, 2, 3] rfl)
    have hX := br_n hX c15
    refine lv_aload_n C.1 C.2.1 dX12_run_110 rfl (lv_at hl 2 rfl) ?_
    refine M_geta C hin hW 12 rfl (by decide) f12 dX12_run_111 ?_
    refine lv_iload_n C.1 C.2.1 dX12_run_114 rfl (lv_at hl 0 rfl) ?_
    obtain ⟨hi, hX⟩ := chkI_st hX
    refine M_ldI C hW 12 rfl hi dX12_run_115 ?_
    refine lv_if_lt (tgt := 137) C.1 C.2.1 dX12_run_116 (by decide) (fun c16 => ?_) (fun c16 => ?_)
    · have hX := br_p hX c16
      obtain ⟨v17, ev17⟩ : ∃ z : Int32, z = x3 + 1 := ⟨_, rfl⟩
      have hX := nm_st hX ev17
      refine lv_iinc (v := v17) (lv' := [(3, .int v17), (2, .int x2), (0, .ref h), (1, .int x1)]) C.1 C.2.1 dX12_run_137 hl (k := 0) rfl (by rw [ev17]; rfl) (by decide) rfl (fun ls hl => ?_)
      refine lv_goto (tgt := 102) C.1 C.2.1 dX12_run_140 (by decide) ?_
      exact ih σ v17 x2 x1 H locs ls X hX hW (lv_sub hl [0, 1, 2, 3] rfl) K0
    have hX := br_n hX c16
    refine lv_aload_n C.1 C.2.1 dX12_run_119 rfl (lv_at hl 2 rfl) ?_
    refine M_geta C hin hW 13 rfl (by decide) f13 dX12_run_120 ?_
    refine lv_iload_n C.1 C.2.1 dX12_run_123 rfl (lv_at hl 0 rfl) ?_
    obtain ⟨hi, hX⟩ := chkI_st hX
    refine M_ldI C hW 13 rfl hi dX12_run_124 ?_
    refine lv_aload_n C.1 C.2.1 dX12_run_125 rfl (lv_at hl 2 rfl) ?_
    refine M_geti C hin hW 21 (by decide) f21 dX12_run_126 ?_
    refine lv_icmp_ne (tgt := 137) C.1 C.2.1 dX12_run_129 (by decide) (fun c18 => ?_) (fun c18 => ?_)
    · have hX := br_n hX c18
      obtain ⟨v19, ev19⟩ : ∃ z : Int32, z = x3 + 1 := ⟨_, rfl⟩
      have hX := nm_st hX ev19
      refine lv_iinc (v := v19) (lv' := [(3, .int v19), (2, .int x2), (0, .ref h), (1, .int x1)]) C.1 C.2.1 dX12_run_137 hl (k := 0) rfl (by rw [ev19]; rfl) (by decide) rfl (fun ls hl => ?_)
      refine lv_goto (tgt := 102) C.1 C.2.1 dX12_run_140 (by decide) ?_
      exact ih σ v19 x2 x1 H locs ls X hX hW (lv_sub hl [0, 1, 2, 3] rfl) K0
    have hX := br_p hX c18
    refine lv_aload_n C.1 C.2.1 dX12_run_132 rfl (lv_at hl 2 rfl) ?_
    refine lv_iload_n C.1 C.2.1 dX12_run_133 rfl (lv_at hl 0 rfl) ?_
    obtain ⟨σ20, hq, hX⟩ := bnd_st hX
    refine G_V0u (As := [.int x3]) (rest := []) C hW (c_M_comes l D cs h a σ x3 σ20 hq.symm) (cwV 1 C.2.2.2.2 gX12_run_X12_comes rfl rfl rfl (by decide +kernel) ⟨Nat.le_of_ble_eq_true rfl, Nat.le_of_ble_eq_true rfl⟩) (M_recv hW) rfl hl.1 rfl (Nat.le_of_ble_eq_true rfl) dX12_run_134 (fun H locs hW => ?_)
    obtain ⟨v21, ev21⟩ : ∃ z : Int32, z = x3 + 1 := ⟨_, rfl⟩
    have hX := nm_st hX ev21
    refine lv_iinc (v := v21) (lv' := [(3, .int v21), (2, .int x2), (0, .ref h), (1, .int x1)]) C.1 C.2.1 dX12_run_137 hl (k := 0) rfl (by rw [ev21]; rfl) (by decide) rfl (fun ls hl => ?_)
    refine lv_goto (tgt := 102) C.1 C.2.1 dX12_run_140 (by decide) ?_
    exact ih σ20 v21 x2 x1 H locs ls X hX hW (lv_sub hl [0, 1, 2, 3] rfl) K0
def M_run_L75 : Nat → St → Int32 → Int32 → Option (St × Int32)
  | 0, _, _, _ => none
  | n + 1, σ, x2, x1 => if x1 ≤ x2 then some (σ, x2) else if 9999 ≤ (σ.1 21 0) then some (σ, x2) else nm (s1 σ 21 0 ((σ.1 21 0) + 1)) (fun σ27 => bnd (M_run_L102 100000 σ27 0 x2 x1) (fun q => nm2 q (fun σ28 v29 => nm (x2 + 1) (fun v30 => M_run_L75 n σ28 v30 x1))))
set_option maxHeartbeats 4000000 in
set_option maxRecDepth 100000 in
theorem r_M_run_L75 {p : Program} {l : Launch} {e : Env} {s : State} {m : MethodId} {args : Array Value} {below : List Frame} {meth : Method} {c : Code} {Q : State → Prop} {Ev : EvT} {D : va_G} {cs : Nat → ClassId} {h : Nat} {a : Nat → Nat} {A : Nat → Prop} (C : Cx p s m args c cX12_run 4 wsX12_run RX12) : ∀ (n : Nat) (σ : St) (x2 : Int32) (x1 : Int32) (H : Heap) (locs : List Loc) (ls : Array Slot) (X : St × Int32), some X = M_run_L75 n σ x2 x1 → GW Ev D (tyM cs) (wM h a cs) A s σ H locs → lv_has ls 4 [(2, .int x2), (0, .ref h), (1, .int x1)] → (∀ (τ : St) (z2 : Int32) (H : Heap) (locs : List Loc) (ls : Array Slot), X = (τ, z2) → GW Ev D (tyM cs) (wM h a cs) A s τ H locs → lv_has ls 4 [(2, .int z2), (0, .ref h), (1, .int x1)] → W p l e rm_M_run s m args below meth c H locs 0 0 Q (F0 m 149 ls [])) → W p l e rm_M_run s m args below meth c H locs 0 0 Q (F0 m 75 ls []) := by
  have hin : ∀ w ∈ wsX120, w ∈ wsX12_run := fun w hw => List.mem_cons_of_mem _ (List.mem_append_right _ hw)
  have f0 : (Cond.fieldLink RX12 133 (TX12 0).1 (TX12 0).2.1 (TX12 0).2.2.1).before _ s = true := C.2.2.2.2 _ (List.mem_of_getElem? (i := 1) rfl)
  have f12 : (Cond.fieldLink RX12 35 (TX12 12).1 (TX12 12).2.1 (TX12 12).2.2.1).before _ s = true := C.2.2.2.2 _ (List.mem_of_getElem? (i := 6) rfl)
  have f13 : (Cond.fieldLink RX12 38 (TX12 13).1 (TX12 13).2.1 (TX12 13).2.2.1).before _ s = true := C.2.2.2.2 _ (List.mem_of_getElem? (i := 7) rfl)
  have f20 : (Cond.fieldLink RX12 150 (TX12 20).1 (TX12 20).2.1 (TX12 20).2.2.1).before _ s = true := C.2.2.2.2 _ (List.mem_of_getElem? (i := 4) rfl)
  have f21 : (Cond.fieldLink RX12 176 (TX12 21).1 (TX12 21).2.1 (TX12 21).2.2.1).before _ s = true := C.2.2.2.2 _ (List.mem_of_getElem? (i := 5) rfl)
  have f22 : (Cond.fieldLink RX12 153 (TX12 22).1 (TX12 22).2.1 (TX12 22).2.2.1).before _ s = true := C.2.2.2.2 _ (List.mem_of_getElem? (i := 2) rfl)
  intro n
  induction n with
  | zero =>
    intro σ x2 x1 H locs ls X hX hW hl K0
    cases hX
  | succ n ih =>
    intro σ x2 x1 H locs ls X hX hW hl K0
    unfold M_run_L75 at hX
    refine lv_iload_n C.1 C.2.1 dX12_run_75 rfl (lv_at hl 0 rfl) ?_
    refine lv_iload_n C.1 C.2.1 dX12_run_76 rfl (lv_at hl 2 rfl) ?_
    refine lv_icmp_ge (tgt := 149) C.1 C.2.1 dX12_run_77 (by decide) (fun c25 => ?_) (fun c25 => ?_)
    · have hX := br_p hX c25
      exact K0 σ x2 H locs ls (Option.some.inj hX) hW (lv_sub hl [0, 1, 2] rfl)
    have hX := br_n hX c25
    refine lv_aload_n C.1 C.2.1 dX12_run_80 rfl (lv_at hl 1 rfl) ?_
    refine M_geti C hin hW 21 (by decide) f21 dX12_run_81 ?_
    refine lv_sipush (v := 9999) C.1 C.2.1 dX12_run_84 (by decide) ?_
    refine lv_icmp_ge (tgt := 149) C.1 C.2.1 dX12_run_87 (by decide) (fun c26 => ?_) (fun c26 => ?_)
    · have hX := br_p hX c26
      exact K0 σ x2 H locs ls (Option.some.inj hX) hW (lv_sub hl [0, 1, 2] rfl)
    have hX := br_n hX c26
    refine lv_aload_n C.1 C.2.1 dX12_run_90 rfl (lv_at hl 1 rfl) ?_
    refine lv_dup C.1 C.2.1 dX12_run_91 rfl ?_
    refine M_geti C hin hW 21 (by decide) f21 dX12_run_92 ?_
    refine lv_iconst (v := 1) C.1 C.2.1 dX12_run_95 (by decide) ?_
    refine lv_iadd C.1 C.2.1 dX12_run_96 ?_
    refine M_puti C hin hW 21 rfl f21 dX12_run_97 (fun H locs σ27 eσ27 hW => ?_)
    have hX := nm_st hX eσ27
    refine lv_iconst (v := 0) C.1 C.2.1 dX12_run_100 (by decide) ?_
    refine lv_istore_n (lv' := [(3, .int 0), (2, .int x2), (0, .ref h), (1, .int x1)]) C.1 C.2.1 dX12_run_101 rfl hl (by decide) rfl (fun ls hl => ?_)
    obtain ⟨q, hq, hX⟩ := bnd_st hX
    refine r_M_run_L102 C 100000 σ27 0 x2 x1 H locs ls q hq.symm hW (lv_sub hl [0, 1, 2, 3] rfl) ?_
    intro σ28 v29 H locs ls hq hW hl
    subst hq
    have hX := nm2_st hX rfl
    obtain ⟨v30, ev30⟩ : ∃ z : Int32, z = x2 + 1 := ⟨_, rfl⟩
    have hX := nm_st hX ev30
    refine lv_iinc (v := v30) (lv' := [(2, .int v30), (3, .int v29), (0, .ref h), (1, .int x1)]) C.1 C.2.1 dX12_run_143 hl (k := 1) rfl (by rw [ev30]; rfl) (by decide) rfl (fun ls hl => ?_)
    refine lv_goto (tgt := 75) C.1 C.2.1 dX12_run_146 (by decide) ?_
    exact ih σ28 v30 x1 H locs ls X hX hW (lv_sub hl [0, 2, 3] rfl) K0
def M_run_L33 : Nat → St → Int32 → Int32 → Option (St × Int32)
  | 0, _, _, _ => none
  | n + 1, σ, x2, x1 => if 64 ≤ x2 then some (σ, x2) else chkI x2 64 (nm (s1 σ 7 x2.toNatClampNeg (-1)) (fun σ38 => nm (x2 + 1) (fun v39 => M_run_L33 n σ38 v39 x1)))
set_option maxHeartbeats 4000000 in
set_option maxRecDepth 100000 in
theorem r_M_run_L33 {p : Program} {l : Launch} {e : Env} {s : State} {m : MethodId} {args : Array Value} {below : List Frame} {meth : Method} {c : Code} {Q : State → Prop} {Ev : EvT} {D : va_G} {cs : Nat → ClassId} {h : Nat} {a : Nat → Nat} {A : Nat → Prop} (C : Cx p s m args c cX12_run 4 wsX12_run RX12) : ∀ (n : Nat) (σ : St) (x2 : Int32) (x1 : Int32) (H : Heap) (locs : List Loc) (ls : Array Slot) (X : St × Int32), some X = M_run_L33 n σ x2 x1 → GW Ev D (tyM cs) (wM h a cs) A s σ H locs → lv_has ls 4 [(2, .int x2), (0, .ref h), (1, .int x1)] → (∀ (τ : St) (z2 : Int32) (H : Heap) (locs : List Loc) (ls : Array Slot), X = (τ, z2) → GW Ev D (tyM cs) (wM h a cs) A s τ H locs → lv_has ls 4 [(2, .int z2), (0, .ref h), (1, .int x1)] → W p l e rm_M_run s m args below meth c H locs 0 0 Q (F0 m 52 ls [])) → W p l e rm_M_run s m args below meth c H locs 0 0 Q (F0 m 33 ls []) := by
  have hin : ∀ w ∈ wsX120, w ∈ wsX12_run := fun w hw => List.mem_cons_of_mem _ (List.mem_append_right _ hw)
  have f0 : (Cond.fieldLink RX12 133 (TX12 0).1 (TX12 0).2.1 (TX12 0).2.2.1).before _ s = true := C.2.2.2.2 _ (List.mem_of_getElem? (i := 1) rfl)
  have f7 : (Cond.fieldLink RX12 20 (TX12 7).1 (TX12 7).2.1 (TX12 7).2.2.1).before _ s = true := C.2.2.2.2 _ (List.mem_of_getElem? (i := 3) rfl)
  have f12 : (Cond.fieldLink RX12 35 (TX12 12).1 (TX12 12).2.1 (TX12 12).2.2.1).before _ s = true := C.2.2.2.2 _ (List.mem_of_getElem? (i := 6) rfl)
  have f13 : (Cond.fieldLink RX12 38 (TX12 13).1 (TX12 13).2.1 (TX12 13).2.2.1).before _ s = true := C.2.2.2.2 _ (List.mem_of_getElem? (i := 7) rfl)
  have f20 : (Cond.fieldLink RX12 150 (TX12 20).1 (TX12 20).2.1 (TX12 20).2.2.1).before _ s = true := C.2.2.2.2 _ (List.mem_of_getElem? (i := 4) rfl)
  have f21 : (Cond.fieldLink RX12 176 (TX12 21).1 (TX12 21).2.1 (TX12 21).2.2.1).before _ s = true := C.2.2.2.2 _ (List.mem_of_getElem? (i := 5) rfl)
  have f22 : (Cond.fieldLink RX12 153 (TX12 22).1 (TX12 22).2.1 (TX12 22).2.2.1).before _ s = true := C.2.2.2.2 _ (List.mem_of_getElem? (i := 2) rfl)
  intro n
  induction n with
  | zero =>
    intro σ x2 x1 H locs ls X hX hW hl K0
    cases hX
  | succ n ih =>
    intro σ x2 x1 H locs ls X hX hW hl K0
    unfold M_run_L33 at hX
    refine lv_iload_n C.1 C.2.1 dX12_run_33 rfl (lv_at hl 0 rfl) ?_
    refine lv_bipush (v := 64) C.1 C.2.1 dX12_run_34 (by decide) ?_
    refine lv_icmp_ge (tgt := 52) C.1 C.2.1 dX12_run_36 (by decide) (fun c37 => ?_) (fun c37 => ?_)
    · have hX := br_p hX c37
      exact K0 σ x2 H locs ls (Option.some.inj hX) hW (lv_sub hl [0, 1, 2] rfl)
    have hX := br_n hX c37
    refine lv_aload_n C.1 C.2.1 dX12_run_39 rfl (lv_at hl 1 rfl) ?_
    refine M_geta C hin hW 7 rfl (by decide) f7 dX12_run_40 ?_
    refine lv_iload_n C.1 C.2.1 dX12_run_43 rfl (lv_at hl 0 rfl) ?_
    refine lv_iconst (v := -1) C.1 C.2.1 dX12_run_44 (by decide) ?_
    obtain ⟨hi, hX⟩ := chkI_st hX
    refine M_stI C hW 7 rfl hi dX12_run_45 (fun H locs σ38 eσ38 hW => ?_)
    have hX := nm_st hX eσ38
    obtain ⟨v39, ev39⟩ : ∃ z : Int32, z = x2 + 1 := ⟨_, rfl⟩
    have hX := nm_st hX ev39
    refine lv_iinc (v := v39) (lv' := [(2, .int v39), (0, .ref h), (1, .int x1)]) C.1 C.2.1 dX12_run_46 hl (k := 0) rfl (by rw [ev39]; rfl) (by decide) rfl (fun ls hl => ?_)
    refine lv_goto (tgt := 33) C.1 C.2.1 dX12_run_49 (by decide) ?_
    exact ih σ38 v39 x1 H locs ls X hX hW (lv_sub hl [0, 1, 2] rfl) K0
def M_run_L54 : Nat → St → Int32 → Int32 → Option (St × Int32)
  | 0, _, _, _ => none
  | n + 1, σ, x2, x1 => if (σ.1 20 0) ≤ x2 then some (σ, x2) else bnd (M_choose σ x2) (fun σ46 => nm (x2 + 1) (fun v47 => M_run_L54 n σ46 v47 x1))
set_option maxHeartbeats 4000000 in
set_option maxRecDepth 100000 in
theorem r_M_run_L54 {p : Program} {l : Launch} {e : Env} {s : State} {m : MethodId} {args : Array Value} {below : List Frame} {meth : Method} {c : Code} {Q : State → Prop} {Ev : EvT} {D : va_G} {cs : Nat → ClassId} {h : Nat} {a : Nat → Nat} {A : Nat → Prop} (C : Cx p s m args c cX12_run 4 wsX12_run RX12) : ∀ (n : Nat) (σ : St) (x2 : Int32) (x1 : Int32) (H : Heap) (locs : List Loc) (ls : Array Slot) (X : St × Int32), some X = M_run_L54 n σ x2 x1 → GW Ev D (tyM cs) (wM h a cs) A s σ H locs → lv_has ls 4 [(2, .int x2), (0, .ref h), (1, .int x1)] → (∀ (τ : St) (z2 : Int32) (H : Heap) (locs : List Loc) (ls : Array Slot), X = (τ, z2) → GW Ev D (tyM cs) (wM h a cs) A s τ H locs → lv_has ls 4 [(2, .int z2), (0, .ref h), (1, .int x1)] → W p l e rm_M_run s m args below meth c H locs 0 0 Q (F0 m 73 ls [])) → W p l e rm_M_run s m args below meth c H locs 0 0 Q (F0 m 54 ls []) := by
  have hin : ∀ w ∈ wsX120, w ∈ wsX12_run := fun w hw => List.mem_cons_of_mem _ (List.mem_append_right _ hw)
  have f0 : (Cond.fieldLink RX12 133 (TX12 0).1 (TX12 0).2.1 (TX12 0).2.2.1).before _ s = true := C.2.2.2.2 _ (List.mem_of_getElem? (i := 1) rfl)
  have f7 : (Cond.fieldLink RX12 20 (TX12 7).1 (TX12 7).2.1 (TX12 7).2.2.1).before _ s = true := C.2.2.2.2 _ (List.mem_of_getElem? (i := 3) rfl)
  have f12 : (Cond.fieldLink RX12 35 (TX12 12).1 (TX12 12).2.1 (TX12 12).2.2.1).before _ s = true := C.2.2.2.2 _ (List.mem_of_getElem? (i := 6) rfl)
  have f13 : (Cond.fieldLink RX12 38 (TX12 13).1 (TX12 13).2.1 (TX12 13).2.2.1).before _ s = true := C.2.2.2.2 _ (List.mem_of_getElem? (i := 7) rfl)
  have f20 : (Cond.fieldLink RX12 150 (TX12 20).1 (TX12 20).2.1 (TX12 20).2.2.1).before _ s = true := C.2.2.2.2 _ (List.mem_of_getElem? (i := 4) rfl)
  have f21 : (Cond.fieldLink RX12 176 (TX12 21).1 (TX12 21).2.1 (TX12 21).2.2.1).before _ s = true := C.2.2.2.2 _ (List.mem_of_getElem? (i := 5) rfl)
  have f22 : (Cond.fieldLink RX12 153 (TX12 22).1 (TX12 22).2.1 (TX12 22).2.2.1).before _ s = true := C.2.2.2.2 _ (List.mem_of_getElem? (i := 2) rfl)
  intro n
  induction n with
  | zero =>
    intro σ x2 x1 H locs ls X hX hW hl K0
    cases hX
  | succ n ih =>
    intro σ x2 x1 H locs ls X hX hW hl K0
    unfold M_run_L54 at hX
    refine lv_iload_n C.1 C.2.1 dX12_run_54 rfl (lv_at hl 0 rfl) ?_
    refine lv_aload_n C.1 C.2.1 dX12_run_55 rfl (lv_at hl 1 rfl) ?_
    refine M_geti C hin hW 20 (by decide) f20 dX12_run_56 ?_
    refine lv_icmp_ge (tgt := 73) C.1 C.2.1 dX12_run_59 (by decide) (fun c45 => ?_) (fun c45 => ?_)
    · have hX := br_p hX c45
      exact K0 σ x2 H locs ls (Option.some.inj hX) hW (lv_sub hl [0, 1, 2] rfl)
    have hX := br_n hX c45
    refine lv_aload_n C.1 C.2.1 dX12_run_62 rfl (lv_at hl 1 rfl) ?_
    refine lv_iload_n C.1 C.2.1 dX12_run_63 rfl (lv_at hl 0 rfl) ?_
    obtain ⟨σ46, hq, hX⟩ := bnd_st hX
    refine G_V0u (As := [.int x2]) (rest := []) C hW (c_M_choose l D cs h a σ x2 σ46 hq.symm) (cwV 1 C.2.2.2.2 gX12_run_X12_choose rfl rfl rfl (by decide +kernel) ⟨Nat.le_of_ble_eq_true rfl, Nat.le_of_ble_eq_true rfl⟩) (M_recv hW) rfl hl.1 rfl (Nat.le_of_ble_eq_true rfl) dX12_run_64 (fun H locs hW => ?_)
    obtain ⟨v47, ev47⟩ : ∃ z : Int32, z = x2 + 1 := ⟨_, rfl⟩
    have hX := nm_st hX ev47
    refine lv_iinc (v := v47) (lv' := [(2, .int v47), (0, .ref h), (1, .int x1)]) C.1 C.2.1 dX12_run_67 hl (k := 0) rfl (by rw [ev47]; rfl) (by decide) rfl (fun ls hl => ?_)
    refine lv_goto (tgt := 54) C.1 C.2.1 dX12_run_70 (by decide) ?_
    exact ih σ46 v47 x1 H locs ls X hX hW (lv_sub hl [0, 1, 2] rfl) K0
def M_run (σ : St) (x1 : Int32) : Option (Int32 × St) := nm (s1 σ 0 0 0) (fun σ1 => if x1 < 1 then some ((-1), σ1) else if x1 ≤ 1000 then if (σ1.1 22 0) = 0 then nm (s1 σ1 22 0 1) (fun σ33 => bnd (M_run_L33 100000 σ33 0 x1) (fun q => nm2 q (fun σ40 v41 => bnd (M_run_L54 100000 σ40 0 x1) (fun q => nm2 q (fun σ48 v49 => bnd (M_run_L75 100000 σ48 0 x1) (fun q => nm2 q (fun σ50 v51 => some (σ50.1 21 0, σ50)))))))) else bnd (M_run_L75 100000 σ1 0 x1) (fun q => nm2 q (fun σ31 v32 => some (σ31.1 21 0, σ31))) else some ((-1), σ1))
set_option maxHeartbeats 4000000 in
set_option maxRecDepth 100000 in
theorem c_M_run {Ev : EvT} (l : Launch) (D : va_G) (cs : Nat → ClassId) (h : Nat) (a : Nat → Nat) (σ : St) (x1 : Int32) (X : Int32 × St) (hX : some X = M_run σ x1) : cGi Ev l D (tyM cs) (wM h a cs) yX12_run wsX12_run rm_M_run 0 0 [.ref h, .int x1] σ (fun r u => (r, u) = X) := by
  refine G_ini (cc := cX12_run) (maxL := 4) (ret := some .int) (by decide) rfl (Nat.le_of_ble_eq_true rfl) ?_
  intro p e s m below meth c A ls C hr hlk hini hA hW hl
  have C : Cx p s m _ c cX12_run 4 wsX12_run RX12 := C
  have hl : lv_has ls 4 [(0, .ref h), (1, .int x1)] := hl
  have hin : ∀ w ∈ wsX120, w ∈ wsX12_run := fun w hw => List.mem_cons_of_mem _ (List.mem_append_right _ hw)
  have f0 : (Cond.fieldLink RX12 133 (TX12 0).1 (TX12 0).2.1 (TX12 0).2.2.1).before _ s = true := C.2.2.2.2 _ (List.mem_of_getElem? (i := 1) rfl)
  have f7 : (Cond.fieldLink RX12 20 (TX12 7).1 (TX12 7).2.1 (TX12 7).2.2.1).before _ s = true := C.2.2.2.2 _ (List.mem_of_getElem? (i := 3) rfl)
  have f12 : (Cond.fieldLink RX12 35 (TX12 12).1 (TX12 12).2.1 (TX12 12).2.2.1).before _ s = true := C.2.2.2.2 _ (List.mem_of_getElem? (i := 6) rfl)
  have f13 : (Cond.fieldLink RX12 38 (TX12 13).1 (TX12 13).2.1 (TX12 13).2.2.1).before _ s = true := C.2.2.2.2 _ (List.mem_of_getElem? (i := 7) rfl)
  have f20 : (Cond.fieldLink RX12 150 (TX12 20).1 (TX12 20).2.1 (TX12 20).2.2.1).before _ s = true := C.2.2.2.2 _ (List.mem_of_getElem? (i := 4) rfl)
  have f21 : (Cond.fieldLink RX12 176 (TX12 21).1 (TX12 21).2.1 (TX12 21).2.2.1).before _ s = true := C.2.2.2.2 _ (List.mem_of_getElem? (i := 5) rfl)
  have f22 : (Cond.fieldLink RX12 153 (TX12 22).1 (TX12 22).2.1 (TX12 22).2.2.1).before _ s = true := C.2.2.2.2 _ (List.mem_of_getElem? (i := 2) rfl)
  obtain ⟨H, hH⟩ : ∃ H, H = s.heap := ⟨_, rfl⟩
  obtain ⟨locs, hlo⟩ : ∃ z : List Loc, z = [] := ⟨_, rfl⟩
  have hW : GW Ev D (tyM cs) (wM h a cs) A s σ H locs := by rw [hH, hlo]; exact hW
  rw [show W p l e rm_M_run s m _ below meth c s.heap [] = W p l e rm_M_run s m _ below meth c H locs from by rw [hH, hlo]]
  unfold M_run at hX
  refine lv_aload_n C.1 C.2.1 dX12_run_0 rfl (lv_at hl 0 rfl) ?_
  refine lv_iconst (v := 0) C.1 C.2.1 dX12_run_1 (by decide) ?_
  refine M_puti C hin hW 0 rfl f0 dX12_run_2 (fun H locs σ1 eσ1 hW => ?_)
  have hX := nm_st hX eσ1
  refine lv_iload_n C.1 C.2.1 dX12_run_5 rfl (lv_at hl 1 rfl) ?_
  refine lv_iconst (v := 1) C.1 C.2.1 dX12_run_6 (by decide) ?_
  refine lv_icmp_lt (tgt := 17) C.1 C.2.1 dX12_run_7 (by decide) (fun c2 => ?_) (fun c2 => ?_)
  · have hX := br_p hX c2
    refine lv_iconst (v := -1) C.1 C.2.1 dX12_run_17 (by decide) ?_
    exact G_reti C hr hlk hA hW (Option.some.inj hX).symm dX12_run_18
  have hX := br_n hX c2
  refine lv_iload_n C.1 C.2.1 dX12_run_10 rfl (lv_at hl 1 rfl) ?_
  refine lv_sipush (v := 1000) C.1 C.2.1 dX12_run_11 (by decide) ?_
  refine lv_icmp_le (tgt := 19) C.1 C.2.1 dX12_run_14 (by decide) (fun c3 => ?_) (fun c3 => ?_)
  · have hX := br_p hX c3
    refine lv_aload_n C.1 C.2.1 dX12_run_19 rfl (lv_at hl 0 rfl) ?_
    refine M_geti C hin hW 22 (by decide) f22 dX12_run_20 ?_
    refine lv_if_ne (tgt := 73) C.1 C.2.1 dX12_run_23 (by decide) (fun c4 => ?_) (fun c4 => ?_)
    · have hX := br_n hX c4
      refine lv_iconst (v := 0) C.1 C.2.1 dX12_run_73 (by decide) ?_
      refine lv_istore_n (lv' := [(2, .int 0), (0, .ref h), (1, .int x1)]) C.1 C.2.1 dX12_run_74 rfl hl (by decide) rfl (fun ls hl => ?_)
      obtain ⟨q, hq, hX⟩ := bnd_st hX
      refine r_M_run_L75 C 100000 σ1 0 x1 H locs ls q hq.symm hW (lv_sub hl [0, 1, 2] rfl) ?_
      intro σ31 v32 H locs ls hq hW hl
      subst hq
      have hX := nm2_st hX rfl
      refine lv_aload_n C.1 C.2.1 dX12_run_149 rfl (lv_at hl 1 rfl) ?_
      refine M_geti C hin hW 21 (by decide) f21 dX12_run_150 ?_
      exact G_reti C hr hlk hA hW (Option.some.inj hX).symm dX12_run_153
    have hX := br_p hX c4
    refine lv_aload_n C.1 C.2.1 dX12_run_26 rfl (lv_at hl 0 rfl) ?_
    refine lv_iconst (v := 1) C.1 C.2.1 dX12_run_27 (by decide) ?_
    refine M_putz C hin hW 22 rfl rfl rfl f22 dX12_run_28 (fun H locs σ33 eσ33 hW => ?_)
    have hX := nm_st hX eσ33
    refine lv_iconst (v := 0) C.1 C.2.1 dX12_run_31 (by decide) ?_
    refine lv_istore_n (lv' := [(2, .int 0), (0, .ref h), (1, .int x1)]) C.1 C.2.1 dX12_run_32 rfl hl (by decide) rfl (fun ls hl => ?_)
    obtain ⟨q, hq, hX⟩ := bnd_st hX
    refine r_M_run_L33 C 100000 σ33 0 x1 H locs ls q hq.symm hW (lv_sub hl [0, 1, 2] rfl) ?_
    intro σ40 v41 H locs ls hq hW hl
    subst hq
    have hX := nm2_st hX rfl
    refine lv_iconst (v := 0) C.1 C.2.1 dX12_run_52 (by decide) ?_
    refine lv_istore_n (lv' := [(2, .int 0), (0, .ref h), (1, .int x1)]) C.1 C.2.1 dX12_run_53 rfl hl (by decide) rfl (fun ls hl => ?_)
    obtain ⟨q, hq, hX⟩ := bnd_st hX
    refine r_M_run_L54 C 100000 σ40 0 x1 H locs ls q hq.symm hW (lv_sub hl [0, 1, 2] rfl) ?_
    intro σ48 v49 H locs ls hq hW hl
    subst hq
    have hX := nm2_st hX rfl
    refine lv_iconst (v := 0) C.1 C.2.1 dX12_run_73 (by decide) ?_
    refine lv_istore_n (lv' := [(2, .int 0), (0, .ref h), (1, .int x1)]) C.1 C.2.1 dX12_run_74 rfl hl (by decide) rfl (fun ls hl => ?_)
    obtain ⟨q, hq, hX⟩ := bnd_st hX
    refine r_M_run_L75 C 100000 σ48 0 x1 H locs ls q hq.symm hW (lv_sub hl [0, 1, 2] rfl) ?_
    intro σ50 v51 H locs ls hq hW hl
    subst hq
    have hX := nm2_st hX rfl
    refine lv_aload_n C.1 C.2.1 dX12_run_149 rfl (lv_at hl 1 rfl) ?_
    refine M_geti C hin hW 21 (by decide) f21 dX12_run_150 ?_
    exact G_reti C hr hlk hA hW (Option.some.inj hX).symm dX12_run_153
  have hX := br_n hX c3
  refine lv_iconst (v := -1) C.1 C.2.1 dX12_run_17 (by decide) ?_
  exact G_reti C hr hlk hA hW (Option.some.inj hX).symm dX12_run_18
