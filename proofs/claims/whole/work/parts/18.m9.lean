abbrev rm_M_holds : Room := { frames := 2, cells := 0, slots := 0, locals := 49 }
def M_holds_L22 : Nat → St → Int32 → Int32 → Int32 → Int32 → Int32 → Option (St × Int32)
  | 0, _, _, _, _, _, _ => none
  | n + 1, σ, x5, x1, x2, x3, x4 => if 72 ≤ x5 then some (σ, x5) else chkI ((72 * x1) + x5) 576 (chkI x5 72 (nm (s1 σ 53 x5.toNatClampNeg (σ.1 52 ((72 * x1) + x5).toNatClampNeg)) (fun σ9 => if x5 = x2 then nm (x5 + 1) (fun v11 => M_holds_L22 n σ9 v11 x1 x2 x3 x4) else chkI ((72 * x1) + x5) 576 (nm (s1 σ9 52 ((72 * x1) + x5).toNatClampNeg 1000000) (fun σ12 => nm (x5 + 1) (fun v13 => M_holds_L22 n σ12 v13 x1 x2 x3 x4))))))
set_option maxHeartbeats 4000000 in
set_option maxRecDepth 100000 in
theorem r_M_holds_L22 {p : Program} {l : Launch} {e : Env} {s : State} {m : MethodId} {args : Array Value} {below : List Frame} {meth : Method} {c : Code} {Q : State → Prop} {Ev : EvT} {D : va_G} {cs : Nat → ClassId} {h : Nat} {a : Nat → Nat} {A : Nat → Prop} (C : Cx p s m args c cX12_holds 6 wsX12_holds RX12) : ∀ (n : Nat) (σ : St) (x5 : Int32) (x1 : Int32) (x2 : Int32) (x3 : Int32) (x4 : Int32) (H : Heap) (locs : List Loc) (ls : Array Slot) (X : St × Int32), some X = M_holds_L22 n σ x5 x1 x2 x3 x4 → GW Ev D (tyM cs) (wM h a cs) A s σ H locs → lv_has ls 6 [(5, .int x5), (0, .ref h), (1, .int x1), (2, .int x2), (3, .int x3), (4, .int x4)] → (∀ (τ : St) (z5 : Int32) (H : Heap) (locs : List Loc) (ls : Array Slot), X = (τ, z5) → GW Ev D (tyM cs) (wM h a cs) A s τ H locs → lv_has ls 6 [(5, .int z5), (0, .ref h), (1, .int x1), (2, .int x2), (3, .int x3), (4, .int x4)] → W p l e rm_M_holds s m args below meth c H locs 0 0 Q (F0 m 75 ls [])) → W p l e rm_M_holds s m args below meth c H locs 0 0 Q (F0 m 22 ls []) := by
  have hin : ∀ w ∈ wsX120, w ∈ wsX12_holds := fun w hw => List.mem_cons_of_mem _ (List.mem_append_right _ hw)
  have f52 : (Cond.fieldLink RX12 103 (TX12 52).1 (TX12 52).2.1 (TX12 52).2.2.1).before _ s = true := C.2.2.2.2 _ (List.mem_of_getElem? (i := 1) rfl)
  have f53 : (Cond.fieldLink RX12 106 (TX12 53).1 (TX12 53).2.1 (TX12 53).2.2.1).before _ s = true := C.2.2.2.2 _ (List.mem_of_getElem? (i := 3) rfl)
  have k327 : (Cond.constant RX12 327 (1000000)).before _ s = true := C.2.2.2.2 _ (List.mem_of_getElem? (i := 2) rfl)
  intro n
  induction n with
  | zero =>
    intro σ x5 x1 x2 x3 x4 H locs ls X hX hW hl K0
    cases hX
  | succ n ih =>
    intro σ x5 x1 x2 x3 x4 H locs ls X hX hW hl K0
    unfold M_holds_L22 at hX
    refine lv_iload C.1 C.2.1 dX12_holds_22 (lv_at hl 0 rfl) ?_
    refine lv_bipush (v := 72) C.1 C.2.1 dX12_holds_24 (by decide) ?_
    refine lv_icmp_ge (tgt := 75) C.1 C.2.1 dX12_holds_26 (by decide) (fun c8 => ?_) (fun c8 => ?_)
    · have hX := br_p hX c8
      exact K0 σ x5 H locs ls (Option.some.inj hX) hW (lv_sub hl [0, 1, 2, 3, 4, 5] rfl)
    have hX := br_n hX c8
    refine lv_aload_n C.1 C.2.1 dX12_holds_29 rfl (lv_at hl 1 rfl) ?_
    refine M_geta C hin hW 53 rfl (by decide) f53 dX12_holds_30 ?_
    refine lv_iload C.1 C.2.1 dX12_holds_33 (lv_at hl 0 rfl) ?_
    refine lv_aload_n C.1 C.2.1 dX12_holds_35 rfl (lv_at hl 1 rfl) ?_
    refine M_geta C hin hW 52 rfl (by decide) f52 dX12_holds_36 ?_
    refine lv_bipush (v := 72) C.1 C.2.1 dX12_holds_39 (by decide) ?_
    refine lv_iload_n C.1 C.2.1 dX12_holds_41 rfl (lv_at hl 2 rfl) ?_
    refine lv_imul C.1 C.2.1 dX12_holds_42 ?_
    refine lv_iload C.1 C.2.1 dX12_holds_43 (lv_at hl 0 rfl) ?_
    refine lv_iadd C.1 C.2.1 dX12_holds_45 ?_
    obtain ⟨hi, hX⟩ := chkI_st hX
    refine M_ldI C hW 52 rfl hi dX12_holds_46 ?_
    obtain ⟨hi, hX⟩ := chkI_st hX
    refine M_stI C hW 53 rfl hi dX12_holds_47 (fun H locs σ9 eσ9 hW => ?_)
    have hX := nm_st hX eσ9
    refine lv_iload C.1 C.2.1 dX12_holds_48 (lv_at hl 0 rfl) ?_
    refine lv_iload_n C.1 C.2.1 dX12_holds_50 rfl (lv_at hl 3 rfl) ?_
    refine lv_icmp_eq (tgt := 69) C.1 C.2.1 dX12_holds_51 (by decide) (fun c10 => ?_) (fun c10 => ?_)
    · have hX := br_p hX c10
      obtain ⟨v11, ev11⟩ : ∃ z : Int32, z = x5 + 1 := ⟨_, rfl⟩
      have hX := nm_st hX ev11
      refine lv_iinc (v := v11) (lv' := [(5, .int v11), (0, .ref h), (1, .int x1), (2, .int x2), (3, .int x3), (4, .int x4)]) C.1 C.2.1 dX12_holds_69 hl (k := 0) rfl (by rw [ev11]; rfl) (by decide) rfl (fun ls hl => ?_)
      refine lv_goto (tgt := 22) C.1 C.2.1 dX12_holds_72 (by decide) ?_
      exact ih σ9 v11 x1 x2 x3 x4 H locs ls X hX hW (lv_sub hl [0, 1, 2, 3, 4, 5] rfl) K0
    have hX := br_n hX c10
    refine lv_aload_n C.1 C.2.1 dX12_holds_54 rfl (lv_at hl 1 rfl) ?_
    refine M_geta C hin hW 52 rfl (by decide) f52 dX12_holds_55 ?_
    refine lv_bipush (v := 72) C.1 C.2.1 dX12_holds_58 (by decide) ?_
    refine lv_iload_n C.1 C.2.1 dX12_holds_60 rfl (lv_at hl 2 rfl) ?_
    refine lv_imul C.1 C.2.1 dX12_holds_61 ?_
    refine lv_iload C.1 C.2.1 dX12_holds_62 (lv_at hl 0 rfl) ?_
    refine lv_iadd C.1 C.2.1 dX12_holds_64 ?_
    refine lv_ldcw (v := 1000000) C.1 C.2.1 C.2.2.2.1 k327 dX12_holds_65 ?_
    obtain ⟨hi, hX⟩ := chkI_st hX
    refine M_stI C hW 52 rfl hi dX12_holds_68 (fun H locs σ12 eσ12 hW => ?_)
    have hX := nm_st hX eσ12
    obtain ⟨v13, ev13⟩ : ∃ z : Int32, z = x5 + 1 := ⟨_, rfl⟩
    have hX := nm_st hX ev13
    refine lv_iinc (v := v13) (lv' := [(5, .int v13), (0, .ref h), (1, .int x1), (2, .int x2), (3, .int x3), (4, .int x4)]) C.1 C.2.1 dX12_holds_69 hl (k := 0) rfl (by rw [ev13]; rfl) (by decide) rfl (fun ls hl => ?_)
    refine lv_goto (tgt := 22) C.1 C.2.1 dX12_holds_72 (by decide) ?_
    exact ih σ12 v13 x1 x2 x3 x4 H locs ls X hX hW (lv_sub hl [0, 1, 2, 3, 4, 5] rfl) K0
def M_holds_L90 : Nat → St → Int32 → Int32 → Int32 → Int32 → Int32 → Option (St × Int32)
  | 0, _, _, _, _, _, _ => none
  | n + 1, σ, x5, x1, x2, x3, x4 => if 72 ≤ x5 then some (σ, x5) else chkI x5 72 (chkI ((72 * x1) + x5) 576 (nm (s1 σ 52 ((72 * x1) + x5).toNatClampNeg (σ.1 53 x5.toNatClampNeg)) (fun σ23 => nm (x5 + 1) (fun v24 => M_holds_L90 n σ23 v24 x1 x2 x3 x4))))
set_option maxHeartbeats 4000000 in
set_option maxRecDepth 100000 in
theorem r_M_holds_L90 {p : Program} {l : Launch} {e : Env} {s : State} {m : MethodId} {args : Array Value} {below : List Frame} {meth : Method} {c : Code} {Q : State → Prop} {Ev : EvT} {D : va_G} {cs : Nat → ClassId} {h : Nat} {a : Nat → Nat} {A : Nat → Prop} (C : Cx p s m args c cX12_holds 6 wsX12_holds RX12) : ∀ (n : Nat) (σ : St) (x5 : Int32) (x1 : Int32) (x2 : Int32) (x3 : Int32) (x4 : Int32) (H : Heap) (locs : List Loc) (ls : Array Slot) (X : St × Int32), some X = M_holds_L90 n σ x5 x1 x2 x3 x4 → GW Ev D (tyM cs) (wM h a cs) A s σ H locs → lv_has ls 6 [(5, .int x5), (0, .ref h), (1, .int x1), (2, .int x2), (3, .int x3), (4, .int x4)] → (∀ (τ : St) (z5 : Int32) (H : Heap) (locs : List Loc) (ls : Array Slot), X = (τ, z5) → GW Ev D (tyM cs) (wM h a cs) A s τ H locs → lv_has ls 6 [(5, .int z5), (0, .ref h), (1, .int x1), (2, .int x2), (3, .int x3), (4, .int x4)] → W p l e rm_M_holds s m args below meth c H locs 0 0 Q (F0 m 122 ls [])) → W p l e rm_M_holds s m args below meth c H locs 0 0 Q (F0 m 90 ls []) := by
  have hin : ∀ w ∈ wsX120, w ∈ wsX12_holds := fun w hw => List.mem_cons_of_mem _ (List.mem_append_right _ hw)
  have f52 : (Cond.fieldLink RX12 103 (TX12 52).1 (TX12 52).2.1 (TX12 52).2.2.1).before _ s = true := C.2.2.2.2 _ (List.mem_of_getElem? (i := 1) rfl)
  have f53 : (Cond.fieldLink RX12 106 (TX12 53).1 (TX12 53).2.1 (TX12 53).2.2.1).before _ s = true := C.2.2.2.2 _ (List.mem_of_getElem? (i := 3) rfl)
  have k327 : (Cond.constant RX12 327 (1000000)).before _ s = true := C.2.2.2.2 _ (List.mem_of_getElem? (i := 2) rfl)
  intro n
  induction n with
  | zero =>
    intro σ x5 x1 x2 x3 x4 H locs ls X hX hW hl K0
    cases hX
  | succ n ih =>
    intro σ x5 x1 x2 x3 x4 H locs ls X hX hW hl K0
    unfold M_holds_L90 at hX
    refine lv_iload C.1 C.2.1 dX12_holds_90 (lv_at hl 0 rfl) ?_
    refine lv_bipush (v := 72) C.1 C.2.1 dX12_holds_92 (by decide) ?_
    refine lv_icmp_ge (tgt := 122) C.1 C.2.1 dX12_holds_94 (by decide) (fun c22 => ?_) (fun c22 => ?_)
    · have hX := br_p hX c22
      exact K0 σ x5 H locs ls (Option.some.inj hX) hW (lv_sub hl [0, 1, 2, 3, 4, 5] rfl)
    have hX := br_n hX c22
    refine lv_aload_n C.1 C.2.1 dX12_holds_97 rfl (lv_at hl 1 rfl) ?_
    refine M_geta C hin hW 52 rfl (by decide) f52 dX12_holds_98 ?_
    refine lv_bipush (v := 72) C.1 C.2.1 dX12_holds_101 (by decide) ?_
    refine lv_iload_n C.1 C.2.1 dX12_holds_103 rfl (lv_at hl 2 rfl) ?_
    refine lv_imul C.1 C.2.1 dX12_holds_104 ?_
    refine lv_iload C.1 C.2.1 dX12_holds_105 (lv_at hl 0 rfl) ?_
    refine lv_iadd C.1 C.2.1 dX12_holds_107 ?_
    refine lv_aload_n C.1 C.2.1 dX12_holds_108 rfl (lv_at hl 1 rfl) ?_
    refine M_geta C hin hW 53 rfl (by decide) f53 dX12_holds_109 ?_
    refine lv_iload C.1 C.2.1 dX12_holds_112 (lv_at hl 0 rfl) ?_
    obtain ⟨hi, hX⟩ := chkI_st hX
    refine M_ldI C hW 53 rfl hi dX12_holds_114 ?_
    obtain ⟨hi, hX⟩ := chkI_st hX
    refine M_stI C hW 52 rfl hi dX12_holds_115 (fun H locs σ23 eσ23 hW => ?_)
    have hX := nm_st hX eσ23
    obtain ⟨v24, ev24⟩ : ∃ z : Int32, z = x5 + 1 := ⟨_, rfl⟩
    have hX := nm_st hX ev24
    refine lv_iinc (v := v24) (lv' := [(5, .int v24), (0, .ref h), (1, .int x1), (2, .int x2), (3, .int x3), (4, .int x4)]) C.1 C.2.1 dX12_holds_116 hl (k := 0) rfl (by rw [ev24]; rfl) (by decide) rfl (fun ls hl => ?_)
    refine lv_goto (tgt := 90) C.1 C.2.1 dX12_holds_119 (by decide) ?_
    exact ih σ23 v24 x1 x2 x3 x4 H locs ls X hX hW (lv_sub hl [0, 1, 2, 3, 4, 5] rfl) K0
def M_holds (σ : St) (x1 : Int32) (x2 : Int32) (x3 : Int32) (x4 : Int32) : Option (Int32 × St) := chkI ((72 * x1) + x2) 576 (if (σ.1 52 ((72 * x1) + x2).toNatClampNeg) = 1000000 then some (0, σ) else bnd (M_holds_L22 100000 σ 0 x1 x2 x3 x4) (fun q => nm2 q (fun σ14 v15 => bnd2 (M_solve σ14 x3) (fun v17 σ16 => if v17 = x4 then some (1, σ16) else bnd (M_holds_L90 100000 σ16 0 x1 x2 x3 x4) (fun q => nm2 q (fun σ25 v26 => some (0, σ25)))))))
set_option maxHeartbeats 4000000 in
set_option maxRecDepth 100000 in
theorem c_M_holds {Ev : EvT} (l : Launch) (D : va_G) (cs : Nat → ClassId) (h : Nat) (a : Nat → Nat) (σ : St) (x1 : Int32) (x2 : Int32) (x3 : Int32) (x4 : Int32) (X : Int32 × St) (hX : some X = M_holds σ x1 x2 x3 x4) : cGi Ev l D (tyM cs) (wM h a cs) yX12_holds wsX12_holds rm_M_holds 0 0 [.ref h, .int x1, .int x2, .int x3, .int x4] σ (fun r u => (r, u) = X) := by
  refine G_ini (cc := cX12_holds) (maxL := 6) (ret := some .boolean) (by decide) rfl (Nat.le_of_ble_eq_true rfl) ?_
  intro p e s m below meth c A ls C hr hlk hini hA hW hl
  have C : Cx p s m _ c cX12_holds 6 wsX12_holds RX12 := C
  have hl : lv_has ls 6 [(0, .ref h), (1, .int x1), (2, .int x2), (3, .int x3), (4, .int x4)] := hl
  have hin : ∀ w ∈ wsX120, w ∈ wsX12_holds := fun w hw => List.mem_cons_of_mem _ (List.mem_append_right _ hw)
  have f52 : (Cond.fieldLink RX12 103 (TX12 52).1 (TX12 52).2.1 (TX12 52).2.2.1).before _ s = true := C.2.2.2.2 _ (List.mem_of_getElem? (i := 1) rfl)
  have f53 : (Cond.fieldLink RX12 106 (TX12 53).1 (TX12 53).2.1 (TX12 53).2.2.1).before _ s = true := C.2.2.2.2 _ (List.mem_of_getElem? (i := 3) rfl)
  have k327 : (Cond.constant RX12 327 (1000000)).before _ s = true := C.2.2.2.2 _ (List.mem_of_getElem? (i := 2) rfl)
  obtain ⟨H, hH⟩ : ∃ H, H = s.heap := ⟨_, rfl⟩
  obtain ⟨locs, hlo⟩ : ∃ z : List Loc, z = [] := ⟨_, rfl⟩
  have hW : GW Ev D (tyM cs) (wM h a cs) A s σ H locs := by rw [hH, hlo]; exact hW
  rw [show W p l e rm_M_holds s m _ below meth c s.heap [] = W p l e rm_M_holds s m _ below meth c H locs from by rw [hH, hlo]]
  unfold M_holds at hX
  refine lv_aload_n C.1 C.2.1 dX12_holds_0 rfl (lv_at hl 0 rfl) ?_
  refine M_geta C hin hW 52 rfl (by decide) f52 dX12_holds_1 ?_
  refine lv_bipush (v := 72) C.1 C.2.1 dX12_holds_4 (by decide) ?_
  refine lv_iload_n C.1 C.2.1 dX12_holds_6 rfl (lv_at hl 1 rfl) ?_
  refine lv_imul C.1 C.2.1 dX12_holds_7 ?_
  refine lv_iload_n C.1 C.2.1 dX12_holds_8 rfl (lv_at hl 2 rfl) ?_
  refine lv_iadd C.1 C.2.1 dX12_holds_9 ?_
  obtain ⟨hi, hX⟩ := chkI_st hX
  refine M_ldI C hW 52 rfl hi dX12_holds_10 ?_
  refine lv_ldcw (v := 1000000) C.1 C.2.1 C.2.2.2.1 k327 dX12_holds_11 ?_
  refine lv_icmp_ne (tgt := 19) C.1 C.2.1 dX12_holds_14 (by decide) (fun c1 => ?_) (fun c1 => ?_)
  · have hX := br_n hX c1
    refine lv_iconst (v := 0) C.1 C.2.1 dX12_holds_19 (by decide) ?_
    refine lv_istore (lv' := [(5, .int 0), (0, .ref h), (1, .int x1), (2, .int x2), (3, .int x3), (4, .int x4)]) C.1 C.2.1 dX12_holds_20 hl (by decide) rfl (fun ls hl => ?_)
    obtain ⟨q, hq, hX⟩ := bnd_st hX
    refine r_M_holds_L22 C 100000 σ 0 x1 x2 x3 x4 H locs ls q hq.symm hW (lv_sub hl [0, 1, 2, 3, 4, 5] rfl) ?_
    intro σ14 v15 H locs ls hq hW hl
    subst hq
    have hX := nm2_st hX rfl
    refine lv_aload_n C.1 C.2.1 dX12_holds_75 rfl (lv_at hl 1 rfl) ?_
    refine lv_iload_n C.1 C.2.1 dX12_holds_76 rfl (lv_at hl 4 rfl) ?_
    obtain ⟨v17, σ16, hq, hX⟩ := bnd2_st hX
    refine G_V0e (As := [.int x3]) (rest := []) C hW (c_M_solve l D cs h a σ14 x3 (v17, σ16) hq.symm) (cwV 1 C.2.2.2.2 gX12_holds_X12_solve rfl rfl rfl (by decide +kernel) ⟨Nat.le_of_ble_eq_true rfl, Nat.le_of_ble_eq_true rfl⟩) (M_recv hW) rfl hl.1 rfl (Nat.le_of_ble_eq_true rfl) dX12_holds_77 (fun H locs hW => ?_)
    refine lv_iload C.1 C.2.1 dX12_holds_80 (lv_at hl 5 rfl) ?_
    refine lv_icmp_ne (tgt := 87) C.1 C.2.1 dX12_holds_82 (by decide) (fun c18 => ?_) (fun c18 => ?_)
    · have hX := br_n hX c18
      refine lv_iconst (v := 0) C.1 C.2.1 dX12_holds_87 (by decide) ?_
      refine lv_istore (lv' := [(5, .int 0), (0, .ref h), (1, .int x1), (2, .int x2), (3, .int x3), (4, .int x4)]) C.1 C.2.1 dX12_holds_88 hl (by decide) rfl (fun ls hl => ?_)
      obtain ⟨q, hq, hX⟩ := bnd_st hX
      refine r_M_holds_L90 C 100000 σ16 0 x1 x2 x3 x4 H locs ls q hq.symm hW (lv_sub hl [0, 1, 2, 3, 4, 5] rfl) ?_
      intro σ25 v26 H locs ls hq hW hl
      subst hq
      have hX := nm2_st hX rfl
      refine lv_iconst (v := 0) C.1 C.2.1 dX12_holds_122 (by decide) ?_
      exact G_retz C hr hlk hA hW rfl (Option.some.inj hX).symm dX12_holds_123
    have hX := br_p hX c18
    refine lv_iconst (v := 1) C.1 C.2.1 dX12_holds_85 (by decide) ?_
    exact G_retz C hr hlk hA hW rfl (Option.some.inj hX).symm dX12_holds_86
  have hX := br_p hX c1
  refine lv_iconst (v := 0) C.1 C.2.1 dX12_holds_17 (by decide) ?_
  exact G_retz C hr hlk hA hW rfl (Option.some.inj hX).symm dX12_holds_18
abbrev rm_M_sell : Room := { frames := 3, cells := 0, slots := 0, locals := 74 }
def M_sell_L33 : Nat → St → Int32 → Int32 → Int32 → Option (St × Int32)
  | 0, _, _, _, _ => none
  | n + 1, σ, x3, x2, x1 => if 72 ≤ x3 then some (σ, x3) else if 64 ≤ x3 then chkI ((72 * x2) + x3) 576 (nm (s1 σ 52 ((72 * x2) + x3).toNatClampNeg 255) (fun σ12 => nm (x3 + 1) (fun v13 => M_sell_L33 n σ12 v13 x2 x1))) else chkI ((72 * x2) + x3) 576 (nm (s1 σ 52 ((72 * x2) + x3).toNatClampNeg 1000000) (fun σ14 => nm (x3 + 1) (fun v15 => M_sell_L33 n σ14 v15 x2 x1)))
set_option maxHeartbeats 4000000 in
set_option maxRecDepth 100000 in
theorem r_M_sell_L33 {p : Program} {l : Launch} {e : Env} {s : State} {m : MethodId} {args : Array Value} {below : List Frame} {meth : Method} {c : Code} {Q : State → Prop} {Ev : EvT} {D : va_G} {cs : Nat → ClassId} {h : Nat} {a : Nat → Nat} {A : Nat → Prop} (C : Cx p s m args c cX12_sell 5 wsX12_sell RX12) : ∀ (n : Nat) (σ : St) (x3 : Int32) (x2 : Int32) (x1 : Int32) (H : Heap) (locs : List Loc) (ls : Array Slot) (X : St × Int32), some X = M_sell_L33 n σ x3 x2 x1 → GW Ev D (tyM cs) (wM h a cs) A s σ H locs → lv_has ls 5 [(3, .int x3), (2, .int x2), (1, .int x1), (0, .ref h)] → (∀ (τ : St) (z3 : Int32) (H : Heap) (locs : List Loc) (ls : Array Slot), X = (τ, z3) → GW Ev D (tyM cs) (wM h a cs) A s τ H locs → lv_has ls 5 [(3, .int z3), (2, .int x2), (1, .int x1), (0, .ref h)] → W p l e rm_M_sell s m args below meth c H locs 0 0 Q (F0 m 71 ls [])) → W p l e rm_M_sell s m args below meth c H locs 0 0 Q (F0 m 33 ls []) := by
  have hin : ∀ w ∈ wsX120, w ∈ wsX12_sell := fun w hw => List.mem_cons_of_mem _ (List.mem_append_right _ hw)
  have f0 : (Cond.fieldLink RX12 133 (TX12 0).1 (TX12 0).2.1 (TX12 0).2.2.1).before _ s = true := C.2.2.2.2 _ (List.mem_of_getElem? (i := 1) rfl)
  have f20 : (Cond.fieldLink RX12 150 (TX12 20).1 (TX12 20).2.1 (TX12 20).2.2.1).before _ s = true := C.2.2.2.2 _ (List.mem_of_getElem? (i := 2) rfl)
  have f52 : (Cond.fieldLink RX12 103 (TX12 52).1 (TX12 52).2.1 (TX12 52).2.2.1).before _ s = true := C.2.2.2.2 _ (List.mem_of_getElem? (i := 3) rfl)
  have k327 : (Cond.constant RX12 327 (1000000)).before _ s = true := C.2.2.2.2 _ (List.mem_of_getElem? (i := 4) rfl)
  intro n
  induction n with
  | zero =>
    intro σ x3 x2 x1 H locs ls X hX hW hl K0
    cases hX
  | succ n ih =>
    intro σ x3 x2 x1 H locs ls X hX hW hl K0
    unfold M_sell_L33 at hX
    refine lv_iload_n C.1 C.2.1 dX12_sell_33 rfl (lv_at hl 0 rfl) ?_
    refine lv_bipush (v := 72) C.1 C.2.1 dX12_sell_34 (by decide) ?_
    refine lv_icmp_ge (tgt := 71) C.1 C.2.1 dX12_sell_36 (by decide) (fun c10 => ?_) (fun c10 => ?_)
    · have hX := br_p hX c10
      exact K0 σ x3 H locs ls (Option.some.inj hX) hW (lv_sub hl [0, 1, 2, 3] rfl)
    have hX := br_n hX c10
    refine lv_aload_n C.1 C.2.1 dX12_sell_39 rfl (lv_at hl 3 rfl) ?_
    refine M_geta C hin hW 52 rfl (by decide) f52 dX12_sell_40 ?_
    refine lv_bipush (v := 72) C.1 C.2.1 dX12_sell_43 (by decide) ?_
    refine lv_iload_n C.1 C.2.1 dX12_sell_45 rfl (lv_at hl 1 rfl) ?_
    refine lv_imul C.1 C.2.1 dX12_sell_46 ?_
    refine lv_iload_n C.1 C.2.1 dX12_sell_47 rfl (lv_at hl 0 rfl) ?_
    refine lv_iadd C.1 C.2.1 dX12_sell_48 ?_
    refine lv_iload_n C.1 C.2.1 dX12_sell_49 rfl (lv_at hl 0 rfl) ?_
    refine lv_bipush (v := 64) C.1 C.2.1 dX12_sell_50 (by decide) ?_
    refine lv_icmp_ge (tgt := 61) C.1 C.2.1 dX12_sell_52 (by decide) (fun c11 => ?_) (fun c11 => ?_)
    · have hX := br_p hX c11
      refine lv_sipush (v := 255) C.1 C.2.1 dX12_sell_61 (by decide) ?_
      obtain ⟨hi, hX⟩ := chkI_st hX
      refine M_stI C hW 52 rfl hi dX12_sell_64 (fun H locs σ12 eσ12 hW => ?_)
      have hX := nm_st hX eσ12
      obtain ⟨v13, ev13⟩ : ∃ z : Int32, z = x3 + 1 := ⟨_, rfl⟩
      have hX := nm_st hX ev13
      refine lv_iinc (v := v13) (lv' := [(3, .int v13), (2, .int x2), (1, .int x1), (0, .ref h)]) C.1 C.2.1 dX12_sell_65 hl (k := 0) rfl (by rw [ev13]; rfl) (by decide) rfl (fun ls hl => ?_)
      refine lv_goto (tgt := 33) C.1 C.2.1 dX12_sell_68 (by decide) ?_
      exact ih σ12 v13 x2 x1 H locs ls X hX hW (lv_sub hl [0, 1, 2, 3] rfl) K0
    have hX := br_n hX c11
    refine lv_ldcw (v := 1000000) C.1 C.2.1 C.2.2.2.1 k327 dX12_sell_55 ?_
    refine lv_goto (tgt := 64) C.1 C.2.1 dX12_sell_58 (by decide) ?_
    obtain ⟨hi, hX⟩ := chkI_st hX
    refine M_stI C hW 52 rfl hi dX12_sell_64 (fun H locs σ14 eσ14 hW => ?_)
    have hX := nm_st hX eσ14
    obtain ⟨v15, ev15⟩ : ∃ z : Int32, z = x3 + 1 := ⟨_, rfl⟩
    have hX := nm_st hX ev15
    refine lv_iinc (v := v15) (lv' := [(3, .int v15), (2, .int x2), (1, .int x1), (0, .ref h)]) C.1 C.2.1 dX12_sell_65 hl (k := 0) rfl (by rw [ev15]; rfl) (by decide) rfl (fun ls hl => ?_)
    refine lv_goto (tgt := 33) C.1 C.2.1 dX12_sell_68 (by decide) ?_
    exact ih σ14 v15 x2 x1 H locs ls X hX hW (lv_sub hl [0, 1, 2, 3] rfl) K0
def M_sell_L73 : Nat → St → Int32 → Int32 → Int32 → Option (St × Int32)
  | 0, _, _, _, _ => none
  | n + 1, σ, x3, x2, x1 => chkI x2 30 (if (σ.1 17 x2.toNatClampNeg) ≤ x3 then some (σ, x3) else chkI ((12 * x2) + x3) 360 (if (σ.1 61 ((12 * x2) + x3).toNatClampNeg) ≤ 0 then nm (x3 + 1) (fun v25 => M_sell_L73 n σ v25 x2 x1) else chkI ((12 * x2) + x3) 360 (chkI ((12 * x2) + x3) 360 (chkI ((72 * x2) + (σ.1 16 ((12 * x2) + x3).toNatClampNeg)) 576 (nm (s1 σ 52 ((72 * x2) + (σ.1 16 ((12 * x2) + x3).toNatClampNeg)).toNatClampNeg (255 - (σ.1 61 ((12 * x2) + x3).toNatClampNeg))) (fun σ26 => nm (x3 + 1) (fun v27 => M_sell_L73 n σ26 v27 x2 x1)))))))
set_option maxHeartbeats 4000000 in
set_option maxRecDepth 100000 in
theorem r_M_sell_L73 {p : Program} {l : Launch} {e : Env} {s : State} {m : MethodId} {args : Array Value} {below : List Frame} {meth : Method} {c : Code} {Q : State → Prop} {Ev : EvT} {D : va_G} {cs : Nat → ClassId} {h : Nat} {a : Nat → Nat} {A : Nat → Prop} (C : Cx p s m args c cX12_sell 5 wsX12_sell RX12) : ∀ (n : Nat) (σ : St) (x3 : Int32) (x2 : Int32) (x1 : Int32) (H : Heap) (locs : List Loc) (ls : Array Slot) (X : St × Int32), some X = M_sell_L73 n σ x3 x2 x1 → GW Ev D (tyM cs) (wM h a cs) A s σ H locs → lv_has ls 5 [(3, .int x3), (2, .int x2), (1, .int x1), (0, .ref h)] → (∀ (τ : St) (z3 : Int32) (H : Heap) (locs : List Loc) (ls : Array Slot), X = (τ, z3) → GW Ev D (tyM cs) (wM h a cs) A s τ H locs → lv_has ls 5 [(3, .int z3), (2, .int x2), (1, .int x1), (0, .ref h)] → W p l e rm_M_sell s m args below meth c H locs 0 0 Q (F0 m 139 ls [])) → W p l e rm_M_sell s m args below meth c H locs 0 0 Q (F0 m 73 ls []) := by
  have hin : ∀ w ∈ wsX120, w ∈ wsX12_sell := fun w hw => List.mem_cons_of_mem _ (List.mem_append_right _ hw)
  have f0 : (Cond.fieldLink RX12 133 (TX12 0).1 (TX12 0).2.1 (TX12 0).2.2.1).before _ s = true := C.2.2.2.2 _ (List.mem_of_getElem? (i := 1) rfl)
  have f16 : (Cond.fieldLink RX12 47 (TX12 16).1 (TX12 16).2.1 (TX12 16).2.2.1).before _ s = true := C.2.2.2.2 _ (List.mem_of_getElem? (i := 7) rfl)
  have f17 : (Cond.fieldLink RX12 50 (TX12 17).1 (TX12 17).2.1 (TX12 17).2.2.1).before _ s = true := C.2.2.2.2 _ (List.mem_of_getElem? (i := 5) rfl)
  have f20 : (Cond.fieldLink RX12 150 (TX12 20).1 (TX12 20).2.1 (TX12 20).2.2.1).before _ s = true := C.2.2.2.2 _ (List.mem_of_getElem? (i := 2) rfl)
  have f52 : (Cond.fieldLink RX12 103 (TX12 52).1 (TX12 52).2.1 (TX12 52).2.2.1).before _ s = true := C.2.2.2.2 _ (List.mem_of_getElem? (i := 3) rfl)
  have f61 : (Cond.fieldLink RX12 130 (TX12 61).1 (TX12 61).2.1 (TX12 61).2.2.1).before _ s = true := C.2.2.2.2 _ (List.mem_of_getElem? (i := 6) rfl)
  have k327 : (Cond.constant RX12 327 (1000000)).before _ s = true := C.2.2.2.2 _ (List.mem_of_getElem? (i := 4) rfl)
  intro n
  induction n with
  | zero =>
    intro σ x3 x2 x1 H locs ls X hX hW hl K0
    cases hX
  | succ n ih =>
    intro σ x3 x2 x1 H locs ls X hX hW hl K0
    unfold M_sell_L73 at hX
    refine lv_iload_n C.1 C.2.1 dX12_sell_73 rfl (lv_at hl 0 rfl) ?_
    refine lv_aload_n C.1 C.2.1 dX12_sell_74 rfl (lv_at hl 3 rfl) ?_
    refine M_geta C hin hW 17 rfl (by decide) f17 dX12_sell_75 ?_
    refine lv_iload_n C.1 C.2.1 dX12_sell_78 rfl (lv_at hl 1 rfl) ?_
    obtain ⟨hi, hX⟩ := chkI_st hX
    refine M_ldI C hW 17 rfl hi dX12_sell_79 ?_
    refine lv_icmp_ge (tgt := 139) C.1 C.2.1 dX12_sell_80 (by decide) (fun c23 => ?_) (fun c23 => ?_)
    · have hX := br_p hX c23
      exact K0 σ x3 H locs ls (Option.some.inj hX) hW (lv_sub hl [0, 1, 2, 3] rfl)
    have hX := br_n hX c23
    refine lv_aload_n C.1 C.2.1 dX12_sell_83 rfl (lv_at hl 3 rfl) ?_
    refine M_geta C hin hW 61 rfl (by decide) f61 dX12_sell_84 ?_
    refine lv_bipush (v := 12) C.1 C.2.1 dX12_sell_87 (by decide) ?_
    refine lv_iload_n C.1 C.2.1 dX12_sell_89 rfl (lv_at hl 1 rfl) ?_
    refine lv_imul C.1 C.2.1 dX12_sell_90 ?_
    refine lv_iload_n C.1 C.2.1 dX12_sell_91 rfl (lv_at hl 0 rfl) ?_
    refine lv_iadd C.1 C.2.1 dX12_sell_92 ?_
    obtain ⟨hi, hX⟩ := chkI_st hX
    refine M_ldI C hW 61 rfl hi dX12_sell_93 ?_
    refine lv_if_le (tgt := 133) C.1 C.2.1 dX12_sell_94 (by decide) (fun c24 => ?_) (fun c24 => ?_)
    · have hX := br_p hX c24
      obtain ⟨v25, ev25⟩ : ∃ z : Int32, z = x3 + 1 := ⟨_, rfl⟩
      have hX := nm_st hX ev25
      refine lv_iinc (v := v25) (lv' := [(3, .int v25), (2, .int x2), (1, .int x1), (0, .ref h)]) C.1 C.2.1 dX12_sell_133 hl (k := 0) rfl (by rw [ev25]; rfl) (by decide) rfl (fun ls hl => ?_)
      refine lv_goto (tgt := 73) C.1 C.2.1 dX12_sell_136 (by decide) ?_
      exact ih σ v25 x2 x1 H locs ls X hX hW (lv_sub hl [0, 1, 2, 3] rfl) K0
    have hX := br_n hX c24
    refine lv_aload_n C.1 C.2.1 dX12_sell_97 rfl (lv_at hl 3 rfl) ?_
    refine M_geta C hin hW 52 rfl (by decide) f52 dX12_sell_98 ?_
    refine lv_bipush (v := 72) C.1 C.2.1 dX12_sell_101 (by decide) ?_
    refine lv_iload_n C.1 C.2.1 dX12_sell_103 rfl (lv_at hl 1 rfl) ?_
    refine lv_imul C.1 C.2.1 dX12_sell_104 ?_
    refine lv_aload_n C.1 C.2.1 dX12_sell_105 rfl (lv_at hl 3 rfl) ?_
    refine M_geta C hin hW 16 rfl (by decide) f16 dX12_sell_106 ?_
    refine lv_bipush (v := 12) C.1 C.2.1 dX12_sell_109 (by decide) ?_
    refine lv_iload_n C.1 C.2.1 dX12_sell_111 rfl (lv_at hl 1 rfl) ?_
    refine lv_imul C.1 C.2.1 dX12_sell_112 ?_
    refine lv_iload_n C.1 C.2.1 dX12_sell_113 rfl (lv_at hl 0 rfl) ?_
    refine lv_iadd C.1 C.2.1 dX12_sell_114 ?_
    obtain ⟨hi, hX⟩ := chkI_st hX
    refine M_ldI C hW 16 rfl hi dX12_sell_115 ?_
    refine lv_iadd C.1 C.2.1 dX12_sell_116 ?_
    refine lv_sipush (v := 255) C.1 C.2.1 dX12_sell_117 (by decide) ?_
    refine lv_aload_n C.1 C.2.1 dX12_sell_120 rfl (lv_at hl 3 rfl) ?_
    refine M_geta C hin hW 61 rfl (by decide) f61 dX12_sell_121 ?_
    refine lv_bipush (v := 12) C.1 C.2.1 dX12_sell_124 (by decide) ?_
    refine lv_iload_n C.1 C.2.1 dX12_sell_126 rfl (lv_at hl 1 rfl) ?_
    refine lv_imul C.1 C.2.1 dX12_sell_127 ?_
    refine lv_iload_n C.1 C.2.1 dX12_sell_128 rfl (lv_at hl 0 rfl) ?_
    refine lv_iadd C.1 C.2.1 dX12_sell_129 ?_
    obtain ⟨hi, hX⟩ := chkI_st hX
    refine M_ldI C hW 61 rfl hi dX12_sell_130 ?_
    refine lv_isub C.1 C.2.1 dX12_sell_131 ?_
    obtain ⟨hi, hX⟩ := chkI_st hX
    refine M_stI C hW 52 rfl hi dX12_sell_132 (fun H locs σ26 eσ26 hW => ?_)
    have hX := nm_st hX eσ26
    obtain ⟨v27, ev27⟩ : ∃ z : Int32, z = x3 + 1 := ⟨_, rfl⟩
    have hX := nm_st hX ev27
    refine lv_iinc (v := v27) (lv' := [(3, .int v27), (2, .int x2), (1, .int x1), (0, .ref h)]) C.1 C.2.1 dX12_sell_133 hl (k := 0) rfl (by rw [ev27]; rfl) (by decide) rfl (fun ls hl => ?_)
    refine lv_goto (tgt := 73) C.1 C.2.1 dX12_sell_136 (by decide) ?_
    exact ih σ26 v27 x2 x1 H locs ls X hX hW (lv_sub hl [0, 1, 2, 3] rfl) K0
def M_sell_L26 : Nat → St → Int32 → Int32 → Option (St × Int32)
  | 0, _, _, _ => none
  | n + 1, σ, x2, x1 => if x1 ≤ x2 then some (σ, x2) else bnd (M_sell_L33 100000 σ 0 x2 x1) (fun q => nm2 q (fun σ32 v33 => bnd (M_sell_L73 100000 σ32 0 x2 x1) (fun q => nm2 q (fun σ34 v35 => nm (x2 + 1) (fun v36 => M_sell_L26 n σ34 v36 x1)))))
set_option maxHeartbeats 4000000 in
set_option maxRecDepth 100000 in
theorem r_M_sell_L26 {p : Program} {l : Launch} {e : Env} {s : State} {m : MethodId} {args : Array Value} {below : List Frame} {meth : Method} {c : Code} {Q : State → Prop} {Ev : EvT} {D : va_G} {cs : Nat → ClassId} {h : Nat} {a : Nat → Nat} {A : Nat → Prop} (C : Cx p s m args c cX12_sell 5 wsX12_sell RX12) : ∀ (n : Nat) (σ : St) (x2 : Int32) (x1 : Int32) (H : Heap) (locs : List Loc) (ls : Array Slot) (X : St × Int32), some X = M_sell_L26 n σ x2 x1 → GW Ev D (tyM cs) (wM h a cs) A s σ H locs → lv_has ls 5 [(2, .int x2), (1, .int x1), (0, .ref h)] → (∀ (τ : St) (z2 : Int32) (H : Heap) (locs : List Loc) (ls : Array Slot), X = (τ, z2) → GW Ev D (tyM cs) (wM h a cs) A s τ H locs → lv_has ls 5 [(2, .int z2), (1, .int x1), (0, .ref h)] → W p l e rm_M_sell s m args below meth c H locs 0 0 Q (F0 m 145 ls [])) → W p l e rm_M_sell s m args below meth c H locs 0 0 Q (F0 m 26 ls []) := by
  have hin : ∀ w ∈ wsX120, w ∈ wsX12_sell := fun w hw => List.mem_cons_of_mem _ (List.mem_append_right _ hw)
  have f0 : (Cond.fieldLink RX12 133 (TX12 0).1 (TX12 0).2.1 (TX12 0).2.2.1).before _ s = true := C.2.2.2.2 _ (List.mem_of_getElem? (i := 1) rfl)
  have f16 : (Cond.fieldLink RX12 47 (TX12 16).1 (TX12 16).2.1 (TX12 16).2.2.1).before _ s = true := C.2.2.2.2 _ (List.mem_of_getElem? (i := 7) rfl)
  have f17 : (Cond.fieldLink RX12 50 (TX12 17).1 (TX12 17).2.1 (TX12 17).2.2.1).before _ s = true := C.2.2.2.2 _ (List.mem_of_getElem? (i := 5) rfl)
  have f20 : (Cond.fieldLink RX12 150 (TX12 20).1 (TX12 20).2.1 (TX12 20).2.2.1).before _ s = true := C.2.2.2.2 _ (List.mem_of_getElem? (i := 2) rfl)
  have f52 : (Cond.fieldLink RX12 103 (TX12 52).1 (TX12 52).2.1 (TX12 52).2.2.1).before _ s = true := C.2.2.2.2 _ (List.mem_of_getElem? (i := 3) rfl)
  have f61 : (Cond.fieldLink RX12 130 (TX12 61).1 (TX12 61).2.1 (TX12 61).2.2.1).before _ s = true := C.2.2.2.2 _ (List.mem_of_getElem? (i := 6) rfl)
  have k327 : (Cond.constant RX12 327 (1000000)).before _ s = true := C.2.2.2.2 _ (List.mem_of_getElem? (i := 4) rfl)
  intro n
  induction n with
  | zero =>
    intro σ x2 x1 H locs ls X hX hW hl K0
    cases hX
  | succ n ih =>
    intro σ x2 x1 H locs ls X hX hW hl K0
    unfold M_sell_L26 at hX
    refine lv_iload_n C.1 C.2.1 dX12_sell_26 rfl (lv_at hl 0 rfl) ?_
    refine lv_iload_n C.1 C.2.1 dX12_sell_27 rfl (lv_at hl 1 rfl) ?_
    refine lv_icmp_ge (tgt := 145) C.1 C.2.1 dX12_sell_28 (by decide) (fun c31 => ?_) (fun c31 => ?_)
    · have hX := br_p hX c31
      exact K0 σ x2 H locs ls (Option.some.inj hX) hW (lv_sub hl [0, 1, 2] rfl)
    have hX := br_n hX c31
    refine lv_iconst (v := 0) C.1 C.2.1 dX12_sell_31 (by decide) ?_
    refine lv_istore_n (lv' := [(3, .int 0), (2, .int x2), (1, .int x1), (0, .ref h)]) C.1 C.2.1 dX12_sell_32 rfl hl (by decide) rfl (fun ls hl => ?_)
    obtain ⟨q, hq, hX⟩ := bnd_st hX
    refine r_M_sell_L33 C 100000 σ 0 x2 x1 H locs ls q hq.symm hW (lv_sub hl [0, 1, 2, 3] rfl) ?_
    intro σ32 v33 H locs ls hq hW hl
    subst hq
    have hX := nm2_st hX rfl
    refine lv_iconst (v := 0) C.1 C.2.1 dX12_sell_71 (by decide) ?_
    refine lv_istore_n (lv' := [(3, .int 0), (2, .int x2), (1, .int x1), (0, .ref h)]) C.1 C.2.1 dX12_sell_72 rfl hl (by decide) rfl (fun ls hl => ?_)
    obtain ⟨q, hq, hX⟩ := bnd_st hX
    refine r_M_sell_L73 C 100000 σ32 0 x2 x1 H locs ls q hq.symm hW (lv_sub hl [0, 1, 2, 3] rfl) ?_
    intro σ34 v35 H locs ls hq hW hl
    subst hq
    have hX := nm2_st hX rfl
    obtain ⟨v36, ev36⟩ : ∃ z : Int32, z = x2 + 1 := ⟨_, rfl⟩
    have hX := nm_st hX ev36
    refine lv_iinc (v := v36) (lv' := [(2, .int v36), (3, .int v35), (1, .int x1), (0, .ref h)]) C.1 C.2.1 dX12_sell_139 hl (k := 1) rfl (by rw [ev36]; rfl) (by decide) rfl (fun ls hl => ?_)
    refine lv_goto (tgt := 26) C.1 C.2.1 dX12_sell_142 (by decide) ?_
    exact ih σ34 v36 x1 H locs ls X hX hW (lv_sub hl [0, 2, 3] rfl) K0
def M_sell_L161 : Nat → St → Int32 → Int32 → Int32 → Int32 → Option (St × Int32)
  | 0, _, _, _, _, _ => none
  | n + 1, σ, x4, x3, x2, x1 => bnd2 (M_holds σ x3 x4 x1 x2) (fun v47 σ46 => if v47 = 0 then nm (x4 + 1) (fun v49 => M_sell_L161 n σ46 v49 x3 x2 x1) else some (σ46, x4))
set_option maxHeartbeats 4000000 in
set_option maxRecDepth 100000 in
theorem r_M_sell_L161 {p : Program} {l : Launch} {e : Env} {s : State} {m : MethodId} {args : Array Value} {below : List Frame} {meth : Method} {c : Code} {Q : State → Prop} {Ev : EvT} {D : va_G} {cs : Nat → ClassId} {h : Nat} {a : Nat → Nat} {A : Nat → Prop} (C : Cx p s m args c cX12_sell 5 wsX12_sell RX12) : ∀ (n : Nat) (σ : St) (x4 : Int32) (x3 : Int32) (x2 : Int32) (x1 : Int32) (H : Heap) (locs : List Loc) (ls : Array Slot) (X : St × Int32), some X = M_sell_L161 n σ x4 x3 x2 x1 → GW Ev D (tyM cs) (wM h a cs) A s σ H locs → lv_has ls 5 [(4, .int x4), (3, .int x3), (2, .int x2), (1, .int x1), (0, .ref h)] → (∀ (τ : St) (z4 : Int32) (H : Heap) (locs : List Loc) (ls : Array Slot), X = (τ, z4) → GW Ev D (tyM cs) (wM h a cs) A s τ H locs → lv_has ls 5 [(4, .int z4), (3, .int x3), (2, .int x2), (1, .int x1), (0, .ref h)] → W p l e rm_M_sell s m args below meth c H locs 0 0 Q (F0 m 179 ls [])) → W p l e rm_M_sell s m args below meth c H locs 0 0 Q (F0 m 161 ls []) := by
  have hin : ∀ w ∈ wsX120, w ∈ wsX12_sell := fun w hw => List.mem_cons_of_mem _ (List.mem_append_right _ hw)
  have f0 : (Cond.fieldLink RX12 133 (TX12 0).1 (TX12 0).2.1 (TX12 0).2.2.1).before _ s = true := C.2.2.2.2 _ (List.mem_of_getElem? (i := 1) rfl)
  have f16 : (Cond.fieldLink RX12 47 (TX12 16).1 (TX12 16).2.1 (TX12 16).2.2.1).before _ s = true := C.2.2.2.2 _ (List.mem_of_getElem? (i := 7) rfl)
  have f17 : (Cond.fieldLink RX12 50 (TX12 17).1 (TX12 17).2.1 (TX12 17).2.2.1).before _ s = true := C.2.2.2.2 _ (List.mem_of_getElem? (i := 5) rfl)
  have f20 : (Cond.fieldLink RX12 150 (TX12 20).1 (TX12 20).2.1 (TX12 20).2.2.1).before _ s = true := C.2.2.2.2 _ (List.mem_of_getElem? (i := 2) rfl)
  have f52 : (Cond.fieldLink RX12 103 (TX12 52).1 (TX12 52).2.1 (TX12 52).2.2.1).before _ s = true := C.2.2.2.2 _ (List.mem_of_getElem? (i := 3) rfl)
  have f61 : (Cond.fieldLink RX12 130 (TX12 61).1 (TX12 61).2.1 (TX12 61).2.2.1).before _ s = true := C.2.2.2.2 _ (List.mem_of_getElem? (i := 6) rfl)
  have k327 : (Cond.constant RX12 327 (1000000)).before _ s = true := C.2.2.2.2 _ (List.mem_of_getElem? (i := 4) rfl)
  intro n
  induction n with
  | zero =>
    intro σ x4 x3 x2 x1 H locs ls X hX hW hl K0
    cases hX
  | succ n ih =>
    intro σ x4 x3 x2 x1 H locs ls X hX hW hl K0
    unfold M_sell_L161 at hX
    refine lv_aload_n C.1 C.2.1 dX12_sell_161 rfl (lv_at hl 4 rfl) ?_
    refine lv_iload_n C.1 C.2.1 dX12_sell_162 rfl (lv_at hl 1 rfl) ?_
    refine lv_iload C.1 C.2.1 dX12_sell_163 (lv_at hl 0 rfl) ?_
    refine lv_iload_n C.1 C.2.1 dX12_sell_165 rfl (lv_at hl 3 rfl) ?_
    refine lv_iload_n C.1 C.2.1 dX12_sell_166 rfl (lv_at hl 2 rfl) ?_
    obtain ⟨v47, σ46, hq, hX⟩ := bnd2_st hX
    refine G_V0e (As := [.int x3, .int x4, .int x1, .int x2]) (rest := []) C hW (c_M_holds l D cs h a σ x3 x4 x1 x2 (v47, σ46) hq.symm) (cwV 4 C.2.2.2.2 gX12_sell_X12_holds rfl rfl rfl (by decide +kernel) ⟨Nat.le_of_ble_eq_true rfl, Nat.le_of_ble_eq_true rfl⟩) (M_recv hW) rfl hl.1 rfl (Nat.le_of_ble_eq_true rfl) dX12_sell_167 (fun H locs hW => ?_)
    refine lv_if_ne (tgt := 179) C.1 C.2.1 dX12_sell_170 (by decide) (fun c48 => ?_) (fun c48 => ?_)
    · have hX := br_n hX c48
      exact K0 σ46 x4 H locs ls (Option.some.inj hX) hW (lv_sub hl [0, 1, 2, 3, 4] rfl)
    have hX := br_p hX c48
    obtain ⟨v49, ev49⟩ : ∃ z : Int32, z = x4 + 1 := ⟨_, rfl⟩
    have hX := nm_st hX ev49
    refine lv_iinc (v := v49) (lv' := [(4, .int v49), (3, .int x3), (2, .int x2), (1, .int x1), (0, .ref h)]) C.1 C.2.1 dX12_sell_173 hl (k := 0) rfl (by rw [ev49]; rfl) (by decide) rfl (fun ls hl => ?_)
    refine lv_goto (tgt := 161) C.1 C.2.1 dX12_sell_176 (by decide) ?_
    exact ih σ46 v49 x3 x2 x1 H locs ls X hX hW (lv_sub hl [0, 1, 2, 3, 4] rfl) K0
def M_sell_L153 : Nat → St → Int32 → Int32 → Int32 → Option (St × Int32)
  | 0, _, _, _, _ => none
  | n + 1, σ, x3, x2, x1 => if x1 ≤ x3 then some (σ, x3) else bnd (M_sell_L161 100000 σ 0 x3 x2 x1) (fun q => nm2 q (fun σ58 v59 => if 64 ≤ v59 then chkI x3 8 (nm (s1 σ58 59 x3.toNatClampNeg (-1)) (fun σ61 => nm (x3 + 1) (fun v62 => M_sell_L153 n σ61 v62 x2 x1))) else chkI x3 8 (nm (s1 σ58 59 x3.toNatClampNeg v59) (fun σ63 => nm (x3 + 1) (fun v64 => M_sell_L153 n σ63 v64 x2 x1)))))
set_option maxHeartbeats 4000000 in
set_option maxRecDepth 100000 in
theorem r_M_sell_L153 {p : Program} {l : Launch} {e : Env} {s : State} {m : MethodId} {args : Array Value} {below : List Frame} {meth : Method} {c : Code} {Q : State → Prop} {Ev : EvT} {D : va_G} {cs : Nat → ClassId} {h : Nat} {a : Nat → Nat} {A : Nat → Prop} (C : Cx p s m args c cX12_sell 5 wsX12_sell RX12) : ∀ (n : Nat) (σ : St) (x3 : Int32) (x2 : Int32) (x1 : Int32) (H : Heap) (locs : List Loc) (ls : Array Slot) (X : St × Int32), some X = M_sell_L153 n σ x3 x2 x1 → GW Ev D (tyM cs) (wM h a cs) A s σ H locs → lv_has ls 5 [(3, .int x3), (2, .int x2), (1, .int x1), (0, .ref h)] → (∀ (τ : St) (z3 : Int32) (H : Heap) (locs : List Loc) (ls : Array Slot), X = (τ, z3) → GW Ev D (tyM cs) (wM h a cs) A s τ H locs → lv_has ls 5 [(3, .int z3), (2, .int x2), (1, .int x1), (0, .ref h)] → W p l e rm_M_sell s m args below meth c H locs 0 0 Q (F0 m 204 ls [])) → W p l e rm_M_sell s m args below meth c H locs 0 0 Q (F0 m 153 ls []) := by
  have hin : ∀ w ∈ wsX120, w ∈ wsX12_sell := fun w hw => List.mem_cons_of_mem _ (List.mem_append_right _ hw)
  have f0 : (Cond.fieldLink RX12 133 (TX12 0).1 (TX12 0).2.1 (TX12 0).2.2.1).before _ s = true := C.2.2.2.2 _ (List.mem_of_getElem? (i := 1) rfl)
  have f16 : (Cond.fieldLink RX12 47 (TX12 16).1 (TX12 16).2.1 (TX12 16).2.2.1).before _ s = true := C.2.2.2.2 _ (List.mem_of_getElem? (i := 7) rfl)
  have f17 : (Cond.fieldLink RX12 50 (TX12 17).1 (TX12 17).2.1 (TX12 17).2.2.1).before _ s = true := C.2.2.2.2 _ (List.mem_of_getElem? (i := 5) rfl)
  have f20 : (Cond.fieldLink RX12 150 (TX12 20).1 (TX12 20).2.1 (TX12 20).2.2.1).before _ s = true := C.2.2.2.2 _ (List.mem_of_getElem? (i := 2) rfl)
  have f52 : (Cond.fieldLink RX12 103 (TX12 52).1 (TX12 52).2.1 (TX12 52).2.2.1).before _ s = true := C.2.2.2.2 _ (List.mem_of_getElem? (i := 3) rfl)
  have f59 : (Cond.fieldLink RX12 124 (TX12 59).1 (TX12 59).2.1 (TX12 59).2.2.1).before _ s = true := C.2.2.2.2 _ (List.mem_of_getElem? (i := 8) rfl)
  have f61 : (Cond.fieldLink RX12 130 (TX12 61).1 (TX12 61).2.1 (TX12 61).2.2.1).before _ s = true := C.2.2.2.2 _ (List.mem_of_getElem? (i := 6) rfl)
  have k327 : (Cond.constant RX12 327 (1000000)).before _ s = true := C.2.2.2.2 _ (List.mem_of_getElem? (i := 4) rfl)
  intro n
  induction n with
  | zero =>
    intro σ x3 x2 x1 H locs ls X hX hW hl K0
    cases hX
  | succ n ih =>
    intro σ x3 x2 x1 H locs ls X hX hW hl K0
    unfold M_sell_L153 at hX
    refine lv_iload_n C.1 C.2.1 dX12_sell_153 rfl (lv_at hl 0 rfl) ?_
    refine lv_iload_n C.1 C.2.1 dX12_sell_154 rfl (lv_at hl 2 rfl) ?_
    refine lv_icmp_ge (tgt := 204) C.1 C.2.1 dX12_sell_155 (by decide) (fun c57 => ?_) (fun c57 => ?_)
    · have hX := br_p hX c57
      exact K0 σ x3 H locs ls (Option.some.inj hX) hW (lv_sub hl [0, 1, 2, 3] rfl)
    have hX := br_n hX c57
    refine lv_iconst (v := 0) C.1 C.2.1 dX12_sell_158 (by decide) ?_
    refine lv_istore (lv' := [(4, .int 0), (3, .int x3), (2, .int x2), (1, .int x1), (0, .ref h)]) C.1 C.2.1 dX12_sell_159 hl (by decide) rfl (fun ls hl => ?_)
    obtain ⟨q, hq, hX⟩ := bnd_st hX
    refine r_M_sell_L161 C 100000 σ 0 x3 x2 x1 H locs ls q hq.symm hW (lv_sub hl [0, 1, 2, 3, 4] rfl) ?_
    intro σ58 v59 H locs ls hq hW hl
    subst hq
    have hX := nm2_st hX rfl
    refine lv_aload_n C.1 C.2.1 dX12_sell_179 rfl (lv_at hl 4 rfl) ?_
    refine M_geta C hin hW 59 rfl (by decide) f59 dX12_sell_180 ?_
    refine lv_iload_n C.1 C.2.1 dX12_sell_183 rfl (lv_at hl 1 rfl) ?_
    refine lv_iload C.1 C.2.1 dX12_sell_184 (lv_at hl 0 rfl) ?_
    refine lv_bipush (v := 64) C.1 C.2.1 dX12_sell_186 (by decide) ?_
    refine lv_icmp_ge (tgt := 196) C.1 C.2.1 dX12_sell_188 (by decide) (fun c60 => ?_) (fun c60 => ?_)
    · have hX := br_p hX c60
      refine lv_iconst (v := -1) C.1 C.2.1 dX12_sell_196 (by decide) ?_
      obtain ⟨hi, hX⟩ := chkI_st hX
      refine M_stI C hW 59 rfl hi dX12_sell_197 (fun H locs σ61 eσ61 hW => ?_)
      have hX := nm_st hX eσ61
      obtain ⟨v62, ev62⟩ : ∃ z : Int32, z = x3 + 1 := ⟨_, rfl⟩
      have hX := nm_st hX ev62
      refine lv_iinc (v := v62) (lv' := [(3, .int v62), (4, .int v59), (2, .int x2), (1, .int x1), (0, .ref h)]) C.1 C.2.1 dX12_sell_198 hl (k := 1) rfl (by rw [ev62]; rfl) (by decide) rfl (fun ls hl => ?_)
      refine lv_goto (tgt := 153) C.1 C.2.1 dX12_sell_201 (by decide) ?_
      exact ih σ61 v62 x2 x1 H locs ls X hX hW (lv_sub hl [0, 2, 3, 4] rfl) K0
    have hX := br_n hX c60
    refine lv_iload C.1 C.2.1 dX12_sell_191 (lv_at hl 0 rfl) ?_
    refine lv_goto (tgt := 197) C.1 C.2.1 dX12_sell_193 (by decide) ?_
    obtain ⟨hi, hX⟩ := chkI_st hX
    refine M_stI C hW 59 rfl hi dX12_sell_197 (fun H locs σ63 eσ63 hW => ?_)
    have hX := nm_st hX eσ63
    obtain ⟨v64, ev64⟩ : ∃ z : Int32, z = x3 + 1 := ⟨_, rfl⟩
    have hX := nm_st hX ev64
    refine lv_iinc (v := v64) (lv' := [(3, .int v64), (4, .int v59), (2, .int x2), (1, .int x1), (0, .ref h)]) C.1 C.2.1 dX12_sell_198 hl (k := 1) rfl (by rw [ev64]; rfl) (by decide) rfl (fun ls hl => ?_)
    refine lv_goto (tgt := 153) C.1 C.2.1 dX12_sell_201 (by decide) ?_
    exact ih σ63 v64 x2 x1 H locs ls X hX hW (lv_sub hl [0, 2, 3, 4] rfl) K0
def M_sell (σ : St) : Option (Int32 × St) := nm (s1 σ 0 0 0) (fun σ1 => if 8 ≤ (σ1.1 20 0) then bnd (M_sell_L26 100000 σ1 0 8) (fun q => nm2 q (fun σ37 v38 => bnd2 (M_solve σ37 8) (fun v40 σ39 => bnd (M_sell_L153 100000 σ39 0 v40 8) (fun q => nm2 q (fun σ65 v66 => some ((255 * 8) - v40, σ65)))))) else nm (σ1.1 20 0) (fun v67 => bnd (M_sell_L26 100000 σ1 0 v67) (fun q => nm2 q (fun σ68 v69 => bnd2 (M_solve σ68 v67) (fun v71 σ70 => bnd (M_sell_L153 100000 σ70 0 v71 v67) (fun q => nm2 q (fun σ72 v73 => some ((255 * v67) - v71, σ72))))))))
set_option maxHeartbeats 4000000 in
set_option maxRecDepth 100000 in
theorem c_M_sell {Ev : EvT} (l : Launch) (D : va_G) (cs : Nat → ClassId) (h : Nat) (a : Nat → Nat) (σ : St) (X : Int32 × St) (hX : some X = M_sell σ) : cGi Ev l D (tyM cs) (wM h a cs) yX12_sell wsX12_sell rm_M_sell 0 0 [.ref h] σ (fun r u => (r, u) = X) := by
  refine G_ini (cc := cX12_sell) (maxL := 5) (ret := some .int) (by decide) rfl (Nat.le_of_ble_eq_true rfl) ?_
  intro p e s m below meth c A ls C hr hlk hini hA hW hl
  have C : Cx p s m _ c cX12_sell 5 wsX12_sell RX12 := C
  have hl : lv_has ls 5 [(0, .ref h)] := hl
  have hin : ∀ w ∈ wsX120, w ∈ wsX12_sell := fun w hw => List.mem_cons_of_mem _ (List.mem_append_right _ hw)
  have f0 : (Cond.fieldLink RX12 133 (TX12 0).1 (TX12 0).2.1 (TX12 0).2.2.1).before _ s = true := C.2.2.2.2 _ (List.mem_of_getElem? (i := 1) rfl)
  have f16 : (Cond.fieldLink RX12 47 (TX12 16).1 (TX12 16).2.1 (TX12 16).2.2.1).before _ s = true := C.2.2.2.2 _ (List.mem_of_getElem? (i := 7) rfl)
  have f17 : (Cond.fieldLink RX12 50 (TX12 17).1 (TX12 17).2.1 (TX12 17).2.2.1).before _ s = true := C.2.2.2.2 _ (List.mem_of_getElem? (i := 5) rfl)
  have f20 : (Cond.fieldLink RX12 150 (TX12 20).1 (TX12 20).2.1 (TX12 20).2.2.1).before _ s = true := C.2.2.2.2 _ (List.mem_of_getElem? (i := 2) rfl)
  have f52 : (Cond.fieldLink RX12 103 (TX12 52).1 (TX12 52).2.1 (TX12 52).2.2.1).before _ s = true := C.2.2.2.2 _ (List.mem_of_getElem? (i := 3) rfl)
  have f59 : (Cond.fieldLink RX12 124 (TX12 59).1 (TX12 59).2.1 (TX12 59).2.2.1).before _ s = true := C.2.2.2.2 _ (List.mem_of_getElem? (i := 8) rfl)
  have f61 : (Cond.fieldLink RX12 130 (TX12 61).1 (TX12 61).2.1 (TX12 61).2.2.1).before _ s = true := C.2.2.2.2 _ (List.mem_of_getElem? (i := 6) rfl)
  have k327 : (Cond.constant RX12 327 (1000000)).before _ s = true := C.2.2.2.2 _ (List.mem_of_getElem? (i := 4) rfl)
  obtain ⟨H, hH⟩ : ∃ H, H = s.heap := ⟨_, rfl⟩
  obtain ⟨locs, hlo⟩ : ∃ z : List Loc, z = [] := ⟨_, rfl⟩
  have hW : GW Ev D (tyM cs) (wM h a cs) A s σ H locs := by rw [hH, hlo]; exact hW
  rw [show W p l e rm_M_sell s m _ below meth c s.heap [] = W p l e rm_M_sell s m _ below meth c H locs from by rw [hH, hlo]]
  unfold M_sell at hX
  refine lv_aload_n C.1 C.2.1 dX12_sell_0 rfl (lv_at hl 0 rfl) ?_
  refine lv_iconst (v := 0) C.1 C.2.1 dX12_sell_1 (by decide) ?_
  refine M_puti C hin hW 0 rfl f0 dX12_sell_2 (fun H locs σ1 eσ1 hW => ?_)
  have hX := nm_st hX eσ1
  refine lv_aload_n C.1 C.2.1 dX12_sell_5 rfl (lv_at hl 0 rfl) ?_
  refine M_geti C hin hW 20 (by decide) f20 dX12_sell_6 ?_
  refine lv_bipush (v := 8) C.1 C.2.1 dX12_sell_9 (by decide) ?_
  refine lv_icmp_ge (tgt := 21) C.1 C.2.1 dX12_sell_11 (by decide) (fun c2 => ?_) (fun c2 => ?_)
  · have hX := br_p hX c2
    refine lv_bipush (v := 8) C.1 C.2.1 dX12_sell_21 (by decide) ?_
    refine lv_istore_n (lv' := [(1, .int 8), (0, .ref h)]) C.1 C.2.1 dX12_sell_23 rfl hl (by decide) rfl (fun ls hl => ?_)
    refine lv_iconst (v := 0) C.1 C.2.1 dX12_sell_24 (by decide) ?_
    refine lv_istore_n (lv' := [(2, .int 0), (1, .int 8), (0, .ref h)]) C.1 C.2.1 dX12_sell_25 rfl hl (by decide) rfl (fun ls hl => ?_)
    obtain ⟨q, hq, hX⟩ := bnd_st hX
    refine r_M_sell_L26 C 100000 σ1 0 8 H locs ls q hq.symm hW (lv_sub hl [0, 1, 2] rfl) ?_
    intro σ37 v38 H locs ls hq hW hl
    subst hq
    have hX := nm2_st hX rfl
    refine lv_aload_n C.1 C.2.1 dX12_sell_145 rfl (lv_at hl 2 rfl) ?_
    refine lv_iload_n C.1 C.2.1 dX12_sell_146 rfl (lv_at hl 1 rfl) ?_
    obtain ⟨v40, σ39, hq, hX⟩ := bnd2_st hX
    refine G_V0e (As := [.int 8]) (rest := []) C hW (c_M_solve l D cs h a σ37 8 (v40, σ39) hq.symm) (cwV 1 C.2.2.2.2 gX12_sell_X12_solve rfl rfl rfl (by decide +kernel) ⟨Nat.le_of_ble_eq_true rfl, Nat.le_of_ble_eq_true rfl⟩) (M_recv hW) rfl hl.1 rfl (Nat.le_of_ble_eq_true rfl) dX12_sell_147 (fun H locs hW => ?_)
    refine lv_istore_n (lv' := [(2, .int v40), (1, .int 8), (0, .ref h)]) C.1 C.2.1 dX12_sell_150 rfl hl (by decide) rfl (fun ls hl => ?_)
    refine lv_iconst (v := 0) C.1 C.2.1 dX12_sell_151 (by decide) ?_
    refine lv_istore_n (lv' := [(3, .int 0), (2, .int v40), (1, .int 8), (0, .ref h)]) C.1 C.2.1 dX12_sell_152 rfl hl (by decide) rfl (fun ls hl => ?_)
    obtain ⟨q, hq, hX⟩ := bnd_st hX
    refine r_M_sell_L153 C 100000 σ39 0 v40 8 H locs ls q hq.symm hW (lv_sub hl [0, 1, 2, 3] rfl) ?_
    intro σ65 v66 H locs ls hq hW hl
    subst hq
    have hX := nm2_st hX rfl
    refine lv_sipush (v := 255) C.1 C.2.1 dX12_sell_204 (by decide) ?_
    refine lv_iload_n C.1 C.2.1 dX12_sell_207 rfl (lv_at hl 2 rfl) ?_
    refine lv_imul C.1 C.2.1 dX12_sell_208 ?_
    refine lv_iload_n C.1 C.2.1 dX12_sell_209 rfl (lv_at hl 1 rfl) ?_
    refine lv_isub C.1 C.2.1 dX12_sell_210 ?_
    exact G_reti C hr hlk hA hW (Option.some.inj hX).symm dX12_sell_211
  have hX := br_n hX c2
  refine lv_aload_n C.1 C.2.1 dX12_sell_14 rfl (lv_at hl 0 rfl) ?_
  refine M_geti C hin hW 20 (by decide) f20 dX12_sell_15 ?_
  refine lv_goto (tgt := 23) C.1 C.2.1 dX12_sell_18 (by decide) ?_
  refine lv_topi (fun v67 ev67 => ?_)
  have hX := nm_st hX ev67
  refine lv_istore_n (lv' := [(1, .int v67), (0, .ref h)]) C.1 C.2.1 dX12_sell_23 rfl hl (by decide) rfl (fun ls hl => ?_)
  refine lv_iconst (v := 0) C.1 C.2.1 dX12_sell_24 (by decide) ?_
  refine lv_istore_n (lv' := [(2, .int 0), (1, .int v67), (0, .ref h)]) C.1 C.2.1 dX12_sell_25 rfl hl (by decide) rfl (fun ls hl => ?_)
  obtain ⟨q, hq, hX⟩ := bnd_st hX
  refine r_M_sell_L26 C 100000 σ1 0 v67 H locs ls q hq.symm hW (lv_sub hl [0, 1, 2] rfl) ?_
  intro σ68 v69 H locs ls hq hW hl
  subst hq
  have hX := nm2_st hX rfl
  refine lv_aload_n C.1 C.2.1 dX12_sell_145 rfl (lv_at hl 2 rfl) ?_
  refine lv_iload_n C.1 C.2.1 dX12_sell_146 rfl (lv_at hl 1 rfl) ?_
  obtain ⟨v71, σ70, hq, hX⟩ := bnd2_st hX
  refine G_V0e (As := [.int v67]) (rest := []) C hW (c_M_solve l D cs h a σ68 v67 (v71, σ70) hq.symm) (cwV 1 C.2.2.2.2 gX12_sell_X12_solve rfl rfl rfl (by decide +kernel) ⟨Nat.le_of_ble_eq_true rfl, Nat.le_of_ble_eq_true rfl⟩) (M_recv hW) rfl hl.1 rfl (Nat.le_of_ble_eq_true rfl) dX12_sell_147 (fun H locs hW => ?_)
  refine lv_istore_n (lv' := [(2, .int v71), (1, .int v67), (0, .ref h)]) C.1 C.2.1 dX12_sell_150 rfl hl (by decide) rfl (fun ls hl => ?_)
  refine lv_iconst (v := 0) C.1 C.2.1 dX12_sell_151 (by decide) ?_
  refine lv_istore_n (lv' := [(3, .int 0), (2, .int v71), (1, .int v67), (0, .ref h)]) C.1 C.2.1 dX12_sell_152 rfl hl (by decide) rfl (fun ls hl => ?_)
  obtain ⟨q, hq, hX⟩ := bnd_st hX
  refine r_M_sell_L153 C 100000 σ70 0 v71 v67 H locs ls q hq.symm hW (lv_sub hl [0, 1, 2, 3] rfl) ?_
  intro σ72 v73 H locs ls hq hW hl
  subst hq
  have hX := nm2_st hX rfl
  refine lv_sipush (v := 255) C.1 C.2.1 dX12_sell_204 (by decide) ?_
  refine lv_iload_n C.1 C.2.1 dX12_sell_207 rfl (lv_at hl 2 rfl) ?_
  refine lv_imul C.1 C.2.1 dX12_sell_208 ?_
  refine lv_iload_n C.1 C.2.1 dX12_sell_209 rfl (lv_at hl 1 rfl) ?_
  refine lv_isub C.1 C.2.1 dX12_sell_210 ?_
  exact G_reti C hr hlk hA hW (Option.some.inj hX).symm dX12_sell_211
