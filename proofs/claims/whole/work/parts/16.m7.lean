abbrev rm_M_isLawful : Room := { frames := 2, cells := 0, slots := 0, locals := 49 }
def M_isLawful_L27 : Nat → St → Int32 → Int32 → Int32 → Int32 → Option (Int32 × Int32)
  | 0, _, _, _, _, _ => none
  | n + 1, σ, x4, x3, x1, x2 => if (σ.1 41 0) ≤ x4 then some (x4, x3) else bnd (M_counts σ x4 x2) (fun v19 => if v19 = 0 then nm (x4 + 1) (fun v21 => M_isLawful_L27 n σ v21 x3 x1 x2) else chkI x4 60 (chkI x1 60 (if (σ.1 35 x4.toNatClampNeg) = (σ.1 35 x1.toNatClampNeg) then chkI x4 60 (if x3 ≤ (σ.1 36 x4.toNatClampNeg) then nm (x4 + 1) (fun v25 => M_isLawful_L27 n σ v25 x3 x1 x2) else chkI x4 60 (nm (σ.1 36 x4.toNatClampNeg) (fun v26 => nm (x4 + 1) (fun v27 => M_isLawful_L27 n σ v27 v26 x1 x2)))) else nm (x4 + 1) (fun v23 => M_isLawful_L27 n σ v23 x3 x1 x2))))
set_option maxHeartbeats 4000000 in
set_option maxRecDepth 100000 in
theorem r_M_isLawful_L27 {p : Program} {l : Launch} {e : Env} {s : State} {m : MethodId} {args : Array Value} {below : List Frame} {meth : Method} {c : Code} {Q : State → Prop} {Ev : EvT} {D : va_G} {cs : Nat → ClassId} {h : Nat} {a : Nat → Nat} {A : Nat → Prop} (C : Cx p s m args c cX12_isLawful 5 wsX12_isLawful RX12) : ∀ (n : Nat) (σ : St) (x4 : Int32) (x3 : Int32) (x1 : Int32) (x2 : Int32) (H : Heap) (locs : List Loc) (ls : Array Slot) (X : Int32 × Int32), some X = M_isLawful_L27 n σ x4 x3 x1 x2 → GW Ev D (tyM cs) (wM h a cs) A s σ H locs → lv_has ls 5 [(4, .int x4), (3, .int x3), (0, .ref h), (1, .int x1), (2, .int x2)] → (∀ (z4 : Int32) (z3 : Int32) (H : Heap) (locs : List Loc) (ls : Array Slot), X = (z4, z3) → GW Ev D (tyM cs) (wM h a cs) A s σ H locs → lv_has ls 5 [(4, .int z4), (3, .int z3), (0, .ref h), (1, .int x1), (2, .int x2)] → W p l e rm_M_isLawful s m args below meth c H locs 0 0 Q (F0 m 87 ls [])) → W p l e rm_M_isLawful s m args below meth c H locs 0 0 Q (F0 m 27 ls []) := by
  have hin : ∀ w ∈ wsX120, w ∈ wsX12_isLawful := fun w hw => List.mem_cons_of_mem _ (List.mem_append_right _ hw)
  have f35 : (Cond.fieldLink RX12 73 (TX12 35).1 (TX12 35).2.1 (TX12 35).2.2.1).before _ s = true := C.2.2.2.2 _ (List.mem_of_getElem? (i := 3) rfl)
  have f36 : (Cond.fieldLink RX12 76 (TX12 36).1 (TX12 36).2.1 (TX12 36).2.2.1).before _ s = true := C.2.2.2.2 _ (List.mem_of_getElem? (i := 1) rfl)
  have f41 : (Cond.fieldLink RX12 280 (TX12 41).1 (TX12 41).2.1 (TX12 41).2.2.1).before _ s = true := C.2.2.2.2 _ (List.mem_of_getElem? (i := 2) rfl)
  intro n
  induction n with
  | zero =>
    intro σ x4 x3 x1 x2 H locs ls X hX hW hl K0
    cases hX
  | succ n ih =>
    intro σ x4 x3 x1 x2 H locs ls X hX hW hl K0
    unfold M_isLawful_L27 at hX
    refine lv_iload C.1 C.2.1 dX12_isLawful_27 (lv_at hl 0 rfl) ?_
    refine lv_aload_n C.1 C.2.1 dX12_isLawful_29 rfl (lv_at hl 2 rfl) ?_
    refine M_geti C hin hW 41 (by decide) f41 dX12_isLawful_30 ?_
    refine lv_icmp_ge (tgt := 87) C.1 C.2.1 dX12_isLawful_33 (by decide) (fun c17 => ?_) (fun c17 => ?_)
    · have hX := br_p hX c17
      exact K0 x4 x3 H locs ls (Option.some.inj hX) hW (lv_sub hl [0, 1, 2, 3, 4] rfl)
    have hX := br_n hX c17
    refine lv_aload_n C.1 C.2.1 dX12_isLawful_36 rfl (lv_at hl 2 rfl) ?_
    refine lv_iload C.1 C.2.1 dX12_isLawful_37 (lv_at hl 0 rfl) ?_
    refine lv_iload_n C.1 C.2.1 dX12_isLawful_39 rfl (lv_at hl 4 rfl) ?_
    obtain ⟨v19, hq, hX⟩ := bnd_st hX
    refine G_V0p (As := [.int x4, .int x2]) (rest := []) C hW (c_M_counts l D cs h a σ x4 x2 v19 hq.symm) (cwV 2 C.2.2.2.2 gX12_isLawful_X12_counts rfl rfl rfl (by decide +kernel) ⟨Nat.le_of_ble_eq_true rfl, Nat.le_of_ble_eq_true rfl⟩) (M_recv hW) rfl hl.1 rfl (Nat.le_of_ble_eq_true rfl) dX12_isLawful_40 (fun H locs hW => ?_)
    refine lv_if_eq (tgt := 81) C.1 C.2.1 dX12_isLawful_43 (by decide) (fun c20 => ?_) (fun c20 => ?_)
    · have hX := br_p hX c20
      obtain ⟨v21, ev21⟩ : ∃ z : Int32, z = x4 + 1 := ⟨_, rfl⟩
      have hX := nm_st hX ev21
      refine lv_iinc (v := v21) (lv' := [(4, .int v21), (3, .int x3), (0, .ref h), (1, .int x1), (2, .int x2)]) C.1 C.2.1 dX12_isLawful_81 hl (k := 0) rfl (by rw [ev21]; rfl) (by decide) rfl (fun ls hl => ?_)
      refine lv_goto (tgt := 27) C.1 C.2.1 dX12_isLawful_84 (by decide) ?_
      exact ih σ v21 x3 x1 x2 H locs ls X hX hW (lv_sub hl [0, 1, 2, 3, 4] rfl) K0
    have hX := br_n hX c20
    refine lv_aload_n C.1 C.2.1 dX12_isLawful_46 rfl (lv_at hl 2 rfl) ?_
    refine M_geta C hin hW 35 rfl (by decide) f35 dX12_isLawful_47 ?_
    refine lv_iload C.1 C.2.1 dX12_isLawful_50 (lv_at hl 0 rfl) ?_
    obtain ⟨hi, hX⟩ := chkI_st hX
    refine M_ldI C hW 35 rfl hi dX12_isLawful_52 ?_
    refine lv_aload_n C.1 C.2.1 dX12_isLawful_53 rfl (lv_at hl 2 rfl) ?_
    refine M_geta C hin hW 35 rfl (by decide) f35 dX12_isLawful_54 ?_
    refine lv_iload_n C.1 C.2.1 dX12_isLawful_57 rfl (lv_at hl 3 rfl) ?_
    obtain ⟨hi, hX⟩ := chkI_st hX
    refine M_ldI C hW 35 rfl hi dX12_isLawful_58 ?_
    refine lv_icmp_ne (tgt := 81) C.1 C.2.1 dX12_isLawful_59 (by decide) (fun c22 => ?_) (fun c22 => ?_)
    · have hX := br_n hX c22
      obtain ⟨v23, ev23⟩ : ∃ z : Int32, z = x4 + 1 := ⟨_, rfl⟩
      have hX := nm_st hX ev23
      refine lv_iinc (v := v23) (lv' := [(4, .int v23), (3, .int x3), (0, .ref h), (1, .int x1), (2, .int x2)]) C.1 C.2.1 dX12_isLawful_81 hl (k := 0) rfl (by rw [ev23]; rfl) (by decide) rfl (fun ls hl => ?_)
      refine lv_goto (tgt := 27) C.1 C.2.1 dX12_isLawful_84 (by decide) ?_
      exact ih σ v23 x3 x1 x2 H locs ls X hX hW (lv_sub hl [0, 1, 2, 3, 4] rfl) K0
    have hX := br_p hX c22
    refine lv_aload_n C.1 C.2.1 dX12_isLawful_62 rfl (lv_at hl 2 rfl) ?_
    refine M_geta C hin hW 36 rfl (by decide) f36 dX12_isLawful_63 ?_
    refine lv_iload C.1 C.2.1 dX12_isLawful_66 (lv_at hl 0 rfl) ?_
    obtain ⟨hi, hX⟩ := chkI_st hX
    refine M_ldI C hW 36 rfl hi dX12_isLawful_68 ?_
    refine lv_iload_n C.1 C.2.1 dX12_isLawful_69 rfl (lv_at hl 1 rfl) ?_
    refine lv_icmp_ge (tgt := 81) C.1 C.2.1 dX12_isLawful_70 (by decide) (fun c24 => ?_) (fun c24 => ?_)
    · have hX := br_p hX c24
      obtain ⟨v25, ev25⟩ : ∃ z : Int32, z = x4 + 1 := ⟨_, rfl⟩
      have hX := nm_st hX ev25
      refine lv_iinc (v := v25) (lv' := [(4, .int v25), (3, .int x3), (0, .ref h), (1, .int x1), (2, .int x2)]) C.1 C.2.1 dX12_isLawful_81 hl (k := 0) rfl (by rw [ev25]; rfl) (by decide) rfl (fun ls hl => ?_)
      refine lv_goto (tgt := 27) C.1 C.2.1 dX12_isLawful_84 (by decide) ?_
      exact ih σ v25 x3 x1 x2 H locs ls X hX hW (lv_sub hl [0, 1, 2, 3, 4] rfl) K0
    have hX := br_n hX c24
    refine lv_aload_n C.1 C.2.1 dX12_isLawful_73 rfl (lv_at hl 2 rfl) ?_
    refine M_geta C hin hW 36 rfl (by decide) f36 dX12_isLawful_74 ?_
    refine lv_iload C.1 C.2.1 dX12_isLawful_77 (lv_at hl 0 rfl) ?_
    obtain ⟨hi, hX⟩ := chkI_st hX
    refine M_ldI C hW 36 rfl hi dX12_isLawful_79 ?_
    refine lv_topi (fun v26 ev26 => ?_)
    have hX := nm_st hX ev26
    refine lv_istore_n (lv' := [(3, .int v26), (4, .int x4), (0, .ref h), (1, .int x1), (2, .int x2)]) C.1 C.2.1 dX12_isLawful_80 rfl hl (by decide) rfl (fun ls hl => ?_)
    obtain ⟨v27, ev27⟩ : ∃ z : Int32, z = x4 + 1 := ⟨_, rfl⟩
    have hX := nm_st hX ev27
    refine lv_iinc (v := v27) (lv' := [(4, .int v27), (3, .int v26), (0, .ref h), (1, .int x1), (2, .int x2)]) C.1 C.2.1 dX12_isLawful_81 hl (k := 1) rfl (by rw [ev27]; rfl) (by decide) rfl (fun ls hl => ?_)
    refine lv_goto (tgt := 27) C.1 C.2.1 dX12_isLawful_84 (by decide) ?_
    exact ih σ v27 v26 x1 x2 H locs ls X hX hW (lv_sub hl [0, 1, 2, 3, 4] rfl) K0
def M_isLawful (σ : St) (x1 : Int32) (x2 : Int32) : Option (Int32 × St) := bnd (M_counts σ x1 x2) (fun v2 => if v2 = 0 then some (0, σ) else bnd (M_look σ x1 x2) (fun σ4 => chkI x1 60 (nm (σ4.1 36 x1.toNatClampNeg) (fun v5 => bnd (M_isLawful_L27 100000 σ4 0 v5 x1 x2) (fun q => nm2 q (fun v28 v29 => chkI x1 60 (chkI (σ4.1 34 x1.toNatClampNeg) 30 (chkI 0 5 (if (σ4.1 11 (σ4.1 34 x1.toNatClampNeg).toNatClampNeg) < (σ4.1 23 (0 : Int32).toNatClampNeg) then some (0, σ4) else chkI x1 60 (chkI (σ4.1 34 x1.toNatClampNeg) 30 (if (σ4.1 19 (σ4.1 34 x1.toNatClampNeg).toNatClampNeg) = 0 then chkI 2 5 (if (σ4.1 45 0) < (σ4.1 23 (2 : Int32).toNatClampNeg) then some (0, σ4) else chkI x1 60 (chkI 3 5 (if (σ4.1 23 (3 : Int32).toNatClampNeg) < ((σ4.1 36 x1.toNatClampNeg) - v29) then some (0, σ4) else some (1, σ4)))) else chkI 1 5 (if (σ4.1 23 (1 : Int32).toNatClampNeg) = 1 then chkI 2 5 (if (σ4.1 45 0) < (σ4.1 23 (2 : Int32).toNatClampNeg) then some (0, σ4) else chkI x1 60 (chkI 3 5 (if (σ4.1 23 (3 : Int32).toNatClampNeg) < ((σ4.1 36 x1.toNatClampNeg) - v29) then some (0, σ4) else some (1, σ4)))) else some (0, σ4)))))))))))))
set_option maxHeartbeats 4000000 in
set_option maxRecDepth 100000 in
theorem c_M_isLawful {Ev : EvT} (l : Launch) (D : va_G) (cs : Nat → ClassId) (h : Nat) (a : Nat → Nat) (σ : St) (x1 : Int32) (x2 : Int32) (X : Int32 × St) (hX : some X = M_isLawful σ x1 x2) : cGi Ev l D (tyM cs) (wM h a cs) yX12_isLawful wsX12_isLawful rm_M_isLawful 0 0 [.ref h, .int x1, .int x2] σ (fun r u => (r, u) = X) := by
  refine G_ini (cc := cX12_isLawful) (maxL := 5) (ret := some .boolean) (by decide) rfl (Nat.le_of_ble_eq_true rfl) ?_
  intro p e s m below meth c A ls C hr hlk hini hA hW hl
  have C : Cx p s m _ c cX12_isLawful 5 wsX12_isLawful RX12 := C
  have hl : lv_has ls 5 [(0, .ref h), (1, .int x1), (2, .int x2)] := hl
  have hin : ∀ w ∈ wsX120, w ∈ wsX12_isLawful := fun w hw => List.mem_cons_of_mem _ (List.mem_append_right _ hw)
  have f11 : (Cond.fieldLink RX12 32 (TX12 11).1 (TX12 11).2.1 (TX12 11).2.2.1).before _ s = true := C.2.2.2.2 _ (List.mem_of_getElem? (i := 4) rfl)
  have f19 : (Cond.fieldLink RX12 57 (TX12 19).1 (TX12 19).2.1 (TX12 19).2.2.1).before _ s = true := C.2.2.2.2 _ (List.mem_of_getElem? (i := 7) rfl)
  have f23 : (Cond.fieldLink RX12 61 (TX12 23).1 (TX12 23).2.1 (TX12 23).2.2.1).before _ s = true := C.2.2.2.2 _ (List.mem_of_getElem? (i := 6) rfl)
  have f34 : (Cond.fieldLink RX12 70 (TX12 34).1 (TX12 34).2.1 (TX12 34).2.2.1).before _ s = true := C.2.2.2.2 _ (List.mem_of_getElem? (i := 5) rfl)
  have f35 : (Cond.fieldLink RX12 73 (TX12 35).1 (TX12 35).2.1 (TX12 35).2.2.1).before _ s = true := C.2.2.2.2 _ (List.mem_of_getElem? (i := 3) rfl)
  have f36 : (Cond.fieldLink RX12 76 (TX12 36).1 (TX12 36).2.1 (TX12 36).2.2.1).before _ s = true := C.2.2.2.2 _ (List.mem_of_getElem? (i := 1) rfl)
  have f41 : (Cond.fieldLink RX12 280 (TX12 41).1 (TX12 41).2.1 (TX12 41).2.2.1).before _ s = true := C.2.2.2.2 _ (List.mem_of_getElem? (i := 2) rfl)
  have f45 : (Cond.fieldLink RX12 295 (TX12 45).1 (TX12 45).2.1 (TX12 45).2.2.1).before _ s = true := C.2.2.2.2 _ (List.mem_of_getElem? (i := 8) rfl)
  obtain ⟨H, hH⟩ : ∃ H, H = s.heap := ⟨_, rfl⟩
  obtain ⟨locs, hlo⟩ : ∃ z : List Loc, z = [] := ⟨_, rfl⟩
  have hW : GW Ev D (tyM cs) (wM h a cs) A s σ H locs := by rw [hH, hlo]; exact hW
  rw [show W p l e rm_M_isLawful s m _ below meth c s.heap [] = W p l e rm_M_isLawful s m _ below meth c H locs from by rw [hH, hlo]]
  unfold M_isLawful at hX
  refine lv_aload_n C.1 C.2.1 dX12_isLawful_0 rfl (lv_at hl 0 rfl) ?_
  refine lv_iload_n C.1 C.2.1 dX12_isLawful_1 rfl (lv_at hl 1 rfl) ?_
  refine lv_iload_n C.1 C.2.1 dX12_isLawful_2 rfl (lv_at hl 2 rfl) ?_
  obtain ⟨v2, hq, hX⟩ := bnd_st hX
  refine G_V0p (As := [.int x1, .int x2]) (rest := []) C hW (c_M_counts l D cs h a σ x1 x2 v2 hq.symm) (cwV 2 C.2.2.2.2 gX12_isLawful_X12_counts rfl rfl rfl (by decide +kernel) ⟨Nat.le_of_ble_eq_true rfl, Nat.le_of_ble_eq_true rfl⟩) (M_recv hW) rfl hl.1 rfl (Nat.le_of_ble_eq_true rfl) dX12_isLawful_3 (fun H locs hW => ?_)
  refine lv_if_ne (tgt := 11) C.1 C.2.1 dX12_isLawful_6 (by decide) (fun c3 => ?_) (fun c3 => ?_)
  · have hX := br_n hX c3
    refine lv_aload_n C.1 C.2.1 dX12_isLawful_11 rfl (lv_at hl 0 rfl) ?_
    refine lv_iload_n C.1 C.2.1 dX12_isLawful_12 rfl (lv_at hl 1 rfl) ?_
    refine lv_iload_n C.1 C.2.1 dX12_isLawful_13 rfl (lv_at hl 2 rfl) ?_
    obtain ⟨σ4, hq, hX⟩ := bnd_st hX
    refine G_V0u (As := [.int x1, .int x2]) (rest := []) C hW (c_M_look l D cs h a σ x1 x2 σ4 hq.symm) (cwV 2 C.2.2.2.2 gX12_isLawful_X12_look rfl rfl rfl (by decide +kernel) ⟨Nat.le_of_ble_eq_true rfl, Nat.le_of_ble_eq_true rfl⟩) (M_recv hW) rfl hl.1 rfl (Nat.le_of_ble_eq_true rfl) dX12_isLawful_14 (fun H locs hW => ?_)
    refine lv_aload_n C.1 C.2.1 dX12_isLawful_17 rfl (lv_at hl 0 rfl) ?_
    refine M_geta C hin hW 36 rfl (by decide) f36 dX12_isLawful_18 ?_
    refine lv_iload_n C.1 C.2.1 dX12_isLawful_21 rfl (lv_at hl 1 rfl) ?_
    obtain ⟨hi, hX⟩ := chkI_st hX
    refine M_ldI C hW 36 rfl hi dX12_isLawful_22 ?_
    refine lv_topi (fun v5 ev5 => ?_)
    have hX := nm_st hX ev5
    refine lv_istore_n (lv' := [(3, .int v5), (0, .ref h), (1, .int x1), (2, .int x2)]) C.1 C.2.1 dX12_isLawful_23 rfl hl (by decide) rfl (fun ls hl => ?_)
    refine lv_iconst (v := 0) C.1 C.2.1 dX12_isLawful_24 (by decide) ?_
    refine lv_istore (lv' := [(4, .int 0), (3, .int v5), (0, .ref h), (1, .int x1), (2, .int x2)]) C.1 C.2.1 dX12_isLawful_25 hl (by decide) rfl (fun ls hl => ?_)
    obtain ⟨q, hq, hX⟩ := bnd_st hX
    refine r_M_isLawful_L27 C 100000 σ4 0 v5 x1 x2 H locs ls q hq.symm hW (lv_sub hl [0, 1, 2, 3, 4] rfl) ?_
    intro v28 v29 H locs ls hq hW hl
    subst hq
    have hX := nm2_st hX rfl
    refine lv_aload_n C.1 C.2.1 dX12_isLawful_87 rfl (lv_at hl 2 rfl) ?_
    refine M_geta C hin hW 11 rfl (by decide) f11 dX12_isLawful_88 ?_
    refine lv_aload_n C.1 C.2.1 dX12_isLawful_91 rfl (lv_at hl 2 rfl) ?_
    refine M_geta C hin hW 34 rfl (by decide) f34 dX12_isLawful_92 ?_
    refine lv_iload_n C.1 C.2.1 dX12_isLawful_95 rfl (lv_at hl 3 rfl) ?_
    obtain ⟨hi, hX⟩ := chkI_st hX
    refine M_ldI C hW 34 rfl hi dX12_isLawful_96 ?_
    obtain ⟨hi, hX⟩ := chkI_st hX
    refine M_ldI C hW 11 rfl hi dX12_isLawful_97 ?_
    refine lv_aload_n C.1 C.2.1 dX12_isLawful_98 rfl (lv_at hl 2 rfl) ?_
    refine M_geta C hin hW 23 rfl (by decide) f23 dX12_isLawful_99 ?_
    refine lv_iconst (v := 0) C.1 C.2.1 dX12_isLawful_102 (by decide) ?_
    obtain ⟨hi, hX⟩ := chkI_st hX
    refine M_ldI C hW 23 rfl hi dX12_isLawful_103 ?_
    refine lv_icmp_lt (tgt := 165) C.1 C.2.1 dX12_isLawful_104 (by decide) (fun c30 => ?_) (fun c30 => ?_)
    · have hX := br_p hX c30
      refine lv_iconst (v := 0) C.1 C.2.1 dX12_isLawful_165 (by decide) ?_
      exact G_retz C hr hlk hA hW rfl (Option.some.inj hX).symm dX12_isLawful_166
    have hX := br_n hX c30
    refine lv_aload_n C.1 C.2.1 dX12_isLawful_107 rfl (lv_at hl 2 rfl) ?_
    refine M_geta C hin hW 19 rfl (by decide) f19 dX12_isLawful_108 ?_
    refine lv_aload_n C.1 C.2.1 dX12_isLawful_111 rfl (lv_at hl 2 rfl) ?_
    refine M_geta C hin hW 34 rfl (by decide) f34 dX12_isLawful_112 ?_
    refine lv_iload_n C.1 C.2.1 dX12_isLawful_115 rfl (lv_at hl 3 rfl) ?_
    obtain ⟨hi, hX⟩ := chkI_st hX
    refine M_ldI C hW 34 rfl hi dX12_isLawful_116 ?_
    obtain ⟨hi, hX⟩ := chkI_st hX
    refine M_ldZ C hW 19 rfl hi dX12_isLawful_117 ?_
    refine lv_if_eq (tgt := 131) C.1 C.2.1 dX12_isLawful_118 (by decide) (fun c31 => ?_) (fun c31 => ?_)
    · have hX := br_p hX c31
      refine lv_aload_n C.1 C.2.1 dX12_isLawful_131 rfl (lv_at hl 2 rfl) ?_
      refine M_geti C hin hW 45 (by decide) f45 dX12_isLawful_132 ?_
      refine lv_aload_n C.1 C.2.1 dX12_isLawful_135 rfl (lv_at hl 2 rfl) ?_
      refine M_geta C hin hW 23 rfl (by decide) f23 dX12_isLawful_136 ?_
      refine lv_iconst (v := 2) C.1 C.2.1 dX12_isLawful_139 (by decide) ?_
      obtain ⟨hi, hX⟩ := chkI_st hX
      refine M_ldI C hW 23 rfl hi dX12_isLawful_140 ?_
      refine lv_icmp_lt (tgt := 165) C.1 C.2.1 dX12_isLawful_141 (by decide) (fun c32 => ?_) (fun c32 => ?_)
      · have hX := br_p hX c32
        refine lv_iconst (v := 0) C.1 C.2.1 dX12_isLawful_165 (by decide) ?_
        exact G_retz C hr hlk hA hW rfl (Option.some.inj hX).symm dX12_isLawful_166
      have hX := br_n hX c32
      refine lv_aload_n C.1 C.2.1 dX12_isLawful_144 rfl (lv_at hl 2 rfl) ?_
      refine M_geta C hin hW 36 rfl (by decide) f36 dX12_isLawful_145 ?_
      refine lv_iload_n C.1 C.2.1 dX12_isLawful_148 rfl (lv_at hl 3 rfl) ?_
      obtain ⟨hi, hX⟩ := chkI_st hX
      refine M_ldI C hW 36 rfl hi dX12_isLawful_149 ?_
      refine lv_iload_n C.1 C.2.1 dX12_isLawful_150 rfl (lv_at hl 1 rfl) ?_
      refine lv_isub C.1 C.2.1 dX12_isLawful_151 ?_
      refine lv_aload_n C.1 C.2.1 dX12_isLawful_152 rfl (lv_at hl 2 rfl) ?_
      refine M_geta C hin hW 23 rfl (by decide) f23 dX12_isLawful_153 ?_
      refine lv_iconst (v := 3) C.1 C.2.1 dX12_isLawful_156 (by decide) ?_
      obtain ⟨hi, hX⟩ := chkI_st hX
      refine M_ldI C hW 23 rfl hi dX12_isLawful_157 ?_
      refine lv_icmp_gt (tgt := 165) C.1 C.2.1 dX12_isLawful_158 (by decide) (fun c33 => ?_) (fun c33 => ?_)
      · have hX := br_p hX c33
        refine lv_iconst (v := 0) C.1 C.2.1 dX12_isLawful_165 (by decide) ?_
        exact G_retz C hr hlk hA hW rfl (Option.some.inj hX).symm dX12_isLawful_166
      have hX := br_n hX c33
      refine lv_iconst (v := 1) C.1 C.2.1 dX12_isLawful_161 (by decide) ?_
      refine lv_goto (tgt := 166) C.1 C.2.1 dX12_isLawful_162 (by decide) ?_
      exact G_retz C hr hlk hA hW rfl (Option.some.inj hX).symm dX12_isLawful_166
    have hX := br_n hX c31
    refine lv_aload_n C.1 C.2.1 dX12_isLawful_121 rfl (lv_at hl 2 rfl) ?_
    refine M_geta C hin hW 23 rfl (by decide) f23 dX12_isLawful_122 ?_
    refine lv_iconst (v := 1) C.1 C.2.1 dX12_isLawful_125 (by decide) ?_
    obtain ⟨hi, hX⟩ := chkI_st hX
    refine M_ldI C hW 23 rfl hi dX12_isLawful_126 ?_
    refine lv_iconst (v := 1) C.1 C.2.1 dX12_isLawful_127 (by decide) ?_
    refine lv_icmp_ne (tgt := 165) C.1 C.2.1 dX12_isLawful_128 (by decide) (fun c34 => ?_) (fun c34 => ?_)
    · have hX := br_n hX c34
      refine lv_iconst (v := 0) C.1 C.2.1 dX12_isLawful_165 (by decide) ?_
      exact G_retz C hr hlk hA hW rfl (Option.some.inj hX).symm dX12_isLawful_166
    have hX := br_p hX c34
    refine lv_aload_n C.1 C.2.1 dX12_isLawful_131 rfl (lv_at hl 2 rfl) ?_
    refine M_geti C hin hW 45 (by decide) f45 dX12_isLawful_132 ?_
    refine lv_aload_n C.1 C.2.1 dX12_isLawful_135 rfl (lv_at hl 2 rfl) ?_
    refine M_geta C hin hW 23 rfl (by decide) f23 dX12_isLawful_136 ?_
    refine lv_iconst (v := 2) C.1 C.2.1 dX12_isLawful_139 (by decide) ?_
    obtain ⟨hi, hX⟩ := chkI_st hX
    refine M_ldI C hW 23 rfl hi dX12_isLawful_140 ?_
    refine lv_icmp_lt (tgt := 165) C.1 C.2.1 dX12_isLawful_141 (by decide) (fun c35 => ?_) (fun c35 => ?_)
    · have hX := br_p hX c35
      refine lv_iconst (v := 0) C.1 C.2.1 dX12_isLawful_165 (by decide) ?_
      exact G_retz C hr hlk hA hW rfl (Option.some.inj hX).symm dX12_isLawful_166
    have hX := br_n hX c35
    refine lv_aload_n C.1 C.2.1 dX12_isLawful_144 rfl (lv_at hl 2 rfl) ?_
    refine M_geta C hin hW 36 rfl (by decide) f36 dX12_isLawful_145 ?_
    refine lv_iload_n C.1 C.2.1 dX12_isLawful_148 rfl (lv_at hl 3 rfl) ?_
    obtain ⟨hi, hX⟩ := chkI_st hX
    refine M_ldI C hW 36 rfl hi dX12_isLawful_149 ?_
    refine lv_iload_n C.1 C.2.1 dX12_isLawful_150 rfl (lv_at hl 1 rfl) ?_
    refine lv_isub C.1 C.2.1 dX12_isLawful_151 ?_
    refine lv_aload_n C.1 C.2.1 dX12_isLawful_152 rfl (lv_at hl 2 rfl) ?_
    refine M_geta C hin hW 23 rfl (by decide) f23 dX12_isLawful_153 ?_
    refine lv_iconst (v := 3) C.1 C.2.1 dX12_isLawful_156 (by decide) ?_
    obtain ⟨hi, hX⟩ := chkI_st hX
    refine M_ldI C hW 23 rfl hi dX12_isLawful_157 ?_
    refine lv_icmp_gt (tgt := 165) C.1 C.2.1 dX12_isLawful_158 (by decide) (fun c36 => ?_) (fun c36 => ?_)
    · have hX := br_p hX c36
      refine lv_iconst (v := 0) C.1 C.2.1 dX12_isLawful_165 (by decide) ?_
      exact G_retz C hr hlk hA hW rfl (Option.some.inj hX).symm dX12_isLawful_166
    have hX := br_n hX c36
    refine lv_iconst (v := 1) C.1 C.2.1 dX12_isLawful_161 (by decide) ?_
    refine lv_goto (tgt := 166) C.1 C.2.1 dX12_isLawful_162 (by decide) ?_
    exact G_retz C hr hlk hA hW rfl (Option.some.inj hX).symm dX12_isLawful_166
  have hX := br_p hX c3
  refine lv_iconst (v := 0) C.1 C.2.1 dX12_isLawful_9 (by decide) ?_
  exact G_retz C hr hlk hA hW rfl (Option.some.inj hX).symm dX12_isLawful_10
abbrev rm_M_span : Room := { frames := 3, cells := 0, slots := 0, locals := 73 }
def M_span (σ : St) (x1 : Int32) (x2 : Int32) (x3 : Int32) : Option (Int32 × St) := nm (s1 σ 0 0 0) (fun σ1 => bnd (M_counts σ1 x1 x2) (fun v3 => if v3 = 0 then some ((-1), σ1) else if x3 < 0 then some ((-1), σ1) else if x3 ≤ 3 then bnd2 (M_isLawful σ1 x1 x2) (fun v8 σ7 => if x3 = 0 then some (σ7.1 43 0, σ7) else if x3 = 1 then some (σ7.1 44 0, σ7) else if x3 = 2 then some (σ7.1 45 0, σ7) else if v8 = 0 then some (0, σ7) else some (1, σ7)) else some ((-1), σ1)))
set_option maxHeartbeats 4000000 in
set_option maxRecDepth 100000 in
theorem c_M_span {Ev : EvT} (l : Launch) (D : va_G) (cs : Nat → ClassId) (h : Nat) (a : Nat → Nat) (σ : St) (x1 : Int32) (x2 : Int32) (x3 : Int32) (X : Int32 × St) (hX : some X = M_span σ x1 x2 x3) : cGi Ev l D (tyM cs) (wM h a cs) yX12_span wsX12_span rm_M_span 0 0 [.ref h, .int x1, .int x2, .int x3] σ (fun r u => (r, u) = X) := by
  refine G_ini (cc := cX12_span) (maxL := 5) (ret := some .int) (by decide) rfl (Nat.le_of_ble_eq_true rfl) ?_
  intro p e s m below meth c A ls C hr hlk hini hA hW hl
  have C : Cx p s m _ c cX12_span 5 wsX12_span RX12 := C
  have hl : lv_has ls 5 [(0, .ref h), (1, .int x1), (2, .int x2), (3, .int x3)] := hl
  have hin : ∀ w ∈ wsX120, w ∈ wsX12_span := fun w hw => List.mem_cons_of_mem _ (List.mem_append_right _ hw)
  have f0 : (Cond.fieldLink RX12 133 (TX12 0).1 (TX12 0).2.1 (TX12 0).2.2.1).before _ s = true := C.2.2.2.2 _ (List.mem_of_getElem? (i := 1) rfl)
  have f43 : (Cond.fieldLink RX12 289 (TX12 43).1 (TX12 43).2.1 (TX12 43).2.2.1).before _ s = true := C.2.2.2.2 _ (List.mem_of_getElem? (i := 2) rfl)
  have f44 : (Cond.fieldLink RX12 292 (TX12 44).1 (TX12 44).2.1 (TX12 44).2.2.1).before _ s = true := C.2.2.2.2 _ (List.mem_of_getElem? (i := 3) rfl)
  have f45 : (Cond.fieldLink RX12 295 (TX12 45).1 (TX12 45).2.1 (TX12 45).2.2.1).before _ s = true := C.2.2.2.2 _ (List.mem_of_getElem? (i := 4) rfl)
  obtain ⟨H, hH⟩ : ∃ H, H = s.heap := ⟨_, rfl⟩
  obtain ⟨locs, hlo⟩ : ∃ z : List Loc, z = [] := ⟨_, rfl⟩
  have hW : GW Ev D (tyM cs) (wM h a cs) A s σ H locs := by rw [hH, hlo]; exact hW
  rw [show W p l e rm_M_span s m _ below meth c s.heap [] = W p l e rm_M_span s m _ below meth c H locs from by rw [hH, hlo]]
  unfold M_span at hX
  refine lv_aload_n C.1 C.2.1 dX12_span_0 rfl (lv_at hl 0 rfl) ?_
  refine lv_iconst (v := 0) C.1 C.2.1 dX12_span_1 (by decide) ?_
  refine M_puti C hin hW 0 rfl f0 dX12_span_2 (fun H locs σ1 eσ1 hW => ?_)
  have hX := nm_st hX eσ1
  refine lv_aload_n C.1 C.2.1 dX12_span_5 rfl (lv_at hl 0 rfl) ?_
  refine lv_iload_n C.1 C.2.1 dX12_span_6 rfl (lv_at hl 1 rfl) ?_
  refine lv_iload_n C.1 C.2.1 dX12_span_7 rfl (lv_at hl 2 rfl) ?_
  obtain ⟨v3, hq, hX⟩ := bnd_st hX
  refine G_V0p (As := [.int x1, .int x2]) (rest := []) C hW (c_M_counts l D cs h a σ1 x1 x2 v3 hq.symm) (cwV 2 C.2.2.2.2 gX12_span_X12_counts rfl rfl rfl (by decide +kernel) ⟨Nat.le_of_ble_eq_true rfl, Nat.le_of_ble_eq_true rfl⟩) (M_recv hW) rfl hl.1 rfl (Nat.le_of_ble_eq_true rfl) dX12_span_8 (fun H locs hW => ?_)
  refine lv_if_eq (tgt := 23) C.1 C.2.1 dX12_span_11 (by decide) (fun c4 => ?_) (fun c4 => ?_)
  · have hX := br_p hX c4
    refine lv_iconst (v := -1) C.1 C.2.1 dX12_span_23 (by decide) ?_
    exact G_reti C hr hlk hA hW (Option.some.inj hX).symm dX12_span_24
  have hX := br_n hX c4
  refine lv_iload_n C.1 C.2.1 dX12_span_14 rfl (lv_at hl 3 rfl) ?_
  refine lv_if_lt (tgt := 23) C.1 C.2.1 dX12_span_15 (by decide) (fun c5 => ?_) (fun c5 => ?_)
  · have hX := br_p hX c5
    refine lv_iconst (v := -1) C.1 C.2.1 dX12_span_23 (by decide) ?_
    exact G_reti C hr hlk hA hW (Option.some.inj hX).symm dX12_span_24
  have hX := br_n hX c5
  refine lv_iload_n C.1 C.2.1 dX12_span_18 rfl (lv_at hl 3 rfl) ?_
  refine lv_iconst (v := 3) C.1 C.2.1 dX12_span_19 (by decide) ?_
  refine lv_icmp_le (tgt := 25) C.1 C.2.1 dX12_span_20 (by decide) (fun c6 => ?_) (fun c6 => ?_)
  · have hX := br_p hX c6
    refine lv_aload_n C.1 C.2.1 dX12_span_25 rfl (lv_at hl 0 rfl) ?_
    refine lv_iload_n C.1 C.2.1 dX12_span_26 rfl (lv_at hl 1 rfl) ?_
    refine lv_iload_n C.1 C.2.1 dX12_span_27 rfl (lv_at hl 2 rfl) ?_
    obtain ⟨v8, σ7, hq, hX⟩ := bnd2_st hX
    refine G_V0e (As := [.int x1, .int x2]) (rest := []) C hW (c_M_isLawful l D cs h a σ1 x1 x2 (v8, σ7) hq.symm) (cwV 2 C.2.2.2.2 gX12_span_X12_isLawful rfl rfl rfl (by decide +kernel) ⟨Nat.le_of_ble_eq_true rfl, Nat.le_of_ble_eq_true rfl⟩) (M_recv hW) rfl hl.1 rfl (Nat.le_of_ble_eq_true rfl) dX12_span_28 (fun H locs hW => ?_)
    refine lv_istore (lv' := [(4, .int v8), (0, .ref h), (1, .int x1), (2, .int x2), (3, .int x3)]) C.1 C.2.1 dX12_span_31 hl (by decide) rfl (fun ls hl => ?_)
    refine lv_iload_n C.1 C.2.1 dX12_span_33 rfl (lv_at hl 4 rfl) ?_
    refine lv_if_ne (tgt := 44) C.1 C.2.1 dX12_span_34 (by decide) (fun c9 => ?_) (fun c9 => ?_)
    · have hX := br_n hX c9
      refine lv_iload_n C.1 C.2.1 dX12_span_44 rfl (lv_at hl 4 rfl) ?_
      refine lv_iconst (v := 1) C.1 C.2.1 dX12_span_45 (by decide) ?_
      refine lv_icmp_ne (tgt := 56) C.1 C.2.1 dX12_span_46 (by decide) (fun c10 => ?_) (fun c10 => ?_)
      · have hX := br_n hX c10
        refine lv_iload_n C.1 C.2.1 dX12_span_56 rfl (lv_at hl 4 rfl) ?_
        refine lv_iconst (v := 2) C.1 C.2.1 dX12_span_57 (by decide) ?_
        refine lv_icmp_ne (tgt := 68) C.1 C.2.1 dX12_span_58 (by decide) (fun c11 => ?_) (fun c11 => ?_)
        · have hX := br_n hX c11
          refine lv_iload C.1 C.2.1 dX12_span_68 (lv_at hl 0 rfl) ?_
          refine lv_if_eq (tgt := 77) C.1 C.2.1 dX12_span_70 (by decide) (fun c12 => ?_) (fun c12 => ?_)
          · have hX := br_p hX c12
            refine lv_iconst (v := 0) C.1 C.2.1 dX12_span_77 (by decide) ?_
            exact G_reti C hr hlk hA hW (Option.some.inj hX).symm dX12_span_78
          have hX := br_n hX c12
          refine lv_iconst (v := 1) C.1 C.2.1 dX12_span_73 (by decide) ?_
          refine lv_goto (tgt := 78) C.1 C.2.1 dX12_span_74 (by decide) ?_
          exact G_reti C hr hlk hA hW (Option.some.inj hX).symm dX12_span_78
        have hX := br_p hX c11
        refine lv_aload_n C.1 C.2.1 dX12_span_61 rfl (lv_at hl 1 rfl) ?_
        refine M_geti C hin hW 45 (by decide) f45 dX12_span_62 ?_
        refine lv_goto (tgt := 78) C.1 C.2.1 dX12_span_65 (by decide) ?_
        exact G_reti C hr hlk hA hW (Option.some.inj hX).symm dX12_span_78
      have hX := br_p hX c10
      refine lv_aload_n C.1 C.2.1 dX12_span_49 rfl (lv_at hl 1 rfl) ?_
      refine M_geti C hin hW 44 (by decide) f44 dX12_span_50 ?_
      refine lv_goto (tgt := 78) C.1 C.2.1 dX12_span_53 (by decide) ?_
      exact G_reti C hr hlk hA hW (Option.some.inj hX).symm dX12_span_78
    have hX := br_p hX c9
    refine lv_aload_n C.1 C.2.1 dX12_span_37 rfl (lv_at hl 1 rfl) ?_
    refine M_geti C hin hW 43 (by decide) f43 dX12_span_38 ?_
    refine lv_goto (tgt := 78) C.1 C.2.1 dX12_span_41 (by decide) ?_
    exact G_reti C hr hlk hA hW (Option.some.inj hX).symm dX12_span_78
  have hX := br_n hX c6
  refine lv_iconst (v := -1) C.1 C.2.1 dX12_span_23 (by decide) ?_
  exact G_reti C hr hlk hA hW (Option.some.inj hX).symm dX12_span_24
abbrev rm_M_gather : Room := { frames := 3, cells := 0, slots := 0, locals := 73 }
def M_gather_L7 : Nat → St → Int32 → Int32 → Int32 → Option (St × Int32)
  | 0, _, _, _, _ => none
  | n + 1, σ, x3, x1, x2 => if (σ.1 41 0) ≤ x3 then some (σ, x3) else chkI x3 60 (if (σ.1 35 x3.toNatClampNeg) = x1 then bnd2 (M_isLawful σ x3 x2) (fun v18 σ17 => if v18 = 0 then nm (x3 + 1) (fun v25 => M_gather_L7 n σ17 v25 x1 x2) else chkI (σ17.1 49 0) 60 (nm (s1 σ17 46 (σ17.1 49 0).toNatClampNeg x3) (fun σ20 => chkI (σ20.1 49 0) 60 (nm (s1 σ20 47 (σ20.1 49 0).toNatClampNeg (σ20.1 43 0)) (fun σ21 => chkI (σ21.1 49 0) 60 (nm (s1 σ21 48 (σ21.1 49 0).toNatClampNeg (σ21.1 44 0)) (fun σ22 => nm (s1 σ22 49 0 ((σ22.1 49 0) + 1)) (fun σ23 => nm (x3 + 1) (fun v24 => M_gather_L7 n σ23 v24 x1 x2))))))))) else nm (x3 + 1) (fun v16 => M_gather_L7 n σ v16 x1 x2))
set_option maxHeartbeats 4000000 in
set_option maxRecDepth 100000 in
theorem r_M_gather_L7 {p : Program} {l : Launch} {e : Env} {s : State} {m : MethodId} {args : Array Value} {below : List Frame} {meth : Method} {c : Code} {Q : State → Prop} {Ev : EvT} {D : va_G} {cs : Nat → ClassId} {h : Nat} {a : Nat → Nat} {A : Nat → Prop} (C : Cx p s m args c cX12_gather 4 wsX12_gather RX12) : ∀ (n : Nat) (σ : St) (x3 : Int32) (x1 : Int32) (x2 : Int32) (H : Heap) (locs : List Loc) (ls : Array Slot) (X : St × Int32), some X = M_gather_L7 n σ x3 x1 x2 → GW Ev D (tyM cs) (wM h a cs) A s σ H locs → lv_has ls 4 [(3, .int x3), (0, .ref h), (1, .int x1), (2, .int x2)] → (∀ (τ : St) (z3 : Int32) (H : Heap) (locs : List Loc) (ls : Array Slot), X = (τ, z3) → GW Ev D (tyM cs) (wM h a cs) A s τ H locs → lv_has ls 4 [(3, .int z3), (0, .ref h), (1, .int x1), (2, .int x2)] → W p l e rm_M_gather s m args below meth c H locs 0 0 Q (F0 m 89 ls [])) → W p l e rm_M_gather s m args below meth c H locs 0 0 Q (F0 m 7 ls []) := by
  have hin : ∀ w ∈ wsX120, w ∈ wsX12_gather := fun w hw => List.mem_cons_of_mem _ (List.mem_append_right _ hw)
  have f35 : (Cond.fieldLink RX12 73 (TX12 35).1 (TX12 35).2.1 (TX12 35).2.2.1).before _ s = true := C.2.2.2.2 _ (List.mem_of_getElem? (i := 3) rfl)
  have f41 : (Cond.fieldLink RX12 280 (TX12 41).1 (TX12 41).2.1 (TX12 41).2.2.1).before _ s = true := C.2.2.2.2 _ (List.mem_of_getElem? (i := 2) rfl)
  have f43 : (Cond.fieldLink RX12 289 (TX12 43).1 (TX12 43).2.1 (TX12 43).2.2.1).before _ s = true := C.2.2.2.2 _ (List.mem_of_getElem? (i := 6) rfl)
  have f44 : (Cond.fieldLink RX12 292 (TX12 44).1 (TX12 44).2.1 (TX12 44).2.2.1).before _ s = true := C.2.2.2.2 _ (List.mem_of_getElem? (i := 8) rfl)
  have f46 : (Cond.fieldLink RX12 91 (TX12 46).1 (TX12 46).2.1 (TX12 46).2.2.1).before _ s = true := C.2.2.2.2 _ (List.mem_of_getElem? (i := 4) rfl)
  have f47 : (Cond.fieldLink RX12 94 (TX12 47).1 (TX12 47).2.1 (TX12 47).2.2.1).before _ s = true := C.2.2.2.2 _ (List.mem_of_getElem? (i := 5) rfl)
  have f48 : (Cond.fieldLink RX12 97 (TX12 48).1 (TX12 48).2.1 (TX12 48).2.2.1).before _ s = true := C.2.2.2.2 _ (List.mem_of_getElem? (i := 7) rfl)
  have f49 : (Cond.fieldLink RX12 311 (TX12 49).1 (TX12 49).2.1 (TX12 49).2.2.1).before _ s = true := C.2.2.2.2 _ (List.mem_of_getElem? (i := 1) rfl)
  intro n
  induction n with
  | zero =>
    intro σ x3 x1 x2 H locs ls X hX hW hl K0
    cases hX
  | succ n ih =>
    intro σ x3 x1 x2 H locs ls X hX hW hl K0
    unfold M_gather_L7 at hX
    refine lv_iload_n C.1 C.2.1 dX12_gather_7 rfl (lv_at hl 0 rfl) ?_
    refine lv_aload_n C.1 C.2.1 dX12_gather_8 rfl (lv_at hl 1 rfl) ?_
    refine M_geti C hin hW 41 (by decide) f41 dX12_gather_9 ?_
    refine lv_icmp_ge (tgt := 89) C.1 C.2.1 dX12_gather_12 (by decide) (fun c14 => ?_) (fun c14 => ?_)
    · have hX := br_p hX c14
      exact K0 σ x3 H locs ls (Option.some.inj hX) hW (lv_sub hl [0, 1, 2, 3] rfl)
    have hX := br_n hX c14
    refine lv_aload_n C.1 C.2.1 dX12_gather_15 rfl (lv_at hl 1 rfl) ?_
    refine M_geta C hin hW 35 rfl (by decide) f35 dX12_gather_16 ?_
    refine lv_iload_n C.1 C.2.1 dX12_gather_19 rfl (lv_at hl 0 rfl) ?_
    obtain ⟨hi, hX⟩ := chkI_st hX
    refine M_ldI C hW 35 rfl hi dX12_gather_20 ?_
    refine lv_iload_n C.1 C.2.1 dX12_gather_21 rfl (lv_at hl 2 rfl) ?_
    refine lv_icmp_ne (tgt := 83) C.1 C.2.1 dX12_gather_22 (by decide) (fun c15 => ?_) (fun c15 => ?_)
    · have hX := br_n hX c15
      obtain ⟨v16, ev16⟩ : ∃ z : Int32, z = x3 + 1 := ⟨_, rfl⟩
      have hX := nm_st hX ev16
      refine lv_iinc (v := v16) (lv' := [(3, .int v16), (0, .ref h), (1, .int x1), (2, .int x2)]) C.1 C.2.1 dX12_gather_83 hl (k := 0) rfl (by rw [ev16]; rfl) (by decide) rfl (fun ls hl => ?_)
      refine lv_goto (tgt := 7) C.1 C.2.1 dX12_gather_86 (by decide) ?_
      exact ih σ v16 x1 x2 H locs ls X hX hW (lv_sub hl [0, 1, 2, 3] rfl) K0
    have hX := br_p hX c15
    refine lv_aload_n C.1 C.2.1 dX12_gather_25 rfl (lv_at hl 1 rfl) ?_
    refine lv_iload_n C.1 C.2.1 dX12_gather_26 rfl (lv_at hl 0 rfl) ?_
    refine lv_iload_n C.1 C.2.1 dX12_gather_27 rfl (lv_at hl 3 rfl) ?_
    obtain ⟨v18, σ17, hq, hX⟩ := bnd2_st hX
    refine G_V0e (As := [.int x3, .int x2]) (rest := []) C hW (c_M_isLawful l D cs h a σ x3 x2 (v18, σ17) hq.symm) (cwV 2 C.2.2.2.2 gX12_gather_X12_isLawful rfl rfl rfl (by decide +kernel) ⟨Nat.le_of_ble_eq_true rfl, Nat.le_of_ble_eq_true rfl⟩) (M_recv hW) rfl hl.1 rfl (Nat.le_of_ble_eq_true rfl) dX12_gather_28 (fun H locs hW => ?_)
    refine lv_if_ne (tgt := 37) C.1 C.2.1 dX12_gather_31 (by decide) (fun c19 => ?_) (fun c19 => ?_)
    · have hX := br_n hX c19
      refine lv_aload_n C.1 C.2.1 dX12_gather_37 rfl (lv_at hl 1 rfl) ?_
      refine M_geta C hin hW 46 rfl (by decide) f46 dX12_gather_38 ?_
      refine lv_aload_n C.1 C.2.1 dX12_gather_41 rfl (lv_at hl 1 rfl) ?_
      refine M_geti C hin hW 49 (by decide) f49 dX12_gather_42 ?_
      refine lv_iload_n C.1 C.2.1 dX12_gather_45 rfl (lv_at hl 0 rfl) ?_
      obtain ⟨hi, hX⟩ := chkI_st hX
      refine M_stI C hW 46 rfl hi dX12_gather_46 (fun H locs σ20 eσ20 hW => ?_)
      have hX := nm_st hX eσ20
      refine lv_aload_n C.1 C.2.1 dX12_gather_47 rfl (lv_at hl 1 rfl) ?_
      refine M_geta C hin hW 47 rfl (by decide) f47 dX12_gather_48 ?_
      refine lv_aload_n C.1 C.2.1 dX12_gather_51 rfl (lv_at hl 1 rfl) ?_
      refine M_geti C hin hW 49 (by decide) f49 dX12_gather_52 ?_
      refine lv_aload_n C.1 C.2.1 dX12_gather_55 rfl (lv_at hl 1 rfl) ?_
      refine M_geti C hin hW 43 (by decide) f43 dX12_gather_56 ?_
      obtain ⟨hi, hX⟩ := chkI_st hX
      refine M_stI C hW 47 rfl hi dX12_gather_59 (fun H locs σ21 eσ21 hW => ?_)
      have hX := nm_st hX eσ21
      refine lv_aload_n C.1 C.2.1 dX12_gather_60 rfl (lv_at hl 1 rfl) ?_
      refine M_geta C hin hW 48 rfl (by decide) f48 dX12_gather_61 ?_
      refine lv_aload_n C.1 C.2.1 dX12_gather_64 rfl (lv_at hl 1 rfl) ?_
      refine M_geti C hin hW 49 (by decide) f49 dX12_gather_65 ?_
      refine lv_aload_n C.1 C.2.1 dX12_gather_68 rfl (lv_at hl 1 rfl) ?_
      refine M_geti C hin hW 44 (by decide) f44 dX12_gather_69 ?_
      obtain ⟨hi, hX⟩ := chkI_st hX
      refine M_stI C hW 48 rfl hi dX12_gather_72 (fun H locs σ22 eσ22 hW => ?_)
      have hX := nm_st hX eσ22
      refine lv_aload_n C.1 C.2.1 dX12_gather_73 rfl (lv_at hl 1 rfl) ?_
      refine lv_dup C.1 C.2.1 dX12_gather_74 rfl ?_
      refine M_geti C hin hW 49 (by decide) f49 dX12_gather_75 ?_
      refine lv_iconst (v := 1) C.1 C.2.1 dX12_gather_78 (by decide) ?_
      refine lv_iadd C.1 C.2.1 dX12_gather_79 ?_
      refine M_puti C hin hW 49 rfl f49 dX12_gather_80 (fun H locs σ23 eσ23 hW => ?_)
      have hX := nm_st hX eσ23
      obtain ⟨v24, ev24⟩ : ∃ z : Int32, z = x3 + 1 := ⟨_, rfl⟩
      have hX := nm_st hX ev24
      refine lv_iinc (v := v24) (lv' := [(3, .int v24), (0, .ref h), (1, .int x1), (2, .int x2)]) C.1 C.2.1 dX12_gather_83 hl (k := 0) rfl (by rw [ev24]; rfl) (by decide) rfl (fun ls hl => ?_)
      refine lv_goto (tgt := 7) C.1 C.2.1 dX12_gather_86 (by decide) ?_
      exact ih σ23 v24 x1 x2 H locs ls X hX hW (lv_sub hl [0, 1, 2, 3] rfl) K0
    have hX := br_p hX c19
    refine lv_goto (tgt := 83) C.1 C.2.1 dX12_gather_34 (by decide) ?_
    obtain ⟨v25, ev25⟩ : ∃ z : Int32, z = x3 + 1 := ⟨_, rfl⟩
    have hX := nm_st hX ev25
    refine lv_iinc (v := v25) (lv' := [(3, .int v25), (0, .ref h), (1, .int x1), (2, .int x2)]) C.1 C.2.1 dX12_gather_83 hl (k := 0) rfl (by rw [ev25]; rfl) (by decide) rfl (fun ls hl => ?_)
    refine lv_goto (tgt := 7) C.1 C.2.1 dX12_gather_86 (by decide) ?_
    exact ih σ17 v25 x1 x2 H locs ls X hX hW (lv_sub hl [0, 1, 2, 3] rfl) K0
def M_gather (σ : St) (x1 : Int32) (x2 : Int32) : Option (St) := nm (s1 σ 49 0 0) (fun σ1 => bnd (M_gather_L7 100000 σ1 0 x1 x2) (fun q => nm2 q (fun σ26 v27 => some σ26)))
set_option maxHeartbeats 4000000 in
set_option maxRecDepth 100000 in
theorem c_M_gather {Ev : EvT} (l : Launch) (D : va_G) (cs : Nat → ClassId) (h : Nat) (a : Nat → Nat) (σ : St) (x1 : Int32) (x2 : Int32) (X : St) (hX : some X = M_gather σ x1 x2) : cGv Ev l D (tyM cs) (wM h a cs) yX12_gather wsX12_gather rm_M_gather 0 0 [.ref h, .int x1, .int x2] σ (fun u => u = X) := by
  refine G_inv (cc := cX12_gather) (maxL := 4) (ret := none) (by decide) rfl (Nat.le_of_ble_eq_true rfl) ?_
  intro p e s m below meth c A ls C hr hlk hini hA hW hl
  have C : Cx p s m _ c cX12_gather 4 wsX12_gather RX12 := C
  have hl : lv_has ls 4 [(0, .ref h), (1, .int x1), (2, .int x2)] := hl
  have hin : ∀ w ∈ wsX120, w ∈ wsX12_gather := fun w hw => List.mem_cons_of_mem _ (List.mem_append_right _ hw)
  have f35 : (Cond.fieldLink RX12 73 (TX12 35).1 (TX12 35).2.1 (TX12 35).2.2.1).before _ s = true := C.2.2.2.2 _ (List.mem_of_getElem? (i := 3) rfl)
  have f41 : (Cond.fieldLink RX12 280 (TX12 41).1 (TX12 41).2.1 (TX12 41).2.2.1).before _ s = true := C.2.2.2.2 _ (List.mem_of_getElem? (i := 2) rfl)
  have f43 : (Cond.fieldLink RX12 289 (TX12 43).1 (TX12 43).2.1 (TX12 43).2.2.1).before _ s = true := C.2.2.2.2 _ (List.mem_of_getElem? (i := 6) rfl)
  have f44 : (Cond.fieldLink RX12 292 (TX12 44).1 (TX12 44).2.1 (TX12 44).2.2.1).before _ s = true := C.2.2.2.2 _ (List.mem_of_getElem? (i := 8) rfl)
  have f46 : (Cond.fieldLink RX12 91 (TX12 46).1 (TX12 46).2.1 (TX12 46).2.2.1).before _ s = true := C.2.2.2.2 _ (List.mem_of_getElem? (i := 4) rfl)
  have f47 : (Cond.fieldLink RX12 94 (TX12 47).1 (TX12 47).2.1 (TX12 47).2.2.1).before _ s = true := C.2.2.2.2 _ (List.mem_of_getElem? (i := 5) rfl)
  have f48 : (Cond.fieldLink RX12 97 (TX12 48).1 (TX12 48).2.1 (TX12 48).2.2.1).before _ s = true := C.2.2.2.2 _ (List.mem_of_getElem? (i := 7) rfl)
  have f49 : (Cond.fieldLink RX12 311 (TX12 49).1 (TX12 49).2.1 (TX12 49).2.2.1).before _ s = true := C.2.2.2.2 _ (List.mem_of_getElem? (i := 1) rfl)
  obtain ⟨H, hH⟩ : ∃ H, H = s.heap := ⟨_, rfl⟩
  obtain ⟨locs, hlo⟩ : ∃ z : List Loc, z = [] := ⟨_, rfl⟩
  have hW : GW Ev D (tyM cs) (wM h a cs) A s σ H locs := by rw [hH, hlo]; exact hW
  rw [show W p l e rm_M_gather s m _ below meth c s.heap [] = W p l e rm_M_gather s m _ below meth c H locs from by rw [hH, hlo]]
  unfold M_gather at hX
  refine lv_aload_n C.1 C.2.1 dX12_gather_0 rfl (lv_at hl 0 rfl) ?_
  refine lv_iconst (v := 0) C.1 C.2.1 dX12_gather_1 (by decide) ?_
  refine M_puti C hin hW 49 rfl f49 dX12_gather_2 (fun H locs σ1 eσ1 hW => ?_)
  have hX := nm_st hX eσ1
  refine lv_iconst (v := 0) C.1 C.2.1 dX12_gather_5 (by decide) ?_
  refine lv_istore_n (lv' := [(3, .int 0), (0, .ref h), (1, .int x1), (2, .int x2)]) C.1 C.2.1 dX12_gather_6 rfl hl (by decide) rfl (fun ls hl => ?_)
  obtain ⟨q, hq, hX⟩ := bnd_st hX
  refine r_M_gather_L7 C 100000 σ1 0 x1 x2 H locs ls q hq.symm hW (lv_sub hl [0, 1, 2, 3] rfl) ?_
  intro σ26 v27 H locs ls hq hW hl
  subst hq
  have hX := nm2_st hX rfl
  exact G_retv C hr hlk hA hW (Option.some.inj hX).symm dX12_gather_89
abbrev rm_M_sure : Room := { frames := 0, cells := 0, slots := 0, locals := 0 }
def M_sure_L14 : Nat → St → Int32 → Int32 → Int32 → Option (Int32 × Int32)
  | 0, _, _, _, _ => none
  | n + 1, σ, x3, x2, x1 => if (σ.1 49 0) ≤ x3 then some (x3, x2) else if x2 = 0 then nm (x3 + 1) (fun v12 => M_sure_L14 n σ v12 0 x1) else if x3 = x1 then nm (x3 + 1) (fun v14 => M_sure_L14 n σ v14 1 x1) else chkI x1 60 (chkI x3 60 (if (σ.1 47 x3.toNatClampNeg) ≤ (σ.1 48 x1.toNatClampNeg) then nm (x3 + 1) (fun v16 => M_sure_L14 n σ v16 0 x1) else nm (x3 + 1) (fun v17 => M_sure_L14 n σ v17 1 x1)))
set_option maxHeartbeats 4000000 in
set_option maxRecDepth 100000 in
theorem r_M_sure_L14 {p : Program} {l : Launch} {e : Env} {s : State} {m : MethodId} {args : Array Value} {below : List Frame} {meth : Method} {c : Code} {Q : State → Prop} {Ev : EvT} {D : va_G} {cs : Nat → ClassId} {h : Nat} {a : Nat → Nat} {A : Nat → Prop} (C : Cx p s m args c cX12_sure 4 wsX12_sure RX12) : ∀ (n : Nat) (σ : St) (x3 : Int32) (x2 : Int32) (x1 : Int32) (H : Heap) (locs : List Loc) (ls : Array Slot) (X : Int32 × Int32), some X = M_sure_L14 n σ x3 x2 x1 → GW Ev D (tyM cs) (wM h a cs) A s σ H locs → lv_has ls 4 [(3, .int x3), (2, .int x2), (1, .int x1), (0, .ref h)] → (∀ (z3 : Int32) (z2 : Int32) (H : Heap) (locs : List Loc) (ls : Array Slot), X = (z3, z2) → GW Ev D (tyM cs) (wM h a cs) A s σ H locs → lv_has ls 4 [(3, .int z3), (2, .int z2), (1, .int x1), (0, .ref h)] → W p l e rm_M_sure s m args below meth c H locs 0 0 Q (F0 m 58 ls [])) → W p l e rm_M_sure s m args below meth c H locs 0 0 Q (F0 m 14 ls []) := by
  have hin : ∀ w ∈ wsX120, w ∈ wsX12_sure := fun w hw => List.mem_cons_of_mem _ (List.mem_append_right _ hw)
  have f47 : (Cond.fieldLink RX12 94 (TX12 47).1 (TX12 47).2.1 (TX12 47).2.2.1).before _ s = true := C.2.2.2.2 _ (List.mem_of_getElem? (i := 3) rfl)
  have f48 : (Cond.fieldLink RX12 97 (TX12 48).1 (TX12 48).2.1 (TX12 48).2.2.1).before _ s = true := C.2.2.2.2 _ (List.mem_of_getElem? (i := 2) rfl)
  have f49 : (Cond.fieldLink RX12 311 (TX12 49).1 (TX12 49).2.1 (TX12 49).2.2.1).before _ s = true := C.2.2.2.2 _ (List.mem_of_getElem? (i := 1) rfl)
  intro n
  induction n with
  | zero =>
    intro σ x3 x2 x1 H locs ls X hX hW hl K0
    cases hX
  | succ n ih =>
    intro σ x3 x2 x1 H locs ls X hX hW hl K0
    unfold M_sure_L14 at hX
    refine lv_iload_n C.1 C.2.1 dX12_sure_14 rfl (lv_at hl 0 rfl) ?_
    refine lv_aload_n C.1 C.2.1 dX12_sure_15 rfl (lv_at hl 3 rfl) ?_
    refine M_geti C hin hW 49 (by decide) f49 dX12_sure_16 ?_
    refine lv_icmp_ge (tgt := 58) C.1 C.2.1 dX12_sure_19 (by decide) (fun c10 => ?_) (fun c10 => ?_)
    · have hX := br_p hX c10
      exact K0 x3 x2 H locs ls (Option.some.inj hX) hW (lv_sub hl [0, 1, 2, 3] rfl)
    have hX := br_n hX c10
    refine lv_iload_n C.1 C.2.1 dX12_sure_22 rfl (lv_at hl 1 rfl) ?_
    refine lv_if_eq (tgt := 50) C.1 C.2.1 dX12_sure_23 (by decide) (fun c11 => ?_) (fun c11 => ?_)
    · have hX := br_p hX c11
      refine lv_iconst (v := 0) C.1 C.2.1 dX12_sure_50 (by decide) ?_
      refine lv_istore_n (lv' := [(2, .int 0), (3, .int x3), (1, .int x1), (0, .ref h)]) C.1 C.2.1 dX12_sure_51 rfl hl (by decide) rfl (fun ls hl => ?_)
      obtain ⟨v12, ev12⟩ : ∃ z : Int32, z = x3 + 1 := ⟨_, rfl⟩
      have hX := nm_st hX ev12
      refine lv_iinc (v := v12) (lv' := [(3, .int v12), (2, .int 0), (1, .int x1), (0, .ref h)]) C.1 C.2.1 dX12_sure_52 hl (k := 1) rfl (by rw [ev12]; rfl) (by decide) rfl (fun ls hl => ?_)
      refine lv_goto (tgt := 14) C.1 C.2.1 dX12_sure_55 (by decide) ?_
      exact ih σ v12 0 x1 H locs ls X hX hW (lv_sub hl [0, 1, 2, 3] rfl) K0
    have hX := br_n hX c11
    refine lv_iload_n C.1 C.2.1 dX12_sure_26 rfl (lv_at hl 0 rfl) ?_
    refine lv_iload_n C.1 C.2.1 dX12_sure_27 rfl (lv_at hl 2 rfl) ?_
    refine lv_icmp_eq (tgt := 46) C.1 C.2.1 dX12_sure_28 (by decide) (fun c13 => ?_) (fun c13 => ?_)
    · have hX := br_p hX c13
      refine lv_iconst (v := 1) C.1 C.2.1 dX12_sure_46 (by decide) ?_
      refine lv_goto (tgt := 51) C.1 C.2.1 dX12_sure_47 (by decide) ?_
      refine lv_istore_n (lv' := [(2, .int 1), (3, .int x3), (1, .int x1), (0, .ref h)]) C.1 C.2.1 dX12_sure_51 rfl hl (by decide) rfl (fun ls hl => ?_)
      obtain ⟨v14, ev14⟩ : ∃ z : Int32, z = x3 + 1 := ⟨_, rfl⟩
      have hX := nm_st hX ev14
      refine lv_iinc (v := v14) (lv' := [(3, .int v14), (2, .int 1), (1, .int x1), (0, .ref h)]) C.1 C.2.1 dX12_sure_52 hl (k := 1) rfl (by rw [ev14]; rfl) (by decide) rfl (fun ls hl => ?_)
      refine lv_goto (tgt := 14) C.1 C.2.1 dX12_sure_55 (by decide) ?_
      exact ih σ v14 1 x1 H locs ls X hX hW (lv_sub hl [0, 1, 2, 3] rfl) K0
    have hX := br_n hX c13
    refine lv_aload_n C.1 C.2.1 dX12_sure_31 rfl (lv_at hl 3 rfl) ?_
    refine M_geta C hin hW 48 rfl (by decide) f48 dX12_sure_32 ?_
    refine lv_iload_n C.1 C.2.1 dX12_sure_35 rfl (lv_at hl 2 rfl) ?_
    obtain ⟨hi, hX⟩ := chkI_st hX
    refine M_ldI C hW 48 rfl hi dX12_sure_36 ?_
    refine lv_aload_n C.1 C.2.1 dX12_sure_37 rfl (lv_at hl 3 rfl) ?_
    refine M_geta C hin hW 47 rfl (by decide) f47 dX12_sure_38 ?_
    refine lv_iload_n C.1 C.2.1 dX12_sure_41 rfl (lv_at hl 0 rfl) ?_
    obtain ⟨hi, hX⟩ := chkI_st hX
    refine M_ldI C hW 47 rfl hi dX12_sure_42 ?_
    refine lv_icmp_ge (tgt := 50) C.1 C.2.1 dX12_sure_43 (by decide) (fun c15 => ?_) (fun c15 => ?_)
    · have hX := br_p hX c15
      refine lv_iconst (v := 0) C.1 C.2.1 dX12_sure_50 (by decide) ?_
      refine lv_istore_n (lv' := [(2, .int 0), (3, .int x3), (1, .int x1), (0, .ref h)]) C.1 C.2.1 dX12_sure_51 rfl hl (by decide) rfl (fun ls hl => ?_)
      obtain ⟨v16, ev16⟩ : ∃ z : Int32, z = x3 + 1 := ⟨_, rfl⟩
      have hX := nm_st hX ev16
      refine lv_iinc (v := v16) (lv' := [(3, .int v16), (2, .int 0), (1, .int x1), (0, .ref h)]) C.1 C.2.1 dX12_sure_52 hl (k := 1) rfl (by rw [ev16]; rfl) (by decide) rfl (fun ls hl => ?_)
      refine lv_goto (tgt := 14) C.1 C.2.1 dX12_sure_55 (by decide) ?_
      exact ih σ v16 0 x1 H locs ls X hX hW (lv_sub hl [0, 1, 2, 3] rfl) K0
    have hX := br_n hX c15
    refine lv_iconst (v := 1) C.1 C.2.1 dX12_sure_46 (by decide) ?_
    refine lv_goto (tgt := 51) C.1 C.2.1 dX12_sure_47 (by decide) ?_
    refine lv_istore_n (lv' := [(2, .int 1), (3, .int x3), (1, .int x1), (0, .ref h)]) C.1 C.2.1 dX12_sure_51 rfl hl (by decide) rfl (fun ls hl => ?_)
    obtain ⟨v17, ev17⟩ : ∃ z : Int32, z = x3 + 1 := ⟨_, rfl⟩
    have hX := nm_st hX ev17
    refine lv_iinc (v := v17) (lv' := [(3, .int v17), (2, .int 1), (1, .int x1), (0, .ref h)]) C.1 C.2.1 dX12_sure_52 hl (k := 1) rfl (by rw [ev17]; rfl) (by decide) rfl (fun ls hl => ?_)
    refine lv_goto (tgt := 14) C.1 C.2.1 dX12_sure_55 (by decide) ?_
    exact ih σ v17 1 x1 H locs ls X hX hW (lv_sub hl [0, 1, 2, 3] rfl) K0
def M_sure_L2 : Nat → St → Int32 → Option (Nat × Int32 × Int32)
  | 0, _, _ => none
  | n + 1, σ, x1 => if (σ.1 49 0) ≤ x1 then some (1, x1, 0) else bnd (M_sure_L14 100000 σ 0 1 x1) (fun q => nm2 q (fun v23 v24 => if v24 = 0 then nm (x1 + 1) (fun v26 => M_sure_L2 n σ v26) else chkI x1 60 (some (0, x1, (σ.1 46 x1.toNatClampNeg)))))
set_option maxHeartbeats 4000000 in
set_option maxRecDepth 100000 in
theorem r_M_sure_L2 {p : Program} {l : Launch} {e : Env} {s : State} {m : MethodId} {args : Array Value} {below : List Frame} {meth : Method} {c : Code} {Q : State → Prop} {Ev : EvT} {D : va_G} {cs : Nat → ClassId} {h : Nat} {a : Nat → Nat} {A : Nat → Prop} (C : Cx p s m args c cX12_sure 4 wsX12_sure RX12) : ∀ (n : Nat) (σ : St) (x1 : Int32) (H : Heap) (locs : List Loc) (ls : Array Slot) (X : Nat × Int32 × Int32), some X = M_sure_L2 n σ x1 → GW Ev D (tyM cs) (wM h a cs) A s σ H locs → lv_has ls 4 [(1, .int x1), (0, .ref h)] → (∀ (z1 : Int32) (w0 : Int32) (H : Heap) (locs : List Loc) (ls : Array Slot), X = (0, z1, w0) → GW Ev D (tyM cs) (wM h a cs) A s σ H locs → lv_has ls 4 [(1, .int z1), (0, .ref h)] → W p l e rm_M_sure s m args below meth c H locs 0 0 Q (F0 m 68 ls [.int w0])) → (∀ (z1 : Int32) (w0 : Int32) (H : Heap) (locs : List Loc) (ls : Array Slot), X = (1, z1, w0) → GW Ev D (tyM cs) (wM h a cs) A s σ H locs → lv_has ls 4 [(1, .int z1), (0, .ref h)] → W p l e rm_M_sure s m args below meth c H locs 0 0 Q (F0 m 75 ls [])) → W p l e rm_M_sure s m args below meth c H locs 0 0 Q (F0 m 2 ls []) := by
  have hin : ∀ w ∈ wsX120, w ∈ wsX12_sure := fun w hw => List.mem_cons_of_mem _ (List.mem_append_right _ hw)
  have f46 : (Cond.fieldLink RX12 91 (TX12 46).1 (TX12 46).2.1 (TX12 46).2.2.1).before _ s = true := C.2.2.2.2 _ (List.mem_of_getElem? (i := 4) rfl)
  have f47 : (Cond.fieldLink RX12 94 (TX12 47).1 (TX12 47).2.1 (TX12 47).2.2.1).before _ s = true := C.2.2.2.2 _ (List.mem_of_getElem? (i := 3) rfl)
  have f48 : (Cond.fieldLink RX12 97 (TX12 48).1 (TX12 48).2.1 (TX12 48).2.2.1).before _ s = true := C.2.2.2.2 _ (List.mem_of_getElem? (i := 2) rfl)
  have f49 : (Cond.fieldLink RX12 311 (TX12 49).1 (TX12 49).2.1 (TX12 49).2.2.1).before _ s = true := C.2.2.2.2 _ (List.mem_of_getElem? (i := 1) rfl)
  intro n
  induction n with
  | zero =>
    intro σ x1 H locs ls X hX hW hl K0 K1
    cases hX
  | succ n ih =>
    intro σ x1 H locs ls X hX hW hl K0 K1
    unfold M_sure_L2 at hX
    refine lv_iload_n C.1 C.2.1 dX12_sure_2 rfl (lv_at hl 0 rfl) ?_
    refine lv_aload_n C.1 C.2.1 dX12_sure_3 rfl (lv_at hl 1 rfl) ?_
    refine M_geti C hin hW 49 (by decide) f49 dX12_sure_4 ?_
    refine lv_icmp_ge (tgt := 75) C.1 C.2.1 dX12_sure_7 (by decide) (fun c22 => ?_) (fun c22 => ?_)
    · have hX := br_p hX c22
      exact K1 x1 0 H locs ls (Option.some.inj hX) hW (lv_sub hl [0, 1] rfl)
    have hX := br_n hX c22
    refine lv_iconst (v := 1) C.1 C.2.1 dX12_sure_10 (by decide) ?_
    refine lv_istore_n (lv' := [(2, .int 1), (1, .int x1), (0, .ref h)]) C.1 C.2.1 dX12_sure_11 rfl hl (by decide) rfl (fun ls hl => ?_)
    refine lv_iconst (v := 0) C.1 C.2.1 dX12_sure_12 (by decide) ?_
    refine lv_istore_n (lv' := [(3, .int 0), (2, .int 1), (1, .int x1), (0, .ref h)]) C.1 C.2.1 dX12_sure_13 rfl hl (by decide) rfl (fun ls hl => ?_)
    obtain ⟨q, hq, hX⟩ := bnd_st hX
    refine r_M_sure_L14 C 100000 σ 0 1 x1 H locs ls q hq.symm hW (lv_sub hl [0, 1, 2, 3] rfl) ?_
    intro v23 v24 H locs ls hq hW hl
    subst hq
    have hX := nm2_st hX rfl
    refine lv_iload_n C.1 C.2.1 dX12_sure_58 rfl (lv_at hl 1 rfl) ?_
    refine lv_if_eq (tgt := 69) C.1 C.2.1 dX12_sure_59 (by decide) (fun c25 => ?_) (fun c25 => ?_)
    · have hX := br_p hX c25
      obtain ⟨v26, ev26⟩ : ∃ z : Int32, z = x1 + 1 := ⟨_, rfl⟩
      have hX := nm_st hX ev26
      refine lv_iinc (v := v26) (lv' := [(1, .int v26), (3, .int v23), (2, .int v24), (0, .ref h)]) C.1 C.2.1 dX12_sure_69 hl (k := 2) rfl (by rw [ev26]; rfl) (by decide) rfl (fun ls hl => ?_)
      refine lv_goto (tgt := 2) C.1 C.2.1 dX12_sure_72 (by decide) ?_
      exact ih σ v26 H locs ls X hX hW (lv_sub hl [0, 3] rfl) K0 K1
    have hX := br_n hX c25
    refine lv_aload_n C.1 C.2.1 dX12_sure_62 rfl (lv_at hl 3 rfl) ?_
    refine M_geta C hin hW 46 rfl (by decide) f46 dX12_sure_63 ?_
    refine lv_iload_n C.1 C.2.1 dX12_sure_66 rfl (lv_at hl 2 rfl) ?_
    obtain ⟨hi, hX⟩ := chkI_st hX
    refine M_ldI C hW 46 rfl hi dX12_sure_67 ?_
    exact K0 x1 (σ.1 46 x1.toNatClampNeg) H locs ls (Option.some.inj hX) hW (lv_sub hl [2, 3] rfl)
def M_sure (σ : St) : Option (Int32) := bnd (M_sure_L2 100000 σ 0) (fun q => nm2 q (fun j q => nm2 q (fun v27 v28 => if j = 0 then some v28 else if j = 1 then some (-1) else none)))
set_option maxHeartbeats 4000000 in
set_option maxRecDepth 100000 in
theorem c_M_sure {Ev : EvT} (l : Launch) (D : va_G) (cs : Nat → ClassId) (h : Nat) (a : Nat → Nat) (σ : St) (X : Int32) (hX : some X = M_sure σ) : cGi Ev l D (tyM cs) (wM h a cs) yX12_sure wsX12_sure rm_M_sure 0 0 [.ref h] σ (fun r u => r = X ∧ u = σ) := by
  refine G_ini (cc := cX12_sure) (maxL := 4) (ret := some .int) (by decide) rfl (Nat.le_of_ble_eq_true rfl) ?_
  intro p e s m below meth c A ls C hr hlk hini hA hW hl
  have C : Cx p s m _ c cX12_sure 4 wsX12_sure RX12 := C
  have hl : lv_has ls 4 [(0, .ref h)] := hl
  have hin : ∀ w ∈ wsX120, w ∈ wsX12_sure := fun w hw => List.mem_cons_of_mem _ (List.mem_append_right _ hw)
  have f46 : (Cond.fieldLink RX12 91 (TX12 46).1 (TX12 46).2.1 (TX12 46).2.2.1).before _ s = true := C.2.2.2.2 _ (List.mem_of_getElem? (i := 4) rfl)
  have f47 : (Cond.fieldLink RX12 94 (TX12 47).1 (TX12 47).2.1 (TX12 47).2.2.1).before _ s = true := C.2.2.2.2 _ (List.mem_of_getElem? (i := 3) rfl)
  have f48 : (Cond.fieldLink RX12 97 (TX12 48).1 (TX12 48).2.1 (TX12 48).2.2.1).before _ s = true := C.2.2.2.2 _ (List.mem_of_getElem? (i := 2) rfl)
  have f49 : (Cond.fieldLink RX12 311 (TX12 49).1 (TX12 49).2.1 (TX12 49).2.2.1).before _ s = true := C.2.2.2.2 _ (List.mem_of_getElem? (i := 1) rfl)
  obtain ⟨H, hH⟩ : ∃ H, H = s.heap := ⟨_, rfl⟩
  obtain ⟨locs, hlo⟩ : ∃ z : List Loc, z = [] := ⟨_, rfl⟩
  have hW : GW Ev D (tyM cs) (wM h a cs) A s σ H locs := by rw [hH, hlo]; exact hW
  rw [show W p l e rm_M_sure s m _ below meth c s.heap [] = W p l e rm_M_sure s m _ below meth c H locs from by rw [hH, hlo]]
  unfold M_sure at hX
  refine lv_iconst (v := 0) C.1 C.2.1 dX12_sure_0 (by decide) ?_
  refine lv_istore_n (lv' := [(1, .int 0), (0, .ref h)]) C.1 C.2.1 dX12_sure_1 rfl hl (by decide) rfl (fun ls hl => ?_)
  obtain ⟨q, hq, hX⟩ := bnd_st hX
  refine r_M_sure_L2 C 100000 σ 0 H locs ls q hq.symm hW (lv_sub hl [0, 1] rfl) ?_ ?_
  · intro v27 v28 H locs ls hq hW hl
    subst hq
    have hX := nm2_st hX rfl
    have hX := nm2_st hX rfl
    have hX := br_p hX rfl
    exact G_reti C hr hlk hA hW ⟨(Option.some.inj hX).symm, rfl⟩ dX12_sure_68
  intro v29 v30 H locs ls hq hW hl
  subst hq
  have hX := nm2_st hX rfl
  have hX := nm2_st hX rfl
  have hX := br_n hX (by decide)
  have hX := br_p hX rfl
  refine lv_iconst (v := -1) C.1 C.2.1 dX12_sure_75 (by decide) ?_
  exact G_reti C hr hlk hA hW ⟨(Option.some.inj hX).symm, rfl⟩ dX12_sure_76
abbrev rm_M_judge : Room := { frames := 4, cells := 0, slots := 0, locals := 96 }
def M_judge_B71 (σ : St) (x6 : Int32) (x5 : Int32) (x4 : Int32) (x3 : Int32) (x1 : Int32) (x2 : Int32) : Option (Int32) := if x5 = 0 then some 0 else chkI x4 60 (chkI x6 60 (if (σ.1 48 x6.toNatClampNeg) < (σ.1 47 x4.toNatClampNeg) then some 0 else some 1))
set_option maxHeartbeats 4000000 in
set_option maxRecDepth 100000 in
theorem r_M_judge_B71 {p : Program} {l : Launch} {e : Env} {s : State} {m : MethodId} {args : Array Value} {below : List Frame} {meth : Method} {c : Code} {Q : State → Prop} {Ev : EvT} {D : va_G} {cs : Nat → ClassId} {h : Nat} {a : Nat → Nat} {A : Nat → Prop} (C : Cx p s m args c cX12_judge 7 wsX12_judge RX12) : ∀ (σ : St) (x6 : Int32) (x5 : Int32) (x4 : Int32) (x3 : Int32) (x1 : Int32) (x2 : Int32) (H : Heap) (locs : List Loc) (ls : Array Slot) (X : Int32), some X = M_judge_B71 σ x6 x5 x4 x3 x1 x2 → GW Ev D (tyM cs) (wM h a cs) A s σ H locs → lv_has ls 7 [(6, .int x6), (5, .int x5), (4, .int x4), (3, .int x3), (0, .ref h), (1, .int x1), (2, .int x2)] → (∀ (w0 : Int32) (H : Heap) (locs : List Loc) (ls : Array Slot), X = w0 → GW Ev D (tyM cs) (wM h a cs) A s σ H locs → lv_has ls 7 [(6, .int x6), (5, .int x5), (4, .int x4), (3, .int x3), (0, .ref h), (1, .int x1), (2, .int x2)] → W p l e rm_M_judge s m args below meth c H locs 0 0 Q (F0 m 98 ls [.int w0])) → W p l e rm_M_judge s m args below meth c H locs 0 0 Q (F0 m 71 ls []) := by
  have hin : ∀ w ∈ wsX120, w ∈ wsX12_judge := fun w hw => List.mem_cons_of_mem _ (List.mem_append_right _ hw)
  have f0 : (Cond.fieldLink RX12 133 (TX12 0).1 (TX12 0).2.1 (TX12 0).2.2.1).before _ s = true := C.2.2.2.2 _ (List.mem_of_getElem? (i := 1) rfl)
  have f23 : (Cond.fieldLink RX12 61 (TX12 23).1 (TX12 23).2.1 (TX12 23).2.2.1).before _ s = true := C.2.2.2.2 _ (List.mem_of_getElem? (i := 2) rfl)
  have f47 : (Cond.fieldLink RX12 94 (TX12 47).1 (TX12 47).2.1 (TX12 47).2.2.1).before _ s = true := C.2.2.2.2 _ (List.mem_of_getElem? (i := 4) rfl)
  have f48 : (Cond.fieldLink RX12 97 (TX12 48).1 (TX12 48).2.1 (TX12 48).2.2.1).before _ s = true := C.2.2.2.2 _ (List.mem_of_getElem? (i := 5) rfl)
  have f49 : (Cond.fieldLink RX12 311 (TX12 49).1 (TX12 49).2.1 (TX12 49).2.2.1).before _ s = true := C.2.2.2.2 _ (List.mem_of_getElem? (i := 3) rfl)
  intro σ x6 x5 x4 x3 x1 x2 H locs ls X hX hW hl K0
  unfold M_judge_B71 at hX
  refine lv_iload C.1 C.2.1 dX12_judge_71 (lv_at hl 1 rfl) ?_
  refine lv_if_eq (tgt := 97) C.1 C.2.1 dX12_judge_73 (by decide) (fun c15 => ?_) (fun c15 => ?_)
  · have hX := br_p hX c15
    refine lv_iconst (v := 0) C.1 C.2.1 dX12_judge_97 (by decide) ?_
    exact K0 0 H locs ls (Option.some.inj hX) hW (lv_sub hl [0, 1, 2, 3, 4, 5, 6] rfl)
  have hX := br_n hX c15
  refine lv_aload_n C.1 C.2.1 dX12_judge_76 rfl (lv_at hl 4 rfl) ?_
  refine M_geta C hin hW 47 rfl (by decide) f47 dX12_judge_77 ?_
  refine lv_iload C.1 C.2.1 dX12_judge_80 (lv_at hl 2 rfl) ?_
  obtain ⟨hi, hX⟩ := chkI_st hX
  refine M_ldI C hW 47 rfl hi dX12_judge_82 ?_
  refine lv_aload_n C.1 C.2.1 dX12_judge_83 rfl (lv_at hl 4 rfl) ?_
  refine M_geta C hin hW 48 rfl (by decide) f48 dX12_judge_84 ?_
  refine lv_iload C.1 C.2.1 dX12_judge_87 (lv_at hl 0 rfl) ?_
  obtain ⟨hi, hX⟩ := chkI_st hX
  refine M_ldI C hW 48 rfl hi dX12_judge_89 ?_
  refine lv_icmp_gt (tgt := 97) C.1 C.2.1 dX12_judge_90 (by decide) (fun c16 => ?_) (fun c16 => ?_)
  · have hX := br_p hX c16
    refine lv_iconst (v := 0) C.1 C.2.1 dX12_judge_97 (by decide) ?_
    exact K0 0 H locs ls (Option.some.inj hX) hW (lv_sub hl [0, 1, 2, 3, 4, 5, 6] rfl)
  have hX := br_n hX c16
  refine lv_iconst (v := 1) C.1 C.2.1 dX12_judge_93 (by decide) ?_
  refine lv_goto (tgt := 98) C.1 C.2.1 dX12_judge_94 (by decide) ?_
  exact K0 1 H locs ls (Option.some.inj hX) hW (lv_sub hl [0, 1, 2, 3, 4, 5, 6] rfl)
def M_judge_L62 : Nat → St → Int32 → Int32 → Int32 → Int32 → Int32 → Int32 → Option (Int32 × Int32)
  | 0, _, _, _, _, _, _, _ => none
  | n + 1, σ, x6, x5, x4, x3, x1, x2 => if (σ.1 49 0) ≤ x6 then some (x6, x5) else bnd (M_judge_B71 σ x6 x5 x4 x3 x1 x2) (fun v20 => nm (x6 + 1) (fun v21 => M_judge_L62 n σ v21 v20 x4 x3 x1 x2))
set_option maxHeartbeats 4000000 in
set_option maxRecDepth 100000 in
theorem r_M_judge_L62 {p : Program} {l : Launch} {e : Env} {s : State} {m : MethodId} {args : Array Value} {below : List Frame} {meth : Method} {c : Code} {Q : State → Prop} {Ev : EvT} {D : va_G} {cs : Nat → ClassId} {h : Nat} {a : Nat → Nat} {A : Nat → Prop} (C : Cx p s m args c cX12_judge 7 wsX12_judge RX12) : ∀ (n : Nat) (σ : St) (x6 : Int32) (x5 : Int32) (x4 : Int32) (x3 : Int32) (x1 : Int32) (x2 : Int32) (H : Heap) (locs : List Loc) (ls : Array Slot) (X : Int32 × Int32), some X = M_judge_L62 n σ x6 x5 x4 x3 x1 x2 → GW Ev D (tyM cs) (wM h a cs) A s σ H locs → lv_has ls 7 [(6, .int x6), (5, .int x5), (4, .int x4), (3, .int x3), (0, .ref h), (1, .int x1), (2, .int x2)] → (∀ (z6 : Int32) (z5 : Int32) (H : Heap) (locs : List Loc) (ls : Array Slot), X = (z6, z5) → GW Ev D (tyM cs) (wM h a cs) A s σ H locs → lv_has ls 7 [(6, .int z6), (5, .int z5), (4, .int x4), (3, .int x3), (0, .ref h), (1, .int x1), (2, .int x2)] → W p l e rm_M_judge s m args below meth c H locs 0 0 Q (F0 m 106 ls [])) → W p l e rm_M_judge s m args below meth c H locs 0 0 Q (F0 m 62 ls []) := by
  have hin : ∀ w ∈ wsX120, w ∈ wsX12_judge := fun w hw => List.mem_cons_of_mem _ (List.mem_append_right _ hw)
  have f0 : (Cond.fieldLink RX12 133 (TX12 0).1 (TX12 0).2.1 (TX12 0).2.2.1).before _ s = true := C.2.2.2.2 _ (List.mem_of_getElem? (i := 1) rfl)
  have f23 : (Cond.fieldLink RX12 61 (TX12 23).1 (TX12 23).2.1 (TX12 23).2.2.1).before _ s = true := C.2.2.2.2 _ (List.mem_of_getElem? (i := 2) rfl)
  have f47 : (Cond.fieldLink RX12 94 (TX12 47).1 (TX12 47).2.1 (TX12 47).2.2.1).before _ s = true := C.2.2.2.2 _ (List.mem_of_getElem? (i := 4) rfl)
  have f48 : (Cond.fieldLink RX12 97 (TX12 48).1 (TX12 48).2.1 (TX12 48).2.2.1).before _ s = true := C.2.2.2.2 _ (List.mem_of_getElem? (i := 5) rfl)
  have f49 : (Cond.fieldLink RX12 311 (TX12 49).1 (TX12 49).2.1 (TX12 49).2.2.1).before _ s = true := C.2.2.2.2 _ (List.mem_of_getElem? (i := 3) rfl)
  intro n
  induction n with
  | zero =>
    intro σ x6 x5 x4 x3 x1 x2 H locs ls X hX hW hl K0
    cases hX
  | succ n ih =>
    intro σ x6 x5 x4 x3 x1 x2 H locs ls X hX hW hl K0
    unfold M_judge_L62 at hX
    refine lv_iload C.1 C.2.1 dX12_judge_62 (lv_at hl 0 rfl) ?_
    refine lv_aload_n C.1 C.2.1 dX12_judge_64 rfl (lv_at hl 4 rfl) ?_
    refine M_geti C hin hW 49 (by decide) f49 dX12_judge_65 ?_
    refine lv_icmp_ge (tgt := 106) C.1 C.2.1 dX12_judge_68 (by decide) (fun c19 => ?_) (fun c19 => ?_)
    · have hX := br_p hX c19
      exact K0 x6 x5 H locs ls (Option.some.inj hX) hW (lv_sub hl [0, 1, 2, 3, 4, 5, 6] rfl)
    have hX := br_n hX c19
    obtain ⟨v20, hq, hX⟩ := bnd_st hX
    refine r_M_judge_B71 C σ x6 x5 x4 x3 x1 x2 H locs ls v20 hq.symm hW (lv_sub hl [0, 1, 2, 3, 4, 5, 6] rfl) ?_
    intro z0 H locs ls hq hW hl
    subst hq
    refine lv_istore (lv' := [(5, .int v20), (6, .int x6), (4, .int x4), (3, .int x3), (0, .ref h), (1, .int x1), (2, .int x2)]) C.1 C.2.1 dX12_judge_98 hl (by decide) rfl (fun ls hl => ?_)
    obtain ⟨v21, ev21⟩ : ∃ z : Int32, z = x6 + 1 := ⟨_, rfl⟩
    have hX := nm_st hX ev21
    refine lv_iinc (v := v21) (lv' := [(6, .int v21), (5, .int v20), (4, .int x4), (3, .int x3), (0, .ref h), (1, .int x1), (2, .int x2)]) C.1 C.2.1 dX12_judge_100 hl (k := 1) rfl (by rw [ev21]; rfl) (by decide) rfl (fun ls hl => ?_)
    refine lv_goto (tgt := 62) C.1 C.2.1 dX12_judge_103 (by decide) ?_
    exact ih σ v21 v20 x4 x3 x1 x2 H locs ls X hX hW (lv_sub hl [0, 1, 2, 3, 4, 5, 6] rfl) K0
def M_judge_B123 (σ : St) (x6 : Int32) (x5 : Int32) (x4 : Int32) (x3 : Int32) (x1 : Int32) (x2 : Int32) : Option (Int32) := if x3 < 0 then some x6 else chkI 4 5 (if (σ.1 23 (4 : Int32).toNatClampNeg) = 0 then chkI x6 60 (chkI x3 60 (if (σ.1 36 x3.toNatClampNeg) ≤ (σ.1 36 x6.toNatClampNeg) then some x3 else some x6)) else chkI x6 60 (chkI (σ.1 34 x6.toNatClampNeg) 30 (chkI x3 60 (chkI (σ.1 34 x3.toNatClampNeg) 30 (if (σ.1 11 (σ.1 34 x3.toNatClampNeg).toNatClampNeg) ≤ (σ.1 11 (σ.1 34 x6.toNatClampNeg).toNatClampNeg) then some x3 else some x6)))))
set_option maxHeartbeats 4000000 in
set_option maxRecDepth 100000 in
theorem r_M_judge_B123 {p : Program} {l : Launch} {e : Env} {s : State} {m : MethodId} {args : Array Value} {below : List Frame} {meth : Method} {c : Code} {Q : State → Prop} {Ev : EvT} {D : va_G} {cs : Nat → ClassId} {h : Nat} {a : Nat → Nat} {A : Nat → Prop} (C : Cx p s m args c cX12_judge 7 wsX12_judge RX12) : ∀ (σ : St) (x6 : Int32) (x5 : Int32) (x4 : Int32) (x3 : Int32) (x1 : Int32) (x2 : Int32) (H : Heap) (locs : List Loc) (ls : Array Slot) (X : Int32), some X = M_judge_B123 σ x6 x5 x4 x3 x1 x2 → GW Ev D (tyM cs) (wM h a cs) A s σ H locs → lv_has ls 7 [(6, .int x6), (5, .int x5), (4, .int x4), (3, .int x3), (0, .ref h), (1, .int x1), (2, .int x2)] → (∀ (z3 : Int32) (H : Heap) (locs : List Loc) (ls : Array Slot), X = z3 → GW Ev D (tyM cs) (wM h a cs) A s σ H locs → lv_has ls 7 [(6, .int x6), (5, .int x5), (4, .int x4), (3, .int z3), (0, .ref h), (1, .int x1), (2, .int x2)] → W p l e rm_M_judge s m args below meth c H locs 0 0 Q (F0 m 184 ls [])) → W p l e rm_M_judge s m args below meth c H locs 0 0 Q (F0 m 123 ls []) := by
  have hin : ∀ w ∈ wsX120, w ∈ wsX12_judge := fun w hw => List.mem_cons_of_mem _ (List.mem_append_right _ hw)
  have f0 : (Cond.fieldLink RX12 133 (TX12 0).1 (TX12 0).2.1 (TX12 0).2.2.1).before _ s = true := C.2.2.2.2 _ (List.mem_of_getElem? (i := 1) rfl)
  have f11 : (Cond.fieldLink RX12 32 (TX12 11).1 (TX12 11).2.1 (TX12 11).2.2.1).before _ s = true := C.2.2.2.2 _ (List.mem_of_getElem? (i := 8) rfl)
  have f23 : (Cond.fieldLink RX12 61 (TX12 23).1 (TX12 23).2.1 (TX12 23).2.2.1).before _ s = true := C.2.2.2.2 _ (List.mem_of_getElem? (i := 2) rfl)
  have f34 : (Cond.fieldLink RX12 70 (TX12 34).1 (TX12 34).2.1 (TX12 34).2.2.1).before _ s = true := C.2.2.2.2 _ (List.mem_of_getElem? (i := 9) rfl)
  have f36 : (Cond.fieldLink RX12 76 (TX12 36).1 (TX12 36).2.1 (TX12 36).2.2.1).before _ s = true := C.2.2.2.2 _ (List.mem_of_getElem? (i := 7) rfl)
  have f46 : (Cond.fieldLink RX12 91 (TX12 46).1 (TX12 46).2.1 (TX12 46).2.2.1).before _ s = true := C.2.2.2.2 _ (List.mem_of_getElem? (i := 6) rfl)
  have f47 : (Cond.fieldLink RX12 94 (TX12 47).1 (TX12 47).2.1 (TX12 47).2.2.1).before _ s = true := C.2.2.2.2 _ (List.mem_of_getElem? (i := 4) rfl)
  have f48 : (Cond.fieldLink RX12 97 (TX12 48).1 (TX12 48).2.1 (TX12 48).2.2.1).before _ s = true := C.2.2.2.2 _ (List.mem_of_getElem? (i := 5) rfl)
  have f49 : (Cond.fieldLink RX12 311 (TX12 49).1 (TX12 49).2.1 (TX12 49).2.2.1).before _ s = true := C.2.2.2.2 _ (List.mem_of_getElem? (i := 3) rfl)
  intro σ x6 x5 x4 x3 x1 x2 H locs ls X hX hW hl K0
  unfold M_judge_B123 at hX
  refine lv_iload_n C.1 C.2.1 dX12_judge_123 rfl (lv_at hl 3 rfl) ?_
  refine lv_if_lt (tgt := 181) C.1 C.2.1 dX12_judge_124 (by decide) (fun c30 => ?_) (fun c30 => ?_)
  · have hX := br_p hX c30
    refine lv_iload C.1 C.2.1 dX12_judge_181 (lv_at hl 0 rfl) ?_
    refine lv_istore_n (lv' := [(3, .int x6), (6, .int x6), (5, .int x5), (4, .int x4), (0, .ref h), (1, .int x1), (2, .int x2)]) C.1 C.2.1 dX12_judge_183 rfl hl (by decide) rfl (fun ls hl => ?_)
    exact K0 x6 H locs ls (Option.some.inj hX) hW (lv_sub hl [1, 2, 3, 0, 4, 5, 6] rfl)
  have hX := br_n hX c30
  refine lv_aload_n C.1 C.2.1 dX12_judge_127 rfl (lv_at hl 4 rfl) ?_
  refine M_geta C hin hW 23 rfl (by decide) f23 dX12_judge_128 ?_
  refine lv_iconst (v := 4) C.1 C.2.1 dX12_judge_131 (by decide) ?_
  obtain ⟨hi, hX⟩ := chkI_st hX
  refine M_ldI C hW 23 rfl hi dX12_judge_132 ?_
  refine lv_if_ne (tgt := 155) C.1 C.2.1 dX12_judge_133 (by decide) (fun c31 => ?_) (fun c31 => ?_)
  · have hX := br_n hX c31
    refine lv_aload_n C.1 C.2.1 dX12_judge_155 rfl (lv_at hl 4 rfl) ?_
    refine M_geta C hin hW 11 rfl (by decide) f11 dX12_judge_156 ?_
    refine lv_aload_n C.1 C.2.1 dX12_judge_159 rfl (lv_at hl 4 rfl) ?_
    refine M_geta C hin hW 34 rfl (by decide) f34 dX12_judge_160 ?_
    refine lv_iload C.1 C.2.1 dX12_judge_163 (lv_at hl 0 rfl) ?_
    obtain ⟨hi, hX⟩ := chkI_st hX
    refine M_ldI C hW 34 rfl hi dX12_judge_165 ?_
    obtain ⟨hi, hX⟩ := chkI_st hX
    refine M_ldI C hW 11 rfl hi dX12_judge_166 ?_
    refine lv_aload_n C.1 C.2.1 dX12_judge_167 rfl (lv_at hl 4 rfl) ?_
    refine M_geta C hin hW 11 rfl (by decide) f11 dX12_judge_168 ?_
    refine lv_aload_n C.1 C.2.1 dX12_judge_171 rfl (lv_at hl 4 rfl) ?_
    refine M_geta C hin hW 34 rfl (by decide) f34 dX12_judge_172 ?_
    refine lv_iload_n C.1 C.2.1 dX12_judge_175 rfl (lv_at hl 3 rfl) ?_
    obtain ⟨hi, hX⟩ := chkI_st hX
    refine M_ldI C hW 34 rfl hi dX12_judge_176 ?_
    obtain ⟨hi, hX⟩ := chkI_st hX
    refine M_ldI C hW 11 rfl hi dX12_judge_177 ?_
    refine lv_icmp_ge (tgt := 184) C.1 C.2.1 dX12_judge_178 (by decide) (fun c32 => ?_) (fun c32 => ?_)
    · have hX := br_p hX c32
      exact K0 x3 H locs ls (Option.some.inj hX) hW (lv_sub hl [0, 1, 2, 3, 4, 5, 6] rfl)
    have hX := br_n hX c32
    refine lv_iload C.1 C.2.1 dX12_judge_181 (lv_at hl 0 rfl) ?_
    refine lv_istore_n (lv' := [(3, .int x6), (6, .int x6), (5, .int x5), (4, .int x4), (0, .ref h), (1, .int x1), (2, .int x2)]) C.1 C.2.1 dX12_judge_183 rfl hl (by decide) rfl (fun ls hl => ?_)
    exact K0 x6 H locs ls (Option.some.inj hX) hW (lv_sub hl [1, 2, 3, 0, 4, 5, 6] rfl)
  have hX := br_p hX c31
  refine lv_aload_n C.1 C.2.1 dX12_judge_136 rfl (lv_at hl 4 rfl) ?_
  refine M_geta C hin hW 36 rfl (by decide) f36 dX12_judge_137 ?_
  refine lv_iload C.1 C.2.1 dX12_judge_140 (lv_at hl 0 rfl) ?_
  obtain ⟨hi, hX⟩ := chkI_st hX
  refine M_ldI C hW 36 rfl hi dX12_judge_142 ?_
  refine lv_aload_n C.1 C.2.1 dX12_judge_143 rfl (lv_at hl 4 rfl) ?_
  refine M_geta C hin hW 36 rfl (by decide) f36 dX12_judge_144 ?_
  refine lv_iload_n C.1 C.2.1 dX12_judge_147 rfl (lv_at hl 3 rfl) ?_
  obtain ⟨hi, hX⟩ := chkI_st hX
  refine M_ldI C hW 36 rfl hi dX12_judge_148 ?_
  refine lv_icmp_ge (tgt := 184) C.1 C.2.1 dX12_judge_149 (by decide) (fun c33 => ?_) (fun c33 => ?_)
  · have hX := br_p hX c33
    exact K0 x3 H locs ls (Option.some.inj hX) hW (lv_sub hl [0, 1, 2, 3, 4, 5, 6] rfl)
  have hX := br_n hX c33
  refine lv_goto (tgt := 181) C.1 C.2.1 dX12_judge_152 (by decide) ?_
  refine lv_iload C.1 C.2.1 dX12_judge_181 (lv_at hl 0 rfl) ?_
  refine lv_istore_n (lv' := [(3, .int x6), (6, .int x6), (5, .int x5), (4, .int x4), (0, .ref h), (1, .int x1), (2, .int x2)]) C.1 C.2.1 dX12_judge_183 rfl hl (by decide) rfl (fun ls hl => ?_)
  exact K0 x6 H locs ls (Option.some.inj hX) hW (lv_sub hl [1, 2, 3, 0, 4, 5, 6] rfl)
def M_judge_L47 : Nat → St → Int32 → Int32 → Int32 → Int32 → Option (Int32 × Int32)
  | 0, _, _, _, _, _ => none
  | n + 1, σ, x4, x3, x1, x2 => if (σ.1 49 0) ≤ x4 then some (x4, x3) else bnd (M_judge_L62 100000 σ 0 1 x4 x3 x1 x2) (fun q => nm2 q (fun v38 v39 => if v39 = 0 then nm (x4 + 1) (fun v44 => M_judge_L47 n σ v44 x3 x1 x2) else chkI x4 60 (nm (σ.1 46 x4.toNatClampNeg) (fun v41 => bnd (M_judge_B123 σ v41 v39 x4 x3 x1 x2) (fun v42 => nm (x4 + 1) (fun v43 => M_judge_L47 n σ v43 v42 x1 x2))))))
set_option maxHeartbeats 4000000 in
set_option maxRecDepth 100000 in
theorem r_M_judge_L47 {p : Program} {l : Launch} {e : Env} {s : State} {m : MethodId} {args : Array Value} {below : List Frame} {meth : Method} {c : Code} {Q : State → Prop} {Ev : EvT} {D : va_G} {cs : Nat → ClassId} {h : Nat} {a : Nat → Nat} {A : Nat → Prop} (C : Cx p s m args c cX12_judge 7 wsX12_judge RX12) : ∀ (n : Nat) (σ : St) (x4 : Int32) (x3 : Int32) (x1 : Int32) (x2 : Int32) (H : Heap) (locs : List Loc) (ls : Array Slot) (X : Int32 × Int32), some X = M_judge_L47 n σ x4 x3 x1 x2 → GW Ev D (tyM cs) (wM h a cs) A s σ H locs → lv_has ls 7 [(4, .int x4), (3, .int x3), (0, .ref h), (1, .int x1), (2, .int x2)] → (∀ (z4 : Int32) (z3 : Int32) (H : Heap) (locs : List Loc) (ls : Array Slot), X = (z4, z3) → GW Ev D (tyM cs) (wM h a cs) A s σ H locs → lv_has ls 7 [(4, .int z4), (3, .int z3), (0, .ref h), (1, .int x1), (2, .int x2)] → W p l e rm_M_judge s m args below meth c H locs 0 0 Q (F0 m 190 ls [])) → W p l e rm_M_judge s m args below meth c H locs 0 0 Q (F0 m 47 ls []) := by
  have hin : ∀ w ∈ wsX120, w ∈ wsX12_judge := fun w hw => List.mem_cons_of_mem _ (List.mem_append_right _ hw)
  have f0 : (Cond.fieldLink RX12 133 (TX12 0).1 (TX12 0).2.1 (TX12 0).2.2.1).before _ s = true := C.2.2.2.2 _ (List.mem_of_getElem? (i := 1) rfl)
  have f11 : (Cond.fieldLink RX12 32 (TX12 11).1 (TX12 11).2.1 (TX12 11).2.2.1).before _ s = true := C.2.2.2.2 _ (List.mem_of_getElem? (i := 8) rfl)
  have f23 : (Cond.fieldLink RX12 61 (TX12 23).1 (TX12 23).2.1 (TX12 23).2.2.1).before _ s = true := C.2.2.2.2 _ (List.mem_of_getElem? (i := 2) rfl)
  have f34 : (Cond.fieldLink RX12 70 (TX12 34).1 (TX12 34).2.1 (TX12 34).2.2.1).before _ s = true := C.2.2.2.2 _ (List.mem_of_getElem? (i := 9) rfl)
  have f36 : (Cond.fieldLink RX12 76 (TX12 36).1 (TX12 36).2.1 (TX12 36).2.2.1).before _ s = true := C.2.2.2.2 _ (List.mem_of_getElem? (i := 7) rfl)
  have f46 : (Cond.fieldLink RX12 91 (TX12 46).1 (TX12 46).2.1 (TX12 46).2.2.1).before _ s = true := C.2.2.2.2 _ (List.mem_of_getElem? (i := 6) rfl)
  have f47 : (Cond.fieldLink RX12 94 (TX12 47).1 (TX12 47).2.1 (TX12 47).2.2.1).before _ s = true := C.2.2.2.2 _ (List.mem_of_getElem? (i := 4) rfl)
  have f48 : (Cond.fieldLink RX12 97 (TX12 48).1 (TX12 48).2.1 (TX12 48).2.2.1).before _ s = true := C.2.2.2.2 _ (List.mem_of_getElem? (i := 5) rfl)
  have f49 : (Cond.fieldLink RX12 311 (TX12 49).1 (TX12 49).2.1 (TX12 49).2.2.1).before _ s = true := C.2.2.2.2 _ (List.mem_of_getElem? (i := 3) rfl)
  intro n
  induction n with
  | zero =>
    intro σ x4 x3 x1 x2 H locs ls X hX hW hl K0
    cases hX
  | succ n ih =>
    intro σ x4 x3 x1 x2 H locs ls X hX hW hl K0
    unfold M_judge_L47 at hX
    refine lv_iload C.1 C.2.1 dX12_judge_47 (lv_at hl 0 rfl) ?_
    refine lv_aload_n C.1 C.2.1 dX12_judge_49 rfl (lv_at hl 2 rfl) ?_
    refine M_geti C hin hW 49 (by decide) f49 dX12_judge_50 ?_
    refine lv_icmp_ge (tgt := 190) C.1 C.2.1 dX12_judge_53 (by decide) (fun c37 => ?_) (fun c37 => ?_)
    · have hX := br_p hX c37
      exact K0 x4 x3 H locs ls (Option.some.inj hX) hW (lv_sub hl [0, 1, 2, 3, 4] rfl)
    have hX := br_n hX c37
    refine lv_iconst (v := 1) C.1 C.2.1 dX12_judge_56 (by decide) ?_
    refine lv_istore (lv' := [(5, .int 1), (4, .int x4), (3, .int x3), (0, .ref h), (1, .int x1), (2, .int x2)]) C.1 C.2.1 dX12_judge_57 hl (by decide) rfl (fun ls hl => ?_)
    refine lv_iconst (v := 0) C.1 C.2.1 dX12_judge_59 (by decide) ?_
    refine lv_istore (lv' := [(6, .int 0), (5, .int 1), (4, .int x4), (3, .int x3), (0, .ref h), (1, .int x1), (2, .int x2)]) C.1 C.2.1 dX12_judge_60 hl (by decide) rfl (fun ls hl => ?_)
    obtain ⟨q, hq, hX⟩ := bnd_st hX
    refine r_M_judge_L62 C 100000 σ 0 1 x4 x3 x1 x2 H locs ls q hq.symm hW (lv_sub hl [0, 1, 2, 3, 4, 5, 6] rfl) ?_
    intro v38 v39 H locs ls hq hW hl
    subst hq
    have hX := nm2_st hX rfl
    refine lv_iload C.1 C.2.1 dX12_judge_106 (lv_at hl 1 rfl) ?_
    refine lv_if_ne (tgt := 114) C.1 C.2.1 dX12_judge_108 (by decide) (fun c40 => ?_) (fun c40 => ?_)
    · have hX := br_n hX c40
      refine lv_aload_n C.1 C.2.1 dX12_judge_114 rfl (lv_at hl 4 rfl) ?_
      refine M_geta C hin hW 46 rfl (by decide) f46 dX12_judge_115 ?_
      refine lv_iload C.1 C.2.1 dX12_judge_118 (lv_at hl 2 rfl) ?_
      obtain ⟨hi, hX⟩ := chkI_st hX
      refine M_ldI C hW 46 rfl hi dX12_judge_120 ?_
      refine lv_topi (fun v41 ev41 => ?_)
      have hX := nm_st hX ev41
      refine lv_istore (lv' := [(6, .int v41), (5, .int v39), (4, .int x4), (3, .int x3), (0, .ref h), (1, .int x1), (2, .int x2)]) C.1 C.2.1 dX12_judge_121 hl (by decide) rfl (fun ls hl => ?_)
      obtain ⟨v42, hq, hX⟩ := bnd_st hX
      refine r_M_judge_B123 C σ v41 v39 x4 x3 x1 x2 H locs ls v42 hq.symm hW (lv_sub hl [0, 1, 2, 3, 4, 5, 6] rfl) ?_
      intro z0 H locs ls hq hW hl
      subst hq
      obtain ⟨v43, ev43⟩ : ∃ z : Int32, z = x4 + 1 := ⟨_, rfl⟩
      have hX := nm_st hX ev43
      refine lv_iinc (v := v43) (lv' := [(4, .int v43), (6, .int v41), (5, .int v39), (3, .int v42), (0, .ref h), (1, .int x1), (2, .int x2)]) C.1 C.2.1 dX12_judge_184 hl (k := 2) rfl (by rw [ev43]; rfl) (by decide) rfl (fun ls hl => ?_)
      refine lv_goto (tgt := 47) C.1 C.2.1 dX12_judge_187 (by decide) ?_
      exact ih σ v43 v42 x1 x2 H locs ls X hX hW (lv_sub hl [0, 3, 4, 5, 6] rfl) K0
    have hX := br_p hX c40
    refine lv_goto (tgt := 184) C.1 C.2.1 dX12_judge_111 (by decide) ?_
    obtain ⟨v44, ev44⟩ : ∃ z : Int32, z = x4 + 1 := ⟨_, rfl⟩
    have hX := nm_st hX ev44
    refine lv_iinc (v := v44) (lv' := [(4, .int v44), (6, .int v38), (5, .int v39), (3, .int x3), (0, .ref h), (1, .int x1), (2, .int x2)]) C.1 C.2.1 dX12_judge_184 hl (k := 2) rfl (by rw [ev44]; rfl) (by decide) rfl (fun ls hl => ?_)
    refine lv_goto (tgt := 47) C.1 C.2.1 dX12_judge_187 (by decide) ?_
    exact ih σ v44 x3 x1 x2 H locs ls X hX hW (lv_sub hl [0, 3, 4, 5, 6] rfl) K0
def M_judge (σ : St) (x1 : Int32) (x2 : Int32) : Option (Int32 × St) := nm (s1 σ 0 0 0) (fun σ1 => bnd (M_isQuarter x1) (fun v2 => if v2 = 0 then some ((-1), σ1) else bnd (M_gather σ1 x1 x2) (fun σ4 => bnd (M_sure σ4) (fun v6 => if 0 ≤ v6 then bnd (M_sure σ4) (fun v9 => some (v9, σ4)) else chkI 4 5 (if (σ4.1 23 (4 : Int32).toNatClampNeg) = 2 then bnd (M_sure σ4) (fun v48 => some (v48, σ4)) else bnd (M_judge_L47 100000 σ4 0 (-1) x1 x2) (fun q => nm2 q (fun v45 v46 => some (v46, σ4))))))))
set_option maxHeartbeats 4000000 in
set_option maxRecDepth 100000 in
theorem c_M_judge {Ev : EvT} (l : Launch) (D : va_G) (cs : Nat → ClassId) (h : Nat) (a : Nat → Nat) (σ : St) (x1 : Int32) (x2 : Int32) (X : Int32 × St) (hX : some X = M_judge σ x1 x2) : cGi Ev l D (tyM cs) (wM h a cs) yX12_judge wsX12_judge rm_M_judge 0 0 [.ref h, .int x1, .int x2] σ (fun r u => (r, u) = X) := by
  refine G_ini (cc := cX12_judge) (maxL := 7) (ret := some .int) (by decide) rfl (Nat.le_of_ble_eq_true rfl) ?_
  intro p e s m below meth c A ls C hr hlk hini hA hW hl
  have C : Cx p s m _ c cX12_judge 7 wsX12_judge RX12 := C
  have hl : lv_has ls 7 [(0, .ref h), (1, .int x1), (2, .int x2)] := hl
  have hin : ∀ w ∈ wsX120, w ∈ wsX12_judge := fun w hw => List.mem_cons_of_mem _ (List.mem_append_right _ hw)
  have f0 : (Cond.fieldLink RX12 133 (TX12 0).1 (TX12 0).2.1 (TX12 0).2.2.1).before _ s = true := C.2.2.2.2 _ (List.mem_of_getElem? (i := 1) rfl)
  have f11 : (Cond.fieldLink RX12 32 (TX12 11).1 (TX12 11).2.1 (TX12 11).2.2.1).before _ s = true := C.2.2.2.2 _ (List.mem_of_getElem? (i := 8) rfl)
  have f23 : (Cond.fieldLink RX12 61 (TX12 23).1 (TX12 23).2.1 (TX12 23).2.2.1).before _ s = true := C.2.2.2.2 _ (List.mem_of_getElem? (i := 2) rfl)
  have f34 : (Cond.fieldLink RX12 70 (TX12 34).1 (TX12 34).2.1 (TX12 34).2.2.1).before _ s = true := C.2.2.2.2 _ (List.mem_of_getElem? (i := 9) rfl)
  have f36 : (Cond.fieldLink RX12 76 (TX12 36).1 (TX12 36).2.1 (TX12 36).2.2.1).before _ s = true := C.2.2.2.2 _ (List.mem_of_getElem? (i := 7) rfl)
  have f46 : (Cond.fieldLink RX12 91 (TX12 46).1 (TX12 46).2.1 (TX12 46).2.2.1).before _ s = true := C.2.2.2.2 _ (List.mem_of_getElem? (i := 6) rfl)
  have f47 : (Cond.fieldLink RX12 94 (TX12 47).1 (TX12 47).2.1 (TX12 47).2.2.1).before _ s = true := C.2.2.2.2 _ (List.mem_of_getElem? (i := 4) rfl)
  have f48 : (Cond.fieldLink RX12 97 (TX12 48).1 (TX12 48).2.1 (TX12 48).2.2.1).before _ s = true := C.2.2.2.2 _ (List.mem_of_getElem? (i := 5) rfl)
  have f49 : (Cond.fieldLink RX12 311 (TX12 49).1 (TX12 49).2.1 (TX12 49).2.2.1).before _ s = true := C.2.2.2.2 _ (List.mem_of_getElem? (i := 3) rfl)
  obtain ⟨H, hH⟩ : ∃ H, H = s.heap := ⟨_, rfl⟩
  obtain ⟨locs, hlo⟩ : ∃ z : List Loc, z = [] := ⟨_, rfl⟩
  have hW : GW Ev D (tyM cs) (wM h a cs) A s σ H locs := by rw [hH, hlo]; exact hW
  rw [show W p l e rm_M_judge s m _ below meth c s.heap [] = W p l e rm_M_judge s m _ below meth c H locs from by rw [hH, hlo]]
  unfold M_judge at hX
  refine lv_aload_n C.1 C.2.1 dX12_judge_0 rfl (lv_at hl 0 rfl) ?_
  refine lv_iconst (v := 0) C.1 C.2.1 dX12_judge_1 (by decide) ?_
  refine M_puti C hin hW 0 rfl f0 dX12_judge_2 (fun H locs σ1 eσ1 hW => ?_)
  have hX := nm_st hX eσ1
  refine lv_iload_n C.1 C.2.1 dX12_judge_5 rfl (lv_at hl 1 rfl) ?_
  obtain ⟨v2, hq, hX⟩ := bnd_st hX
  refine G_S0s (As := [.int x1]) (rest := []) C hW (c_M_isQuarter l D (tyM cs) (wM h a cs) σ1 x1 v2 hq.symm) (cwS 1 C.2.2.2.2 gX12_judge_X12_isQuarter rfl rfl rfl (by decide +kernel) ⟨Nat.le_of_ble_eq_true rfl, Nat.le_of_ble_eq_true rfl⟩) rfl hl.1 rfl (Nat.le_of_ble_eq_true rfl) dX12_judge_6 (fun H locs hW => ?_)
  refine lv_if_ne (tgt := 14) C.1 C.2.1 dX12_judge_9 (by decide) (fun c3 => ?_) (fun c3 => ?_)
  · have hX := br_n hX c3
    refine lv_aload_n C.1 C.2.1 dX12_judge_14 rfl (lv_at hl 0 rfl) ?_
    refine lv_iload_n C.1 C.2.1 dX12_judge_15 rfl (lv_at hl 1 rfl) ?_
    refine lv_iload_n C.1 C.2.1 dX12_judge_16 rfl (lv_at hl 2 rfl) ?_
    obtain ⟨σ4, hq, hX⟩ := bnd_st hX
    refine G_V0u (As := [.int x1, .int x2]) (rest := []) C hW (c_M_gather l D cs h a σ1 x1 x2 σ4 hq.symm) (cwV 2 C.2.2.2.2 gX12_judge_X12_gather rfl rfl rfl (by decide +kernel) ⟨Nat.le_of_ble_eq_true rfl, Nat.le_of_ble_eq_true rfl⟩) (M_recv hW) rfl hl.1 rfl (Nat.le_of_ble_eq_true rfl) dX12_judge_17 (fun H locs hW => ?_)
    refine lv_aload_n C.1 C.2.1 dX12_judge_20 rfl (lv_at hl 0 rfl) ?_
    obtain ⟨v6, hq, hX⟩ := bnd_st hX
    refine G_V0p (As := []) (rest := []) C hW (c_M_sure l D cs h a σ4 v6 hq.symm) (cwV 0 C.2.2.2.2 gX12_judge_X12_sure rfl rfl rfl (by decide +kernel) ⟨Nat.le_of_ble_eq_true rfl, Nat.le_of_ble_eq_true rfl⟩) (M_recv hW) rfl hl.1 rfl (Nat.le_of_ble_eq_true rfl) dX12_judge_21 (fun H locs hW => ?_)
    refine lv_if_ge (tgt := 37) C.1 C.2.1 dX12_judge_24 (by decide) (fun c7 => ?_) (fun c7 => ?_)
    · have hX := br_p hX c7
      refine lv_aload_n C.1 C.2.1 dX12_judge_37 rfl (lv_at hl 0 rfl) ?_
      obtain ⟨v9, hq, hX⟩ := bnd_st hX
      refine G_V0p (As := []) (rest := []) C hW (c_M_sure l D cs h a σ4 v9 hq.symm) (cwV 0 C.2.2.2.2 gX12_judge_X12_sure rfl rfl rfl (by decide +kernel) ⟨Nat.le_of_ble_eq_true rfl, Nat.le_of_ble_eq_true rfl⟩) (M_recv hW) rfl hl.1 rfl (Nat.le_of_ble_eq_true rfl) dX12_judge_38 (fun H locs hW => ?_)
      exact G_reti C hr hlk hA hW (Option.some.inj hX).symm dX12_judge_41
    have hX := br_n hX c7
    refine lv_aload_n C.1 C.2.1 dX12_judge_27 rfl (lv_at hl 0 rfl) ?_
    refine M_geta C hin hW 23 rfl (by decide) f23 dX12_judge_28 ?_
    refine lv_iconst (v := 4) C.1 C.2.1 dX12_judge_31 (by decide) ?_
    obtain ⟨hi, hX⟩ := chkI_st hX
    refine M_ldI C hW 23 rfl hi dX12_judge_32 ?_
    refine lv_iconst (v := 2) C.1 C.2.1 dX12_judge_33 (by decide) ?_
    refine lv_icmp_ne (tgt := 42) C.1 C.2.1 dX12_judge_34 (by decide) (fun c10 => ?_) (fun c10 => ?_)
    · have hX := br_n hX c10
      refine lv_iconst (v := -1) C.1 C.2.1 dX12_judge_42 (by decide) ?_
      refine lv_istore_n (lv' := [(3, .int (-1)), (0, .ref h), (1, .int x1), (2, .int x2)]) C.1 C.2.1 dX12_judge_43 rfl hl (by decide) rfl (fun ls hl => ?_)
      refine lv_iconst (v := 0) C.1 C.2.1 dX12_judge_44 (by decide) ?_
      refine lv_istore (lv' := [(4, .int 0), (3, .int (-1)), (0, .ref h), (1, .int x1), (2, .int x2)]) C.1 C.2.1 dX12_judge_45 hl (by decide) rfl (fun ls hl => ?_)
      obtain ⟨q, hq, hX⟩ := bnd_st hX
      refine r_M_judge_L47 C 100000 σ4 0 (-1) x1 x2 H locs ls q hq.symm hW (lv_sub hl [0, 1, 2, 3, 4] rfl) ?_
      intro v45 v46 H locs ls hq hW hl
      subst hq
      have hX := nm2_st hX rfl
      refine lv_iload_n C.1 C.2.1 dX12_judge_190 rfl (lv_at hl 1 rfl) ?_
      exact G_reti C hr hlk hA hW (Option.some.inj hX).symm dX12_judge_191
    have hX := br_p hX c10
    refine lv_aload_n C.1 C.2.1 dX12_judge_37 rfl (lv_at hl 0 rfl) ?_
    obtain ⟨v48, hq, hX⟩ := bnd_st hX
    refine G_V0p (As := []) (rest := []) C hW (c_M_sure l D cs h a σ4 v48 hq.symm) (cwV 0 C.2.2.2.2 gX12_judge_X12_sure rfl rfl rfl (by decide +kernel) ⟨Nat.le_of_ble_eq_true rfl, Nat.le_of_ble_eq_true rfl⟩) (M_recv hW) rfl hl.1 rfl (Nat.le_of_ble_eq_true rfl) dX12_judge_38 (fun H locs hW => ?_)
    exact G_reti C hr hlk hA hW (Option.some.inj hX).symm dX12_judge_41
  have hX := br_p hX c3
  refine lv_iconst (v := -1) C.1 C.2.1 dX12_judge_12 (by decide) ?_
  exact G_reti C hr hlk hA hW (Option.some.inj hX).symm dX12_judge_13
abbrev rm_M_doubt : Room := { frames := 4, cells := 0, slots := 0, locals := 96 }
def M_doubt (σ : St) (x1 : Int32) (x2 : Int32) : Option (Int32 × St) := nm (s1 σ 0 0 0) (fun σ1 => bnd (M_isQuarter x1) (fun v2 => if v2 = 0 then some ((-1), σ1) else bnd (M_gather σ1 x1 x2) (fun σ4 => if (σ4.1 49 0) = 0 then some ((-1), σ4) else bnd (M_sure σ4) (fun v7 => if v7 < 0 then some (1, σ4) else some (0, σ4)))))
set_option maxHeartbeats 4000000 in
set_option maxRecDepth 100000 in
theorem c_M_doubt {Ev : EvT} (l : Launch) (D : va_G) (cs : Nat → ClassId) (h : Nat) (a : Nat → Nat) (σ : St) (x1 : Int32) (x2 : Int32) (X : Int32 × St) (hX : some X = M_doubt σ x1 x2) : cGi Ev l D (tyM cs) (wM h a cs) yX12_doubt wsX12_doubt rm_M_doubt 0 0 [.ref h, .int x1, .int x2] σ (fun r u => (r, u) = X) := by
  refine G_ini (cc := cX12_doubt) (maxL := 3) (ret := some .int) (by decide) rfl (Nat.le_of_ble_eq_true rfl) ?_
  intro p e s m below meth c A ls C hr hlk hini hA hW hl
  have C : Cx p s m _ c cX12_doubt 3 wsX12_doubt RX12 := C
  have hl : lv_has ls 3 [(0, .ref h), (1, .int x1), (2, .int x2)] := hl
  have hin : ∀ w ∈ wsX120, w ∈ wsX12_doubt := fun w hw => List.mem_cons_of_mem _ (List.mem_append_right _ hw)
  have f0 : (Cond.fieldLink RX12 133 (TX12 0).1 (TX12 0).2.1 (TX12 0).2.2.1).before _ s = true := C.2.2.2.2 _ (List.mem_of_getElem? (i := 1) rfl)
  have f49 : (Cond.fieldLink RX12 311 (TX12 49).1 (TX12 49).2.1 (TX12 49).2.2.1).before _ s = true := C.2.2.2.2 _ (List.mem_of_getElem? (i := 2) rfl)
  obtain ⟨H, hH⟩ : ∃ H, H = s.heap := ⟨_, rfl⟩
  obtain ⟨locs, hlo⟩ : ∃ z : List Loc, z = [] := ⟨_, rfl⟩
  have hW : GW Ev D (tyM cs) (wM h a cs) A s σ H locs := by rw [hH, hlo]; exact hW
  rw [show W p l e rm_M_doubt s m _ below meth c s.heap [] = W p l e rm_M_doubt s m _ below meth c H locs from by rw [hH, hlo]]
  unfold M_doubt at hX
  refine lv_aload_n C.1 C.2.1 dX12_doubt_0 rfl (lv_at hl 0 rfl) ?_
  refine lv_iconst (v := 0) C.1 C.2.1 dX12_doubt_1 (by decide) ?_
  refine M_puti C hin hW 0 rfl f0 dX12_doubt_2 (fun H locs σ1 eσ1 hW => ?_)
  have hX := nm_st hX eσ1
  refine lv_iload_n C.1 C.2.1 dX12_doubt_5 rfl (lv_at hl 1 rfl) ?_
  obtain ⟨v2, hq, hX⟩ := bnd_st hX
  refine G_S0s (As := [.int x1]) (rest := []) C hW (c_M_isQuarter l D (tyM cs) (wM h a cs) σ1 x1 v2 hq.symm) (cwS 1 C.2.2.2.2 gX12_doubt_X12_isQuarter rfl rfl rfl (by decide +kernel) ⟨Nat.le_of_ble_eq_true rfl, Nat.le_of_ble_eq_true rfl⟩) rfl hl.1 rfl (Nat.le_of_ble_eq_true rfl) dX12_doubt_6 (fun H locs hW => ?_)
  refine lv_if_ne (tgt := 14) C.1 C.2.1 dX12_doubt_9 (by decide) (fun c3 => ?_) (fun c3 => ?_)
  · have hX := br_n hX c3
    refine lv_aload_n C.1 C.2.1 dX12_doubt_14 rfl (lv_at hl 0 rfl) ?_
    refine lv_iload_n C.1 C.2.1 dX12_doubt_15 rfl (lv_at hl 1 rfl) ?_
    refine lv_iload_n C.1 C.2.1 dX12_doubt_16 rfl (lv_at hl 2 rfl) ?_
    obtain ⟨σ4, hq, hX⟩ := bnd_st hX
    refine G_V0u (As := [.int x1, .int x2]) (rest := []) C hW (c_M_gather l D cs h a σ1 x1 x2 σ4 hq.symm) (cwV 2 C.2.2.2.2 gX12_doubt_X12_gather rfl rfl rfl (by decide +kernel) ⟨Nat.le_of_ble_eq_true rfl, Nat.le_of_ble_eq_true rfl⟩) (M_recv hW) rfl hl.1 rfl (Nat.le_of_ble_eq_true rfl) dX12_doubt_17 (fun H locs hW => ?_)
    refine lv_aload_n C.1 C.2.1 dX12_doubt_20 rfl (lv_at hl 0 rfl) ?_
    refine M_geti C hin hW 49 (by decide) f49 dX12_doubt_21 ?_
    refine lv_if_ne (tgt := 31) C.1 C.2.1 dX12_doubt_24 (by decide) (fun c5 => ?_) (fun c5 => ?_)
    · have hX := br_n hX c5
      refine lv_aload_n C.1 C.2.1 dX12_doubt_31 rfl (lv_at hl 0 rfl) ?_
      obtain ⟨v7, hq, hX⟩ := bnd_st hX
      refine G_V0p (As := []) (rest := []) C hW (c_M_sure l D cs h a σ4 v7 hq.symm) (cwV 0 C.2.2.2.2 gX12_doubt_X12_sure rfl rfl rfl (by decide +kernel) ⟨Nat.le_of_ble_eq_true rfl, Nat.le_of_ble_eq_true rfl⟩) (M_recv hW) rfl hl.1 rfl (Nat.le_of_ble_eq_true rfl) dX12_doubt_32 (fun H locs hW => ?_)
      refine lv_if_lt (tgt := 42) C.1 C.2.1 dX12_doubt_35 (by decide) (fun c8 => ?_) (fun c8 => ?_)
      · have hX := br_p hX c8
        refine lv_iconst (v := 1) C.1 C.2.1 dX12_doubt_42 (by decide) ?_
        exact G_reti C hr hlk hA hW (Option.some.inj hX).symm dX12_doubt_43
      have hX := br_n hX c8
      refine lv_iconst (v := 0) C.1 C.2.1 dX12_doubt_38 (by decide) ?_
      refine lv_goto (tgt := 43) C.1 C.2.1 dX12_doubt_39 (by decide) ?_
      exact G_reti C hr hlk hA hW (Option.some.inj hX).symm dX12_doubt_43
    have hX := br_p hX c5
    refine lv_iconst (v := -1) C.1 C.2.1 dX12_doubt_27 (by decide) ?_
    refine lv_goto (tgt := 43) C.1 C.2.1 dX12_doubt_28 (by decide) ?_
    exact G_reti C hr hlk hA hW (Option.some.inj hX).symm dX12_doubt_43
  have hX := br_p hX c3
  refine lv_iconst (v := -1) C.1 C.2.1 dX12_doubt_12 (by decide) ?_
  exact G_reti C hr hlk hA hW (Option.some.inj hX).symm dX12_doubt_13
