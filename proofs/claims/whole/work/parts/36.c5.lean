abbrev rm_C_Reader_isLetter : Room := { frames := 0, cells := 0, slots := 0, locals := 0 }
def C_Reader_isLetter (x0 : Int32) : Option Int32 := if x0 < 97 then some 0 else if 122 < x0 then some 0 else some 1
set_option maxHeartbeats 4000000 in
set_option maxRecDepth 100000 in
theorem c_C_Reader_isLetter {S : Type} {Ev : EvT} (l : Launch) (D : va_G) (tys : List (ClassId × FieldType)) (w : S → va_W) (t : S) (x0 : Int32) (X : Int32) (hX : some X = C_Reader_isLetter x0) : cGi Ev l D tys w yX5_isLetter wsX5_isLetter rm_C_Reader_isLetter 0 0 [.int x0] t (fun r u => r = X ∧ u = t) := by
  refine G_ini (cc := cX5_isLetter) (maxL := 1) (ret := some .boolean) (by decide) rfl (Nat.le_of_ble_eq_true rfl) ?_
  intro p e s m below meth c A ls C hr hlk hini hA hW hl
  have C : Cx p s m _ c cX5_isLetter 1 wsX5_isLetter RX5 := C
  have hl : lv_has ls 1 [(0, .int x0)] := hl
  obtain ⟨H, hH⟩ : ∃ H, H = s.heap := ⟨_, rfl⟩
  obtain ⟨locs, hlo⟩ : ∃ z : List Loc, z = [] := ⟨_, rfl⟩
  have hW : GW Ev D tys w A s t H locs := by rw [hH, hlo]; exact hW
  rw [show W p l e rm_C_Reader_isLetter s m _ below meth c s.heap [] = W p l e rm_C_Reader_isLetter s m _ below meth c H locs from by rw [hH, hlo]]
  unfold C_Reader_isLetter at hX
  refine lv_iload_n C.1 C.2.1 dX5_isLetter_0 rfl (lv_at hl 0 rfl) ?_
  refine lv_bipush (v := 97) C.1 C.2.1 dX5_isLetter_1 (by decide) ?_
  refine lv_icmp_lt (tgt := 16) C.1 C.2.1 dX5_isLetter_3 (by decide) (fun c1 => ?_) (fun c1 => ?_)
  · have hX := br_p hX c1
    refine lv_iconst (v := 0) C.1 C.2.1 dX5_isLetter_16 (by decide) ?_
    exact G_retz C hr hlk hA hW rfl ⟨(Option.some.inj hX).symm, rfl⟩ dX5_isLetter_17
  have hX := br_n hX c1
  refine lv_iload_n C.1 C.2.1 dX5_isLetter_6 rfl (lv_at hl 0 rfl) ?_
  refine lv_bipush (v := 122) C.1 C.2.1 dX5_isLetter_7 (by decide) ?_
  refine lv_icmp_gt (tgt := 16) C.1 C.2.1 dX5_isLetter_9 (by decide) (fun c2 => ?_) (fun c2 => ?_)
  · have hX := br_p hX c2
    refine lv_iconst (v := 0) C.1 C.2.1 dX5_isLetter_16 (by decide) ?_
    exact G_retz C hr hlk hA hW rfl ⟨(Option.some.inj hX).symm, rfl⟩ dX5_isLetter_17
  have hX := br_n hX c2
  refine lv_iconst (v := 1) C.1 C.2.1 dX5_isLetter_12 (by decide) ?_
  refine lv_goto (tgt := 17) C.1 C.2.1 dX5_isLetter_13 (by decide) ?_
  exact G_retz C hr hlk hA hW rfl ⟨(Option.some.inj hX).symm, rfl⟩ dX5_isLetter_17
abbrev rm_C_Reader_isDigit : Room := { frames := 0, cells := 0, slots := 0, locals := 0 }
def C_Reader_isDigit (x0 : Int32) : Option Int32 := if x0 < 48 then some 0 else if 57 < x0 then some 0 else some 1
set_option maxHeartbeats 4000000 in
set_option maxRecDepth 100000 in
theorem c_C_Reader_isDigit {S : Type} {Ev : EvT} (l : Launch) (D : va_G) (tys : List (ClassId × FieldType)) (w : S → va_W) (t : S) (x0 : Int32) (X : Int32) (hX : some X = C_Reader_isDigit x0) : cGi Ev l D tys w yX5_isDigit wsX5_isDigit rm_C_Reader_isDigit 0 0 [.int x0] t (fun r u => r = X ∧ u = t) := by
  refine G_ini (cc := cX5_isDigit) (maxL := 1) (ret := some .boolean) (by decide) rfl (Nat.le_of_ble_eq_true rfl) ?_
  intro p e s m below meth c A ls C hr hlk hini hA hW hl
  have C : Cx p s m _ c cX5_isDigit 1 wsX5_isDigit RX5 := C
  have hl : lv_has ls 1 [(0, .int x0)] := hl
  obtain ⟨H, hH⟩ : ∃ H, H = s.heap := ⟨_, rfl⟩
  obtain ⟨locs, hlo⟩ : ∃ z : List Loc, z = [] := ⟨_, rfl⟩
  have hW : GW Ev D tys w A s t H locs := by rw [hH, hlo]; exact hW
  rw [show W p l e rm_C_Reader_isDigit s m _ below meth c s.heap [] = W p l e rm_C_Reader_isDigit s m _ below meth c H locs from by rw [hH, hlo]]
  unfold C_Reader_isDigit at hX
  refine lv_iload_n C.1 C.2.1 dX5_isDigit_0 rfl (lv_at hl 0 rfl) ?_
  refine lv_bipush (v := 48) C.1 C.2.1 dX5_isDigit_1 (by decide) ?_
  refine lv_icmp_lt (tgt := 16) C.1 C.2.1 dX5_isDigit_3 (by decide) (fun c1 => ?_) (fun c1 => ?_)
  · have hX := br_p hX c1
    refine lv_iconst (v := 0) C.1 C.2.1 dX5_isDigit_16 (by decide) ?_
    exact G_retz C hr hlk hA hW rfl ⟨(Option.some.inj hX).symm, rfl⟩ dX5_isDigit_17
  have hX := br_n hX c1
  refine lv_iload_n C.1 C.2.1 dX5_isDigit_6 rfl (lv_at hl 0 rfl) ?_
  refine lv_bipush (v := 57) C.1 C.2.1 dX5_isDigit_7 (by decide) ?_
  refine lv_icmp_gt (tgt := 16) C.1 C.2.1 dX5_isDigit_9 (by decide) (fun c2 => ?_) (fun c2 => ?_)
  · have hX := br_p hX c2
    refine lv_iconst (v := 0) C.1 C.2.1 dX5_isDigit_16 (by decide) ?_
    exact G_retz C hr hlk hA hW rfl ⟨(Option.some.inj hX).symm, rfl⟩ dX5_isDigit_17
  have hX := br_n hX c2
  refine lv_iconst (v := 1) C.1 C.2.1 dX5_isDigit_12 (by decide) ?_
  refine lv_goto (tgt := 17) C.1 C.2.1 dX5_isDigit_13 (by decide) ?_
  exact G_retz C hr hlk hA hW rfl ⟨(Option.some.inj hX).symm, rfl⟩ dX5_isDigit_17
abbrev rm_C_Reader_skipBlanks : Room := { frames := 1, cells := 0, slots := 0, locals := 21 }
def C_Reader_skipBlanks_L0 : Nat → List (Nat × Nat) → TH → Option (TH)
  | 0, _, _ => none
  | n + 1, K, t => if (tS t 9 1 0) ≤ (tS t 5 3 0) then some t else bnd (C_Tape_at K t (tS t 5 3 0)) (fun v9 => if v9 = 32 then nm (uS t 5 3 0 ((tS t 5 3 0) + 1)) (fun t11 => C_Reader_skipBlanks_L0 n K t11) else bnd (C_Tape_at K t (tS t 5 3 0)) (fun v12 => if v12 = 10 then nm (uS t 5 3 0 ((tS t 5 3 0) + 1)) (fun t14 => C_Reader_skipBlanks_L0 n K t14) else some t))
set_option maxHeartbeats 4000000 in
set_option maxRecDepth 100000 in
theorem r_C_Reader_skipBlanks_L0 {p : Program} {l : Launch} {e : Env} {s : State} {m : MethodId} {args : Array Value} {below : List Frame} {meth : Method} {c : Code} {Q : State → Prop} {Ev : EvT} {D : va_G} {cs : Nat → ClassId} {ad : AD} {A : Nat → Prop} {ek ev : Nat → Nat} {tp : Nat} (C : Cx p s m args c cX5_skipBlanks 1 wsX5_skipBlanks RX5) {K : List (Nat × Nat)} (hKS : KS K) (hEv : EvC Ev ek ev tp) : ∀ (n : Nat) (t : TH) (H : Heap) (locs : List Loc) (ls : Array Slot) (X : TH), some X = C_Reader_skipBlanks_L0 n K t → GW Ev D (tyC cs) (wC cs ad K) A s t H locs → lv_has ls 1 [(0, .ref (ad 5 0))] → (∀ (τ : TH) (H : Heap) (locs : List Loc) (ls : Array Slot), X = τ → GW Ev D (tyC cs) (wC cs ad K) A s τ H locs → lv_has ls 1 [(0, .ref (ad 5 0))] → W p l e rm_C_Reader_skipBlanks s m args below meth c H locs 0 0 Q (F0 m 59 ls [])) → W p l e rm_C_Reader_skipBlanks s m args below meth c H locs 0 0 Q (F0 m 0 ls []) := by
  have hin5 : ∀ w ∈ wsX50, w ∈ wsX5_skipBlanks := fun w hw => List.mem_cons_of_mem _ (List.mem_append_left _ (List.mem_append_right _ hw))
  have hin9 : ∀ w ∈ wsX90, w ∈ wsX5_skipBlanks := fun w hw => List.mem_cons_of_mem _ (List.mem_append_right _ hw)
  have f5_0 : (Cond.fieldLink RX5 40 (TX5 0).1 (TX5 0).2.1 (TX5 0).2.2.1).before _ s = true := C.2.2.2.2 _ (List.mem_of_getElem? (i := 2) rfl)
  have f5_3 : (Cond.fieldLink RX5 22 (TX5 3).1 (TX5 3).2.1 (TX5 3).2.2.1).before _ s = true := C.2.2.2.2 _ (List.mem_of_getElem? (i := 1) rfl)
  have f9_1 : (Cond.fieldLink RX5 47 (TX9 1).1 (TX9 1).2.1 (TX9 1).2.2.1).before _ s = true := C.2.2.2.2 _ (List.mem_of_getElem? (i := 3) rfl)
  intro n
  induction n with
  | zero =>
    intro t  H locs ls X hX hW hl K0
    cases hX
  | succ n ih =>
    intro t  H locs ls X hX hW hl K0
    unfold C_Reader_skipBlanks_L0 at hX
    refine lv_aload_n C.1 C.2.1 dX5_skipBlanks_0 rfl (lv_at hl 0 rfl) ?_
    refine C_get C hW 5 rfl hin5 hKS.k5_0 rfl 3 (by decide) rfl f5_3 dX5_skipBlanks_1 ?_
    refine lv_aload_n C.1 C.2.1 dX5_skipBlanks_4 rfl (lv_at hl 0 rfl) ?_
    refine C_get C hW 5 rfl hin5 hKS.k5_0 rfl 0 (by decide) rfl f5_0 dX5_skipBlanks_5 ?_
    refine C_get C hW 9 rfl hin9 hKS.k9_0 rfl 1 (by decide) rfl f9_1 dX5_skipBlanks_8 ?_
    refine lv_icmp_ge (tgt := 59) C.1 C.2.1 dX5_skipBlanks_11 (by decide) (fun c8 => ?_) (fun c8 => ?_)
    · have hX := br_p hX c8
      exact K0 t H locs ls (Option.some.inj hX) hW (lv_sub hl [0] rfl)
    have hX := br_n hX c8
    refine lv_aload_n C.1 C.2.1 dX5_skipBlanks_14 rfl (lv_at hl 0 rfl) ?_
    refine C_get C hW 5 rfl hin5 hKS.k5_0 rfl 0 (by decide) rfl f5_0 dX5_skipBlanks_15 ?_
    refine lv_aload_n C.1 C.2.1 dX5_skipBlanks_18 rfl (lv_at hl 0 rfl) ?_
    refine C_get C hW 5 rfl hin5 hKS.k5_0 rfl 3 (by decide) rfl f5_3 dX5_skipBlanks_19 ?_
    obtain ⟨v9, hq, hX⟩ := bnd_st hX
    refine G_V0p (As := [.int (tS t 5 3 0)]) (rest := []) C hW (c_C_Tape_at l D cs ad K hKS hEv t (tS t 5 3 0) v9 hq.symm) (cwV 1 C.2.2.2.2 gX5_skipBlanks_X9_at rfl rfl rfl (by decide +kernel) ⟨Nat.le_of_ble_eq_true rfl, Nat.le_of_ble_eq_true rfl⟩) (C_recv hW 9 hKS.k9_0 rfl rfl) rfl hl.1 rfl (Nat.le_of_ble_eq_true rfl) dX5_skipBlanks_22 (fun H locs hW => ?_)
    refine lv_bipush (v := 32) C.1 C.2.1 dX5_skipBlanks_25 (by decide) ?_
    refine lv_icmp_eq (tgt := 46) C.1 C.2.1 dX5_skipBlanks_27 (by decide) (fun c10 => ?_) (fun c10 => ?_)
    · have hX := br_p hX c10
      refine lv_aload_n C.1 C.2.1 dX5_skipBlanks_46 rfl (lv_at hl 0 rfl) ?_
      refine lv_dup C.1 C.2.1 dX5_skipBlanks_47 rfl ?_
      refine C_get C hW 5 rfl hin5 hKS.k5_0 rfl 3 (by decide) rfl f5_3 dX5_skipBlanks_48 ?_
      refine lv_iconst (v := 1) C.1 C.2.1 dX5_skipBlanks_51 (by decide) ?_
      refine lv_iadd C.1 C.2.1 dX5_skipBlanks_52 ?_
      obtain ⟨t11, et11⟩ : ∃ z, z = uS t 5 3 0 ((tS t 5 3 0) + 1) := ⟨_, rfl⟩
      refine C_put C hW 5 rfl hin5 tyX5 tyX5_ok nmX5 hKS.k5_0 rfl 3 (by decide) rfl rfl rfl (Nat.le_of_ble_eq_true rfl) f5_3 dX5_skipBlanks_53 (t' := t11) (by rw [et11]; exact wr5_3) (by rw [et11]; exact ho_S (by decide)) (fun H locs hW => ?_)
      have hX := nm_st hX et11
      refine lv_goto (tgt := 0) C.1 C.2.1 dX5_skipBlanks_56 (by decide) ?_
      exact ih t11 H locs ls X hX hW (lv_sub hl [0] rfl) K0
    have hX := br_n hX c10
    refine lv_aload_n C.1 C.2.1 dX5_skipBlanks_30 rfl (lv_at hl 0 rfl) ?_
    refine C_get C hW 5 rfl hin5 hKS.k5_0 rfl 0 (by decide) rfl f5_0 dX5_skipBlanks_31 ?_
    refine lv_aload_n C.1 C.2.1 dX5_skipBlanks_34 rfl (lv_at hl 0 rfl) ?_
    refine C_get C hW 5 rfl hin5 hKS.k5_0 rfl 3 (by decide) rfl f5_3 dX5_skipBlanks_35 ?_
    obtain ⟨v12, hq, hX⟩ := bnd_st hX
    refine G_V0p (As := [.int (tS t 5 3 0)]) (rest := []) C hW (c_C_Tape_at l D cs ad K hKS hEv t (tS t 5 3 0) v12 hq.symm) (cwV 1 C.2.2.2.2 gX5_skipBlanks_X9_at rfl rfl rfl (by decide +kernel) ⟨Nat.le_of_ble_eq_true rfl, Nat.le_of_ble_eq_true rfl⟩) (C_recv hW 9 hKS.k9_0 rfl rfl) rfl hl.1 rfl (Nat.le_of_ble_eq_true rfl) dX5_skipBlanks_38 (fun H locs hW => ?_)
    refine lv_bipush (v := 10) C.1 C.2.1 dX5_skipBlanks_41 (by decide) ?_
    refine lv_icmp_ne (tgt := 59) C.1 C.2.1 dX5_skipBlanks_43 (by decide) (fun c13 => ?_) (fun c13 => ?_)
    · have hX := br_n hX c13
      exact K0 t H locs ls (Option.some.inj hX) hW (lv_sub hl [0] rfl)
    have hX := br_p hX c13
    refine lv_aload_n C.1 C.2.1 dX5_skipBlanks_46 rfl (lv_at hl 0 rfl) ?_
    refine lv_dup C.1 C.2.1 dX5_skipBlanks_47 rfl ?_
    refine C_get C hW 5 rfl hin5 hKS.k5_0 rfl 3 (by decide) rfl f5_3 dX5_skipBlanks_48 ?_
    refine lv_iconst (v := 1) C.1 C.2.1 dX5_skipBlanks_51 (by decide) ?_
    refine lv_iadd C.1 C.2.1 dX5_skipBlanks_52 ?_
    obtain ⟨t14, et14⟩ : ∃ z, z = uS t 5 3 0 ((tS t 5 3 0) + 1) := ⟨_, rfl⟩
    refine C_put C hW 5 rfl hin5 tyX5 tyX5_ok nmX5 hKS.k5_0 rfl 3 (by decide) rfl rfl rfl (Nat.le_of_ble_eq_true rfl) f5_3 dX5_skipBlanks_53 (t' := t14) (by rw [et14]; exact wr5_3) (by rw [et14]; exact ho_S (by decide)) (fun H locs hW => ?_)
    have hX := nm_st hX et14
    refine lv_goto (tgt := 0) C.1 C.2.1 dX5_skipBlanks_56 (by decide) ?_
    exact ih t14 H locs ls X hX hW (lv_sub hl [0] rfl) K0
def C_Reader_skipBlanks (K : List (Nat × Nat)) (t : TH) : Option (TH) := bnd (C_Reader_skipBlanks_L0 100000 K t) (fun t15 => some t15)
set_option maxHeartbeats 4000000 in
set_option maxRecDepth 100000 in
theorem c_C_Reader_skipBlanks {Ev : EvT} {ek ev : Nat → Nat} {tp : Nat} (l : Launch) (D : va_G) (cs : Nat → ClassId) (ad : AD) (K : List (Nat × Nat)) (hKS : KS K) (hEv : EvC Ev ek ev tp) (t : TH) (X : TH) (hX : some X = C_Reader_skipBlanks K t) : cGv Ev l D (tyC cs) (wC cs ad K) yX5_skipBlanks wsX5_skipBlanks rm_C_Reader_skipBlanks 0 0 [.ref (ad 5 0)] t (fun u => u = X) := by
  refine G_inv (cc := cX5_skipBlanks) (maxL := 1) (ret := none) (by decide) rfl (Nat.le_of_ble_eq_true rfl) ?_
  intro p e s m below meth c A ls C hr hlk hini hA hW hl
  have C : Cx p s m _ c cX5_skipBlanks 1 wsX5_skipBlanks RX5 := C
  have hl : lv_has ls 1 [(0, .ref (ad 5 0))] := hl
  have hin5 : ∀ w ∈ wsX50, w ∈ wsX5_skipBlanks := fun w hw => List.mem_cons_of_mem _ (List.mem_append_left _ (List.mem_append_right _ hw))
  have hin9 : ∀ w ∈ wsX90, w ∈ wsX5_skipBlanks := fun w hw => List.mem_cons_of_mem _ (List.mem_append_right _ hw)
  have f5_0 : (Cond.fieldLink RX5 40 (TX5 0).1 (TX5 0).2.1 (TX5 0).2.2.1).before _ s = true := C.2.2.2.2 _ (List.mem_of_getElem? (i := 2) rfl)
  have f5_3 : (Cond.fieldLink RX5 22 (TX5 3).1 (TX5 3).2.1 (TX5 3).2.2.1).before _ s = true := C.2.2.2.2 _ (List.mem_of_getElem? (i := 1) rfl)
  have f9_1 : (Cond.fieldLink RX5 47 (TX9 1).1 (TX9 1).2.1 (TX9 1).2.2.1).before _ s = true := C.2.2.2.2 _ (List.mem_of_getElem? (i := 3) rfl)
  obtain ⟨H, hH⟩ : ∃ H, H = s.heap := ⟨_, rfl⟩
  obtain ⟨locs, hlo⟩ : ∃ z : List Loc, z = [] := ⟨_, rfl⟩
  have hW : GW Ev D (tyC cs) (wC cs ad K) A s t H locs := by rw [hH, hlo]; exact hW
  rw [show W p l e rm_C_Reader_skipBlanks s m _ below meth c s.heap [] = W p l e rm_C_Reader_skipBlanks s m _ below meth c H locs from by rw [hH, hlo]]
  unfold C_Reader_skipBlanks at hX
  obtain ⟨t15, hq, hX⟩ := bnd_st hX
  refine r_C_Reader_skipBlanks_L0 C hKS hEv 100000 t H locs ls t15 hq.symm hW (lv_sub hl [0] rfl) ?_
  intro z0 H locs ls hq hW hl
  subst hq
  exact G_retv C hr hlk hA hW (Option.some.inj hX).symm dX5_skipBlanks_59
abbrev rm_C_Reader_wordOrNumber : Room := { frames := 1, cells := 0, slots := 0, locals := 21 }
def C_Reader_wordOrNumber_L4 : Nat → List (Nat × Nat) → TH → Int32 → Int32 → Option (TH × Int32 × Int32)
  | 0, _, _, _, _ => none
  | n + 1, K, t, x2, x1 => if (tS t 9 1 0) ≤ (tS t 5 3 0) then some (t, x2, x1) else bnd (C_Tape_at K t (tS t 5 3 0)) (fun v23 => bnd (C_Reader_isLetter v23) (fun v24 => if v24 = 0 then bnd (C_Tape_at K t (tS t 5 3 0)) (fun v33 => bnd (C_Reader_isDigit v33) (fun v34 => if v34 = 0 then some (t, x2, x1) else bnd (C_Tape_at K t (tS t 5 3 0)) (fun v36 => bnd (C_Reader_isDigit v36) (fun v37 => if v37 = 0 then nm (x1 + 1) (fun v39 => nm (uS t 5 3 0 ((tS t 5 3 0) + 1)) (fun t40 => C_Reader_wordOrNumber_L4 n K t40 x2 v39)) else nm (x2 + 1) (fun v41 => nm (uS t 5 3 0 ((tS t 5 3 0) + 1)) (fun t42 => C_Reader_wordOrNumber_L4 n K t42 v41 x1)))))) else bnd (C_Tape_at K t (tS t 5 3 0)) (fun v26 => bnd (C_Reader_isDigit v26) (fun v27 => if v27 = 0 then nm (x1 + 1) (fun v29 => nm (uS t 5 3 0 ((tS t 5 3 0) + 1)) (fun t30 => C_Reader_wordOrNumber_L4 n K t30 x2 v29)) else nm (x2 + 1) (fun v31 => nm (uS t 5 3 0 ((tS t 5 3 0) + 1)) (fun t32 => C_Reader_wordOrNumber_L4 n K t32 v31 x1))))))
set_option maxHeartbeats 4000000 in
set_option maxRecDepth 100000 in
theorem r_C_Reader_wordOrNumber_L4 {p : Program} {l : Launch} {e : Env} {s : State} {m : MethodId} {args : Array Value} {below : List Frame} {meth : Method} {c : Code} {Q : State → Prop} {Ev : EvT} {D : va_G} {cs : Nat → ClassId} {ad : AD} {A : Nat → Prop} {ek ev : Nat → Nat} {tp : Nat} (C : Cx p s m args c cX5_wordOrNumber 3 wsX5_wordOrNumber RX5) {K : List (Nat × Nat)} (hKS : KS K) (hEv : EvC Ev ek ev tp) : ∀ (n : Nat) (t : TH) (x2 : Int32) (x1 : Int32) (H : Heap) (locs : List Loc) (ls : Array Slot) (X : TH × Int32 × Int32), some X = C_Reader_wordOrNumber_L4 n K t x2 x1 → GW Ev D (tyC cs) (wC cs ad K) A s t H locs → lv_has ls 3 [(2, .int x2), (1, .int x1), (0, .ref (ad 5 0))] → (∀ (τ : TH) (z2 : Int32) (z1 : Int32) (H : Heap) (locs : List Loc) (ls : Array Slot), X = (τ, z2, z1) → GW Ev D (tyC cs) (wC cs ad K) A s τ H locs → lv_has ls 3 [(2, .int z2), (1, .int z1), (0, .ref (ad 5 0))] → W p l e rm_C_Reader_wordOrNumber s m args below meth c H locs 0 0 Q (F0 m 91 ls [])) → W p l e rm_C_Reader_wordOrNumber s m args below meth c H locs 0 0 Q (F0 m 4 ls []) := by
  have hin5 : ∀ w ∈ wsX50, w ∈ wsX5_wordOrNumber := fun w hw => List.mem_cons_of_mem _ (List.mem_append_left _ (List.mem_append_right _ hw))
  have hin9 : ∀ w ∈ wsX90, w ∈ wsX5_wordOrNumber := fun w hw => List.mem_cons_of_mem _ (List.mem_append_right _ hw)
  have f5_0 : (Cond.fieldLink RX5 40 (TX5 0).1 (TX5 0).2.1 (TX5 0).2.2.1).before _ s = true := C.2.2.2.2 _ (List.mem_of_getElem? (i := 2) rfl)
  have f5_3 : (Cond.fieldLink RX5 22 (TX5 3).1 (TX5 3).2.1 (TX5 3).2.2.1).before _ s = true := C.2.2.2.2 _ (List.mem_of_getElem? (i := 1) rfl)
  have f9_1 : (Cond.fieldLink RX5 47 (TX9 1).1 (TX9 1).2.1 (TX9 1).2.2.1).before _ s = true := C.2.2.2.2 _ (List.mem_of_getElem? (i := 3) rfl)
  intro n
  induction n with
  | zero =>
    intro t x2 x1 H locs ls X hX hW hl K0
    cases hX
  | succ n ih =>
    intro t x2 x1 H locs ls X hX hW hl K0
    unfold C_Reader_wordOrNumber_L4 at hX
    refine lv_aload_n C.1 C.2.1 dX5_wordOrNumber_4 rfl (lv_at hl 2 rfl) ?_
    refine C_get C hW 5 rfl hin5 hKS.k5_0 rfl 3 (by decide) rfl f5_3 dX5_wordOrNumber_5 ?_
    refine lv_aload_n C.1 C.2.1 dX5_wordOrNumber_8 rfl (lv_at hl 2 rfl) ?_
    refine C_get C hW 5 rfl hin5 hKS.k5_0 rfl 0 (by decide) rfl f5_0 dX5_wordOrNumber_9 ?_
    refine C_get C hW 9 rfl hin9 hKS.k9_0 rfl 1 (by decide) rfl f9_1 dX5_wordOrNumber_12 ?_
    refine lv_icmp_ge (tgt := 91) C.1 C.2.1 dX5_wordOrNumber_15 (by decide) (fun c22 => ?_) (fun c22 => ?_)
    · have hX := br_p hX c22
      exact K0 t x2 x1 H locs ls (Option.some.inj hX) hW (lv_sub hl [0, 1, 2] rfl)
    have hX := br_n hX c22
    refine lv_aload_n C.1 C.2.1 dX5_wordOrNumber_18 rfl (lv_at hl 2 rfl) ?_
    refine C_get C hW 5 rfl hin5 hKS.k5_0 rfl 0 (by decide) rfl f5_0 dX5_wordOrNumber_19 ?_
    refine lv_aload_n C.1 C.2.1 dX5_wordOrNumber_22 rfl (lv_at hl 2 rfl) ?_
    refine C_get C hW 5 rfl hin5 hKS.k5_0 rfl 3 (by decide) rfl f5_3 dX5_wordOrNumber_23 ?_
    obtain ⟨v23, hq, hX⟩ := bnd_st hX
    refine G_V0p (As := [.int (tS t 5 3 0)]) (rest := []) C hW (c_C_Tape_at l D cs ad K hKS hEv t (tS t 5 3 0) v23 hq.symm) (cwV 1 C.2.2.2.2 gX5_wordOrNumber_X9_at rfl rfl rfl (by decide +kernel) ⟨Nat.le_of_ble_eq_true rfl, Nat.le_of_ble_eq_true rfl⟩) (C_recv hW 9 hKS.k9_0 rfl rfl) rfl hl.1 rfl (Nat.le_of_ble_eq_true rfl) dX5_wordOrNumber_26 (fun H locs hW => ?_)
    obtain ⟨v24, hq, hX⟩ := bnd_st hX
    refine G_S0s (As := [.int v23]) (rest := []) C hW (c_C_Reader_isLetter l D (tyC cs) (wC cs ad K) t v23 v24 hq.symm) (va_cwS 1 C.2.2.2.2 gX5_wordOrNumber_X5_isLetter rfl rfl rfl (by decide +kernel) ⟨Nat.le_of_ble_eq_true rfl, Nat.le_of_ble_eq_true rfl⟩) rfl hl.1 rfl (Nat.le_of_ble_eq_true rfl) dX5_wordOrNumber_29 (fun H locs hW => ?_)
    refine lv_if_ne (tgt := 52) C.1 C.2.1 dX5_wordOrNumber_32 (by decide) (fun c25 => ?_) (fun c25 => ?_)
    · have hX := br_n hX c25
      refine lv_aload_n C.1 C.2.1 dX5_wordOrNumber_52 rfl (lv_at hl 2 rfl) ?_
      refine C_get C hW 5 rfl hin5 hKS.k5_0 rfl 0 (by decide) rfl f5_0 dX5_wordOrNumber_53 ?_
      refine lv_aload_n C.1 C.2.1 dX5_wordOrNumber_56 rfl (lv_at hl 2 rfl) ?_
      refine C_get C hW 5 rfl hin5 hKS.k5_0 rfl 3 (by decide) rfl f5_3 dX5_wordOrNumber_57 ?_
      obtain ⟨v26, hq, hX⟩ := bnd_st hX
      refine G_V0p (As := [.int (tS t 5 3 0)]) (rest := []) C hW (c_C_Tape_at l D cs ad K hKS hEv t (tS t 5 3 0) v26 hq.symm) (cwV 1 C.2.2.2.2 gX5_wordOrNumber_X9_at rfl rfl rfl (by decide +kernel) ⟨Nat.le_of_ble_eq_true rfl, Nat.le_of_ble_eq_true rfl⟩) (C_recv hW 9 hKS.k9_0 rfl rfl) rfl hl.1 rfl (Nat.le_of_ble_eq_true rfl) dX5_wordOrNumber_60 (fun H locs hW => ?_)
      obtain ⟨v27, hq, hX⟩ := bnd_st hX
      refine G_S0s (As := [.int v26]) (rest := []) C hW (c_C_Reader_isDigit l D (tyC cs) (wC cs ad K) t v26 v27 hq.symm) (va_cwS 1 C.2.2.2.2 gX5_wordOrNumber_X5_isDigit rfl rfl rfl (by decide +kernel) ⟨Nat.le_of_ble_eq_true rfl, Nat.le_of_ble_eq_true rfl⟩) rfl hl.1 rfl (Nat.le_of_ble_eq_true rfl) dX5_wordOrNumber_63 (fun H locs hW => ?_)
      refine lv_if_eq (tgt := 75) C.1 C.2.1 dX5_wordOrNumber_66 (by decide) (fun c28 => ?_) (fun c28 => ?_)
      · have hX := br_p hX c28
        obtain ⟨v29, ev29⟩ : ∃ z : Int32, z = x1 + 1 := ⟨_, rfl⟩
        have hX := nm_st hX ev29
        refine lv_iinc (v := v29) (lv' := [(1, .int v29), (2, .int x2), (0, .ref (ad 5 0))]) C.1 C.2.1 dX5_wordOrNumber_75 hl (k := 1) rfl (by rw [ev29]; rfl) (by decide) rfl (fun ls hl => ?_)
        refine lv_aload_n C.1 C.2.1 dX5_wordOrNumber_78 rfl (lv_at hl 2 rfl) ?_
        refine lv_dup C.1 C.2.1 dX5_wordOrNumber_79 rfl ?_
        refine C_get C hW 5 rfl hin5 hKS.k5_0 rfl 3 (by decide) rfl f5_3 dX5_wordOrNumber_80 ?_
        refine lv_iconst (v := 1) C.1 C.2.1 dX5_wordOrNumber_83 (by decide) ?_
        refine lv_iadd C.1 C.2.1 dX5_wordOrNumber_84 ?_
        obtain ⟨t30, et30⟩ : ∃ z, z = uS t 5 3 0 ((tS t 5 3 0) + 1) := ⟨_, rfl⟩
        refine C_put C hW 5 rfl hin5 tyX5 tyX5_ok nmX5 hKS.k5_0 rfl 3 (by decide) rfl rfl rfl (Nat.le_of_ble_eq_true rfl) f5_3 dX5_wordOrNumber_85 (t' := t30) (by rw [et30]; exact wr5_3) (by rw [et30]; exact ho_S (by decide)) (fun H locs hW => ?_)
        have hX := nm_st hX et30
        refine lv_goto (tgt := 4) C.1 C.2.1 dX5_wordOrNumber_88 (by decide) ?_
        exact ih t30 x2 v29 H locs ls X hX hW (lv_sub hl [1, 0, 2] rfl) K0
      have hX := br_n hX c28
      obtain ⟨v31, ev31⟩ : ∃ z : Int32, z = x2 + 1 := ⟨_, rfl⟩
      have hX := nm_st hX ev31
      refine lv_iinc (v := v31) (lv' := [(2, .int v31), (1, .int x1), (0, .ref (ad 5 0))]) C.1 C.2.1 dX5_wordOrNumber_69 hl (k := 0) rfl (by rw [ev31]; rfl) (by decide) rfl (fun ls hl => ?_)
      refine lv_goto (tgt := 78) C.1 C.2.1 dX5_wordOrNumber_72 (by decide) ?_
      refine lv_aload_n C.1 C.2.1 dX5_wordOrNumber_78 rfl (lv_at hl 2 rfl) ?_
      refine lv_dup C.1 C.2.1 dX5_wordOrNumber_79 rfl ?_
      refine C_get C hW 5 rfl hin5 hKS.k5_0 rfl 3 (by decide) rfl f5_3 dX5_wordOrNumber_80 ?_
      refine lv_iconst (v := 1) C.1 C.2.1 dX5_wordOrNumber_83 (by decide) ?_
      refine lv_iadd C.1 C.2.1 dX5_wordOrNumber_84 ?_
      obtain ⟨t32, et32⟩ : ∃ z, z = uS t 5 3 0 ((tS t 5 3 0) + 1) := ⟨_, rfl⟩
      refine C_put C hW 5 rfl hin5 tyX5 tyX5_ok nmX5 hKS.k5_0 rfl 3 (by decide) rfl rfl rfl (Nat.le_of_ble_eq_true rfl) f5_3 dX5_wordOrNumber_85 (t' := t32) (by rw [et32]; exact wr5_3) (by rw [et32]; exact ho_S (by decide)) (fun H locs hW => ?_)
      have hX := nm_st hX et32
      refine lv_goto (tgt := 4) C.1 C.2.1 dX5_wordOrNumber_88 (by decide) ?_
      exact ih t32 v31 x1 H locs ls X hX hW (lv_sub hl [0, 1, 2] rfl) K0
    have hX := br_p hX c25
    refine lv_aload_n C.1 C.2.1 dX5_wordOrNumber_35 rfl (lv_at hl 2 rfl) ?_
    refine C_get C hW 5 rfl hin5 hKS.k5_0 rfl 0 (by decide) rfl f5_0 dX5_wordOrNumber_36 ?_
    refine lv_aload_n C.1 C.2.1 dX5_wordOrNumber_39 rfl (lv_at hl 2 rfl) ?_
    refine C_get C hW 5 rfl hin5 hKS.k5_0 rfl 3 (by decide) rfl f5_3 dX5_wordOrNumber_40 ?_
    obtain ⟨v33, hq, hX⟩ := bnd_st hX
    refine G_V0p (As := [.int (tS t 5 3 0)]) (rest := []) C hW (c_C_Tape_at l D cs ad K hKS hEv t (tS t 5 3 0) v33 hq.symm) (cwV 1 C.2.2.2.2 gX5_wordOrNumber_X9_at rfl rfl rfl (by decide +kernel) ⟨Nat.le_of_ble_eq_true rfl, Nat.le_of_ble_eq_true rfl⟩) (C_recv hW 9 hKS.k9_0 rfl rfl) rfl hl.1 rfl (Nat.le_of_ble_eq_true rfl) dX5_wordOrNumber_43 (fun H locs hW => ?_)
    obtain ⟨v34, hq, hX⟩ := bnd_st hX
    refine G_S0s (As := [.int v33]) (rest := []) C hW (c_C_Reader_isDigit l D (tyC cs) (wC cs ad K) t v33 v34 hq.symm) (va_cwS 1 C.2.2.2.2 gX5_wordOrNumber_X5_isDigit rfl rfl rfl (by decide +kernel) ⟨Nat.le_of_ble_eq_true rfl, Nat.le_of_ble_eq_true rfl⟩) rfl hl.1 rfl (Nat.le_of_ble_eq_true rfl) dX5_wordOrNumber_46 (fun H locs hW => ?_)
    refine lv_if_eq (tgt := 91) C.1 C.2.1 dX5_wordOrNumber_49 (by decide) (fun c35 => ?_) (fun c35 => ?_)
    · have hX := br_p hX c35
      exact K0 t x2 x1 H locs ls (Option.some.inj hX) hW (lv_sub hl [0, 1, 2] rfl)
    have hX := br_n hX c35
    refine lv_aload_n C.1 C.2.1 dX5_wordOrNumber_52 rfl (lv_at hl 2 rfl) ?_
    refine C_get C hW 5 rfl hin5 hKS.k5_0 rfl 0 (by decide) rfl f5_0 dX5_wordOrNumber_53 ?_
    refine lv_aload_n C.1 C.2.1 dX5_wordOrNumber_56 rfl (lv_at hl 2 rfl) ?_
    refine C_get C hW 5 rfl hin5 hKS.k5_0 rfl 3 (by decide) rfl f5_3 dX5_wordOrNumber_57 ?_
    obtain ⟨v36, hq, hX⟩ := bnd_st hX
    refine G_V0p (As := [.int (tS t 5 3 0)]) (rest := []) C hW (c_C_Tape_at l D cs ad K hKS hEv t (tS t 5 3 0) v36 hq.symm) (cwV 1 C.2.2.2.2 gX5_wordOrNumber_X9_at rfl rfl rfl (by decide +kernel) ⟨Nat.le_of_ble_eq_true rfl, Nat.le_of_ble_eq_true rfl⟩) (C_recv hW 9 hKS.k9_0 rfl rfl) rfl hl.1 rfl (Nat.le_of_ble_eq_true rfl) dX5_wordOrNumber_60 (fun H locs hW => ?_)
    obtain ⟨v37, hq, hX⟩ := bnd_st hX
    refine G_S0s (As := [.int v36]) (rest := []) C hW (c_C_Reader_isDigit l D (tyC cs) (wC cs ad K) t v36 v37 hq.symm) (va_cwS 1 C.2.2.2.2 gX5_wordOrNumber_X5_isDigit rfl rfl rfl (by decide +kernel) ⟨Nat.le_of_ble_eq_true rfl, Nat.le_of_ble_eq_true rfl⟩) rfl hl.1 rfl (Nat.le_of_ble_eq_true rfl) dX5_wordOrNumber_63 (fun H locs hW => ?_)
    refine lv_if_eq (tgt := 75) C.1 C.2.1 dX5_wordOrNumber_66 (by decide) (fun c38 => ?_) (fun c38 => ?_)
    · have hX := br_p hX c38
      obtain ⟨v39, ev39⟩ : ∃ z : Int32, z = x1 + 1 := ⟨_, rfl⟩
      have hX := nm_st hX ev39
      refine lv_iinc (v := v39) (lv' := [(1, .int v39), (2, .int x2), (0, .ref (ad 5 0))]) C.1 C.2.1 dX5_wordOrNumber_75 hl (k := 1) rfl (by rw [ev39]; rfl) (by decide) rfl (fun ls hl => ?_)
      refine lv_aload_n C.1 C.2.1 dX5_wordOrNumber_78 rfl (lv_at hl 2 rfl) ?_
      refine lv_dup C.1 C.2.1 dX5_wordOrNumber_79 rfl ?_
      refine C_get C hW 5 rfl hin5 hKS.k5_0 rfl 3 (by decide) rfl f5_3 dX5_wordOrNumber_80 ?_
      refine lv_iconst (v := 1) C.1 C.2.1 dX5_wordOrNumber_83 (by decide) ?_
      refine lv_iadd C.1 C.2.1 dX5_wordOrNumber_84 ?_
      obtain ⟨t40, et40⟩ : ∃ z, z = uS t 5 3 0 ((tS t 5 3 0) + 1) := ⟨_, rfl⟩
      refine C_put C hW 5 rfl hin5 tyX5 tyX5_ok nmX5 hKS.k5_0 rfl 3 (by decide) rfl rfl rfl (Nat.le_of_ble_eq_true rfl) f5_3 dX5_wordOrNumber_85 (t' := t40) (by rw [et40]; exact wr5_3) (by rw [et40]; exact ho_S (by decide)) (fun H locs hW => ?_)
      have hX := nm_st hX et40
      refine lv_goto (tgt := 4) C.1 C.2.1 dX5_wordOrNumber_88 (by decide) ?_
      exact ih t40 x2 v39 H locs ls X hX hW (lv_sub hl [1, 0, 2] rfl) K0
    have hX := br_n hX c38
    obtain ⟨v41, ev41⟩ : ∃ z : Int32, z = x2 + 1 := ⟨_, rfl⟩
    have hX := nm_st hX ev41
    refine lv_iinc (v := v41) (lv' := [(2, .int v41), (1, .int x1), (0, .ref (ad 5 0))]) C.1 C.2.1 dX5_wordOrNumber_69 hl (k := 0) rfl (by rw [ev41]; rfl) (by decide) rfl (fun ls hl => ?_)
    refine lv_goto (tgt := 78) C.1 C.2.1 dX5_wordOrNumber_72 (by decide) ?_
    refine lv_aload_n C.1 C.2.1 dX5_wordOrNumber_78 rfl (lv_at hl 2 rfl) ?_
    refine lv_dup C.1 C.2.1 dX5_wordOrNumber_79 rfl ?_
    refine C_get C hW 5 rfl hin5 hKS.k5_0 rfl 3 (by decide) rfl f5_3 dX5_wordOrNumber_80 ?_
    refine lv_iconst (v := 1) C.1 C.2.1 dX5_wordOrNumber_83 (by decide) ?_
    refine lv_iadd C.1 C.2.1 dX5_wordOrNumber_84 ?_
    obtain ⟨t42, et42⟩ : ∃ z, z = uS t 5 3 0 ((tS t 5 3 0) + 1) := ⟨_, rfl⟩
    refine C_put C hW 5 rfl hin5 tyX5 tyX5_ok nmX5 hKS.k5_0 rfl 3 (by decide) rfl rfl rfl (Nat.le_of_ble_eq_true rfl) f5_3 dX5_wordOrNumber_85 (t' := t42) (by rw [et42]; exact wr5_3) (by rw [et42]; exact ho_S (by decide)) (fun H locs hW => ?_)
    have hX := nm_st hX et42
    refine lv_goto (tgt := 4) C.1 C.2.1 dX5_wordOrNumber_88 (by decide) ?_
    exact ih t42 v41 x1 H locs ls X hX hW (lv_sub hl [0, 1, 2] rfl) K0
def C_Reader_wordOrNumber (K : List (Nat × Nat)) (t : TH) : Option (Int32 × TH) := bnd (C_Reader_wordOrNumber_L4 100000 K t 0 0) (fun q => nm2 q (fun t43 q => nm2 q (fun v44 v45 => if v44 = 0 then some (1, t43) else if v45 = 0 then if 3 < v44 then some (0, t43) else some (2, t43) else some (0, t43))))
set_option maxHeartbeats 4000000 in
set_option maxRecDepth 100000 in
theorem c_C_Reader_wordOrNumber {Ev : EvT} {ek ev : Nat → Nat} {tp : Nat} (l : Launch) (D : va_G) (cs : Nat → ClassId) (ad : AD) (K : List (Nat × Nat)) (hKS : KS K) (hEv : EvC Ev ek ev tp) (t : TH) (X : Int32 × TH) (hX : some X = C_Reader_wordOrNumber K t) : cGi Ev l D (tyC cs) (wC cs ad K) yX5_wordOrNumber wsX5_wordOrNumber rm_C_Reader_wordOrNumber 0 0 [.ref (ad 5 0)] t (fun r u => (r, u) = X) := by
  refine G_ini (cc := cX5_wordOrNumber) (maxL := 3) (ret := some .int) (by decide) rfl (Nat.le_of_ble_eq_true rfl) ?_
  intro p e s m below meth c A ls C hr hlk hini hA hW hl
  have C : Cx p s m _ c cX5_wordOrNumber 3 wsX5_wordOrNumber RX5 := C
  have hl : lv_has ls 3 [(0, .ref (ad 5 0))] := hl
  have hin5 : ∀ w ∈ wsX50, w ∈ wsX5_wordOrNumber := fun w hw => List.mem_cons_of_mem _ (List.mem_append_left _ (List.mem_append_right _ hw))
  have hin9 : ∀ w ∈ wsX90, w ∈ wsX5_wordOrNumber := fun w hw => List.mem_cons_of_mem _ (List.mem_append_right _ hw)
  have f5_0 : (Cond.fieldLink RX5 40 (TX5 0).1 (TX5 0).2.1 (TX5 0).2.2.1).before _ s = true := C.2.2.2.2 _ (List.mem_of_getElem? (i := 2) rfl)
  have f5_3 : (Cond.fieldLink RX5 22 (TX5 3).1 (TX5 3).2.1 (TX5 3).2.2.1).before _ s = true := C.2.2.2.2 _ (List.mem_of_getElem? (i := 1) rfl)
  have f9_1 : (Cond.fieldLink RX5 47 (TX9 1).1 (TX9 1).2.1 (TX9 1).2.2.1).before _ s = true := C.2.2.2.2 _ (List.mem_of_getElem? (i := 3) rfl)
  obtain ⟨H, hH⟩ : ∃ H, H = s.heap := ⟨_, rfl⟩
  obtain ⟨locs, hlo⟩ : ∃ z : List Loc, z = [] := ⟨_, rfl⟩
  have hW : GW Ev D (tyC cs) (wC cs ad K) A s t H locs := by rw [hH, hlo]; exact hW
  rw [show W p l e rm_C_Reader_wordOrNumber s m _ below meth c s.heap [] = W p l e rm_C_Reader_wordOrNumber s m _ below meth c H locs from by rw [hH, hlo]]
  unfold C_Reader_wordOrNumber at hX
  refine lv_iconst (v := 0) C.1 C.2.1 dX5_wordOrNumber_0 (by decide) ?_
  refine lv_istore_n (i := 1) (lv' := [(1, .int 0), (0, .ref (ad 5 0))]) C.1 C.2.1 dX5_wordOrNumber_1 rfl hl (by decide) rfl (fun ls hl => ?_)
  refine lv_iconst (v := 0) C.1 C.2.1 dX5_wordOrNumber_2 (by decide) ?_
  refine lv_istore_n (i := 2) (lv' := [(2, .int 0), (1, .int 0), (0, .ref (ad 5 0))]) C.1 C.2.1 dX5_wordOrNumber_3 rfl hl (by decide) rfl (fun ls hl => ?_)
  obtain ⟨q, hq, hX⟩ := bnd_st hX
  refine r_C_Reader_wordOrNumber_L4 C hKS hEv 100000 t 0 0 H locs ls q hq.symm hW (lv_sub hl [0, 1, 2] rfl) ?_
  intro t43 v44 v45 H locs ls hq hW hl
  subst hq
  have hX := nm2_st hX rfl
  have hX := nm2_st hX rfl
  refine lv_iload_n C.1 C.2.1 dX5_wordOrNumber_91 rfl (lv_at hl 0 rfl) ?_
  refine lv_if_ne (tgt := 97) C.1 C.2.1 dX5_wordOrNumber_92 (by decide) (fun c46 => ?_) (fun c46 => ?_)
  · have hX := br_n hX c46
    refine lv_iload_n C.1 C.2.1 dX5_wordOrNumber_97 rfl (lv_at hl 1 rfl) ?_
    refine lv_if_ne (tgt := 110) C.1 C.2.1 dX5_wordOrNumber_98 (by decide) (fun c47 => ?_) (fun c47 => ?_)
    · have hX := br_n hX c47
      refine lv_iconst (v := 0) C.1 C.2.1 dX5_wordOrNumber_110 (by decide) ?_
      exact G_reti C hr hlk hA hW (Option.some.inj hX).symm dX5_wordOrNumber_111
    have hX := br_p hX c47
    refine lv_iload_n C.1 C.2.1 dX5_wordOrNumber_101 rfl (lv_at hl 0 rfl) ?_
    refine lv_iconst (v := 3) C.1 C.2.1 dX5_wordOrNumber_102 (by decide) ?_
    refine lv_icmp_gt (tgt := 110) C.1 C.2.1 dX5_wordOrNumber_103 (by decide) (fun c48 => ?_) (fun c48 => ?_)
    · have hX := br_p hX c48
      refine lv_iconst (v := 0) C.1 C.2.1 dX5_wordOrNumber_110 (by decide) ?_
      exact G_reti C hr hlk hA hW (Option.some.inj hX).symm dX5_wordOrNumber_111
    have hX := br_n hX c48
    refine lv_iconst (v := 2) C.1 C.2.1 dX5_wordOrNumber_106 (by decide) ?_
    refine lv_goto (tgt := 111) C.1 C.2.1 dX5_wordOrNumber_107 (by decide) ?_
    exact G_reti C hr hlk hA hW (Option.some.inj hX).symm dX5_wordOrNumber_111
  have hX := br_p hX c46
  refine lv_iconst (v := 1) C.1 C.2.1 dX5_wordOrNumber_95 (by decide) ?_
  exact G_reti C hr hlk hA hW (Option.some.inj hX).symm dX5_wordOrNumber_96
abbrev rm_C_Reader_nextToken : Room := { frames := 2, cells := 0, slots := 0, locals := 43 }
def C_Reader_nextToken (K : List (Nat × Nat)) (t : TH) : Option (TH) := bnd (C_Reader_skipBlanks K t) (fun t1 => nm (uS t1 5 4 0 (tS t1 5 3 0)) (fun t2 => bnd (C_Tape_at K t2 (tS t2 5 4 0)) (fun v3 => if v3 = (-1) then nm (uS t2 5 5 0 4) (fun t19 => some t19) else bnd (C_Reader_isLetter v3) (fun v5 => if v5 = 0 then bnd (C_Reader_isDigit v3) (fun v10 => if v10 = 0 then nm (uS t2 5 3 0 ((tS t2 5 3 0) + 1)) (fun t12 => if v3 = 59 then nm (uS t12 5 5 0 3) (fun t15 => some t15) else nm (uS t12 5 5 0 0) (fun t14 => some t14)) else bnd2 (C_Reader_wordOrNumber K t2) (fun v17 t16 => nm (uS t16 5 5 0 v17) (fun t18 => some t18))) else bnd2 (C_Reader_wordOrNumber K t2) (fun v8 t7 => nm (uS t7 5 5 0 v8) (fun t9 => some t9))))))
set_option maxHeartbeats 4000000 in
set_option maxRecDepth 100000 in
theorem c_C_Reader_nextToken {Ev : EvT} {ek ev : Nat → Nat} {tp : Nat} (l : Launch) (D : va_G) (cs : Nat → ClassId) (ad : AD) (K : List (Nat × Nat)) (hKS : KS K) (hEv : EvC Ev ek ev tp) (t : TH) (X : TH) (hX : some X = C_Reader_nextToken K t) : cGv Ev l D (tyC cs) (wC cs ad K) yX5_nextToken wsX5_nextToken rm_C_Reader_nextToken 0 0 [.ref (ad 5 0)] t (fun u => u = X) := by
  refine G_inv (cc := cX5_nextToken) (maxL := 2) (ret := none) (by decide) rfl (Nat.le_of_ble_eq_true rfl) ?_
  intro p e s m below meth c A ls C hr hlk hini hA hW hl
  have C : Cx p s m _ c cX5_nextToken 2 wsX5_nextToken RX5 := C
  have hl : lv_has ls 2 [(0, .ref (ad 5 0))] := hl
  have hin5 : ∀ w ∈ wsX50, w ∈ wsX5_nextToken := fun w hw => List.mem_cons_of_mem _ (List.mem_append_left _ (List.mem_append_right _ hw))
  have f5_0 : (Cond.fieldLink RX5 40 (TX5 0).1 (TX5 0).2.1 (TX5 0).2.2.1).before _ s = true := C.2.2.2.2 _ (List.mem_of_getElem? (i := 3) rfl)
  have f5_3 : (Cond.fieldLink RX5 22 (TX5 3).1 (TX5 3).2.1 (TX5 3).2.2.1).before _ s = true := C.2.2.2.2 _ (List.mem_of_getElem? (i := 1) rfl)
  have f5_4 : (Cond.fieldLink RX5 25 (TX5 4).1 (TX5 4).2.1 (TX5 4).2.2.1).before _ s = true := C.2.2.2.2 _ (List.mem_of_getElem? (i := 2) rfl)
  have f5_5 : (Cond.fieldLink RX5 28 (TX5 5).1 (TX5 5).2.1 (TX5 5).2.2.1).before _ s = true := C.2.2.2.2 _ (List.mem_of_getElem? (i := 4) rfl)
  obtain ⟨H, hH⟩ : ∃ H, H = s.heap := ⟨_, rfl⟩
  obtain ⟨locs, hlo⟩ : ∃ z : List Loc, z = [] := ⟨_, rfl⟩
  have hW : GW Ev D (tyC cs) (wC cs ad K) A s t H locs := by rw [hH, hlo]; exact hW
  rw [show W p l e rm_C_Reader_nextToken s m _ below meth c s.heap [] = W p l e rm_C_Reader_nextToken s m _ below meth c H locs from by rw [hH, hlo]]
  unfold C_Reader_nextToken at hX
  refine lv_aload_n C.1 C.2.1 dX5_nextToken_0 rfl (lv_at hl 0 rfl) ?_
  obtain ⟨t1, hq, hX⟩ := bnd_st hX
  refine G_V0u (As := []) (rest := []) C hW (c_C_Reader_skipBlanks l D cs ad K hKS hEv t t1 hq.symm) (cwV 0 C.2.2.2.2 gX5_nextToken_X5_skipBlanks rfl rfl rfl (by decide +kernel) ⟨Nat.le_of_ble_eq_true rfl, Nat.le_of_ble_eq_true rfl⟩) (C_recv hW 5 hKS.k5_0 rfl rfl) rfl hl.1 rfl (Nat.le_of_ble_eq_true rfl) dX5_nextToken_1 (fun H locs hW => ?_)
  refine lv_aload_n C.1 C.2.1 dX5_nextToken_4 rfl (lv_at hl 0 rfl) ?_
  refine lv_aload_n C.1 C.2.1 dX5_nextToken_5 rfl (lv_at hl 0 rfl) ?_
  refine C_get C hW 5 rfl hin5 hKS.k5_0 rfl 3 (by decide) rfl f5_3 dX5_nextToken_6 ?_
  obtain ⟨t2, et2⟩ : ∃ z, z = uS t1 5 4 0 (tS t1 5 3 0) := ⟨_, rfl⟩
  refine C_put C hW 5 rfl hin5 tyX5 tyX5_ok nmX5 hKS.k5_0 rfl 4 (by decide) rfl rfl rfl (Nat.le_of_ble_eq_true rfl) f5_4 dX5_nextToken_9 (t' := t2) (by rw [et2]; exact wr5_4) (by rw [et2]; exact ho_S (by decide)) (fun H locs hW => ?_)
  have hX := nm_st hX et2
  refine lv_aload_n C.1 C.2.1 dX5_nextToken_12 rfl (lv_at hl 0 rfl) ?_
  refine C_get C hW 5 rfl hin5 hKS.k5_0 rfl 0 (by decide) rfl f5_0 dX5_nextToken_13 ?_
  refine lv_aload_n C.1 C.2.1 dX5_nextToken_16 rfl (lv_at hl 0 rfl) ?_
  refine C_get C hW 5 rfl hin5 hKS.k5_0 rfl 4 (by decide) rfl f5_4 dX5_nextToken_17 ?_
  obtain ⟨v3, hq, hX⟩ := bnd_st hX
  refine G_V0p (As := [.int (tS t2 5 4 0)]) (rest := []) C hW (c_C_Tape_at l D cs ad K hKS hEv t2 (tS t2 5 4 0) v3 hq.symm) (cwV 1 C.2.2.2.2 gX5_nextToken_X9_at rfl rfl rfl (by decide +kernel) ⟨Nat.le_of_ble_eq_true rfl, Nat.le_of_ble_eq_true rfl⟩) (C_recv hW 9 hKS.k9_0 rfl rfl) rfl hl.1 rfl (Nat.le_of_ble_eq_true rfl) dX5_nextToken_20 (fun H locs hW => ?_)
  refine lv_istore_n (i := 1) (lv' := [(1, .int v3), (0, .ref (ad 5 0))]) C.1 C.2.1 dX5_nextToken_23 rfl hl (by decide) rfl (fun ls hl => ?_)
  refine lv_iload_n C.1 C.2.1 dX5_nextToken_24 rfl (lv_at hl 0 rfl) ?_
  refine lv_iconst (v := -1) C.1 C.2.1 dX5_nextToken_25 (by decide) ?_
  refine lv_icmp_ne (tgt := 37) C.1 C.2.1 dX5_nextToken_26 (by decide) (fun c4 => ?_) (fun c4 => ?_)
  · have hX := br_n hX c4
    refine lv_iload_n C.1 C.2.1 dX5_nextToken_37 rfl (lv_at hl 0 rfl) ?_
    obtain ⟨v5, hq, hX⟩ := bnd_st hX
    refine G_S0s (As := [.int v3]) (rest := []) C hW (c_C_Reader_isLetter l D (tyC cs) (wC cs ad K) t2 v3 v5 hq.symm) (va_cwS 1 C.2.2.2.2 gX5_nextToken_X5_isLetter rfl rfl rfl (by decide +kernel) ⟨Nat.le_of_ble_eq_true rfl, Nat.le_of_ble_eq_true rfl⟩) rfl hl.1 rfl (Nat.le_of_ble_eq_true rfl) dX5_nextToken_38 (fun H locs hW => ?_)
    refine lv_if_ne (tgt := 51) C.1 C.2.1 dX5_nextToken_41 (by decide) (fun c6 => ?_) (fun c6 => ?_)
    · have hX := br_n hX c6
      refine lv_aload_n C.1 C.2.1 dX5_nextToken_51 rfl (lv_at hl 1 rfl) ?_
      refine lv_aload_n C.1 C.2.1 dX5_nextToken_52 rfl (lv_at hl 1 rfl) ?_
      obtain ⟨v8, t7, hq, hX⟩ := bnd2_st hX
      refine G_V0e (As := []) (rest := [.ref (ad 5 0)]) C hW (c_C_Reader_wordOrNumber l D cs ad K hKS hEv t2 (v8, t7) hq.symm) (cwV 0 C.2.2.2.2 gX5_nextToken_X5_wordOrNumber rfl rfl rfl (by decide +kernel) ⟨Nat.le_of_ble_eq_true rfl, Nat.le_of_ble_eq_true rfl⟩) (C_recv hW 5 hKS.k5_0 rfl rfl) rfl hl.1 rfl (Nat.le_of_ble_eq_true rfl) dX5_nextToken_53 (fun H locs hW => ?_)
      obtain ⟨t9, et9⟩ : ∃ z, z = uS t7 5 5 0 v8 := ⟨_, rfl⟩
      refine C_put C hW 5 rfl hin5 tyX5 tyX5_ok nmX5 hKS.k5_0 rfl 5 (by decide) rfl rfl rfl (Nat.le_of_ble_eq_true rfl) f5_5 dX5_nextToken_56 (t' := t9) (by rw [et9]; exact wr5_5) (by rw [et9]; exact ho_S (by decide)) (fun H locs hW => ?_)
      have hX := nm_st hX et9
      refine lv_goto (tgt := 87) C.1 C.2.1 dX5_nextToken_59 (by decide) ?_
      exact G_retv C hr hlk hA hW (Option.some.inj hX).symm dX5_nextToken_87
    have hX := br_p hX c6
    refine lv_iload_n C.1 C.2.1 dX5_nextToken_44 rfl (lv_at hl 0 rfl) ?_
    obtain ⟨v10, hq, hX⟩ := bnd_st hX
    refine G_S0s (As := [.int v3]) (rest := []) C hW (c_C_Reader_isDigit l D (tyC cs) (wC cs ad K) t2 v3 v10 hq.symm) (va_cwS 1 C.2.2.2.2 gX5_nextToken_X5_isDigit rfl rfl rfl (by decide +kernel) ⟨Nat.le_of_ble_eq_true rfl, Nat.le_of_ble_eq_true rfl⟩) rfl hl.1 rfl (Nat.le_of_ble_eq_true rfl) dX5_nextToken_45 (fun H locs hW => ?_)
    refine lv_if_eq (tgt := 62) C.1 C.2.1 dX5_nextToken_48 (by decide) (fun c11 => ?_) (fun c11 => ?_)
    · have hX := br_p hX c11
      refine lv_aload_n C.1 C.2.1 dX5_nextToken_62 rfl (lv_at hl 1 rfl) ?_
      refine lv_dup C.1 C.2.1 dX5_nextToken_63 rfl ?_
      refine C_get C hW 5 rfl hin5 hKS.k5_0 rfl 3 (by decide) rfl f5_3 dX5_nextToken_64 ?_
      refine lv_iconst (v := 1) C.1 C.2.1 dX5_nextToken_67 (by decide) ?_
      refine lv_iadd C.1 C.2.1 dX5_nextToken_68 ?_
      obtain ⟨t12, et12⟩ : ∃ z, z = uS t2 5 3 0 ((tS t2 5 3 0) + 1) := ⟨_, rfl⟩
      refine C_put C hW 5 rfl hin5 tyX5 tyX5_ok nmX5 hKS.k5_0 rfl 3 (by decide) rfl rfl rfl (Nat.le_of_ble_eq_true rfl) f5_3 dX5_nextToken_69 (t' := t12) (by rw [et12]; exact wr5_3) (by rw [et12]; exact ho_S (by decide)) (fun H locs hW => ?_)
      have hX := nm_st hX et12
      refine lv_aload_n C.1 C.2.1 dX5_nextToken_72 rfl (lv_at hl 1 rfl) ?_
      refine lv_iload_n C.1 C.2.1 dX5_nextToken_73 rfl (lv_at hl 0 rfl) ?_
      refine lv_bipush (v := 59) C.1 C.2.1 dX5_nextToken_74 (by decide) ?_
      refine lv_icmp_ne (tgt := 83) C.1 C.2.1 dX5_nextToken_76 (by decide) (fun c13 => ?_) (fun c13 => ?_)
      · have hX := br_n hX c13
        refine lv_iconst (v := 0) C.1 C.2.1 dX5_nextToken_83 (by decide) ?_
        obtain ⟨t14, et14⟩ : ∃ z, z = uS t12 5 5 0 0 := ⟨_, rfl⟩
        refine C_put C hW 5 rfl hin5 tyX5 tyX5_ok nmX5 hKS.k5_0 rfl 5 (by decide) rfl rfl rfl (Nat.le_of_ble_eq_true rfl) f5_5 dX5_nextToken_84 (t' := t14) (by rw [et14]; exact wr5_5) (by rw [et14]; exact ho_S (by decide)) (fun H locs hW => ?_)
        have hX := nm_st hX et14
        exact G_retv C hr hlk hA hW (Option.some.inj hX).symm dX5_nextToken_87
      have hX := br_p hX c13
      refine lv_iconst (v := 3) C.1 C.2.1 dX5_nextToken_79 (by decide) ?_
      refine lv_goto (tgt := 84) C.1 C.2.1 dX5_nextToken_80 (by decide) ?_
      obtain ⟨t15, et15⟩ : ∃ z, z = uS t12 5 5 0 3 := ⟨_, rfl⟩
      refine C_put C hW 5 rfl hin5 tyX5 tyX5_ok nmX5 hKS.k5_0 rfl 5 (by decide) rfl rfl rfl (Nat.le_of_ble_eq_true rfl) f5_5 dX5_nextToken_84 (t' := t15) (by rw [et15]; exact wr5_5) (by rw [et15]; exact ho_S (by decide)) (fun H locs hW => ?_)
      have hX := nm_st hX et15
      exact G_retv C hr hlk hA hW (Option.some.inj hX).symm dX5_nextToken_87
    have hX := br_n hX c11
    refine lv_aload_n C.1 C.2.1 dX5_nextToken_51 rfl (lv_at hl 1 rfl) ?_
    refine lv_aload_n C.1 C.2.1 dX5_nextToken_52 rfl (lv_at hl 1 rfl) ?_
    obtain ⟨v17, t16, hq, hX⟩ := bnd2_st hX
    refine G_V0e (As := []) (rest := [.ref (ad 5 0)]) C hW (c_C_Reader_wordOrNumber l D cs ad K hKS hEv t2 (v17, t16) hq.symm) (cwV 0 C.2.2.2.2 gX5_nextToken_X5_wordOrNumber rfl rfl rfl (by decide +kernel) ⟨Nat.le_of_ble_eq_true rfl, Nat.le_of_ble_eq_true rfl⟩) (C_recv hW 5 hKS.k5_0 rfl rfl) rfl hl.1 rfl (Nat.le_of_ble_eq_true rfl) dX5_nextToken_53 (fun H locs hW => ?_)
    obtain ⟨t18, et18⟩ : ∃ z, z = uS t16 5 5 0 v17 := ⟨_, rfl⟩
    refine C_put C hW 5 rfl hin5 tyX5 tyX5_ok nmX5 hKS.k5_0 rfl 5 (by decide) rfl rfl rfl (Nat.le_of_ble_eq_true rfl) f5_5 dX5_nextToken_56 (t' := t18) (by rw [et18]; exact wr5_5) (by rw [et18]; exact ho_S (by decide)) (fun H locs hW => ?_)
    have hX := nm_st hX et18
    refine lv_goto (tgt := 87) C.1 C.2.1 dX5_nextToken_59 (by decide) ?_
    exact G_retv C hr hlk hA hW (Option.some.inj hX).symm dX5_nextToken_87
  have hX := br_p hX c4
  refine lv_aload_n C.1 C.2.1 dX5_nextToken_29 rfl (lv_at hl 1 rfl) ?_
  refine lv_iconst (v := 4) C.1 C.2.1 dX5_nextToken_30 (by decide) ?_
  obtain ⟨t19, et19⟩ : ∃ z, z = uS t2 5 5 0 4 := ⟨_, rfl⟩
  refine C_put C hW 5 rfl hin5 tyX5 tyX5_ok nmX5 hKS.k5_0 rfl 5 (by decide) rfl rfl rfl (Nat.le_of_ble_eq_true rfl) f5_5 dX5_nextToken_31 (t' := t19) (by rw [et19]; exact wr5_5) (by rw [et19]; exact ho_S (by decide)) (fun H locs hW => ?_)
  have hX := nm_st hX et19
  refine lv_goto (tgt := 87) C.1 C.2.1 dX5_nextToken_34 (by decide) ?_
  exact G_retv C hr hlk hA hW (Option.some.inj hX).symm dX5_nextToken_87
abbrev rm_C_Reader_mostOfRule : Room := { frames := 0, cells := 0, slots := 0, locals := 0 }
def C_Reader_mostOfRule (K : List (Nat × Nat)) (t : TH) : Option (Int32) := if (tS t 5 7 0) = 0 then some 120 else if (tS t 5 7 0) = 2 then some 9 else some 999
set_option maxHeartbeats 4000000 in
set_option maxRecDepth 100000 in
theorem c_C_Reader_mostOfRule {Ev : EvT} {ek ev : Nat → Nat} {tp : Nat} (l : Launch) (D : va_G) (cs : Nat → ClassId) (ad : AD) (K : List (Nat × Nat)) (hKS : KS K) (hEv : EvC Ev ek ev tp) (t : TH) (X : Int32) (hX : some X = C_Reader_mostOfRule K t) : cGi Ev l D (tyC cs) (wC cs ad K) yX5_mostOfRule wsX5_mostOfRule rm_C_Reader_mostOfRule 0 0 [.ref (ad 5 0)] t (fun r u => r = X ∧ u = t) := by
  refine G_ini (cc := cX5_mostOfRule) (maxL := 1) (ret := some .int) (by decide) rfl (Nat.le_of_ble_eq_true rfl) ?_
  intro p e s m below meth c A ls C hr hlk hini hA hW hl
  have C : Cx p s m _ c cX5_mostOfRule 1 wsX5_mostOfRule RX5 := C
  have hl : lv_has ls 1 [(0, .ref (ad 5 0))] := hl
  have hin5 : ∀ w ∈ wsX50, w ∈ wsX5_mostOfRule := fun w hw => List.mem_cons_of_mem _ (List.mem_append_right _ hw)
  have f5_7 : (Cond.fieldLink RX5 34 (TX5 7).1 (TX5 7).2.1 (TX5 7).2.2.1).before _ s = true := C.2.2.2.2 _ (List.mem_of_getElem? (i := 1) rfl)
  obtain ⟨H, hH⟩ : ∃ H, H = s.heap := ⟨_, rfl⟩
  obtain ⟨locs, hlo⟩ : ∃ z : List Loc, z = [] := ⟨_, rfl⟩
  have hW : GW Ev D (tyC cs) (wC cs ad K) A s t H locs := by rw [hH, hlo]; exact hW
  rw [show W p l e rm_C_Reader_mostOfRule s m _ below meth c s.heap [] = W p l e rm_C_Reader_mostOfRule s m _ below meth c H locs from by rw [hH, hlo]]
  unfold C_Reader_mostOfRule at hX
  refine lv_aload_n C.1 C.2.1 dX5_mostOfRule_0 rfl (lv_at hl 0 rfl) ?_
  refine C_get C hW 5 rfl hin5 hKS.k5_0 rfl 7 (by decide) rfl f5_7 dX5_mostOfRule_1 ?_
  refine lv_if_ne (tgt := 10) C.1 C.2.1 dX5_mostOfRule_4 (by decide) (fun c1 => ?_) (fun c1 => ?_)
  · have hX := br_n hX c1
    refine lv_aload_n C.1 C.2.1 dX5_mostOfRule_10 rfl (lv_at hl 0 rfl) ?_
    refine C_get C hW 5 rfl hin5 hKS.k5_0 rfl 7 (by decide) rfl f5_7 dX5_mostOfRule_11 ?_
    refine lv_iconst (v := 2) C.1 C.2.1 dX5_mostOfRule_14 (by decide) ?_
    refine lv_icmp_ne (tgt := 23) C.1 C.2.1 dX5_mostOfRule_15 (by decide) (fun c2 => ?_) (fun c2 => ?_)
    · have hX := br_n hX c2
      refine lv_sipush (v := 999) C.1 C.2.1 dX5_mostOfRule_23 (by decide) ?_
      exact G_reti C hr hlk hA hW ⟨(Option.some.inj hX).symm, rfl⟩ dX5_mostOfRule_26
    have hX := br_p hX c2
    refine lv_bipush (v := 9) C.1 C.2.1 dX5_mostOfRule_18 (by decide) ?_
    refine lv_goto (tgt := 26) C.1 C.2.1 dX5_mostOfRule_20 (by decide) ?_
    exact G_reti C hr hlk hA hW ⟨(Option.some.inj hX).symm, rfl⟩ dX5_mostOfRule_26
  have hX := br_p hX c1
  refine lv_bipush (v := 120) C.1 C.2.1 dX5_mostOfRule_7 (by decide) ?_
  exact G_reti C hr hlk hA hW ⟨(Option.some.inj hX).symm, rfl⟩ dX5_mostOfRule_9
abbrev rm_C_Reader_takeNumber : Room := { frames := 1, cells := 0, slots := 0, locals := 21 }
def C_Reader_takeNumber_L17 : Nat → List (Nat × Nat) → TH → Int32 → Int32 → Option (Int32 × Int32)
  | 0, _, _, _, _ => none
  | n + 1, K, t, x2, x1 => if (tS t 5 3 0) ≤ x2 then some (x2, x1) else bnd (C_Tape_at K t x2) (fun v8 => nm ((x1 * 10) + (v8 - 48)) (fun v9 => nm (x2 + 1) (fun v10 => C_Reader_takeNumber_L17 n K t v10 v9)))
set_option maxHeartbeats 4000000 in
set_option maxRecDepth 100000 in
theorem r_C_Reader_takeNumber_L17 {p : Program} {l : Launch} {e : Env} {s : State} {m : MethodId} {args : Array Value} {below : List Frame} {meth : Method} {c : Code} {Q : State → Prop} {Ev : EvT} {D : va_G} {cs : Nat → ClassId} {ad : AD} {A : Nat → Prop} {ek ev : Nat → Nat} {tp : Nat} (C : Cx p s m args c cX5_takeNumber 3 wsX5_takeNumber RX5) {K : List (Nat × Nat)} (hKS : KS K) (hEv : EvC Ev ek ev tp) : ∀ (n : Nat) (t : TH) (x2 : Int32) (x1 : Int32) (H : Heap) (locs : List Loc) (ls : Array Slot) (X : Int32 × Int32), some X = C_Reader_takeNumber_L17 n K t x2 x1 → GW Ev D (tyC cs) (wC cs ad K) A s t H locs → lv_has ls 3 [(2, .int x2), (1, .int x1), (0, .ref (ad 5 0))] → (∀ (z2 : Int32) (z1 : Int32) (H : Heap) (locs : List Loc) (ls : Array Slot), X = (z2, z1) → GW Ev D (tyC cs) (wC cs ad K) A s t H locs → lv_has ls 3 [(2, .int z2), (1, .int z1), (0, .ref (ad 5 0))] → W p l e rm_C_Reader_takeNumber s m args below meth c H locs 0 0 Q (F0 m 48 ls [])) → W p l e rm_C_Reader_takeNumber s m args below meth c H locs 0 0 Q (F0 m 17 ls []) := by
  have hin5 : ∀ w ∈ wsX50, w ∈ wsX5_takeNumber := fun w hw => List.mem_cons_of_mem _ (List.mem_append_left _ (List.mem_append_left _ (List.mem_append_right _ hw)))
  have f5_0 : (Cond.fieldLink RX5 40 (TX5 0).1 (TX5 0).2.1 (TX5 0).2.2.1).before _ s = true := C.2.2.2.2 _ (List.mem_of_getElem? (i := 4) rfl)
  have f5_3 : (Cond.fieldLink RX5 22 (TX5 3).1 (TX5 3).2.1 (TX5 3).2.2.1).before _ s = true := C.2.2.2.2 _ (List.mem_of_getElem? (i := 3) rfl)
  have f5_4 : (Cond.fieldLink RX5 25 (TX5 4).1 (TX5 4).2.1 (TX5 4).2.2.1).before _ s = true := C.2.2.2.2 _ (List.mem_of_getElem? (i := 2) rfl)
  have f5_5 : (Cond.fieldLink RX5 28 (TX5 5).1 (TX5 5).2.1 (TX5 5).2.2.1).before _ s = true := C.2.2.2.2 _ (List.mem_of_getElem? (i := 1) rfl)
  intro n
  induction n with
  | zero =>
    intro t x2 x1 H locs ls X hX hW hl K0
    cases hX
  | succ n ih =>
    intro t x2 x1 H locs ls X hX hW hl K0
    unfold C_Reader_takeNumber_L17 at hX
    refine lv_iload_n C.1 C.2.1 dX5_takeNumber_17 rfl (lv_at hl 0 rfl) ?_
    refine lv_aload_n C.1 C.2.1 dX5_takeNumber_18 rfl (lv_at hl 2 rfl) ?_
    refine C_get C hW 5 rfl hin5 hKS.k5_0 rfl 3 (by decide) rfl f5_3 dX5_takeNumber_19 ?_
    refine lv_icmp_ge (tgt := 48) C.1 C.2.1 dX5_takeNumber_22 (by decide) (fun c7 => ?_) (fun c7 => ?_)
    · have hX := br_p hX c7
      exact K0 x2 x1 H locs ls (Option.some.inj hX) hW (lv_sub hl [0, 1, 2] rfl)
    have hX := br_n hX c7
    refine lv_iload_n C.1 C.2.1 dX5_takeNumber_25 rfl (lv_at hl 1 rfl) ?_
    refine lv_bipush (v := 10) C.1 C.2.1 dX5_takeNumber_26 (by decide) ?_
    refine lv_imul C.1 C.2.1 dX5_takeNumber_28 ?_
    refine lv_aload_n C.1 C.2.1 dX5_takeNumber_29 rfl (lv_at hl 2 rfl) ?_
    refine C_get C hW 5 rfl hin5 hKS.k5_0 rfl 0 (by decide) rfl f5_0 dX5_takeNumber_30 ?_
    refine lv_iload_n C.1 C.2.1 dX5_takeNumber_33 rfl (lv_at hl 0 rfl) ?_
    obtain ⟨v8, hq, hX⟩ := bnd_st hX
    refine G_V0p (As := [.int x2]) (rest := [.int (x1 * 10)]) C hW (c_C_Tape_at l D cs ad K hKS hEv t x2 v8 hq.symm) (cwV 1 C.2.2.2.2 gX5_takeNumber_X9_at rfl rfl rfl (by decide +kernel) ⟨Nat.le_of_ble_eq_true rfl, Nat.le_of_ble_eq_true rfl⟩) (C_recv hW 9 hKS.k9_0 rfl rfl) rfl hl.1 rfl (Nat.le_of_ble_eq_true rfl) dX5_takeNumber_34 (fun H locs hW => ?_)
    refine lv_bipush (v := 48) C.1 C.2.1 dX5_takeNumber_37 (by decide) ?_
    refine lv_isub C.1 C.2.1 dX5_takeNumber_39 ?_
    refine lv_iadd C.1 C.2.1 dX5_takeNumber_40 ?_
    refine lv_topi (fun v9 ev9 => ?_)
    have hX := nm_st hX ev9
    refine lv_istore_n (i := 1) (lv' := [(1, .int v9), (2, .int x2), (0, .ref (ad 5 0))]) C.1 C.2.1 dX5_takeNumber_41 rfl hl (by decide) rfl (fun ls hl => ?_)
    obtain ⟨v10, ev10⟩ : ∃ z : Int32, z = x2 + 1 := ⟨_, rfl⟩
    have hX := nm_st hX ev10
    refine lv_iinc (v := v10) (lv' := [(2, .int v10), (1, .int v9), (0, .ref (ad 5 0))]) C.1 C.2.1 dX5_takeNumber_42 hl (k := 1) rfl (by rw [ev10]; rfl) (by decide) rfl (fun ls hl => ?_)
    refine lv_goto (tgt := 17) C.1 C.2.1 dX5_takeNumber_45 (by decide) ?_
    exact ih t v10 v9 H locs ls X hX hW (lv_sub hl [0, 1, 2] rfl) K0
def C_Reader_takeNumber (K : List (Nat × Nat)) (t : TH) : Option (Int32 × TH) := if (tS t 5 5 0) = 2 then nm (tS t 5 4 0) (fun v2 => bnd (C_Reader_takeNumber_L17 100000 K t v2 0) (fun q => nm2 q (fun v11 v12 => bnd (C_Reader_mostOfRule K t) (fun v13 => if v12 ≤ v13 then if (tS t 5 7 0) = 0 then nm (uS t 4 0 1 v12) (fun t21 => nm (uS t21 5 6 0 2) (fun t22 => some (0, t22))) else if (tS t 5 7 0) = 2 then nm (uS t 4 2 1 v12) (fun t19 => nm (uS t19 5 6 0 2) (fun t20 => some (0, t20))) else nm (uS t 4 3 1 v12) (fun t17 => nm (uS t17 5 6 0 2) (fun t18 => some (0, t18))) else some (3, t))))) else some (2, t)
set_option maxHeartbeats 4000000 in
set_option maxRecDepth 100000 in
theorem c_C_Reader_takeNumber {Ev : EvT} {ek ev : Nat → Nat} {tp : Nat} (l : Launch) (D : va_G) (cs : Nat → ClassId) (ad : AD) (K : List (Nat × Nat)) (hKS : KS K) (hEv : EvC Ev ek ev tp) (t : TH) (X : Int32 × TH) (hX : some X = C_Reader_takeNumber K t) : cGi Ev l D (tyC cs) (wC cs ad K) yX5_takeNumber wsX5_takeNumber rm_C_Reader_takeNumber 0 0 [.ref (ad 5 0)] t (fun r u => (r, u) = X) := by
  refine G_ini (cc := cX5_takeNumber) (maxL := 3) (ret := some .int) (by decide) rfl (Nat.le_of_ble_eq_true rfl) ?_
  intro p e s m below meth c A ls C hr hlk hini hA hW hl
  have C : Cx p s m _ c cX5_takeNumber 3 wsX5_takeNumber RX5 := C
  have hl : lv_has ls 3 [(0, .ref (ad 5 0))] := hl
  have hin4 : ∀ w ∈ wsX40, w ∈ wsX5_takeNumber := fun w hw => List.mem_cons_of_mem _ (List.mem_append_left _ (List.mem_append_right _ hw))
  have hin5 : ∀ w ∈ wsX50, w ∈ wsX5_takeNumber := fun w hw => List.mem_cons_of_mem _ (List.mem_append_left _ (List.mem_append_left _ (List.mem_append_right _ hw)))
  have f4_0 : (Cond.fieldLink RX5 120 (TX4 0).1 (TX4 0).2.1 (TX4 0).2.2.1).before _ s = true := C.2.2.2.2 _ (List.mem_of_getElem? (i := 7) rfl)
  have f4_2 : (Cond.fieldLink RX5 122 (TX4 2).1 (TX4 2).2.1 (TX4 2).2.2.1).before _ s = true := C.2.2.2.2 _ (List.mem_of_getElem? (i := 8) rfl)
  have f4_3 : (Cond.fieldLink RX5 124 (TX4 3).1 (TX4 3).2.1 (TX4 3).2.2.1).before _ s = true := C.2.2.2.2 _ (List.mem_of_getElem? (i := 9) rfl)
  have f5_0 : (Cond.fieldLink RX5 40 (TX5 0).1 (TX5 0).2.1 (TX5 0).2.2.1).before _ s = true := C.2.2.2.2 _ (List.mem_of_getElem? (i := 4) rfl)
  have f5_1 : (Cond.fieldLink RX5 12 (TX5 1).1 (TX5 1).2.1 (TX5 1).2.2.1).before _ s = true := C.2.2.2.2 _ (List.mem_of_getElem? (i := 6) rfl)
  have f5_3 : (Cond.fieldLink RX5 22 (TX5 3).1 (TX5 3).2.1 (TX5 3).2.2.1).before _ s = true := C.2.2.2.2 _ (List.mem_of_getElem? (i := 3) rfl)
  have f5_4 : (Cond.fieldLink RX5 25 (TX5 4).1 (TX5 4).2.1 (TX5 4).2.2.1).before _ s = true := C.2.2.2.2 _ (List.mem_of_getElem? (i := 2) rfl)
  have f5_5 : (Cond.fieldLink RX5 28 (TX5 5).1 (TX5 5).2.1 (TX5 5).2.2.1).before _ s = true := C.2.2.2.2 _ (List.mem_of_getElem? (i := 1) rfl)
  have f5_6 : (Cond.fieldLink RX5 31 (TX5 6).1 (TX5 6).2.1 (TX5 6).2.2.1).before _ s = true := C.2.2.2.2 _ (List.mem_of_getElem? (i := 10) rfl)
  have f5_7 : (Cond.fieldLink RX5 34 (TX5 7).1 (TX5 7).2.1 (TX5 7).2.2.1).before _ s = true := C.2.2.2.2 _ (List.mem_of_getElem? (i := 5) rfl)
  obtain ⟨H, hH⟩ : ∃ H, H = s.heap := ⟨_, rfl⟩
  obtain ⟨locs, hlo⟩ : ∃ z : List Loc, z = [] := ⟨_, rfl⟩
  have hW : GW Ev D (tyC cs) (wC cs ad K) A s t H locs := by rw [hH, hlo]; exact hW
  rw [show W p l e rm_C_Reader_takeNumber s m _ below meth c s.heap [] = W p l e rm_C_Reader_takeNumber s m _ below meth c H locs from by rw [hH, hlo]]
  unfold C_Reader_takeNumber at hX
  refine lv_aload_n C.1 C.2.1 dX5_takeNumber_0 rfl (lv_at hl 0 rfl) ?_
  refine C_get C hW 5 rfl hin5 hKS.k5_0 rfl 5 (by decide) rfl f5_5 dX5_takeNumber_1 ?_
  refine lv_iconst (v := 2) C.1 C.2.1 dX5_takeNumber_4 (by decide) ?_
  refine lv_icmp_eq (tgt := 10) C.1 C.2.1 dX5_takeNumber_5 (by decide) (fun c1 => ?_) (fun c1 => ?_)
  · have hX := br_p hX c1
    refine lv_iconst (v := 0) C.1 C.2.1 dX5_takeNumber_10 (by decide) ?_
    refine lv_istore_n (i := 1) (lv' := [(1, .int 0), (0, .ref (ad 5 0))]) C.1 C.2.1 dX5_takeNumber_11 rfl hl (by decide) rfl (fun ls hl => ?_)
    refine lv_aload_n C.1 C.2.1 dX5_takeNumber_12 rfl (lv_at hl 1 rfl) ?_
    refine C_get C hW 5 rfl hin5 hKS.k5_0 rfl 4 (by decide) rfl f5_4 dX5_takeNumber_13 ?_
    refine lv_topi (fun v2 ev2 => ?_)
    have hX := nm_st hX ev2
    refine lv_istore_n (i := 2) (lv' := [(2, .int v2), (1, .int 0), (0, .ref (ad 5 0))]) C.1 C.2.1 dX5_takeNumber_16 rfl hl (by decide) rfl (fun ls hl => ?_)
    obtain ⟨q, hq, hX⟩ := bnd_st hX
    refine r_C_Reader_takeNumber_L17 C hKS hEv 100000 t v2 0 H locs ls q hq.symm hW (lv_sub hl [0, 1, 2] rfl) ?_
    intro v11 v12 H locs ls hq hW hl
    subst hq
    have hX := nm2_st hX rfl
    refine lv_iload_n C.1 C.2.1 dX5_takeNumber_48 rfl (lv_at hl 1 rfl) ?_
    refine lv_aload_n C.1 C.2.1 dX5_takeNumber_49 rfl (lv_at hl 2 rfl) ?_
    obtain ⟨v13, hq, hX⟩ := bnd_st hX
    refine G_V0p (As := []) (rest := [.int v12]) C hW (c_C_Reader_mostOfRule l D cs ad K hKS hEv t v13 hq.symm) (cwV 0 C.2.2.2.2 gX5_takeNumber_X5_mostOfRule rfl rfl rfl (by decide +kernel) ⟨Nat.le_of_ble_eq_true rfl, Nat.le_of_ble_eq_true rfl⟩) (C_recv hW 5 hKS.k5_0 rfl rfl) rfl hl.1 rfl (Nat.le_of_ble_eq_true rfl) dX5_takeNumber_50 (fun H locs hW => ?_)
    refine lv_icmp_le (tgt := 58) C.1 C.2.1 dX5_takeNumber_53 (by decide) (fun c14 => ?_) (fun c14 => ?_)
    · have hX := br_p hX c14
      refine lv_aload_n C.1 C.2.1 dX5_takeNumber_58 rfl (lv_at hl 2 rfl) ?_
      refine C_get C hW 5 rfl hin5 hKS.k5_0 rfl 7 (by decide) rfl f5_7 dX5_takeNumber_59 ?_
      refine lv_if_ne (tgt := 76) C.1 C.2.1 dX5_takeNumber_62 (by decide) (fun c15 => ?_) (fun c15 => ?_)
      · have hX := br_n hX c15
        refine lv_aload_n C.1 C.2.1 dX5_takeNumber_76 rfl (lv_at hl 2 rfl) ?_
        refine C_get C hW 5 rfl hin5 hKS.k5_0 rfl 7 (by decide) rfl f5_7 dX5_takeNumber_77 ?_
        refine lv_iconst (v := 2) C.1 C.2.1 dX5_takeNumber_80 (by decide) ?_
        refine lv_icmp_ne (tgt := 95) C.1 C.2.1 dX5_takeNumber_81 (by decide) (fun c16 => ?_) (fun c16 => ?_)
        · have hX := br_n hX c16
          refine lv_aload_n C.1 C.2.1 dX5_takeNumber_95 rfl (lv_at hl 2 rfl) ?_
          refine C_get C hW 5 rfl hin5 hKS.k5_0 rfl 1 (by decide) rfl f5_1 dX5_takeNumber_96 ?_
          refine lv_iload_n C.1 C.2.1 dX5_takeNumber_99 rfl (lv_at hl 1 rfl) ?_
          obtain ⟨t17, et17⟩ : ∃ z, z = uS t 4 3 1 v12 := ⟨_, rfl⟩
          refine C_put C hW 4 rfl hin4 tyX4 tyX4_ok nmX4 hKS.k4_1 rfl 3 (by decide) rfl rfl rfl (Nat.le_of_ble_eq_true rfl) f4_3 dX5_takeNumber_100 (t' := t17) (by rw [et17]; exact wr4_3) (by rw [et17]; exact ho_S (by decide)) (fun H locs hW => ?_)
          have hX := nm_st hX et17
          refine lv_aload_n C.1 C.2.1 dX5_takeNumber_103 rfl (lv_at hl 2 rfl) ?_
          refine lv_iconst (v := 2) C.1 C.2.1 dX5_takeNumber_104 (by decide) ?_
          obtain ⟨t18, et18⟩ : ∃ z, z = uS t17 5 6 0 2 := ⟨_, rfl⟩
          refine C_put C hW 5 rfl hin5 tyX5 tyX5_ok nmX5 hKS.k5_0 rfl 6 (by decide) rfl rfl rfl (Nat.le_of_ble_eq_true rfl) f5_6 dX5_takeNumber_105 (t' := t18) (by rw [et18]; exact wr5_6) (by rw [et18]; exact ho_S (by decide)) (fun H locs hW => ?_)
          have hX := nm_st hX et18
          refine lv_iconst (v := 0) C.1 C.2.1 dX5_takeNumber_108 (by decide) ?_
          exact G_reti C hr hlk hA hW (Option.some.inj hX).symm dX5_takeNumber_109
        have hX := br_p hX c16
        refine lv_aload_n C.1 C.2.1 dX5_takeNumber_84 rfl (lv_at hl 2 rfl) ?_
        refine C_get C hW 5 rfl hin5 hKS.k5_0 rfl 1 (by decide) rfl f5_1 dX5_takeNumber_85 ?_
        refine lv_iload_n C.1 C.2.1 dX5_takeNumber_88 rfl (lv_at hl 1 rfl) ?_
        obtain ⟨t19, et19⟩ : ∃ z, z = uS t 4 2 1 v12 := ⟨_, rfl⟩
        refine C_put C hW 4 rfl hin4 tyX4 tyX4_ok nmX4 hKS.k4_1 rfl 2 (by decide) rfl rfl rfl (Nat.le_of_ble_eq_true rfl) f4_2 dX5_takeNumber_89 (t' := t19) (by rw [et19]; exact wr4_2) (by rw [et19]; exact ho_S (by decide)) (fun H locs hW => ?_)
        have hX := nm_st hX et19
        refine lv_goto (tgt := 103) C.1 C.2.1 dX5_takeNumber_92 (by decide) ?_
        refine lv_aload_n C.1 C.2.1 dX5_takeNumber_103 rfl (lv_at hl 2 rfl) ?_
        refine lv_iconst (v := 2) C.1 C.2.1 dX5_takeNumber_104 (by decide) ?_
        obtain ⟨t20, et20⟩ : ∃ z, z = uS t19 5 6 0 2 := ⟨_, rfl⟩
        refine C_put C hW 5 rfl hin5 tyX5 tyX5_ok nmX5 hKS.k5_0 rfl 6 (by decide) rfl rfl rfl (Nat.le_of_ble_eq_true rfl) f5_6 dX5_takeNumber_105 (t' := t20) (by rw [et20]; exact wr5_6) (by rw [et20]; exact ho_S (by decide)) (fun H locs hW => ?_)
        have hX := nm_st hX et20
        refine lv_iconst (v := 0) C.1 C.2.1 dX5_takeNumber_108 (by decide) ?_
        exact G_reti C hr hlk hA hW (Option.some.inj hX).symm dX5_takeNumber_109
      have hX := br_p hX c15
      refine lv_aload_n C.1 C.2.1 dX5_takeNumber_65 rfl (lv_at hl 2 rfl) ?_
      refine C_get C hW 5 rfl hin5 hKS.k5_0 rfl 1 (by decide) rfl f5_1 dX5_takeNumber_66 ?_
      refine lv_iload_n C.1 C.2.1 dX5_takeNumber_69 rfl (lv_at hl 1 rfl) ?_
      obtain ⟨t21, et21⟩ : ∃ z, z = uS t 4 0 1 v12 := ⟨_, rfl⟩
      refine C_put C hW 4 rfl hin4 tyX4 tyX4_ok nmX4 hKS.k4_1 rfl 0 (by decide) rfl rfl rfl (Nat.le_of_ble_eq_true rfl) f4_0 dX5_takeNumber_70 (t' := t21) (by rw [et21]; exact wr4_0) (by rw [et21]; exact ho_S (by decide)) (fun H locs hW => ?_)
      have hX := nm_st hX et21
      refine lv_goto (tgt := 103) C.1 C.2.1 dX5_takeNumber_73 (by decide) ?_
      refine lv_aload_n C.1 C.2.1 dX5_takeNumber_103 rfl (lv_at hl 2 rfl) ?_
      refine lv_iconst (v := 2) C.1 C.2.1 dX5_takeNumber_104 (by decide) ?_
      obtain ⟨t22, et22⟩ : ∃ z, z = uS t21 5 6 0 2 := ⟨_, rfl⟩
      refine C_put C hW 5 rfl hin5 tyX5 tyX5_ok nmX5 hKS.k5_0 rfl 6 (by decide) rfl rfl rfl (Nat.le_of_ble_eq_true rfl) f5_6 dX5_takeNumber_105 (t' := t22) (by rw [et22]; exact wr5_6) (by rw [et22]; exact ho_S (by decide)) (fun H locs hW => ?_)
      have hX := nm_st hX et22
      refine lv_iconst (v := 0) C.1 C.2.1 dX5_takeNumber_108 (by decide) ?_
      exact G_reti C hr hlk hA hW (Option.some.inj hX).symm dX5_takeNumber_109
    have hX := br_n hX c14
    refine lv_iconst (v := 3) C.1 C.2.1 dX5_takeNumber_56 (by decide) ?_
    exact G_reti C hr hlk hA hW (Option.some.inj hX).symm dX5_takeNumber_57
  have hX := br_n hX c1
  refine lv_iconst (v := 2) C.1 C.2.1 dX5_takeNumber_8 (by decide) ?_
  exact G_reti C hr hlk hA hW (Option.some.inj hX).symm dX5_takeNumber_9
abbrev rm_C_Reader_takeSemicolon : Room := { frames := 0, cells := 0, slots := 0, locals := 0 }
def C_Reader_takeSemicolon (K : List (Nat × Nat)) (t : TH) : Option (Int32 × TH) := if (tS t 5 5 0) = 3 then nm (uS t 4 5 1 ((tS t 4 5 1) + 1)) (fun t2 => nm (uS t2 5 6 0 0) (fun t3 => some (0, t3))) else some (2, t)
set_option maxHeartbeats 4000000 in
set_option maxRecDepth 100000 in
theorem c_C_Reader_takeSemicolon {Ev : EvT} {ek ev : Nat → Nat} {tp : Nat} (l : Launch) (D : va_G) (cs : Nat → ClassId) (ad : AD) (K : List (Nat × Nat)) (hKS : KS K) (hEv : EvC Ev ek ev tp) (t : TH) (X : Int32 × TH) (hX : some X = C_Reader_takeSemicolon K t) : cGi Ev l D (tyC cs) (wC cs ad K) yX5_takeSemicolon wsX5_takeSemicolon rm_C_Reader_takeSemicolon 0 0 [.ref (ad 5 0)] t (fun r u => (r, u) = X) := by
  refine G_ini (cc := cX5_takeSemicolon) (maxL := 1) (ret := some .int) (by decide) rfl (Nat.le_of_ble_eq_true rfl) ?_
  intro p e s m below meth c A ls C hr hlk hini hA hW hl
  have C : Cx p s m _ c cX5_takeSemicolon 1 wsX5_takeSemicolon RX5 := C
  have hl : lv_has ls 1 [(0, .ref (ad 5 0))] := hl
  have hin4 : ∀ w ∈ wsX40, w ∈ wsX5_takeSemicolon := fun w hw => List.mem_cons_of_mem _ (List.mem_append_right _ hw)
  have hin5 : ∀ w ∈ wsX50, w ∈ wsX5_takeSemicolon := fun w hw => List.mem_cons_of_mem _ (List.mem_append_left _ (List.mem_append_right _ hw))
  have f4_5 : (Cond.fieldLink RX5 59 (TX4 5).1 (TX4 5).2.1 (TX4 5).2.2.1).before _ s = true := C.2.2.2.2 _ (List.mem_of_getElem? (i := 3) rfl)
  have f5_1 : (Cond.fieldLink RX5 12 (TX5 1).1 (TX5 1).2.1 (TX5 1).2.2.1).before _ s = true := C.2.2.2.2 _ (List.mem_of_getElem? (i := 2) rfl)
  have f5_5 : (Cond.fieldLink RX5 28 (TX5 5).1 (TX5 5).2.1 (TX5 5).2.2.1).before _ s = true := C.2.2.2.2 _ (List.mem_of_getElem? (i := 1) rfl)
  have f5_6 : (Cond.fieldLink RX5 31 (TX5 6).1 (TX5 6).2.1 (TX5 6).2.2.1).before _ s = true := C.2.2.2.2 _ (List.mem_of_getElem? (i := 4) rfl)
  obtain ⟨H, hH⟩ : ∃ H, H = s.heap := ⟨_, rfl⟩
  obtain ⟨locs, hlo⟩ : ∃ z : List Loc, z = [] := ⟨_, rfl⟩
  have hW : GW Ev D (tyC cs) (wC cs ad K) A s t H locs := by rw [hH, hlo]; exact hW
  rw [show W p l e rm_C_Reader_takeSemicolon s m _ below meth c s.heap [] = W p l e rm_C_Reader_takeSemicolon s m _ below meth c H locs from by rw [hH, hlo]]
  unfold C_Reader_takeSemicolon at hX
  refine lv_aload_n C.1 C.2.1 dX5_takeSemicolon_0 rfl (lv_at hl 0 rfl) ?_
  refine C_get C hW 5 rfl hin5 hKS.k5_0 rfl 5 (by decide) rfl f5_5 dX5_takeSemicolon_1 ?_
  refine lv_iconst (v := 3) C.1 C.2.1 dX5_takeSemicolon_4 (by decide) ?_
  refine lv_icmp_eq (tgt := 10) C.1 C.2.1 dX5_takeSemicolon_5 (by decide) (fun c1 => ?_) (fun c1 => ?_)
  · have hX := br_p hX c1
    refine lv_aload_n C.1 C.2.1 dX5_takeSemicolon_10 rfl (lv_at hl 0 rfl) ?_
    refine C_get C hW 5 rfl hin5 hKS.k5_0 rfl 1 (by decide) rfl f5_1 dX5_takeSemicolon_11 ?_
    refine lv_dup C.1 C.2.1 dX5_takeSemicolon_14 rfl ?_
    refine C_get C hW 4 rfl hin4 hKS.k4_1 rfl 5 (by decide) rfl f4_5 dX5_takeSemicolon_15 ?_
    refine lv_iconst (v := 1) C.1 C.2.1 dX5_takeSemicolon_18 (by decide) ?_
    refine lv_iadd C.1 C.2.1 dX5_takeSemicolon_19 ?_
    obtain ⟨t2, et2⟩ : ∃ z, z = uS t 4 5 1 ((tS t 4 5 1) + 1) := ⟨_, rfl⟩
    refine C_put C hW 4 rfl hin4 tyX4 tyX4_ok nmX4 hKS.k4_1 rfl 5 (by decide) rfl rfl rfl (Nat.le_of_ble_eq_true rfl) f4_5 dX5_takeSemicolon_20 (t' := t2) (by rw [et2]; exact wr4_5) (by rw [et2]; exact ho_S (by decide)) (fun H locs hW => ?_)
    have hX := nm_st hX et2
    refine lv_aload_n C.1 C.2.1 dX5_takeSemicolon_23 rfl (lv_at hl 0 rfl) ?_
    refine lv_iconst (v := 0) C.1 C.2.1 dX5_takeSemicolon_24 (by decide) ?_
    obtain ⟨t3, et3⟩ : ∃ z, z = uS t2 5 6 0 0 := ⟨_, rfl⟩
    refine C_put C hW 5 rfl hin5 tyX5 tyX5_ok nmX5 hKS.k5_0 rfl 6 (by decide) rfl rfl rfl (Nat.le_of_ble_eq_true rfl) f5_6 dX5_takeSemicolon_25 (t' := t3) (by rw [et3]; exact wr5_6) (by rw [et3]; exact ho_S (by decide)) (fun H locs hW => ?_)
    have hX := nm_st hX et3
    refine lv_iconst (v := 0) C.1 C.2.1 dX5_takeSemicolon_28 (by decide) ?_
    exact G_reti C hr hlk hA hW (Option.some.inj hX).symm dX5_takeSemicolon_29
  have hX := br_n hX c1
  refine lv_iconst (v := 2) C.1 C.2.1 dX5_takeSemicolon_8 (by decide) ?_
  exact G_reti C hr hlk hA hW (Option.some.inj hX).symm dX5_takeSemicolon_9
abbrev rm_C_Reader_isWord : Room := { frames := 4, cells := 0, slots := 0, locals := 85 }
def C_Reader_isWord_L28 : Nat → List (Nat × Nat) → TH → Int32 → Nat → Option (Nat × Int32 × Int32)
  | 0, _, _, _, _ => none
  | n + 1, K, t, x2, x1 => chkP (x1 < 10) (bnd (S_length x1) (fun v10 => if v10 ≤ x2 then some (1, x2, 0) else bnd (C_Tape_at K t ((tS t 5 4 0) + x2)) (fun v12 => chkP (x1 < 10) (bnd (S_charAt x1 x2) (fun v13 => if v12 = v13 then nm (x2 + 1) (fun v15 => C_Reader_isWord_L28 n K t v15 x1) else some (0, x2, 0))))))
set_option maxHeartbeats 4000000 in
set_option maxRecDepth 100000 in
theorem r_C_Reader_isWord_L28 {p : Program} {l : Launch} {e : Env} {s : State} {m : MethodId} {args : Array Value} {below : List Frame} {meth : Method} {c : Code} {Q : State → Prop} {Ev : EvT} {D : va_G} {cs : Nat → ClassId} {ad : AD} {A : Nat → Prop} {ek ev : Nat → Nat} {tp : Nat} (C : Cx p s m args c cX5_isWord 3 wsX5_isWord RX5) {K : List (Nat × Nat)} (hKS : KS K) (hEv : EvC Ev ek ev tp) : ∀ (n : Nat) (t : TH) (x2 : Int32) (x1 : Nat) (H : Heap) (locs : List Loc) (ls : Array Slot) (X : Nat × Int32 × Int32), some X = C_Reader_isWord_L28 n K t x2 x1 → GW Ev D (tyC cs) (wC cs ad K) A s t H locs → lv_has ls 3 [(2, .int x2), (0, .ref (ad 5 0)), (1, .ref (ek x1))] → (∀ (z2 : Int32) (w0 : Int32) (H : Heap) (locs : List Loc) (ls : Array Slot), X = (0, z2, w0) → GW Ev D (tyC cs) (wC cs ad K) A s t H locs → lv_has ls 3 [(2, .int z2), (0, .ref (ad 5 0)), (1, .ref (ek x1))] → W p l e rm_C_Reader_isWord s m args below meth c H locs 0 0 Q (F0 m 58 ls [.int w0])) → (∀ (z2 : Int32) (w0 : Int32) (H : Heap) (locs : List Loc) (ls : Array Slot), X = (1, z2, w0) → GW Ev D (tyC cs) (wC cs ad K) A s t H locs → lv_has ls 3 [(2, .int z2), (0, .ref (ad 5 0)), (1, .ref (ek x1))] → W p l e rm_C_Reader_isWord s m args below meth c H locs 0 0 Q (F0 m 65 ls [])) → W p l e rm_C_Reader_isWord s m args below meth c H locs 0 0 Q (F0 m 28 ls []) := by
  have hin5 : ∀ w ∈ wsX50, w ∈ wsX5_isWord := fun w hw => List.mem_cons_of_mem _ (List.mem_append_left _ (List.mem_append_right _ hw))
  have f5_0 : (Cond.fieldLink RX5 40 (TX5 0).1 (TX5 0).2.1 (TX5 0).2.2.1).before _ s = true := C.2.2.2.2 _ (List.mem_of_getElem? (i := 4) rfl)
  have f5_3 : (Cond.fieldLink RX5 22 (TX5 3).1 (TX5 3).2.1 (TX5 3).2.2.1).before _ s = true := C.2.2.2.2 _ (List.mem_of_getElem? (i := 2) rfl)
  have f5_4 : (Cond.fieldLink RX5 25 (TX5 4).1 (TX5 4).2.1 (TX5 4).2.2.1).before _ s = true := C.2.2.2.2 _ (List.mem_of_getElem? (i := 3) rfl)
  have f5_5 : (Cond.fieldLink RX5 28 (TX5 5).1 (TX5 5).2.1 (TX5 5).2.2.1).before _ s = true := C.2.2.2.2 _ (List.mem_of_getElem? (i := 1) rfl)
  intro n
  induction n with
  | zero =>
    intro t x2 x1 H locs ls X hX hW hl K0 K1
    cases hX
  | succ n ih =>
    intro t x2 x1 H locs ls X hX hW hl K0 K1
    unfold C_Reader_isWord_L28 at hX
    refine lv_iload_n C.1 C.2.1 dX5_isWord_28 rfl (lv_at hl 0 rfl) ?_
    refine lv_aload_n C.1 C.2.1 dX5_isWord_29 rfl (lv_at hl 2 rfl) ?_
    obtain ⟨hs, hX⟩ := chkP_st hX
    obtain ⟨v10, hq, hX⟩ := bnd_st hX
    refine G_V0p (As := []) (rest := [.int x2]) C hW (c_S_length l D (tyC cs) (wC cs ad K) hEv t x1 v10 hq.symm) (cwV 0 C.2.2.2.2 gX5_isWord_J0_length_8abf5 rfl rfl rfl (by decide +kernel) ⟨Nat.le_of_ble_eq_true rfl, Nat.le_of_ble_eq_true rfl⟩) (vk_recv (hEv.ks hW) hs hW.2.2.2.1) rfl hl.1 rfl (Nat.le_of_ble_eq_true rfl) dX5_isWord_30 (fun H locs hW => ?_)
    refine lv_icmp_ge (tgt := 65) C.1 C.2.1 dX5_isWord_33 (by decide) (fun c11 => ?_) (fun c11 => ?_)
    · have hX := br_p hX c11
      exact K1 x2 0 H locs ls (Option.some.inj hX) hW (lv_sub hl [0, 1, 2] rfl)
    have hX := br_n hX c11
    refine lv_aload_n C.1 C.2.1 dX5_isWord_36 rfl (lv_at hl 1 rfl) ?_
    refine C_get C hW 5 rfl hin5 hKS.k5_0 rfl 0 (by decide) rfl f5_0 dX5_isWord_37 ?_
    refine lv_aload_n C.1 C.2.1 dX5_isWord_40 rfl (lv_at hl 1 rfl) ?_
    refine C_get C hW 5 rfl hin5 hKS.k5_0 rfl 4 (by decide) rfl f5_4 dX5_isWord_41 ?_
    refine lv_iload_n C.1 C.2.1 dX5_isWord_44 rfl (lv_at hl 0 rfl) ?_
    refine lv_iadd C.1 C.2.1 dX5_isWord_45 ?_
    obtain ⟨v12, hq, hX⟩ := bnd_st hX
    refine G_V0p (As := [.int ((tS t 5 4 0) + x2)]) (rest := []) C hW (c_C_Tape_at l D cs ad K hKS hEv t ((tS t 5 4 0) + x2) v12 hq.symm) (cwV 1 C.2.2.2.2 gX5_isWord_X9_at rfl rfl rfl (by decide +kernel) ⟨Nat.le_of_ble_eq_true rfl, Nat.le_of_ble_eq_true rfl⟩) (C_recv hW 9 hKS.k9_0 rfl rfl) rfl hl.1 rfl (Nat.le_of_ble_eq_true rfl) dX5_isWord_46 (fun H locs hW => ?_)
    refine lv_aload_n C.1 C.2.1 dX5_isWord_49 rfl (lv_at hl 2 rfl) ?_
    refine lv_iload_n C.1 C.2.1 dX5_isWord_50 rfl (lv_at hl 0 rfl) ?_
    obtain ⟨hs, hX⟩ := chkP_st hX
    obtain ⟨v13, hq, hX⟩ := bnd_st hX
    refine G_V0p (As := [.int x2]) (rest := [.int v12]) C hW (c_S_charAt l D (tyC cs) (wC cs ad K) hEv t x1 x2 v13 hq.symm) (cwV 1 C.2.2.2.2 gX5_isWord_J0_charAt_5068e rfl rfl rfl (by decide +kernel) ⟨Nat.le_of_ble_eq_true rfl, Nat.le_of_ble_eq_true rfl⟩) (vk_recv (hEv.ks hW) hs hW.2.2.2.1) rfl hl.1 rfl (Nat.le_of_ble_eq_true rfl) dX5_isWord_51 (fun H locs hW => ?_)
    refine lv_icmp_eq (tgt := 59) C.1 C.2.1 dX5_isWord_54 (by decide) (fun c14 => ?_) (fun c14 => ?_)
    · have hX := br_p hX c14
      obtain ⟨v15, ev15⟩ : ∃ z : Int32, z = x2 + 1 := ⟨_, rfl⟩
      have hX := nm_st hX ev15
      refine lv_iinc (v := v15) (lv' := [(2, .int v15), (0, .ref (ad 5 0)), (1, .ref (ek x1))]) C.1 C.2.1 dX5_isWord_59 hl (k := 0) rfl (by rw [ev15]; rfl) (by decide) rfl (fun ls hl => ?_)
      refine lv_goto (tgt := 28) C.1 C.2.1 dX5_isWord_62 (by decide) ?_
      exact ih t v15 x1 H locs ls X hX hW (lv_sub hl [0, 1, 2] rfl) K0 K1
    have hX := br_n hX c14
    refine lv_iconst (v := 0) C.1 C.2.1 dX5_isWord_57 (by decide) ?_
    exact K0 x2 0 H locs ls (Option.some.inj hX) hW (lv_sub hl [0, 1, 2] rfl)
def C_Reader_isWord (K : List (Nat × Nat)) (t : TH) (x1 : Nat) : Option (Int32) := if (tS t 5 5 0) = 1 then chkP (x1 < 10) (bnd (S_length x1) (fun v2 => if ((tS t 5 3 0) - (tS t 5 4 0)) = v2 then bnd (C_Reader_isWord_L28 100000 K t 0 x1) (fun q => nm2 q (fun j q => nm2 q (fun v16 v17 => if j = 0 then chkZ v17 (some v17) else if j = 1 then some 1 else none))) else some 0)) else some 0
set_option maxHeartbeats 4000000 in
set_option maxRecDepth 100000 in
theorem c_C_Reader_isWord {Ev : EvT} {ek ev : Nat → Nat} {tp : Nat} (l : Launch) (D : va_G) (cs : Nat → ClassId) (ad : AD) (K : List (Nat × Nat)) (hKS : KS K) (hEv : EvC Ev ek ev tp) (t : TH) (x1 : Nat) (X : Int32) (hX : some X = C_Reader_isWord K t x1) : cGi Ev l D (tyC cs) (wC cs ad K) yX5_isWord wsX5_isWord rm_C_Reader_isWord 0 0 [.ref (ad 5 0), .ref (ek x1)] t (fun r u => r = X ∧ u = t) := by
  refine G_ini (cc := cX5_isWord) (maxL := 3) (ret := some .boolean) (by decide) rfl (Nat.le_of_ble_eq_true rfl) ?_
  intro p e s m below meth c A ls C hr hlk hini hA hW hl
  have C : Cx p s m _ c cX5_isWord 3 wsX5_isWord RX5 := C
  have hl : lv_has ls 3 [(0, .ref (ad 5 0)), (1, .ref (ek x1))] := hl
  have hin5 : ∀ w ∈ wsX50, w ∈ wsX5_isWord := fun w hw => List.mem_cons_of_mem _ (List.mem_append_left _ (List.mem_append_right _ hw))
  have f5_0 : (Cond.fieldLink RX5 40 (TX5 0).1 (TX5 0).2.1 (TX5 0).2.2.1).before _ s = true := C.2.2.2.2 _ (List.mem_of_getElem? (i := 4) rfl)
  have f5_3 : (Cond.fieldLink RX5 22 (TX5 3).1 (TX5 3).2.1 (TX5 3).2.2.1).before _ s = true := C.2.2.2.2 _ (List.mem_of_getElem? (i := 2) rfl)
  have f5_4 : (Cond.fieldLink RX5 25 (TX5 4).1 (TX5 4).2.1 (TX5 4).2.2.1).before _ s = true := C.2.2.2.2 _ (List.mem_of_getElem? (i := 3) rfl)
  have f5_5 : (Cond.fieldLink RX5 28 (TX5 5).1 (TX5 5).2.1 (TX5 5).2.2.1).before _ s = true := C.2.2.2.2 _ (List.mem_of_getElem? (i := 1) rfl)
  obtain ⟨H, hH⟩ : ∃ H, H = s.heap := ⟨_, rfl⟩
  obtain ⟨locs, hlo⟩ : ∃ z : List Loc, z = [] := ⟨_, rfl⟩
  have hW : GW Ev D (tyC cs) (wC cs ad K) A s t H locs := by rw [hH, hlo]; exact hW
  rw [show W p l e rm_C_Reader_isWord s m _ below meth c s.heap [] = W p l e rm_C_Reader_isWord s m _ below meth c H locs from by rw [hH, hlo]]
  unfold C_Reader_isWord at hX
  refine lv_aload_n C.1 C.2.1 dX5_isWord_0 rfl (lv_at hl 0 rfl) ?_
  refine C_get C hW 5 rfl hin5 hKS.k5_0 rfl 5 (by decide) rfl f5_5 dX5_isWord_1 ?_
  refine lv_iconst (v := 1) C.1 C.2.1 dX5_isWord_4 (by decide) ?_
  refine lv_icmp_ne (tgt := 24) C.1 C.2.1 dX5_isWord_5 (by decide) (fun c1 => ?_) (fun c1 => ?_)
  · have hX := br_n hX c1
    refine lv_iconst (v := 0) C.1 C.2.1 dX5_isWord_24 (by decide) ?_
    exact G_retz C hr hlk hA hW rfl ⟨(Option.some.inj hX).symm, rfl⟩ dX5_isWord_25
  have hX := br_p hX c1
  refine lv_aload_n C.1 C.2.1 dX5_isWord_8 rfl (lv_at hl 0 rfl) ?_
  refine C_get C hW 5 rfl hin5 hKS.k5_0 rfl 3 (by decide) rfl f5_3 dX5_isWord_9 ?_
  refine lv_aload_n C.1 C.2.1 dX5_isWord_12 rfl (lv_at hl 0 rfl) ?_
  refine C_get C hW 5 rfl hin5 hKS.k5_0 rfl 4 (by decide) rfl f5_4 dX5_isWord_13 ?_
  refine lv_isub C.1 C.2.1 dX5_isWord_16 ?_
  refine lv_aload_n C.1 C.2.1 dX5_isWord_17 rfl (lv_at hl 1 rfl) ?_
  obtain ⟨hs, hX⟩ := chkP_st hX
  obtain ⟨v2, hq, hX⟩ := bnd_st hX
  refine G_V0p (As := []) (rest := [.int ((tS t 5 3 0) - (tS t 5 4 0))]) C hW (c_S_length l D (tyC cs) (wC cs ad K) hEv t x1 v2 hq.symm) (cwV 0 C.2.2.2.2 gX5_isWord_J0_length_8abf5 rfl rfl rfl (by decide +kernel) ⟨Nat.le_of_ble_eq_true rfl, Nat.le_of_ble_eq_true rfl⟩) (vk_recv (hEv.ks hW) hs hW.2.2.2.1) rfl hl.1 rfl (Nat.le_of_ble_eq_true rfl) dX5_isWord_18 (fun H locs hW => ?_)
  refine lv_icmp_eq (tgt := 26) C.1 C.2.1 dX5_isWord_21 (by decide) (fun c3 => ?_) (fun c3 => ?_)
  · have hX := br_p hX c3
    refine lv_iconst (v := 0) C.1 C.2.1 dX5_isWord_26 (by decide) ?_
    refine lv_istore_n (i := 2) (lv' := [(2, .int 0), (0, .ref (ad 5 0)), (1, .ref (ek x1))]) C.1 C.2.1 dX5_isWord_27 rfl hl (by decide) rfl (fun ls hl => ?_)
    obtain ⟨q, hq, hX⟩ := bnd_st hX
    refine r_C_Reader_isWord_L28 C hKS hEv 100000 t 0 x1 H locs ls q hq.symm hW (lv_sub hl [0, 1, 2] rfl) ?_ ?_
    · intro v16 v17 H locs ls hq hW hl
      subst hq
      have hX := nm2_st hX rfl
      have hX := nm2_st hX rfl
      have hX := br_p hX rfl
      obtain ⟨hz, hX⟩ := chkZ_st hX
      exact G_retz C hr hlk hA hW hz.1 ⟨(Option.some.inj hX).symm, rfl⟩ dX5_isWord_58
    intro v18 v19 H locs ls hq hW hl
    subst hq
    have hX := nm2_st hX rfl
    have hX := nm2_st hX rfl
    have hX := br_n hX (by decide)
    have hX := br_p hX rfl
    refine lv_iconst (v := 1) C.1 C.2.1 dX5_isWord_65 (by decide) ?_
    exact G_retz C hr hlk hA hW rfl ⟨(Option.some.inj hX).symm, rfl⟩ dX5_isWord_66
  have hX := br_n hX c3
  refine lv_iconst (v := 0) C.1 C.2.1 dX5_isWord_24 (by decide) ?_
  exact G_retz C hr hlk hA hW rfl ⟨(Option.some.inj hX).symm, rfl⟩ dX5_isWord_25
abbrev rm_C_Reader_ruleTold : Room := { frames := 5, cells := 0, slots := 0, locals := 107 }
def C_Reader_ruleTold (K : List (Nat × Nat)) (t : TH) : Option (Int32) := bnd (C_Reader_isWord K t 0) (fun v1 => if v1 = 0 then bnd (C_Reader_isWord K t 1) (fun v3 => if v3 = 0 then bnd (C_Reader_isWord K t 2) (fun v5 => if v5 = 0 then bnd (C_Reader_isWord K t 3) (fun v7 => if v7 = 0 then bnd (C_Reader_isWord K t 4) (fun v9 => if v9 = 0 then some (-1) else some 4) else some 3) else some 2) else some 1) else some 0)
set_option maxHeartbeats 4000000 in
set_option maxRecDepth 100000 in
theorem c_C_Reader_ruleTold {Ev : EvT} {ek ev : Nat → Nat} {tp : Nat} (l : Launch) (D : va_G) (cs : Nat → ClassId) (ad : AD) (K : List (Nat × Nat)) (hKS : KS K) (hEv : EvC Ev ek ev tp) (t : TH) (X : Int32) (hX : some X = C_Reader_ruleTold K t) : cGi Ev l D (tyC cs) (wC cs ad K) yX5_ruleTold wsX5_ruleTold rm_C_Reader_ruleTold 0 0 [.ref (ad 5 0)] t (fun r u => r = X ∧ u = t) := by
  refine G_ini (cc := cX5_ruleTold) (maxL := 1) (ret := some .int) (by decide) rfl (Nat.le_of_ble_eq_true rfl) ?_
  intro p e s m below meth c A ls C hr hlk hini hA hW hl
  have C : Cx p s m _ c cX5_ruleTold 1 wsX5_ruleTold RX5 := C
  have hl : lv_has ls 1 [(0, .ref (ad 5 0))] := hl
  obtain ⟨H, hH⟩ : ∃ H, H = s.heap := ⟨_, rfl⟩
  obtain ⟨locs, hlo⟩ : ∃ z : List Loc, z = [] := ⟨_, rfl⟩
  have hW : GW Ev D (tyC cs) (wC cs ad K) A s t H locs := by rw [hH, hlo]; exact hW
  rw [show W p l e rm_C_Reader_ruleTold s m _ below meth c s.heap [] = W p l e rm_C_Reader_ruleTold s m _ below meth c H locs from by rw [hH, hlo]]
  unfold C_Reader_ruleTold at hX
  refine lv_aload_n C.1 C.2.1 dX5_ruleTold_0 rfl (lv_at hl 0 rfl) ?_
  refine va_ldcS C.1 C.2.1 C.2.2.2.1 (hEv.str hW 0 rfl) dX5_ruleTold_1 ?_
  obtain ⟨v1, hq, hX⟩ := bnd_st hX
  refine G_V0p (As := [.ref (ek 0)]) (rest := []) C hW (c_C_Reader_isWord l D cs ad K hKS hEv t 0 v1 hq.symm) (cwV 1 C.2.2.2.2 gX5_ruleTold_X5_isWord rfl rfl rfl (by decide +kernel) ⟨Nat.le_of_ble_eq_true rfl, Nat.le_of_ble_eq_true rfl⟩) (C_recv hW 5 hKS.k5_0 rfl rfl) rfl hl.1 rfl (Nat.le_of_ble_eq_true rfl) dX5_ruleTold_3 (fun H locs hW => ?_)
  refine lv_if_eq (tgt := 11) C.1 C.2.1 dX5_ruleTold_6 (by decide) (fun c2 => ?_) (fun c2 => ?_)
  · have hX := br_p hX c2
    refine lv_aload_n C.1 C.2.1 dX5_ruleTold_11 rfl (lv_at hl 0 rfl) ?_
    refine va_ldcS C.1 C.2.1 C.2.2.2.1 (hEv.str hW 1 rfl) dX5_ruleTold_12 ?_
    obtain ⟨v3, hq, hX⟩ := bnd_st hX
    refine G_V0p (As := [.ref (ek 1)]) (rest := []) C hW (c_C_Reader_isWord l D cs ad K hKS hEv t 1 v3 hq.symm) (cwV 1 C.2.2.2.2 gX5_ruleTold_X5_isWord rfl rfl rfl (by decide +kernel) ⟨Nat.le_of_ble_eq_true rfl, Nat.le_of_ble_eq_true rfl⟩) (C_recv hW 5 hKS.k5_0 rfl rfl) rfl hl.1 rfl (Nat.le_of_ble_eq_true rfl) dX5_ruleTold_14 (fun H locs hW => ?_)
    refine lv_if_eq (tgt := 22) C.1 C.2.1 dX5_ruleTold_17 (by decide) (fun c4 => ?_) (fun c4 => ?_)
    · have hX := br_p hX c4
      refine lv_aload_n C.1 C.2.1 dX5_ruleTold_22 rfl (lv_at hl 0 rfl) ?_
      refine va_ldcS C.1 C.2.1 C.2.2.2.1 (hEv.str hW 2 rfl) dX5_ruleTold_23 ?_
      obtain ⟨v5, hq, hX⟩ := bnd_st hX
      refine G_V0p (As := [.ref (ek 2)]) (rest := []) C hW (c_C_Reader_isWord l D cs ad K hKS hEv t 2 v5 hq.symm) (cwV 1 C.2.2.2.2 gX5_ruleTold_X5_isWord rfl rfl rfl (by decide +kernel) ⟨Nat.le_of_ble_eq_true rfl, Nat.le_of_ble_eq_true rfl⟩) (C_recv hW 5 hKS.k5_0 rfl rfl) rfl hl.1 rfl (Nat.le_of_ble_eq_true rfl) dX5_ruleTold_25 (fun H locs hW => ?_)
      refine lv_if_eq (tgt := 33) C.1 C.2.1 dX5_ruleTold_28 (by decide) (fun c6 => ?_) (fun c6 => ?_)
      · have hX := br_p hX c6
        refine lv_aload_n C.1 C.2.1 dX5_ruleTold_33 rfl (lv_at hl 0 rfl) ?_
        refine va_ldcS C.1 C.2.1 C.2.2.2.1 (hEv.str hW 3 rfl) dX5_ruleTold_34 ?_
        obtain ⟨v7, hq, hX⟩ := bnd_st hX
        refine G_V0p (As := [.ref (ek 3)]) (rest := []) C hW (c_C_Reader_isWord l D cs ad K hKS hEv t 3 v7 hq.symm) (cwV 1 C.2.2.2.2 gX5_ruleTold_X5_isWord rfl rfl rfl (by decide +kernel) ⟨Nat.le_of_ble_eq_true rfl, Nat.le_of_ble_eq_true rfl⟩) (C_recv hW 5 hKS.k5_0 rfl rfl) rfl hl.1 rfl (Nat.le_of_ble_eq_true rfl) dX5_ruleTold_36 (fun H locs hW => ?_)
        refine lv_if_eq (tgt := 44) C.1 C.2.1 dX5_ruleTold_39 (by decide) (fun c8 => ?_) (fun c8 => ?_)
        · have hX := br_p hX c8
          refine lv_aload_n C.1 C.2.1 dX5_ruleTold_44 rfl (lv_at hl 0 rfl) ?_
          refine va_ldcS C.1 C.2.1 C.2.2.2.1 (hEv.str hW 4 rfl) dX5_ruleTold_45 ?_
          obtain ⟨v9, hq, hX⟩ := bnd_st hX
          refine G_V0p (As := [.ref (ek 4)]) (rest := []) C hW (c_C_Reader_isWord l D cs ad K hKS hEv t 4 v9 hq.symm) (cwV 1 C.2.2.2.2 gX5_ruleTold_X5_isWord rfl rfl rfl (by decide +kernel) ⟨Nat.le_of_ble_eq_true rfl, Nat.le_of_ble_eq_true rfl⟩) (C_recv hW 5 hKS.k5_0 rfl rfl) rfl hl.1 rfl (Nat.le_of_ble_eq_true rfl) dX5_ruleTold_47 (fun H locs hW => ?_)
          refine lv_if_eq (tgt := 57) C.1 C.2.1 dX5_ruleTold_50 (by decide) (fun c10 => ?_) (fun c10 => ?_)
          · have hX := br_p hX c10
            refine lv_iconst (v := -1) C.1 C.2.1 dX5_ruleTold_57 (by decide) ?_
            exact G_reti C hr hlk hA hW ⟨(Option.some.inj hX).symm, rfl⟩ dX5_ruleTold_58
          have hX := br_n hX c10
          refine lv_iconst (v := 4) C.1 C.2.1 dX5_ruleTold_53 (by decide) ?_
          refine lv_goto (tgt := 58) C.1 C.2.1 dX5_ruleTold_54 (by decide) ?_
          exact G_reti C hr hlk hA hW ⟨(Option.some.inj hX).symm, rfl⟩ dX5_ruleTold_58
        have hX := br_n hX c8
        refine lv_iconst (v := 3) C.1 C.2.1 dX5_ruleTold_42 (by decide) ?_
        exact G_reti C hr hlk hA hW ⟨(Option.some.inj hX).symm, rfl⟩ dX5_ruleTold_43
      have hX := br_n hX c6
      refine lv_iconst (v := 2) C.1 C.2.1 dX5_ruleTold_31 (by decide) ?_
      exact G_reti C hr hlk hA hW ⟨(Option.some.inj hX).symm, rfl⟩ dX5_ruleTold_32
    have hX := br_n hX c4
    refine lv_iconst (v := 1) C.1 C.2.1 dX5_ruleTold_20 (by decide) ?_
    exact G_reti C hr hlk hA hW ⟨(Option.some.inj hX).symm, rfl⟩ dX5_ruleTold_21
  have hX := br_n hX c2
  refine lv_iconst (v := 0) C.1 C.2.1 dX5_ruleTold_9 (by decide) ?_
  exact G_reti C hr hlk hA hW ⟨(Option.some.inj hX).symm, rfl⟩ dX5_ruleTold_10
abbrev rm_C_Reader_takeRule : Room := { frames := 6, cells := 0, slots := 0, locals := 127 }
def C_Reader_takeRule (K : List (Nat × Nat)) (t : TH) : Option (Int32 × TH) := bnd (C_Reader_ruleTold K t) (fun v1 => nm (uS t 5 7 0 v1) (fun t2 => if (tS t2 5 7 0) = (-1) then some (2, t2) else if ((((tS t2 5 8 0).toUInt32 >>> ((tS t2 5 7 0).toUInt32 &&& Int32.toUInt32 31)).toInt32) &&& 1) = 0 then nm (uS t2 5 8 0 ((tS t2 5 8 0) ||| ((1 : Int32) <<< ((tS t2 5 7 0) &&& 31)))) (fun t5 => nm (uS t5 5 6 0 1) (fun t6 => some (0, t6))) else some (4, t2)))
set_option maxHeartbeats 4000000 in
set_option maxRecDepth 100000 in
theorem c_C_Reader_takeRule {Ev : EvT} {ek ev : Nat → Nat} {tp : Nat} (l : Launch) (D : va_G) (cs : Nat → ClassId) (ad : AD) (K : List (Nat × Nat)) (hKS : KS K) (hEv : EvC Ev ek ev tp) (t : TH) (X : Int32 × TH) (hX : some X = C_Reader_takeRule K t) : cGi Ev l D (tyC cs) (wC cs ad K) yX5_takeRule wsX5_takeRule rm_C_Reader_takeRule 0 0 [.ref (ad 5 0)] t (fun r u => (r, u) = X) := by
  refine G_ini (cc := cX5_takeRule) (maxL := 1) (ret := some .int) (by decide) rfl (Nat.le_of_ble_eq_true rfl) ?_
  intro p e s m below meth c A ls C hr hlk hini hA hW hl
  have C : Cx p s m _ c cX5_takeRule 1 wsX5_takeRule RX5 := C
  have hl : lv_has ls 1 [(0, .ref (ad 5 0))] := hl
  have hin5 : ∀ w ∈ wsX50, w ∈ wsX5_takeRule := fun w hw => List.mem_cons_of_mem _ (List.mem_append_left _ (List.mem_append_right _ hw))
  have f5_6 : (Cond.fieldLink RX5 31 (TX5 6).1 (TX5 6).2.1 (TX5 6).2.2.1).before _ s = true := C.2.2.2.2 _ (List.mem_of_getElem? (i := 3) rfl)
  have f5_7 : (Cond.fieldLink RX5 34 (TX5 7).1 (TX5 7).2.1 (TX5 7).2.2.1).before _ s = true := C.2.2.2.2 _ (List.mem_of_getElem? (i := 1) rfl)
  have f5_8 : (Cond.fieldLink RX5 37 (TX5 8).1 (TX5 8).2.1 (TX5 8).2.2.1).before _ s = true := C.2.2.2.2 _ (List.mem_of_getElem? (i := 2) rfl)
  obtain ⟨H, hH⟩ : ∃ H, H = s.heap := ⟨_, rfl⟩
  obtain ⟨locs, hlo⟩ : ∃ z : List Loc, z = [] := ⟨_, rfl⟩
  have hW : GW Ev D (tyC cs) (wC cs ad K) A s t H locs := by rw [hH, hlo]; exact hW
  rw [show W p l e rm_C_Reader_takeRule s m _ below meth c s.heap [] = W p l e rm_C_Reader_takeRule s m _ below meth c H locs from by rw [hH, hlo]]
  unfold C_Reader_takeRule at hX
  refine lv_aload_n C.1 C.2.1 dX5_takeRule_0 rfl (lv_at hl 0 rfl) ?_
  refine lv_aload_n C.1 C.2.1 dX5_takeRule_1 rfl (lv_at hl 0 rfl) ?_
  obtain ⟨v1, hq, hX⟩ := bnd_st hX
  refine G_V0p (As := []) (rest := [.ref (ad 5 0)]) C hW (c_C_Reader_ruleTold l D cs ad K hKS hEv t v1 hq.symm) (cwV 0 C.2.2.2.2 gX5_takeRule_X5_ruleTold rfl rfl rfl (by decide +kernel) ⟨Nat.le_of_ble_eq_true rfl, Nat.le_of_ble_eq_true rfl⟩) (C_recv hW 5 hKS.k5_0 rfl rfl) rfl hl.1 rfl (Nat.le_of_ble_eq_true rfl) dX5_takeRule_2 (fun H locs hW => ?_)
  obtain ⟨t2, et2⟩ : ∃ z, z = uS t 5 7 0 v1 := ⟨_, rfl⟩
  refine C_put C hW 5 rfl hin5 tyX5 tyX5_ok nmX5 hKS.k5_0 rfl 7 (by decide) rfl rfl rfl (Nat.le_of_ble_eq_true rfl) f5_7 dX5_takeRule_5 (t' := t2) (by rw [et2]; exact wr5_7) (by rw [et2]; exact ho_S (by decide)) (fun H locs hW => ?_)
  have hX := nm_st hX et2
  refine lv_aload_n C.1 C.2.1 dX5_takeRule_8 rfl (lv_at hl 0 rfl) ?_
  refine C_get C hW 5 rfl hin5 hKS.k5_0 rfl 7 (by decide) rfl f5_7 dX5_takeRule_9 ?_
  refine lv_iconst (v := -1) C.1 C.2.1 dX5_takeRule_12 (by decide) ?_
  refine lv_icmp_ne (tgt := 18) C.1 C.2.1 dX5_takeRule_13 (by decide) (fun c3 => ?_) (fun c3 => ?_)
  · have hX := br_n hX c3
    refine lv_aload_n C.1 C.2.1 dX5_takeRule_18 rfl (lv_at hl 0 rfl) ?_
    refine C_get C hW 5 rfl hin5 hKS.k5_0 rfl 8 (by decide) rfl f5_8 dX5_takeRule_19 ?_
    refine lv_aload_n C.1 C.2.1 dX5_takeRule_22 rfl (lv_at hl 0 rfl) ?_
    refine C_get C hW 5 rfl hin5 hKS.k5_0 rfl 7 (by decide) rfl f5_7 dX5_takeRule_23 ?_
    refine lv_iushr C.1 C.2.1 dX5_takeRule_26 rfl ?_
    refine lv_iconst (v := 1) C.1 C.2.1 dX5_takeRule_27 (by decide) ?_
    refine lv_iand C.1 C.2.1 dX5_takeRule_28 ?_
    refine lv_if_eq (tgt := 34) C.1 C.2.1 dX5_takeRule_29 (by decide) (fun c4 => ?_) (fun c4 => ?_)
    · have hX := br_p hX c4
      refine lv_aload_n C.1 C.2.1 dX5_takeRule_34 rfl (lv_at hl 0 rfl) ?_
      refine lv_dup C.1 C.2.1 dX5_takeRule_35 rfl ?_
      refine C_get C hW 5 rfl hin5 hKS.k5_0 rfl 8 (by decide) rfl f5_8 dX5_takeRule_36 ?_
      refine lv_iconst (v := 1) C.1 C.2.1 dX5_takeRule_39 (by decide) ?_
      refine lv_aload_n C.1 C.2.1 dX5_takeRule_40 rfl (lv_at hl 0 rfl) ?_
      refine C_get C hW 5 rfl hin5 hKS.k5_0 rfl 7 (by decide) rfl f5_7 dX5_takeRule_41 ?_
      refine lv_ishl C.1 C.2.1 dX5_takeRule_44 ?_
      refine lv_ior C.1 C.2.1 dX5_takeRule_45 ?_
      obtain ⟨t5, et5⟩ : ∃ z, z = uS t2 5 8 0 ((tS t2 5 8 0) ||| ((1 : Int32) <<< ((tS t2 5 7 0) &&& 31))) := ⟨_, rfl⟩
      refine C_put C hW 5 rfl hin5 tyX5 tyX5_ok nmX5 hKS.k5_0 rfl 8 (by decide) rfl rfl rfl (Nat.le_of_ble_eq_true rfl) f5_8 dX5_takeRule_46 (t' := t5) (by rw [et5]; exact wr5_8) (by rw [et5]; exact ho_S (by decide)) (fun H locs hW => ?_)
      have hX := nm_st hX et5
      refine lv_aload_n C.1 C.2.1 dX5_takeRule_49 rfl (lv_at hl 0 rfl) ?_
      refine lv_iconst (v := 1) C.1 C.2.1 dX5_takeRule_50 (by decide) ?_
      obtain ⟨t6, et6⟩ : ∃ z, z = uS t5 5 6 0 1 := ⟨_, rfl⟩
      refine C_put C hW 5 rfl hin5 tyX5 tyX5_ok nmX5 hKS.k5_0 rfl 6 (by decide) rfl rfl rfl (Nat.le_of_ble_eq_true rfl) f5_6 dX5_takeRule_51 (t' := t6) (by rw [et6]; exact wr5_6) (by rw [et6]; exact ho_S (by decide)) (fun H locs hW => ?_)
      have hX := nm_st hX et6
      refine lv_iconst (v := 0) C.1 C.2.1 dX5_takeRule_54 (by decide) ?_
      exact G_reti C hr hlk hA hW (Option.some.inj hX).symm dX5_takeRule_55
    have hX := br_n hX c4
    refine lv_iconst (v := 4) C.1 C.2.1 dX5_takeRule_32 (by decide) ?_
    exact G_reti C hr hlk hA hW (Option.some.inj hX).symm dX5_takeRule_33
  have hX := br_p hX c3
  refine lv_iconst (v := 2) C.1 C.2.1 dX5_takeRule_16 (by decide) ?_
  exact G_reti C hr hlk hA hW (Option.some.inj hX).symm dX5_takeRule_17
abbrev rm_C_Reader_takeChoice : Room := { frames := 5, cells := 0, slots := 0, locals := 107 }
def C_Reader_takeChoice (K : List (Nat × Nat)) (t : TH) : Option (Int32 × TH) := if (tS t 5 7 0) = 1 then bnd (C_Reader_isWord K t 5) (fun v77 => if v77 = 0 then if (tS t 5 7 0) = 1 then bnd (C_Reader_isWord K t 6) (fun v115 => if v115 = 0 then if (tS t 5 7 0) = 4 then bnd (C_Reader_isWord K t 7) (fun v133 => if v133 = 0 then if (tS t 5 7 0) = 4 then bnd (C_Reader_isWord K t 8) (fun v141 => if v141 = 0 then if (tS t 5 7 0) = 4 then bnd (C_Reader_isWord K t 9) (fun v144 => if v144 = 0 then some (2, t) else nm (uS t 4 4 1 2) (fun t146 => nm (uS t146 5 6 0 2) (fun t147 => some (0, t147)))) else some (2, t) else nm (uS t 4 4 1 1) (fun t148 => nm (uS t148 5 6 0 2) (fun t149 => some (0, t149)))) else if (tS t 5 7 0) = 4 then bnd (C_Reader_isWord K t 9) (fun v137 => if v137 = 0 then some (2, t) else nm (uS t 4 4 1 2) (fun t139 => nm (uS t139 5 6 0 2) (fun t140 => some (0, t140)))) else some (2, t) else nm (uS t 4 4 1 0) (fun t150 => nm (uS t150 5 6 0 2) (fun t151 => some (0, t151)))) else if (tS t 5 7 0) = 4 then bnd (C_Reader_isWord K t 8) (fun v124 => if v124 = 0 then if (tS t 5 7 0) = 4 then bnd (C_Reader_isWord K t 9) (fun v127 => if v127 = 0 then some (2, t) else nm (uS t 4 4 1 2) (fun t129 => nm (uS t129 5 6 0 2) (fun t130 => some (0, t130)))) else some (2, t) else nm (uS t 4 4 1 1) (fun t131 => nm (uS t131 5 6 0 2) (fun t132 => some (0, t132)))) else if (tS t 5 7 0) = 4 then bnd (C_Reader_isWord K t 9) (fun v120 => if v120 = 0 then some (2, t) else nm (uS t 4 4 1 2) (fun t122 => nm (uS t122 5 6 0 2) (fun t123 => some (0, t123)))) else some (2, t) else nm (uS t 4 1 1 0) (fun t152 => nm (uS t152 5 6 0 2) (fun t153 => some (0, t153)))) else if (tS t 5 7 0) = 4 then bnd (C_Reader_isWord K t 7) (fun v96 => if v96 = 0 then if (tS t 5 7 0) = 4 then bnd (C_Reader_isWord K t 8) (fun v104 => if v104 = 0 then if (tS t 5 7 0) = 4 then bnd (C_Reader_isWord K t 9) (fun v107 => if v107 = 0 then some (2, t) else nm (uS t 4 4 1 2) (fun t109 => nm (uS t109 5 6 0 2) (fun t110 => some (0, t110)))) else some (2, t) else nm (uS t 4 4 1 1) (fun t111 => nm (uS t111 5 6 0 2) (fun t112 => some (0, t112)))) else if (tS t 5 7 0) = 4 then bnd (C_Reader_isWord K t 9) (fun v100 => if v100 = 0 then some (2, t) else nm (uS t 4 4 1 2) (fun t102 => nm (uS t102 5 6 0 2) (fun t103 => some (0, t103)))) else some (2, t) else nm (uS t 4 4 1 0) (fun t113 => nm (uS t113 5 6 0 2) (fun t114 => some (0, t114)))) else if (tS t 5 7 0) = 4 then bnd (C_Reader_isWord K t 8) (fun v87 => if v87 = 0 then if (tS t 5 7 0) = 4 then bnd (C_Reader_isWord K t 9) (fun v90 => if v90 = 0 then some (2, t) else nm (uS t 4 4 1 2) (fun t92 => nm (uS t92 5 6 0 2) (fun t93 => some (0, t93)))) else some (2, t) else nm (uS t 4 4 1 1) (fun t94 => nm (uS t94 5 6 0 2) (fun t95 => some (0, t95)))) else if (tS t 5 7 0) = 4 then bnd (C_Reader_isWord K t 9) (fun v83 => if v83 = 0 then some (2, t) else nm (uS t 4 4 1 2) (fun t85 => nm (uS t85 5 6 0 2) (fun t86 => some (0, t86)))) else some (2, t) else nm (uS t 4 1 1 1) (fun t154 => nm (uS t154 5 6 0 2) (fun t155 => some (0, t155)))) else if (tS t 5 7 0) = 1 then bnd (C_Reader_isWord K t 6) (fun v38 => if v38 = 0 then if (tS t 5 7 0) = 4 then bnd (C_Reader_isWord K t 7) (fun v56 => if v56 = 0 then if (tS t 5 7 0) = 4 then bnd (C_Reader_isWord K t 8) (fun v64 => if v64 = 0 then if (tS t 5 7 0) = 4 then bnd (C_Reader_isWord K t 9) (fun v67 => if v67 = 0 then some (2, t) else nm (uS t 4 4 1 2) (fun t69 => nm (uS t69 5 6 0 2) (fun t70 => some (0, t70)))) else some (2, t) else nm (uS t 4 4 1 1) (fun t71 => nm (uS t71 5 6 0 2) (fun t72 => some (0, t72)))) else if (tS t 5 7 0) = 4 then bnd (C_Reader_isWord K t 9) (fun v60 => if v60 = 0 then some (2, t) else nm (uS t 4 4 1 2) (fun t62 => nm (uS t62 5 6 0 2) (fun t63 => some (0, t63)))) else some (2, t) else nm (uS t 4 4 1 0) (fun t73 => nm (uS t73 5 6 0 2) (fun t74 => some (0, t74)))) else if (tS t 5 7 0) = 4 then bnd (C_Reader_isWord K t 8) (fun v47 => if v47 = 0 then if (tS t 5 7 0) = 4 then bnd (C_Reader_isWord K t 9) (fun v50 => if v50 = 0 then some (2, t) else nm (uS t 4 4 1 2) (fun t52 => nm (uS t52 5 6 0 2) (fun t53 => some (0, t53)))) else some (2, t) else nm (uS t 4 4 1 1) (fun t54 => nm (uS t54 5 6 0 2) (fun t55 => some (0, t55)))) else if (tS t 5 7 0) = 4 then bnd (C_Reader_isWord K t 9) (fun v43 => if v43 = 0 then some (2, t) else nm (uS t 4 4 1 2) (fun t45 => nm (uS t45 5 6 0 2) (fun t46 => some (0, t46)))) else some (2, t) else nm (uS t 4 1 1 0) (fun t75 => nm (uS t75 5 6 0 2) (fun t76 => some (0, t76)))) else if (tS t 5 7 0) = 4 then bnd (C_Reader_isWord K t 7) (fun v19 => if v19 = 0 then if (tS t 5 7 0) = 4 then bnd (C_Reader_isWord K t 8) (fun v27 => if v27 = 0 then if (tS t 5 7 0) = 4 then bnd (C_Reader_isWord K t 9) (fun v30 => if v30 = 0 then some (2, t) else nm (uS t 4 4 1 2) (fun t32 => nm (uS t32 5 6 0 2) (fun t33 => some (0, t33)))) else some (2, t) else nm (uS t 4 4 1 1) (fun t34 => nm (uS t34 5 6 0 2) (fun t35 => some (0, t35)))) else if (tS t 5 7 0) = 4 then bnd (C_Reader_isWord K t 9) (fun v23 => if v23 = 0 then some (2, t) else nm (uS t 4 4 1 2) (fun t25 => nm (uS t25 5 6 0 2) (fun t26 => some (0, t26)))) else some (2, t) else nm (uS t 4 4 1 0) (fun t36 => nm (uS t36 5 6 0 2) (fun t37 => some (0, t37)))) else if (tS t 5 7 0) = 4 then bnd (C_Reader_isWord K t 8) (fun v10 => if v10 = 0 then if (tS t 5 7 0) = 4 then bnd (C_Reader_isWord K t 9) (fun v13 => if v13 = 0 then some (2, t) else nm (uS t 4 4 1 2) (fun t15 => nm (uS t15 5 6 0 2) (fun t16 => some (0, t16)))) else some (2, t) else nm (uS t 4 4 1 1) (fun t17 => nm (uS t17 5 6 0 2) (fun t18 => some (0, t18)))) else if (tS t 5 7 0) = 4 then bnd (C_Reader_isWord K t 9) (fun v6 => if v6 = 0 then some (2, t) else nm (uS t 4 4 1 2) (fun t8 => nm (uS t8 5 6 0 2) (fun t9 => some (0, t9)))) else some (2, t)
set_option maxHeartbeats 4000000 in
set_option maxRecDepth 100000 in
theorem c_C_Reader_takeChoice {Ev : EvT} {ek ev : Nat → Nat} {tp : Nat} (l : Launch) (D : va_G) (cs : Nat → ClassId) (ad : AD) (K : List (Nat × Nat)) (hKS : KS K) (hEv : EvC Ev ek ev tp) (t : TH) (X : Int32 × TH) (hX : some X = C_Reader_takeChoice K t) : cGi Ev l D (tyC cs) (wC cs ad K) yX5_takeChoice wsX5_takeChoice rm_C_Reader_takeChoice 0 0 [.ref (ad 5 0)] t (fun r u => (r, u) = X) := by
  refine G_ini (cc := cX5_takeChoice) (maxL := 1) (ret := some .int) (by decide) rfl (Nat.le_of_ble_eq_true rfl) ?_
  intro p e s m below meth c A ls C hr hlk hini hA hW hl
  have C : Cx p s m _ c cX5_takeChoice 1 wsX5_takeChoice RX5 := C
  have hl : lv_has ls 1 [(0, .ref (ad 5 0))] := hl
  have hin4 : ∀ w ∈ wsX40, w ∈ wsX5_takeChoice := fun w hw => List.mem_cons_of_mem _ (List.mem_append_left _ (List.mem_append_right _ hw))
  have hin5 : ∀ w ∈ wsX50, w ∈ wsX5_takeChoice := fun w hw => List.mem_cons_of_mem _ (List.mem_append_left _ (List.mem_append_left _ (List.mem_append_right _ hw)))
  have f4_1 : (Cond.fieldLink RX5 128 (TX4 1).1 (TX4 1).2.1 (TX4 1).2.2.1).before _ s = true := C.2.2.2.2 _ (List.mem_of_getElem? (i := 3) rfl)
  have f4_4 : (Cond.fieldLink RX5 135 (TX4 4).1 (TX4 4).2.1 (TX4 4).2.2.1).before _ s = true := C.2.2.2.2 _ (List.mem_of_getElem? (i := 4) rfl)
  have f5_1 : (Cond.fieldLink RX5 12 (TX5 1).1 (TX5 1).2.1 (TX5 1).2.2.1).before _ s = true := C.2.2.2.2 _ (List.mem_of_getElem? (i := 2) rfl)
  have f5_6 : (Cond.fieldLink RX5 31 (TX5 6).1 (TX5 6).2.1 (TX5 6).2.2.1).before _ s = true := C.2.2.2.2 _ (List.mem_of_getElem? (i := 5) rfl)
  have f5_7 : (Cond.fieldLink RX5 34 (TX5 7).1 (TX5 7).2.1 (TX5 7).2.2.1).before _ s = true := C.2.2.2.2 _ (List.mem_of_getElem? (i := 1) rfl)
  obtain ⟨H, hH⟩ : ∃ H, H = s.heap := ⟨_, rfl⟩
  obtain ⟨locs, hlo⟩ : ∃ z : List Loc, z = [] := ⟨_, rfl⟩
  have hW : GW Ev D (tyC cs) (wC cs ad K) A s t H locs := by rw [hH, hlo]; exact hW
  rw [show W p l e rm_C_Reader_takeChoice s m _ below meth c s.heap [] = W p l e rm_C_Reader_takeChoice s m _ below meth c H locs from by rw [hH, hlo]]
  unfold C_Reader_takeChoice at hX
  refine lv_aload_n C.1 C.2.1 dX5_takeChoice_0 rfl (lv_at hl 0 rfl) ?_
  refine C_get C hW 5 rfl hin5 hKS.k5_0 rfl 7 (by decide) rfl f5_7 dX5_takeChoice_1 ?_
  refine lv_iconst (v := 1) C.1 C.2.1 dX5_takeChoice_4 (by decide) ?_
  refine lv_icmp_ne (tgt := 28) C.1 C.2.1 dX5_takeChoice_5 (by decide) (fun c1 => ?_) (fun c1 => ?_)
  · have hX := br_n hX c1
    refine lv_aload_n C.1 C.2.1 dX5_takeChoice_28 rfl (lv_at hl 0 rfl) ?_
    refine C_get C hW 5 rfl hin5 hKS.k5_0 rfl 7 (by decide) rfl f5_7 dX5_takeChoice_29 ?_
    refine lv_iconst (v := 1) C.1 C.2.1 dX5_takeChoice_32 (by decide) ?_
    refine lv_icmp_ne (tgt := 56) C.1 C.2.1 dX5_takeChoice_33 (by decide) (fun c2 => ?_) (fun c2 => ?_)
    · have hX := br_n hX c2
      refine lv_aload_n C.1 C.2.1 dX5_takeChoice_56 rfl (lv_at hl 0 rfl) ?_
      refine C_get C hW 5 rfl hin5 hKS.k5_0 rfl 7 (by decide) rfl f5_7 dX5_takeChoice_57 ?_
      refine lv_iconst (v := 4) C.1 C.2.1 dX5_takeChoice_60 (by decide) ?_
      refine lv_icmp_ne (tgt := 84) C.1 C.2.1 dX5_takeChoice_61 (by decide) (fun c3 => ?_) (fun c3 => ?_)
      · have hX := br_n hX c3
        refine lv_aload_n C.1 C.2.1 dX5_takeChoice_84 rfl (lv_at hl 0 rfl) ?_
        refine C_get C hW 5 rfl hin5 hKS.k5_0 rfl 7 (by decide) rfl f5_7 dX5_takeChoice_85 ?_
        refine lv_iconst (v := 4) C.1 C.2.1 dX5_takeChoice_88 (by decide) ?_
        refine lv_icmp_ne (tgt := 112) C.1 C.2.1 dX5_takeChoice_89 (by decide) (fun c4 => ?_) (fun c4 => ?_)
        · have hX := br_n hX c4
          refine lv_aload_n C.1 C.2.1 dX5_takeChoice_112 rfl (lv_at hl 0 rfl) ?_
          refine C_get C hW 5 rfl hin5 hKS.k5_0 rfl 7 (by decide) rfl f5_7 dX5_takeChoice_113 ?_
          refine lv_iconst (v := 4) C.1 C.2.1 dX5_takeChoice_116 (by decide) ?_
          refine lv_icmp_ne (tgt := 140) C.1 C.2.1 dX5_takeChoice_117 (by decide) (fun c5 => ?_) (fun c5 => ?_)
          · have hX := br_n hX c5
            refine lv_iconst (v := 2) C.1 C.2.1 dX5_takeChoice_140 (by decide) ?_
            exact G_reti C hr hlk hA hW (Option.some.inj hX).symm dX5_takeChoice_141
          have hX := br_p hX c5
          refine lv_aload_n C.1 C.2.1 dX5_takeChoice_120 rfl (lv_at hl 0 rfl) ?_
          refine va_ldcS C.1 C.2.1 C.2.2.2.1 (hEv.str hW 9 rfl) dX5_takeChoice_121 ?_
          obtain ⟨v6, hq, hX⟩ := bnd_st hX
          refine G_V0p (As := [.ref (ek 9)]) (rest := []) C hW (c_C_Reader_isWord l D cs ad K hKS hEv t 9 v6 hq.symm) (cwV 1 C.2.2.2.2 gX5_takeChoice_X5_isWord rfl rfl rfl (by decide +kernel) ⟨Nat.le_of_ble_eq_true rfl, Nat.le_of_ble_eq_true rfl⟩) (C_recv hW 5 hKS.k5_0 rfl rfl) rfl hl.1 rfl (Nat.le_of_ble_eq_true rfl) dX5_takeChoice_123 (fun H locs hW => ?_)
          refine lv_if_eq (tgt := 140) C.1 C.2.1 dX5_takeChoice_126 (by decide) (fun c7 => ?_) (fun c7 => ?_)
          · have hX := br_p hX c7
            refine lv_iconst (v := 2) C.1 C.2.1 dX5_takeChoice_140 (by decide) ?_
            exact G_reti C hr hlk hA hW (Option.some.inj hX).symm dX5_takeChoice_141
          have hX := br_n hX c7
          refine lv_aload_n C.1 C.2.1 dX5_takeChoice_129 rfl (lv_at hl 0 rfl) ?_
          refine C_get C hW 5 rfl hin5 hKS.k5_0 rfl 1 (by decide) rfl f5_1 dX5_takeChoice_130 ?_
          refine lv_iconst (v := 2) C.1 C.2.1 dX5_takeChoice_133 (by decide) ?_
          obtain ⟨t8, et8⟩ : ∃ z, z = uS t 4 4 1 2 := ⟨_, rfl⟩
          refine C_put C hW 4 rfl hin4 tyX4 tyX4_ok nmX4 hKS.k4_1 rfl 4 (by decide) rfl rfl rfl (Nat.le_of_ble_eq_true rfl) f4_4 dX5_takeChoice_134 (t' := t8) (by rw [et8]; exact wr4_4) (by rw [et8]; exact ho_S (by decide)) (fun H locs hW => ?_)
          have hX := nm_st hX et8
          refine lv_goto (tgt := 142) C.1 C.2.1 dX5_takeChoice_137 (by decide) ?_
          refine lv_aload_n C.1 C.2.1 dX5_takeChoice_142 rfl (lv_at hl 0 rfl) ?_
          refine lv_iconst (v := 2) C.1 C.2.1 dX5_takeChoice_143 (by decide) ?_
          obtain ⟨t9, et9⟩ : ∃ z, z = uS t8 5 6 0 2 := ⟨_, rfl⟩
          refine C_put C hW 5 rfl hin5 tyX5 tyX5_ok nmX5 hKS.k5_0 rfl 6 (by decide) rfl rfl rfl (Nat.le_of_ble_eq_true rfl) f5_6 dX5_takeChoice_144 (t' := t9) (by rw [et9]; exact wr5_6) (by rw [et9]; exact ho_S (by decide)) (fun H locs hW => ?_)
          have hX := nm_st hX et9
          refine lv_iconst (v := 0) C.1 C.2.1 dX5_takeChoice_147 (by decide) ?_
          exact G_reti C hr hlk hA hW (Option.some.inj hX).symm dX5_takeChoice_148
        have hX := br_p hX c4
        refine lv_aload_n C.1 C.2.1 dX5_takeChoice_92 rfl (lv_at hl 0 rfl) ?_
        refine va_ldcS C.1 C.2.1 C.2.2.2.1 (hEv.str hW 8 rfl) dX5_takeChoice_93 ?_
        obtain ⟨v10, hq, hX⟩ := bnd_st hX
        refine G_V0p (As := [.ref (ek 8)]) (rest := []) C hW (c_C_Reader_isWord l D cs ad K hKS hEv t 8 v10 hq.symm) (cwV 1 C.2.2.2.2 gX5_takeChoice_X5_isWord rfl rfl rfl (by decide +kernel) ⟨Nat.le_of_ble_eq_true rfl, Nat.le_of_ble_eq_true rfl⟩) (C_recv hW 5 hKS.k5_0 rfl rfl) rfl hl.1 rfl (Nat.le_of_ble_eq_true rfl) dX5_takeChoice_95 (fun H locs hW => ?_)
        refine lv_if_eq (tgt := 112) C.1 C.2.1 dX5_takeChoice_98 (by decide) (fun c11 => ?_) (fun c11 => ?_)
        · have hX := br_p hX c11
          refine lv_aload_n C.1 C.2.1 dX5_takeChoice_112 rfl (lv_at hl 0 rfl) ?_
          refine C_get C hW 5 rfl hin5 hKS.k5_0 rfl 7 (by decide) rfl f5_7 dX5_takeChoice_113 ?_
          refine lv_iconst (v := 4) C.1 C.2.1 dX5_takeChoice_116 (by decide) ?_
          refine lv_icmp_ne (tgt := 140) C.1 C.2.1 dX5_takeChoice_117 (by decide) (fun c12 => ?_) (fun c12 => ?_)
          · have hX := br_n hX c12
            refine lv_iconst (v := 2) C.1 C.2.1 dX5_takeChoice_140 (by decide) ?_
            exact G_reti C hr hlk hA hW (Option.some.inj hX).symm dX5_takeChoice_141
          have hX := br_p hX c12
          refine lv_aload_n C.1 C.2.1 dX5_takeChoice_120 rfl (lv_at hl 0 rfl) ?_
          refine va_ldcS C.1 C.2.1 C.2.2.2.1 (hEv.str hW 9 rfl) dX5_takeChoice_121 ?_
          obtain ⟨v13, hq, hX⟩ := bnd_st hX
          refine G_V0p (As := [.ref (ek 9)]) (rest := []) C hW (c_C_Reader_isWord l D cs ad K hKS hEv t 9 v13 hq.symm) (cwV 1 C.2.2.2.2 gX5_takeChoice_X5_isWord rfl rfl rfl (by decide +kernel) ⟨Nat.le_of_ble_eq_true rfl, Nat.le_of_ble_eq_true rfl⟩) (C_recv hW 5 hKS.k5_0 rfl rfl) rfl hl.1 rfl (Nat.le_of_ble_eq_true rfl) dX5_takeChoice_123 (fun H locs hW => ?_)
          refine lv_if_eq (tgt := 140) C.1 C.2.1 dX5_takeChoice_126 (by decide) (fun c14 => ?_) (fun c14 => ?_)
          · have hX := br_p hX c14
            refine lv_iconst (v := 2) C.1 C.2.1 dX5_takeChoice_140 (by decide) ?_
            exact G_reti C hr hlk hA hW (Option.some.inj hX).symm dX5_takeChoice_141
          have hX := br_n hX c14
          refine lv_aload_n C.1 C.2.1 dX5_takeChoice_129 rfl (lv_at hl 0 rfl) ?_
          refine C_get C hW 5 rfl hin5 hKS.k5_0 rfl 1 (by decide) rfl f5_1 dX5_takeChoice_130 ?_
          refine lv_iconst (v := 2) C.1 C.2.1 dX5_takeChoice_133 (by decide) ?_
          obtain ⟨t15, et15⟩ : ∃ z, z = uS t 4 4 1 2 := ⟨_, rfl⟩
          refine C_put C hW 4 rfl hin4 tyX4 tyX4_ok nmX4 hKS.k4_1 rfl 4 (by decide) rfl rfl rfl (Nat.le_of_ble_eq_true rfl) f4_4 dX5_takeChoice_134 (t' := t15) (by rw [et15]; exact wr4_4) (by rw [et15]; exact ho_S (by decide)) (fun H locs hW => ?_)
          have hX := nm_st hX et15
          refine lv_goto (tgt := 142) C.1 C.2.1 dX5_takeChoice_137 (by decide) ?_
          refine lv_aload_n C.1 C.2.1 dX5_takeChoice_142 rfl (lv_at hl 0 rfl) ?_
          refine lv_iconst (v := 2) C.1 C.2.1 dX5_takeChoice_143 (by decide) ?_
          obtain ⟨t16, et16⟩ : ∃ z, z = uS t15 5 6 0 2 := ⟨_, rfl⟩
          refine C_put C hW 5 rfl hin5 tyX5 tyX5_ok nmX5 hKS.k5_0 rfl 6 (by decide) rfl rfl rfl (Nat.le_of_ble_eq_true rfl) f5_6 dX5_takeChoice_144 (t' := t16) (by rw [et16]; exact wr5_6) (by rw [et16]; exact ho_S (by decide)) (fun H locs hW => ?_)
          have hX := nm_st hX et16
          refine lv_iconst (v := 0) C.1 C.2.1 dX5_takeChoice_147 (by decide) ?_
          exact G_reti C hr hlk hA hW (Option.some.inj hX).symm dX5_takeChoice_148
        have hX := br_n hX c11
        refine lv_aload_n C.1 C.2.1 dX5_takeChoice_101 rfl (lv_at hl 0 rfl) ?_
        refine C_get C hW 5 rfl hin5 hKS.k5_0 rfl 1 (by decide) rfl f5_1 dX5_takeChoice_102 ?_
        refine lv_iconst (v := 1) C.1 C.2.1 dX5_takeChoice_105 (by decide) ?_
        obtain ⟨t17, et17⟩ : ∃ z, z = uS t 4 4 1 1 := ⟨_, rfl⟩
        refine C_put C hW 4 rfl hin4 tyX4 tyX4_ok nmX4 hKS.k4_1 rfl 4 (by decide) rfl rfl rfl (Nat.le_of_ble_eq_true rfl) f4_4 dX5_takeChoice_106 (t' := t17) (by rw [et17]; exact wr4_4) (by rw [et17]; exact ho_S (by decide)) (fun H locs hW => ?_)
        have hX := nm_st hX et17
        refine lv_goto (tgt := 142) C.1 C.2.1 dX5_takeChoice_109 (by decide) ?_
        refine lv_aload_n C.1 C.2.1 dX5_takeChoice_142 rfl (lv_at hl 0 rfl) ?_
        refine lv_iconst (v := 2) C.1 C.2.1 dX5_takeChoice_143 (by decide) ?_
        obtain ⟨t18, et18⟩ : ∃ z, z = uS t17 5 6 0 2 := ⟨_, rfl⟩
        refine C_put C hW 5 rfl hin5 tyX5 tyX5_ok nmX5 hKS.k5_0 rfl 6 (by decide) rfl rfl rfl (Nat.le_of_ble_eq_true rfl) f5_6 dX5_takeChoice_144 (t' := t18) (by rw [et18]; exact wr5_6) (by rw [et18]; exact ho_S (by decide)) (fun H locs hW => ?_)
        have hX := nm_st hX et18
        refine lv_iconst (v := 0) C.1 C.2.1 dX5_takeChoice_147 (by decide) ?_
        exact G_reti C hr hlk hA hW (Option.some.inj hX).symm dX5_takeChoice_148
      have hX := br_p hX c3
      refine lv_aload_n C.1 C.2.1 dX5_takeChoice_64 rfl (lv_at hl 0 rfl) ?_
      refine va_ldcS C.1 C.2.1 C.2.2.2.1 (hEv.str hW 7 rfl) dX5_takeChoice_65 ?_
      obtain ⟨v19, hq, hX⟩ := bnd_st hX
      refine G_V0p (As := [.ref (ek 7)]) (rest := []) C hW (c_C_Reader_isWord l D cs ad K hKS hEv t 7 v19 hq.symm) (cwV 1 C.2.2.2.2 gX5_takeChoice_X5_isWord rfl rfl rfl (by decide +kernel) ⟨Nat.le_of_ble_eq_true rfl, Nat.le_of_ble_eq_true rfl⟩) (C_recv hW 5 hKS.k5_0 rfl rfl) rfl hl.1 rfl (Nat.le_of_ble_eq_true rfl) dX5_takeChoice_67 (fun H locs hW => ?_)
      refine lv_if_eq (tgt := 84) C.1 C.2.1 dX5_takeChoice_70 (by decide) (fun c20 => ?_) (fun c20 => ?_)
      · have hX := br_p hX c20
        refine lv_aload_n C.1 C.2.1 dX5_takeChoice_84 rfl (lv_at hl 0 rfl) ?_
        refine C_get C hW 5 rfl hin5 hKS.k5_0 rfl 7 (by decide) rfl f5_7 dX5_takeChoice_85 ?_
        refine lv_iconst (v := 4) C.1 C.2.1 dX5_takeChoice_88 (by decide) ?_
        refine lv_icmp_ne (tgt := 112) C.1 C.2.1 dX5_takeChoice_89 (by decide) (fun c21 => ?_) (fun c21 => ?_)
        · have hX := br_n hX c21
          refine lv_aload_n C.1 C.2.1 dX5_takeChoice_112 rfl (lv_at hl 0 rfl) ?_
          refine C_get C hW 5 rfl hin5 hKS.k5_0 rfl 7 (by decide) rfl f5_7 dX5_takeChoice_113 ?_
          refine lv_iconst (v := 4) C.1 C.2.1 dX5_takeChoice_116 (by decide) ?_
          refine lv_icmp_ne (tgt := 140) C.1 C.2.1 dX5_takeChoice_117 (by decide) (fun c22 => ?_) (fun c22 => ?_)
          · have hX := br_n hX c22
            refine lv_iconst (v := 2) C.1 C.2.1 dX5_takeChoice_140 (by decide) ?_
            exact G_reti C hr hlk hA hW (Option.some.inj hX).symm dX5_takeChoice_141
          have hX := br_p hX c22
          refine lv_aload_n C.1 C.2.1 dX5_takeChoice_120 rfl (lv_at hl 0 rfl) ?_
          refine va_ldcS C.1 C.2.1 C.2.2.2.1 (hEv.str hW 9 rfl) dX5_takeChoice_121 ?_
          obtain ⟨v23, hq, hX⟩ := bnd_st hX
          refine G_V0p (As := [.ref (ek 9)]) (rest := []) C hW (c_C_Reader_isWord l D cs ad K hKS hEv t 9 v23 hq.symm) (cwV 1 C.2.2.2.2 gX5_takeChoice_X5_isWord rfl rfl rfl (by decide +kernel) ⟨Nat.le_of_ble_eq_true rfl, Nat.le_of_ble_eq_true rfl⟩) (C_recv hW 5 hKS.k5_0 rfl rfl) rfl hl.1 rfl (Nat.le_of_ble_eq_true rfl) dX5_takeChoice_123 (fun H locs hW => ?_)
          refine lv_if_eq (tgt := 140) C.1 C.2.1 dX5_takeChoice_126 (by decide) (fun c24 => ?_) (fun c24 => ?_)
          · have hX := br_p hX c24
            refine lv_iconst (v := 2) C.1 C.2.1 dX5_takeChoice_140 (by decide) ?_
            exact G_reti C hr hlk hA hW (Option.some.inj hX).symm dX5_takeChoice_141
          have hX := br_n hX c24
          refine lv_aload_n C.1 C.2.1 dX5_takeChoice_129 rfl (lv_at hl 0 rfl) ?_
          refine C_get C hW 5 rfl hin5 hKS.k5_0 rfl 1 (by decide) rfl f5_1 dX5_takeChoice_130 ?_
          refine lv_iconst (v := 2) C.1 C.2.1 dX5_takeChoice_133 (by decide) ?_
          obtain ⟨t25, et25⟩ : ∃ z, z = uS t 4 4 1 2 := ⟨_, rfl⟩
          refine C_put C hW 4 rfl hin4 tyX4 tyX4_ok nmX4 hKS.k4_1 rfl 4 (by decide) rfl rfl rfl (Nat.le_of_ble_eq_true rfl) f4_4 dX5_takeChoice_134 (t' := t25) (by rw [et25]; exact wr4_4) (by rw [et25]; exact ho_S (by decide)) (fun H locs hW => ?_)
          have hX := nm_st hX et25
          refine lv_goto (tgt := 142) C.1 C.2.1 dX5_takeChoice_137 (by decide) ?_
          refine lv_aload_n C.1 C.2.1 dX5_takeChoice_142 rfl (lv_at hl 0 rfl) ?_
          refine lv_iconst (v := 2) C.1 C.2.1 dX5_takeChoice_143 (by decide) ?_
          obtain ⟨t26, et26⟩ : ∃ z, z = uS t25 5 6 0 2 := ⟨_, rfl⟩
          refine C_put C hW 5 rfl hin5 tyX5 tyX5_ok nmX5 hKS.k5_0 rfl 6 (by decide) rfl rfl rfl (Nat.le_of_ble_eq_true rfl) f5_6 dX5_takeChoice_144 (t' := t26) (by rw [et26]; exact wr5_6) (by rw [et26]; exact ho_S (by decide)) (fun H locs hW => ?_)
          have hX := nm_st hX et26
          refine lv_iconst (v := 0) C.1 C.2.1 dX5_takeChoice_147 (by decide) ?_
          exact G_reti C hr hlk hA hW (Option.some.inj hX).symm dX5_takeChoice_148
        have hX := br_p hX c21
        refine lv_aload_n C.1 C.2.1 dX5_takeChoice_92 rfl (lv_at hl 0 rfl) ?_
        refine va_ldcS C.1 C.2.1 C.2.2.2.1 (hEv.str hW 8 rfl) dX5_takeChoice_93 ?_
        obtain ⟨v27, hq, hX⟩ := bnd_st hX
        refine G_V0p (As := [.ref (ek 8)]) (rest := []) C hW (c_C_Reader_isWord l D cs ad K hKS hEv t 8 v27 hq.symm) (cwV 1 C.2.2.2.2 gX5_takeChoice_X5_isWord rfl rfl rfl (by decide +kernel) ⟨Nat.le_of_ble_eq_true rfl, Nat.le_of_ble_eq_true rfl⟩) (C_recv hW 5 hKS.k5_0 rfl rfl) rfl hl.1 rfl (Nat.le_of_ble_eq_true rfl) dX5_takeChoice_95 (fun H locs hW => ?_)
        refine lv_if_eq (tgt := 112) C.1 C.2.1 dX5_takeChoice_98 (by decide) (fun c28 => ?_) (fun c28 => ?_)
        · have hX := br_p hX c28
          refine lv_aload_n C.1 C.2.1 dX5_takeChoice_112 rfl (lv_at hl 0 rfl) ?_
          refine C_get C hW 5 rfl hin5 hKS.k5_0 rfl 7 (by decide) rfl f5_7 dX5_takeChoice_113 ?_
          refine lv_iconst (v := 4) C.1 C.2.1 dX5_takeChoice_116 (by decide) ?_
          refine lv_icmp_ne (tgt := 140) C.1 C.2.1 dX5_takeChoice_117 (by decide) (fun c29 => ?_) (fun c29 => ?_)
          · have hX := br_n hX c29
            refine lv_iconst (v := 2) C.1 C.2.1 dX5_takeChoice_140 (by decide) ?_
            exact G_reti C hr hlk hA hW (Option.some.inj hX).symm dX5_takeChoice_141
          have hX := br_p hX c29
          refine lv_aload_n C.1 C.2.1 dX5_takeChoice_120 rfl (lv_at hl 0 rfl) ?_
          refine va_ldcS C.1 C.2.1 C.2.2.2.1 (hEv.str hW 9 rfl) dX5_takeChoice_121 ?_
          obtain ⟨v30, hq, hX⟩ := bnd_st hX
          refine G_V0p (As := [.ref (ek 9)]) (rest := []) C hW (c_C_Reader_isWord l D cs ad K hKS hEv t 9 v30 hq.symm) (cwV 1 C.2.2.2.2 gX5_takeChoice_X5_isWord rfl rfl rfl (by decide +kernel) ⟨Nat.le_of_ble_eq_true rfl, Nat.le_of_ble_eq_true rfl⟩) (C_recv hW 5 hKS.k5_0 rfl rfl) rfl hl.1 rfl (Nat.le_of_ble_eq_true rfl) dX5_takeChoice_123 (fun H locs hW => ?_)
          refine lv_if_eq (tgt := 140) C.1 C.2.1 dX5_takeChoice_126 (by decide) (fun c31 => ?_) (fun c31 => ?_)
          · have hX := br_p hX c31
            refine lv_iconst (v := 2) C.1 C.2.1 dX5_takeChoice_140 (by decide) ?_
            exact G_reti C hr hlk hA hW (Option.some.inj hX).symm dX5_takeChoice_141
          have hX := br_n hX c31
          refine lv_aload_n C.1 C.2.1 dX5_takeChoice_129 rfl (lv_at hl 0 rfl) ?_
          refine C_get C hW 5 rfl hin5 hKS.k5_0 rfl 1 (by decide) rfl f5_1 dX5_takeChoice_130 ?_
          refine lv_iconst (v := 2) C.1 C.2.1 dX5_takeChoice_133 (by decide) ?_
          obtain ⟨t32, et32⟩ : ∃ z, z = uS t 4 4 1 2 := ⟨_, rfl⟩
          refine C_put C hW 4 rfl hin4 tyX4 tyX4_ok nmX4 hKS.k4_1 rfl 4 (by decide) rfl rfl rfl (Nat.le_of_ble_eq_true rfl) f4_4 dX5_takeChoice_134 (t' := t32) (by rw [et32]; exact wr4_4) (by rw [et32]; exact ho_S (by decide)) (fun H locs hW => ?_)
          have hX := nm_st hX et32
          refine lv_goto (tgt := 142) C.1 C.2.1 dX5_takeChoice_137 (by decide) ?_
          refine lv_aload_n C.1 C.2.1 dX5_takeChoice_142 rfl (lv_at hl 0 rfl) ?_
          refine lv_iconst (v := 2) C.1 C.2.1 dX5_takeChoice_143 (by decide) ?_
          obtain ⟨t33, et33⟩ : ∃ z, z = uS t32 5 6 0 2 := ⟨_, rfl⟩
          refine C_put C hW 5 rfl hin5 tyX5 tyX5_ok nmX5 hKS.k5_0 rfl 6 (by decide) rfl rfl rfl (Nat.le_of_ble_eq_true rfl) f5_6 dX5_takeChoice_144 (t' := t33) (by rw [et33]; exact wr5_6) (by rw [et33]; exact ho_S (by decide)) (fun H locs hW => ?_)
          have hX := nm_st hX et33
          refine lv_iconst (v := 0) C.1 C.2.1 dX5_takeChoice_147 (by decide) ?_
          exact G_reti C hr hlk hA hW (Option.some.inj hX).symm dX5_takeChoice_148
        have hX := br_n hX c28
        refine lv_aload_n C.1 C.2.1 dX5_takeChoice_101 rfl (lv_at hl 0 rfl) ?_
        refine C_get C hW 5 rfl hin5 hKS.k5_0 rfl 1 (by decide) rfl f5_1 dX5_takeChoice_102 ?_
        refine lv_iconst (v := 1) C.1 C.2.1 dX5_takeChoice_105 (by decide) ?_
        obtain ⟨t34, et34⟩ : ∃ z, z = uS t 4 4 1 1 := ⟨_, rfl⟩
        refine C_put C hW 4 rfl hin4 tyX4 tyX4_ok nmX4 hKS.k4_1 rfl 4 (by decide) rfl rfl rfl (Nat.le_of_ble_eq_true rfl) f4_4 dX5_takeChoice_106 (t' := t34) (by rw [et34]; exact wr4_4) (by rw [et34]; exact ho_S (by decide)) (fun H locs hW => ?_)
        have hX := nm_st hX et34
        refine lv_goto (tgt := 142) C.1 C.2.1 dX5_takeChoice_109 (by decide) ?_
        refine lv_aload_n C.1 C.2.1 dX5_takeChoice_142 rfl (lv_at hl 0 rfl) ?_
        refine lv_iconst (v := 2) C.1 C.2.1 dX5_takeChoice_143 (by decide) ?_
        obtain ⟨t35, et35⟩ : ∃ z, z = uS t34 5 6 0 2 := ⟨_, rfl⟩
        refine C_put C hW 5 rfl hin5 tyX5 tyX5_ok nmX5 hKS.k5_0 rfl 6 (by decide) rfl rfl rfl (Nat.le_of_ble_eq_true rfl) f5_6 dX5_takeChoice_144 (t' := t35) (by rw [et35]; exact wr5_6) (by rw [et35]; exact ho_S (by decide)) (fun H locs hW => ?_)
        have hX := nm_st hX et35
        refine lv_iconst (v := 0) C.1 C.2.1 dX5_takeChoice_147 (by decide) ?_
        exact G_reti C hr hlk hA hW (Option.some.inj hX).symm dX5_takeChoice_148
      have hX := br_n hX c20
      refine lv_aload_n C.1 C.2.1 dX5_takeChoice_73 rfl (lv_at hl 0 rfl) ?_
      refine C_get C hW 5 rfl hin5 hKS.k5_0 rfl 1 (by decide) rfl f5_1 dX5_takeChoice_74 ?_
      refine lv_iconst (v := 0) C.1 C.2.1 dX5_takeChoice_77 (by decide) ?_
      obtain ⟨t36, et36⟩ : ∃ z, z = uS t 4 4 1 0 := ⟨_, rfl⟩
      refine C_put C hW 4 rfl hin4 tyX4 tyX4_ok nmX4 hKS.k4_1 rfl 4 (by decide) rfl rfl rfl (Nat.le_of_ble_eq_true rfl) f4_4 dX5_takeChoice_78 (t' := t36) (by rw [et36]; exact wr4_4) (by rw [et36]; exact ho_S (by decide)) (fun H locs hW => ?_)
      have hX := nm_st hX et36
      refine lv_goto (tgt := 142) C.1 C.2.1 dX5_takeChoice_81 (by decide) ?_
      refine lv_aload_n C.1 C.2.1 dX5_takeChoice_142 rfl (lv_at hl 0 rfl) ?_
      refine lv_iconst (v := 2) C.1 C.2.1 dX5_takeChoice_143 (by decide) ?_
      obtain ⟨t37, et37⟩ : ∃ z, z = uS t36 5 6 0 2 := ⟨_, rfl⟩
      refine C_put C hW 5 rfl hin5 tyX5 tyX5_ok nmX5 hKS.k5_0 rfl 6 (by decide) rfl rfl rfl (Nat.le_of_ble_eq_true rfl) f5_6 dX5_takeChoice_144 (t' := t37) (by rw [et37]; exact wr5_6) (by rw [et37]; exact ho_S (by decide)) (fun H locs hW => ?_)
      have hX := nm_st hX et37
      refine lv_iconst (v := 0) C.1 C.2.1 dX5_takeChoice_147 (by decide) ?_
      exact G_reti C hr hlk hA hW (Option.some.inj hX).symm dX5_takeChoice_148
    have hX := br_p hX c2
    refine lv_aload_n C.1 C.2.1 dX5_takeChoice_36 rfl (lv_at hl 0 rfl) ?_
    refine va_ldcS C.1 C.2.1 C.2.2.2.1 (hEv.str hW 6 rfl) dX5_takeChoice_37 ?_
    obtain ⟨v38, hq, hX⟩ := bnd_st hX
    refine G_V0p (As := [.ref (ek 6)]) (rest := []) C hW (c_C_Reader_isWord l D cs ad K hKS hEv t 6 v38 hq.symm) (cwV 1 C.2.2.2.2 gX5_takeChoice_X5_isWord rfl rfl rfl (by decide +kernel) ⟨Nat.le_of_ble_eq_true rfl, Nat.le_of_ble_eq_true rfl⟩) (C_recv hW 5 hKS.k5_0 rfl rfl) rfl hl.1 rfl (Nat.le_of_ble_eq_true rfl) dX5_takeChoice_39 (fun H locs hW => ?_)
    refine lv_if_eq (tgt := 56) C.1 C.2.1 dX5_takeChoice_42 (by decide) (fun c39 => ?_) (fun c39 => ?_)
    · have hX := br_p hX c39
      refine lv_aload_n C.1 C.2.1 dX5_takeChoice_56 rfl (lv_at hl 0 rfl) ?_
      refine C_get C hW 5 rfl hin5 hKS.k5_0 rfl 7 (by decide) rfl f5_7 dX5_takeChoice_57 ?_
      refine lv_iconst (v := 4) C.1 C.2.1 dX5_takeChoice_60 (by decide) ?_
      refine lv_icmp_ne (tgt := 84) C.1 C.2.1 dX5_takeChoice_61 (by decide) (fun c40 => ?_) (fun c40 => ?_)
      · have hX := br_n hX c40
        refine lv_aload_n C.1 C.2.1 dX5_takeChoice_84 rfl (lv_at hl 0 rfl) ?_
        refine C_get C hW 5 rfl hin5 hKS.k5_0 rfl 7 (by decide) rfl f5_7 dX5_takeChoice_85 ?_
        refine lv_iconst (v := 4) C.1 C.2.1 dX5_takeChoice_88 (by decide) ?_
        refine lv_icmp_ne (tgt := 112) C.1 C.2.1 dX5_takeChoice_89 (by decide) (fun c41 => ?_) (fun c41 => ?_)
        · have hX := br_n hX c41
          refine lv_aload_n C.1 C.2.1 dX5_takeChoice_112 rfl (lv_at hl 0 rfl) ?_
          refine C_get C hW 5 rfl hin5 hKS.k5_0 rfl 7 (by decide) rfl f5_7 dX5_takeChoice_113 ?_
          refine lv_iconst (v := 4) C.1 C.2.1 dX5_takeChoice_116 (by decide) ?_
          refine lv_icmp_ne (tgt := 140) C.1 C.2.1 dX5_takeChoice_117 (by decide) (fun c42 => ?_) (fun c42 => ?_)
          · have hX := br_n hX c42
            refine lv_iconst (v := 2) C.1 C.2.1 dX5_takeChoice_140 (by decide) ?_
            exact G_reti C hr hlk hA hW (Option.some.inj hX).symm dX5_takeChoice_141
          have hX := br_p hX c42
          refine lv_aload_n C.1 C.2.1 dX5_takeChoice_120 rfl (lv_at hl 0 rfl) ?_
          refine va_ldcS C.1 C.2.1 C.2.2.2.1 (hEv.str hW 9 rfl) dX5_takeChoice_121 ?_
          obtain ⟨v43, hq, hX⟩ := bnd_st hX
          refine G_V0p (As := [.ref (ek 9)]) (rest := []) C hW (c_C_Reader_isWord l D cs ad K hKS hEv t 9 v43 hq.symm) (cwV 1 C.2.2.2.2 gX5_takeChoice_X5_isWord rfl rfl rfl (by decide +kernel) ⟨Nat.le_of_ble_eq_true rfl, Nat.le_of_ble_eq_true rfl⟩) (C_recv hW 5 hKS.k5_0 rfl rfl) rfl hl.1 rfl (Nat.le_of_ble_eq_true rfl) dX5_takeChoice_123 (fun H locs hW => ?_)
          refine lv_if_eq (tgt := 140) C.1 C.2.1 dX5_takeChoice_126 (by decide) (fun c44 => ?_) (fun c44 => ?_)
          · have hX := br_p hX c44
            refine lv_iconst (v := 2) C.1 C.2.1 dX5_takeChoice_140 (by decide) ?_
            exact G_reti C hr hlk hA hW (Option.some.inj hX).symm dX5_takeChoice_141
          have hX := br_n hX c44
          refine lv_aload_n C.1 C.2.1 dX5_takeChoice_129 rfl (lv_at hl 0 rfl) ?_
          refine C_get C hW 5 rfl hin5 hKS.k5_0 rfl 1 (by decide) rfl f5_1 dX5_takeChoice_130 ?_
          refine lv_iconst (v := 2) C.1 C.2.1 dX5_takeChoice_133 (by decide) ?_
          obtain ⟨t45, et45⟩ : ∃ z, z = uS t 4 4 1 2 := ⟨_, rfl⟩
          refine C_put C hW 4 rfl hin4 tyX4 tyX4_ok nmX4 hKS.k4_1 rfl 4 (by decide) rfl rfl rfl (Nat.le_of_ble_eq_true rfl) f4_4 dX5_takeChoice_134 (t' := t45) (by rw [et45]; exact wr4_4) (by rw [et45]; exact ho_S (by decide)) (fun H locs hW => ?_)
          have hX := nm_st hX et45
          refine lv_goto (tgt := 142) C.1 C.2.1 dX5_takeChoice_137 (by decide) ?_
          refine lv_aload_n C.1 C.2.1 dX5_takeChoice_142 rfl (lv_at hl 0 rfl) ?_
          refine lv_iconst (v := 2) C.1 C.2.1 dX5_takeChoice_143 (by decide) ?_
          obtain ⟨t46, et46⟩ : ∃ z, z = uS t45 5 6 0 2 := ⟨_, rfl⟩
          refine C_put C hW 5 rfl hin5 tyX5 tyX5_ok nmX5 hKS.k5_0 rfl 6 (by decide) rfl rfl rfl (Nat.le_of_ble_eq_true rfl) f5_6 dX5_takeChoice_144 (t' := t46) (by rw [et46]; exact wr5_6) (by rw [et46]; exact ho_S (by decide)) (fun H locs hW => ?_)
          have hX := nm_st hX et46
          refine lv_iconst (v := 0) C.1 C.2.1 dX5_takeChoice_147 (by decide) ?_
          exact G_reti C hr hlk hA hW (Option.some.inj hX).symm dX5_takeChoice_148
        have hX := br_p hX c41
        refine lv_aload_n C.1 C.2.1 dX5_takeChoice_92 rfl (lv_at hl 0 rfl) ?_
        refine va_ldcS C.1 C.2.1 C.2.2.2.1 (hEv.str hW 8 rfl) dX5_takeChoice_93 ?_
        obtain ⟨v47, hq, hX⟩ := bnd_st hX
        refine G_V0p (As := [.ref (ek 8)]) (rest := []) C hW (c_C_Reader_isWord l D cs ad K hKS hEv t 8 v47 hq.symm) (cwV 1 C.2.2.2.2 gX5_takeChoice_X5_isWord rfl rfl rfl (by decide +kernel) ⟨Nat.le_of_ble_eq_true rfl, Nat.le_of_ble_eq_true rfl⟩) (C_recv hW 5 hKS.k5_0 rfl rfl) rfl hl.1 rfl (Nat.le_of_ble_eq_true rfl) dX5_takeChoice_95 (fun H locs hW => ?_)
        refine lv_if_eq (tgt := 112) C.1 C.2.1 dX5_takeChoice_98 (by decide) (fun c48 => ?_) (fun c48 => ?_)
        · have hX := br_p hX c48
          refine lv_aload_n C.1 C.2.1 dX5_takeChoice_112 rfl (lv_at hl 0 rfl) ?_
          refine C_get C hW 5 rfl hin5 hKS.k5_0 rfl 7 (by decide) rfl f5_7 dX5_takeChoice_113 ?_
          refine lv_iconst (v := 4) C.1 C.2.1 dX5_takeChoice_116 (by decide) ?_
          refine lv_icmp_ne (tgt := 140) C.1 C.2.1 dX5_takeChoice_117 (by decide) (fun c49 => ?_) (fun c49 => ?_)
          · have hX := br_n hX c49
            refine lv_iconst (v := 2) C.1 C.2.1 dX5_takeChoice_140 (by decide) ?_
            exact G_reti C hr hlk hA hW (Option.some.inj hX).symm dX5_takeChoice_141
          have hX := br_p hX c49
          refine lv_aload_n C.1 C.2.1 dX5_takeChoice_120 rfl (lv_at hl 0 rfl) ?_
          refine va_ldcS C.1 C.2.1 C.2.2.2.1 (hEv.str hW 9 rfl) dX5_takeChoice_121 ?_
          obtain ⟨v50, hq, hX⟩ := bnd_st hX
          refine G_V0p (As := [.ref (ek 9)]) (rest := []) C hW (c_C_Reader_isWord l D cs ad K hKS hEv t 9 v50 hq.symm) (cwV 1 C.2.2.2.2 gX5_takeChoice_X5_isWord rfl rfl rfl (by decide +kernel) ⟨Nat.le_of_ble_eq_true rfl, Nat.le_of_ble_eq_true rfl⟩) (C_recv hW 5 hKS.k5_0 rfl rfl) rfl hl.1 rfl (Nat.le_of_ble_eq_true rfl) dX5_takeChoice_123 (fun H locs hW => ?_)
          refine lv_if_eq (tgt := 140) C.1 C.2.1 dX5_takeChoice_126 (by decide) (fun c51 => ?_) (fun c51 => ?_)
          · have hX := br_p hX c51
            refine lv_iconst (v := 2) C.1 C.2.1 dX5_takeChoice_140 (by decide) ?_
            exact G_reti C hr hlk hA hW (Option.some.inj hX).symm dX5_takeChoice_141
          have hX := br_n hX c51
          refine lv_aload_n C.1 C.2.1 dX5_takeChoice_129 rfl (lv_at hl 0 rfl) ?_
          refine C_get C hW 5 rfl hin5 hKS.k5_0 rfl 1 (by decide) rfl f5_1 dX5_takeChoice_130 ?_
          refine lv_iconst (v := 2) C.1 C.2.1 dX5_takeChoice_133 (by decide) ?_
          obtain ⟨t52, et52⟩ : ∃ z, z = uS t 4 4 1 2 := ⟨_, rfl⟩
          refine C_put C hW 4 rfl hin4 tyX4 tyX4_ok nmX4 hKS.k4_1 rfl 4 (by decide) rfl rfl rfl (Nat.le_of_ble_eq_true rfl) f4_4 dX5_takeChoice_134 (t' := t52) (by rw [et52]; exact wr4_4) (by rw [et52]; exact ho_S (by decide)) (fun H locs hW => ?_)
          have hX := nm_st hX et52
          refine lv_goto (tgt := 142) C.1 C.2.1 dX5_takeChoice_137 (by decide) ?_
          refine lv_aload_n C.1 C.2.1 dX5_takeChoice_142 rfl (lv_at hl 0 rfl) ?_
          refine lv_iconst (v := 2) C.1 C.2.1 dX5_takeChoice_143 (by decide) ?_
          obtain ⟨t53, et53⟩ : ∃ z, z = uS t52 5 6 0 2 := ⟨_, rfl⟩
          refine C_put C hW 5 rfl hin5 tyX5 tyX5_ok nmX5 hKS.k5_0 rfl 6 (by decide) rfl rfl rfl (Nat.le_of_ble_eq_true rfl) f5_6 dX5_takeChoice_144 (t' := t53) (by rw [et53]; exact wr5_6) (by rw [et53]; exact ho_S (by decide)) (fun H locs hW => ?_)
          have hX := nm_st hX et53
          refine lv_iconst (v := 0) C.1 C.2.1 dX5_takeChoice_147 (by decide) ?_
          exact G_reti C hr hlk hA hW (Option.some.inj hX).symm dX5_takeChoice_148
        have hX := br_n hX c48
        refine lv_aload_n C.1 C.2.1 dX5_takeChoice_101 rfl (lv_at hl 0 rfl) ?_
        refine C_get C hW 5 rfl hin5 hKS.k5_0 rfl 1 (by decide) rfl f5_1 dX5_takeChoice_102 ?_
        refine lv_iconst (v := 1) C.1 C.2.1 dX5_takeChoice_105 (by decide) ?_
        obtain ⟨t54, et54⟩ : ∃ z, z = uS t 4 4 1 1 := ⟨_, rfl⟩
        refine C_put C hW 4 rfl hin4 tyX4 tyX4_ok nmX4 hKS.k4_1 rfl 4 (by decide) rfl rfl rfl (Nat.le_of_ble_eq_true rfl) f4_4 dX5_takeChoice_106 (t' := t54) (by rw [et54]; exact wr4_4) (by rw [et54]; exact ho_S (by decide)) (fun H locs hW => ?_)
        have hX := nm_st hX et54
        refine lv_goto (tgt := 142) C.1 C.2.1 dX5_takeChoice_109 (by decide) ?_
        refine lv_aload_n C.1 C.2.1 dX5_takeChoice_142 rfl (lv_at hl 0 rfl) ?_
        refine lv_iconst (v := 2) C.1 C.2.1 dX5_takeChoice_143 (by decide) ?_
        obtain ⟨t55, et55⟩ : ∃ z, z = uS t54 5 6 0 2 := ⟨_, rfl⟩
        refine C_put C hW 5 rfl hin5 tyX5 tyX5_ok nmX5 hKS.k5_0 rfl 6 (by decide) rfl rfl rfl (Nat.le_of_ble_eq_true rfl) f5_6 dX5_takeChoice_144 (t' := t55) (by rw [et55]; exact wr5_6) (by rw [et55]; exact ho_S (by decide)) (fun H locs hW => ?_)
        have hX := nm_st hX et55
        refine lv_iconst (v := 0) C.1 C.2.1 dX5_takeChoice_147 (by decide) ?_
        exact G_reti C hr hlk hA hW (Option.some.inj hX).symm dX5_takeChoice_148
      have hX := br_p hX c40
      refine lv_aload_n C.1 C.2.1 dX5_takeChoice_64 rfl (lv_at hl 0 rfl) ?_
      refine va_ldcS C.1 C.2.1 C.2.2.2.1 (hEv.str hW 7 rfl) dX5_takeChoice_65 ?_
      obtain ⟨v56, hq, hX⟩ := bnd_st hX
      refine G_V0p (As := [.ref (ek 7)]) (rest := []) C hW (c_C_Reader_isWord l D cs ad K hKS hEv t 7 v56 hq.symm) (cwV 1 C.2.2.2.2 gX5_takeChoice_X5_isWord rfl rfl rfl (by decide +kernel) ⟨Nat.le_of_ble_eq_true rfl, Nat.le_of_ble_eq_true rfl⟩) (C_recv hW 5 hKS.k5_0 rfl rfl) rfl hl.1 rfl (Nat.le_of_ble_eq_true rfl) dX5_takeChoice_67 (fun H locs hW => ?_)
      refine lv_if_eq (tgt := 84) C.1 C.2.1 dX5_takeChoice_70 (by decide) (fun c57 => ?_) (fun c57 => ?_)
      · have hX := br_p hX c57
        refine lv_aload_n C.1 C.2.1 dX5_takeChoice_84 rfl (lv_at hl 0 rfl) ?_
        refine C_get C hW 5 rfl hin5 hKS.k5_0 rfl 7 (by decide) rfl f5_7 dX5_takeChoice_85 ?_
        refine lv_iconst (v := 4) C.1 C.2.1 dX5_takeChoice_88 (by decide) ?_
        refine lv_icmp_ne (tgt := 112) C.1 C.2.1 dX5_takeChoice_89 (by decide) (fun c58 => ?_) (fun c58 => ?_)
        · have hX := br_n hX c58
          refine lv_aload_n C.1 C.2.1 dX5_takeChoice_112 rfl (lv_at hl 0 rfl) ?_
          refine C_get C hW 5 rfl hin5 hKS.k5_0 rfl 7 (by decide) rfl f5_7 dX5_takeChoice_113 ?_
          refine lv_iconst (v := 4) C.1 C.2.1 dX5_takeChoice_116 (by decide) ?_
          refine lv_icmp_ne (tgt := 140) C.1 C.2.1 dX5_takeChoice_117 (by decide) (fun c59 => ?_) (fun c59 => ?_)
          · have hX := br_n hX c59
            refine lv_iconst (v := 2) C.1 C.2.1 dX5_takeChoice_140 (by decide) ?_
            exact G_reti C hr hlk hA hW (Option.some.inj hX).symm dX5_takeChoice_141
          have hX := br_p hX c59
          refine lv_aload_n C.1 C.2.1 dX5_takeChoice_120 rfl (lv_at hl 0 rfl) ?_
          refine va_ldcS C.1 C.2.1 C.2.2.2.1 (hEv.str hW 9 rfl) dX5_takeChoice_121 ?_
          obtain ⟨v60, hq, hX⟩ := bnd_st hX
          refine G_V0p (As := [.ref (ek 9)]) (rest := []) C hW (c_C_Reader_isWord l D cs ad K hKS hEv t 9 v60 hq.symm) (cwV 1 C.2.2.2.2 gX5_takeChoice_X5_isWord rfl rfl rfl (by decide +kernel) ⟨Nat.le_of_ble_eq_true rfl, Nat.le_of_ble_eq_true rfl⟩) (C_recv hW 5 hKS.k5_0 rfl rfl) rfl hl.1 rfl (Nat.le_of_ble_eq_true rfl) dX5_takeChoice_123 (fun H locs hW => ?_)
          refine lv_if_eq (tgt := 140) C.1 C.2.1 dX5_takeChoice_126 (by decide) (fun c61 => ?_) (fun c61 => ?_)
          · have hX := br_p hX c61
            refine lv_iconst (v := 2) C.1 C.2.1 dX5_takeChoice_140 (by decide) ?_
            exact G_reti C hr hlk hA hW (Option.some.inj hX).symm dX5_takeChoice_141
          have hX := br_n hX c61
          refine lv_aload_n C.1 C.2.1 dX5_takeChoice_129 rfl (lv_at hl 0 rfl) ?_
          refine C_get C hW 5 rfl hin5 hKS.k5_0 rfl 1 (by decide) rfl f5_1 dX5_takeChoice_130 ?_
          refine lv_iconst (v := 2) C.1 C.2.1 dX5_takeChoice_133 (by decide) ?_
          obtain ⟨t62, et62⟩ : ∃ z, z = uS t 4 4 1 2 := ⟨_, rfl⟩
          refine C_put C hW 4 rfl hin4 tyX4 tyX4_ok nmX4 hKS.k4_1 rfl 4 (by decide) rfl rfl rfl (Nat.le_of_ble_eq_true rfl) f4_4 dX5_takeChoice_134 (t' := t62) (by rw [et62]; exact wr4_4) (by rw [et62]; exact ho_S (by decide)) (fun H locs hW => ?_)
          have hX := nm_st hX et62
          refine lv_goto (tgt := 142) C.1 C.2.1 dX5_takeChoice_137 (by decide) ?_
          refine lv_aload_n C.1 C.2.1 dX5_takeChoice_142 rfl (lv_at hl 0 rfl) ?_
          refine lv_iconst (v := 2) C.1 C.2.1 dX5_takeChoice_143 (by decide) ?_
          obtain ⟨t63, et63⟩ : ∃ z, z = uS t62 5 6 0 2 := ⟨_, rfl⟩
          refine C_put C hW 5 rfl hin5 tyX5 tyX5_ok nmX5 hKS.k5_0 rfl 6 (by decide) rfl rfl rfl (Nat.le_of_ble_eq_true rfl) f5_6 dX5_takeChoice_144 (t' := t63) (by rw [et63]; exact wr5_6) (by rw [et63]; exact ho_S (by decide)) (fun H locs hW => ?_)
          have hX := nm_st hX et63
          refine lv_iconst (v := 0) C.1 C.2.1 dX5_takeChoice_147 (by decide) ?_
          exact G_reti C hr hlk hA hW (Option.some.inj hX).symm dX5_takeChoice_148
        have hX := br_p hX c58
        refine lv_aload_n C.1 C.2.1 dX5_takeChoice_92 rfl (lv_at hl 0 rfl) ?_
        refine va_ldcS C.1 C.2.1 C.2.2.2.1 (hEv.str hW 8 rfl) dX5_takeChoice_93 ?_
        obtain ⟨v64, hq, hX⟩ := bnd_st hX
        refine G_V0p (As := [.ref (ek 8)]) (rest := []) C hW (c_C_Reader_isWord l D cs ad K hKS hEv t 8 v64 hq.symm) (cwV 1 C.2.2.2.2 gX5_takeChoice_X5_isWord rfl rfl rfl (by decide +kernel) ⟨Nat.le_of_ble_eq_true rfl, Nat.le_of_ble_eq_true rfl⟩) (C_recv hW 5 hKS.k5_0 rfl rfl) rfl hl.1 rfl (Nat.le_of_ble_eq_true rfl) dX5_takeChoice_95 (fun H locs hW => ?_)
        refine lv_if_eq (tgt := 112) C.1 C.2.1 dX5_takeChoice_98 (by decide) (fun c65 => ?_) (fun c65 => ?_)
        · have hX := br_p hX c65
          refine lv_aload_n C.1 C.2.1 dX5_takeChoice_112 rfl (lv_at hl 0 rfl) ?_
          refine C_get C hW 5 rfl hin5 hKS.k5_0 rfl 7 (by decide) rfl f5_7 dX5_takeChoice_113 ?_
          refine lv_iconst (v := 4) C.1 C.2.1 dX5_takeChoice_116 (by decide) ?_
          refine lv_icmp_ne (tgt := 140) C.1 C.2.1 dX5_takeChoice_117 (by decide) (fun c66 => ?_) (fun c66 => ?_)
          · have hX := br_n hX c66
            refine lv_iconst (v := 2) C.1 C.2.1 dX5_takeChoice_140 (by decide) ?_
            exact G_reti C hr hlk hA hW (Option.some.inj hX).symm dX5_takeChoice_141
          have hX := br_p hX c66
          refine lv_aload_n C.1 C.2.1 dX5_takeChoice_120 rfl (lv_at hl 0 rfl) ?_
          refine va_ldcS C.1 C.2.1 C.2.2.2.1 (hEv.str hW 9 rfl) dX5_takeChoice_121 ?_
          obtain ⟨v67, hq, hX⟩ := bnd_st hX
          refine G_V0p (As := [.ref (ek 9)]) (rest := []) C hW (c_C_Reader_isWord l D cs ad K hKS hEv t 9 v67 hq.symm) (cwV 1 C.2.2.2.2 gX5_takeChoice_X5_isWord rfl rfl rfl (by decide +kernel) ⟨Nat.le_of_ble_eq_true rfl, Nat.le_of_ble_eq_true rfl⟩) (C_recv hW 5 hKS.k5_0 rfl rfl) rfl hl.1 rfl (Nat.le_of_ble_eq_true rfl) dX5_takeChoice_123 (fun H locs hW => ?_)
          refine lv_if_eq (tgt := 140) C.1 C.2.1 dX5_takeChoice_126 (by decide) (fun c68 => ?_) (fun c68 => ?_)
          · have hX := br_p hX c68
            refine lv_iconst (v := 2) C.1 C.2.1 dX5_takeChoice_140 (by decide) ?_
            exact G_reti C hr hlk hA hW (Option.some.inj hX).symm dX5_takeChoice_141
          have hX := br_n hX c68
          refine lv_aload_n C.1 C.2.1 dX5_takeChoice_129 rfl (lv_at hl 0 rfl) ?_
          refine C_get C hW 5 rfl hin5 hKS.k5_0 rfl 1 (by decide) rfl f5_1 dX5_takeChoice_130 ?_
          refine lv_iconst (v := 2) C.1 C.2.1 dX5_takeChoice_133 (by decide) ?_
          obtain ⟨t69, et69⟩ : ∃ z, z = uS t 4 4 1 2 := ⟨_, rfl⟩
          refine C_put C hW 4 rfl hin4 tyX4 tyX4_ok nmX4 hKS.k4_1 rfl 4 (by decide) rfl rfl rfl (Nat.le_of_ble_eq_true rfl) f4_4 dX5_takeChoice_134 (t' := t69) (by rw [et69]; exact wr4_4) (by rw [et69]; exact ho_S (by decide)) (fun H locs hW => ?_)
          have hX := nm_st hX et69
          refine lv_goto (tgt := 142) C.1 C.2.1 dX5_takeChoice_137 (by decide) ?_
          refine lv_aload_n C.1 C.2.1 dX5_takeChoice_142 rfl (lv_at hl 0 rfl) ?_
          refine lv_iconst (v := 2) C.1 C.2.1 dX5_takeChoice_143 (by decide) ?_
          obtain ⟨t70, et70⟩ : ∃ z, z = uS t69 5 6 0 2 := ⟨_, rfl⟩
          refine C_put C hW 5 rfl hin5 tyX5 tyX5_ok nmX5 hKS.k5_0 rfl 6 (by decide) rfl rfl rfl (Nat.le_of_ble_eq_true rfl) f5_6 dX5_takeChoice_144 (t' := t70) (by rw [et70]; exact wr5_6) (by rw [et70]; exact ho_S (by decide)) (fun H locs hW => ?_)
          have hX := nm_st hX et70
          refine lv_iconst (v := 0) C.1 C.2.1 dX5_takeChoice_147 (by decide) ?_
          exact G_reti C hr hlk hA hW (Option.some.inj hX).symm dX5_takeChoice_148
        have hX := br_n hX c65
        refine lv_aload_n C.1 C.2.1 dX5_takeChoice_101 rfl (lv_at hl 0 rfl) ?_
        refine C_get C hW 5 rfl hin5 hKS.k5_0 rfl 1 (by decide) rfl f5_1 dX5_takeChoice_102 ?_
        refine lv_iconst (v := 1) C.1 C.2.1 dX5_takeChoice_105 (by decide) ?_
        obtain ⟨t71, et71⟩ : ∃ z, z = uS t 4 4 1 1 := ⟨_, rfl⟩
        refine C_put C hW 4 rfl hin4 tyX4 tyX4_ok nmX4 hKS.k4_1 rfl 4 (by decide) rfl rfl rfl (Nat.le_of_ble_eq_true rfl) f4_4 dX5_takeChoice_106 (t' := t71) (by rw [et71]; exact wr4_4) (by rw [et71]; exact ho_S (by decide)) (fun H locs hW => ?_)
        have hX := nm_st hX et71
        refine lv_goto (tgt := 142) C.1 C.2.1 dX5_takeChoice_109 (by decide) ?_
        refine lv_aload_n C.1 C.2.1 dX5_takeChoice_142 rfl (lv_at hl 0 rfl) ?_
        refine lv_iconst (v := 2) C.1 C.2.1 dX5_takeChoice_143 (by decide) ?_
        obtain ⟨t72, et72⟩ : ∃ z, z = uS t71 5 6 0 2 := ⟨_, rfl⟩
        refine C_put C hW 5 rfl hin5 tyX5 tyX5_ok nmX5 hKS.k5_0 rfl 6 (by decide) rfl rfl rfl (Nat.le_of_ble_eq_true rfl) f5_6 dX5_takeChoice_144 (t' := t72) (by rw [et72]; exact wr5_6) (by rw [et72]; exact ho_S (by decide)) (fun H locs hW => ?_)
        have hX := nm_st hX et72
        refine lv_iconst (v := 0) C.1 C.2.1 dX5_takeChoice_147 (by decide) ?_
        exact G_reti C hr hlk hA hW (Option.some.inj hX).symm dX5_takeChoice_148
      have hX := br_n hX c57
      refine lv_aload_n C.1 C.2.1 dX5_takeChoice_73 rfl (lv_at hl 0 rfl) ?_
      refine C_get C hW 5 rfl hin5 hKS.k5_0 rfl 1 (by decide) rfl f5_1 dX5_takeChoice_74 ?_
      refine lv_iconst (v := 0) C.1 C.2.1 dX5_takeChoice_77 (by decide) ?_
      obtain ⟨t73, et73⟩ : ∃ z, z = uS t 4 4 1 0 := ⟨_, rfl⟩
      refine C_put C hW 4 rfl hin4 tyX4 tyX4_ok nmX4 hKS.k4_1 rfl 4 (by decide) rfl rfl rfl (Nat.le_of_ble_eq_true rfl) f4_4 dX5_takeChoice_78 (t' := t73) (by rw [et73]; exact wr4_4) (by rw [et73]; exact ho_S (by decide)) (fun H locs hW => ?_)
      have hX := nm_st hX et73
      refine lv_goto (tgt := 142) C.1 C.2.1 dX5_takeChoice_81 (by decide) ?_
      refine lv_aload_n C.1 C.2.1 dX5_takeChoice_142 rfl (lv_at hl 0 rfl) ?_
      refine lv_iconst (v := 2) C.1 C.2.1 dX5_takeChoice_143 (by decide) ?_
      obtain ⟨t74, et74⟩ : ∃ z, z = uS t73 5 6 0 2 := ⟨_, rfl⟩
      refine C_put C hW 5 rfl hin5 tyX5 tyX5_ok nmX5 hKS.k5_0 rfl 6 (by decide) rfl rfl rfl (Nat.le_of_ble_eq_true rfl) f5_6 dX5_takeChoice_144 (t' := t74) (by rw [et74]; exact wr5_6) (by rw [et74]; exact ho_S (by decide)) (fun H locs hW => ?_)
      have hX := nm_st hX et74
      refine lv_iconst (v := 0) C.1 C.2.1 dX5_takeChoice_147 (by decide) ?_
      exact G_reti C hr hlk hA hW (Option.some.inj hX).symm dX5_takeChoice_148
    have hX := br_n hX c39
    refine lv_aload_n C.1 C.2.1 dX5_takeChoice_45 rfl (lv_at hl 0 rfl) ?_
    refine C_get C hW 5 rfl hin5 hKS.k5_0 rfl 1 (by decide) rfl f5_1 dX5_takeChoice_46 ?_
    refine lv_iconst (v := 0) C.1 C.2.1 dX5_takeChoice_49 (by decide) ?_
    obtain ⟨t75, et75⟩ : ∃ z, z = uS t 4 1 1 0 := ⟨_, rfl⟩
    refine C_put C hW 4 rfl hin4 tyX4 tyX4_ok nmX4 hKS.k4_1 rfl 1 (by decide) rfl rfl rfl (Nat.le_of_ble_eq_true rfl) f4_1 dX5_takeChoice_50 (t' := t75) (by rw [et75]; exact wr4_1) (by rw [et75]; exact ho_S (by decide)) (fun H locs hW => ?_)
    have hX := nm_st hX et75
    refine lv_goto (tgt := 142) C.1 C.2.1 dX5_takeChoice_53 (by decide) ?_
    refine lv_aload_n C.1 C.2.1 dX5_takeChoice_142 rfl (lv_at hl 0 rfl) ?_
    refine lv_iconst (v := 2) C.1 C.2.1 dX5_takeChoice_143 (by decide) ?_
    obtain ⟨t76, et76⟩ : ∃ z, z = uS t75 5 6 0 2 := ⟨_, rfl⟩
    refine C_put C hW 5 rfl hin5 tyX5 tyX5_ok nmX5 hKS.k5_0 rfl 6 (by decide) rfl rfl rfl (Nat.le_of_ble_eq_true rfl) f5_6 dX5_takeChoice_144 (t' := t76) (by rw [et76]; exact wr5_6) (by rw [et76]; exact ho_S (by decide)) (fun H locs hW => ?_)
    have hX := nm_st hX et76
    refine lv_iconst (v := 0) C.1 C.2.1 dX5_takeChoice_147 (by decide) ?_
    exact G_reti C hr hlk hA hW (Option.some.inj hX).symm dX5_takeChoice_148
  have hX := br_p hX c1
  refine lv_aload_n C.1 C.2.1 dX5_takeChoice_8 rfl (lv_at hl 0 rfl) ?_
  refine va_ldcS C.1 C.2.1 C.2.2.2.1 (hEv.str hW 5 rfl) dX5_takeChoice_9 ?_
  obtain ⟨v77, hq, hX⟩ := bnd_st hX
  refine G_V0p (As := [.ref (ek 5)]) (rest := []) C hW (c_C_Reader_isWord l D cs ad K hKS hEv t 5 v77 hq.symm) (cwV 1 C.2.2.2.2 gX5_takeChoice_X5_isWord rfl rfl rfl (by decide +kernel) ⟨Nat.le_of_ble_eq_true rfl, Nat.le_of_ble_eq_true rfl⟩) (C_recv hW 5 hKS.k5_0 rfl rfl) rfl hl.1 rfl (Nat.le_of_ble_eq_true rfl) dX5_takeChoice_11 (fun H locs hW => ?_)
  refine lv_if_eq (tgt := 28) C.1 C.2.1 dX5_takeChoice_14 (by decide) (fun c78 => ?_) (fun c78 => ?_)
  · have hX := br_p hX c78
    refine lv_aload_n C.1 C.2.1 dX5_takeChoice_28 rfl (lv_at hl 0 rfl) ?_
    refine C_get C hW 5 rfl hin5 hKS.k5_0 rfl 7 (by decide) rfl f5_7 dX5_takeChoice_29 ?_
    refine lv_iconst (v := 1) C.1 C.2.1 dX5_takeChoice_32 (by decide) ?_
    refine lv_icmp_ne (tgt := 56) C.1 C.2.1 dX5_takeChoice_33 (by decide) (fun c79 => ?_) (fun c79 => ?_)
    · have hX := br_n hX c79
      refine lv_aload_n C.1 C.2.1 dX5_takeChoice_56 rfl (lv_at hl 0 rfl) ?_
      refine C_get C hW 5 rfl hin5 hKS.k5_0 rfl 7 (by decide) rfl f5_7 dX5_takeChoice_57 ?_
      refine lv_iconst (v := 4) C.1 C.2.1 dX5_takeChoice_60 (by decide) ?_
      refine lv_icmp_ne (tgt := 84) C.1 C.2.1 dX5_takeChoice_61 (by decide) (fun c80 => ?_) (fun c80 => ?_)
      · have hX := br_n hX c80
        refine lv_aload_n C.1 C.2.1 dX5_takeChoice_84 rfl (lv_at hl 0 rfl) ?_
        refine C_get C hW 5 rfl hin5 hKS.k5_0 rfl 7 (by decide) rfl f5_7 dX5_takeChoice_85 ?_
        refine lv_iconst (v := 4) C.1 C.2.1 dX5_takeChoice_88 (by decide) ?_
        refine lv_icmp_ne (tgt := 112) C.1 C.2.1 dX5_takeChoice_89 (by decide) (fun c81 => ?_) (fun c81 => ?_)
        · have hX := br_n hX c81
          refine lv_aload_n C.1 C.2.1 dX5_takeChoice_112 rfl (lv_at hl 0 rfl) ?_
          refine C_get C hW 5 rfl hin5 hKS.k5_0 rfl 7 (by decide) rfl f5_7 dX5_takeChoice_113 ?_
          refine lv_iconst (v := 4) C.1 C.2.1 dX5_takeChoice_116 (by decide) ?_
          refine lv_icmp_ne (tgt := 140) C.1 C.2.1 dX5_takeChoice_117 (by decide) (fun c82 => ?_) (fun c82 => ?_)
          · have hX := br_n hX c82
            refine lv_iconst (v := 2) C.1 C.2.1 dX5_takeChoice_140 (by decide) ?_
            exact G_reti C hr hlk hA hW (Option.some.inj hX).symm dX5_takeChoice_141
          have hX := br_p hX c82
          refine lv_aload_n C.1 C.2.1 dX5_takeChoice_120 rfl (lv_at hl 0 rfl) ?_
          refine va_ldcS C.1 C.2.1 C.2.2.2.1 (hEv.str hW 9 rfl) dX5_takeChoice_121 ?_
          obtain ⟨v83, hq, hX⟩ := bnd_st hX
          refine G_V0p (As := [.ref (ek 9)]) (rest := []) C hW (c_C_Reader_isWord l D cs ad K hKS hEv t 9 v83 hq.symm) (cwV 1 C.2.2.2.2 gX5_takeChoice_X5_isWord rfl rfl rfl (by decide +kernel) ⟨Nat.le_of_ble_eq_true rfl, Nat.le_of_ble_eq_true rfl⟩) (C_recv hW 5 hKS.k5_0 rfl rfl) rfl hl.1 rfl (Nat.le_of_ble_eq_true rfl) dX5_takeChoice_123 (fun H locs hW => ?_)
          refine lv_if_eq (tgt := 140) C.1 C.2.1 dX5_takeChoice_126 (by decide) (fun c84 => ?_) (fun c84 => ?_)
          · have hX := br_p hX c84
            refine lv_iconst (v := 2) C.1 C.2.1 dX5_takeChoice_140 (by decide) ?_
            exact G_reti C hr hlk hA hW (Option.some.inj hX).symm dX5_takeChoice_141
          have hX := br_n hX c84
          refine lv_aload_n C.1 C.2.1 dX5_takeChoice_129 rfl (lv_at hl 0 rfl) ?_
          refine C_get C hW 5 rfl hin5 hKS.k5_0 rfl 1 (by decide) rfl f5_1 dX5_takeChoice_130 ?_
          refine lv_iconst (v := 2) C.1 C.2.1 dX5_takeChoice_133 (by decide) ?_
          obtain ⟨t85, et85⟩ : ∃ z, z = uS t 4 4 1 2 := ⟨_, rfl⟩
          refine C_put C hW 4 rfl hin4 tyX4 tyX4_ok nmX4 hKS.k4_1 rfl 4 (by decide) rfl rfl rfl (Nat.le_of_ble_eq_true rfl) f4_4 dX5_takeChoice_134 (t' := t85) (by rw [et85]; exact wr4_4) (by rw [et85]; exact ho_S (by decide)) (fun H locs hW => ?_)
          have hX := nm_st hX et85
          refine lv_goto (tgt := 142) C.1 C.2.1 dX5_takeChoice_137 (by decide) ?_
          refine lv_aload_n C.1 C.2.1 dX5_takeChoice_142 rfl (lv_at hl 0 rfl) ?_
          refine lv_iconst (v := 2) C.1 C.2.1 dX5_takeChoice_143 (by decide) ?_
          obtain ⟨t86, et86⟩ : ∃ z, z = uS t85 5 6 0 2 := ⟨_, rfl⟩
          refine C_put C hW 5 rfl hin5 tyX5 tyX5_ok nmX5 hKS.k5_0 rfl 6 (by decide) rfl rfl rfl (Nat.le_of_ble_eq_true rfl) f5_6 dX5_takeChoice_144 (t' := t86) (by rw [et86]; exact wr5_6) (by rw [et86]; exact ho_S (by decide)) (fun H locs hW => ?_)
          have hX := nm_st hX et86
          refine lv_iconst (v := 0) C.1 C.2.1 dX5_takeChoice_147 (by decide) ?_
          exact G_reti C hr hlk hA hW (Option.some.inj hX).symm dX5_takeChoice_148
        have hX := br_p hX c81
        refine lv_aload_n C.1 C.2.1 dX5_takeChoice_92 rfl (lv_at hl 0 rfl) ?_
        refine va_ldcS C.1 C.2.1 C.2.2.2.1 (hEv.str hW 8 rfl) dX5_takeChoice_93 ?_
        obtain ⟨v87, hq, hX⟩ := bnd_st hX
        refine G_V0p (As := [.ref (ek 8)]) (rest := []) C hW (c_C_Reader_isWord l D cs ad K hKS hEv t 8 v87 hq.symm) (cwV 1 C.2.2.2.2 gX5_takeChoice_X5_isWord rfl rfl rfl (by decide +kernel) ⟨Nat.le_of_ble_eq_true rfl, Nat.le_of_ble_eq_true rfl⟩) (C_recv hW 5 hKS.k5_0 rfl rfl) rfl hl.1 rfl (Nat.le_of_ble_eq_true rfl) dX5_takeChoice_95 (fun H locs hW => ?_)
        refine lv_if_eq (tgt := 112) C.1 C.2.1 dX5_takeChoice_98 (by decide) (fun c88 => ?_) (fun c88 => ?_)
        · have hX := br_p hX c88
          refine lv_aload_n C.1 C.2.1 dX5_takeChoice_112 rfl (lv_at hl 0 rfl) ?_
          refine C_get C hW 5 rfl hin5 hKS.k5_0 rfl 7 (by decide) rfl f5_7 dX5_takeChoice_113 ?_
          refine lv_iconst (v := 4) C.1 C.2.1 dX5_takeChoice_116 (by decide) ?_
          refine lv_icmp_ne (tgt := 140) C.1 C.2.1 dX5_takeChoice_117 (by decide) (fun c89 => ?_) (fun c89 => ?_)
          · have hX := br_n hX c89
            refine lv_iconst (v := 2) C.1 C.2.1 dX5_takeChoice_140 (by decide) ?_
            exact G_reti C hr hlk hA hW (Option.some.inj hX).symm dX5_takeChoice_141
          have hX := br_p hX c89
          refine lv_aload_n C.1 C.2.1 dX5_takeChoice_120 rfl (lv_at hl 0 rfl) ?_
          refine va_ldcS C.1 C.2.1 C.2.2.2.1 (hEv.str hW 9 rfl) dX5_takeChoice_121 ?_
          obtain ⟨v90, hq, hX⟩ := bnd_st hX
          refine G_V0p (As := [.ref (ek 9)]) (rest := []) C hW (c_C_Reader_isWord l D cs ad K hKS hEv t 9 v90 hq.symm) (cwV 1 C.2.2.2.2 gX5_takeChoice_X5_isWord rfl rfl rfl (by decide +kernel) ⟨Nat.le_of_ble_eq_true rfl, Nat.le_of_ble_eq_true rfl⟩) (C_recv hW 5 hKS.k5_0 rfl rfl) rfl hl.1 rfl (Nat.le_of_ble_eq_true rfl) dX5_takeChoice_123 (fun H locs hW => ?_)
          refine lv_if_eq (tgt := 140) C.1 C.2.1 dX5_takeChoice_126 (by decide) (fun c91 => ?_) (fun c91 => ?_)
          · have hX := br_p hX c91
            refine lv_iconst (v := 2) C.1 C.2.1 dX5_takeChoice_140 (by decide) ?_
            exact G_reti C hr hlk hA hW (Option.some.inj hX).symm dX5_takeChoice_141
          have hX := br_n hX c91
          refine lv_aload_n C.1 C.2.1 dX5_takeChoice_129 rfl (lv_at hl 0 rfl) ?_
          refine C_get C hW 5 rfl hin5 hKS.k5_0 rfl 1 (by decide) rfl f5_1 dX5_takeChoice_130 ?_
          refine lv_iconst (v := 2) C.1 C.2.1 dX5_takeChoice_133 (by decide) ?_
          obtain ⟨t92, et92⟩ : ∃ z, z = uS t 4 4 1 2 := ⟨_, rfl⟩
          refine C_put C hW 4 rfl hin4 tyX4 tyX4_ok nmX4 hKS.k4_1 rfl 4 (by decide) rfl rfl rfl (Nat.le_of_ble_eq_true rfl) f4_4 dX5_takeChoice_134 (t' := t92) (by rw [et92]; exact wr4_4) (by rw [et92]; exact ho_S (by decide)) (fun H locs hW => ?_)
          have hX := nm_st hX et92
          refine lv_goto (tgt := 142) C.1 C.2.1 dX5_takeChoice_137 (by decide) ?_
          refine lv_aload_n C.1 C.2.1 dX5_takeChoice_142 rfl (lv_at hl 0 rfl) ?_
          refine lv_iconst (v := 2) C.1 C.2.1 dX5_takeChoice_143 (by decide) ?_
          obtain ⟨t93, et93⟩ : ∃ z, z = uS t92 5 6 0 2 := ⟨_, rfl⟩
          refine C_put C hW 5 rfl hin5 tyX5 tyX5_ok nmX5 hKS.k5_0 rfl 6 (by decide) rfl rfl rfl (Nat.le_of_ble_eq_true rfl) f5_6 dX5_takeChoice_144 (t' := t93) (by rw [et93]; exact wr5_6) (by rw [et93]; exact ho_S (by decide)) (fun H locs hW => ?_)
          have hX := nm_st hX et93
          refine lv_iconst (v := 0) C.1 C.2.1 dX5_takeChoice_147 (by decide) ?_
          exact G_reti C hr hlk hA hW (Option.some.inj hX).symm dX5_takeChoice_148
        have hX := br_n hX c88
        refine lv_aload_n C.1 C.2.1 dX5_takeChoice_101 rfl (lv_at hl 0 rfl) ?_
        refine C_get C hW 5 rfl hin5 hKS.k5_0 rfl 1 (by decide) rfl f5_1 dX5_takeChoice_102 ?_
        refine lv_iconst (v := 1) C.1 C.2.1 dX5_takeChoice_105 (by decide) ?_
        obtain ⟨t94, et94⟩ : ∃ z, z = uS t 4 4 1 1 := ⟨_, rfl⟩
        refine C_put C hW 4 rfl hin4 tyX4 tyX4_ok nmX4 hKS.k4_1 rfl 4 (by decide) rfl rfl rfl (Nat.le_of_ble_eq_true rfl) f4_4 dX5_takeChoice_106 (t' := t94) (by rw [et94]; exact wr4_4) (by rw [et94]; exact ho_S (by decide)) (fun H locs hW => ?_)
        have hX := nm_st hX et94
        refine lv_goto (tgt := 142) C.1 C.2.1 dX5_takeChoice_109 (by decide) ?_
        refine lv_aload_n C.1 C.2.1 dX5_takeChoice_142 rfl (lv_at hl 0 rfl) ?_
        refine lv_iconst (v := 2) C.1 C.2.1 dX5_takeChoice_143 (by decide) ?_
        obtain ⟨t95, et95⟩ : ∃ z, z = uS t94 5 6 0 2 := ⟨_, rfl⟩
        refine C_put C hW 5 rfl hin5 tyX5 tyX5_ok nmX5 hKS.k5_0 rfl 6 (by decide) rfl rfl rfl (Nat.le_of_ble_eq_true rfl) f5_6 dX5_takeChoice_144 (t' := t95) (by rw [et95]; exact wr5_6) (by rw [et95]; exact ho_S (by decide)) (fun H locs hW => ?_)
        have hX := nm_st hX et95
        refine lv_iconst (v := 0) C.1 C.2.1 dX5_takeChoice_147 (by decide) ?_
        exact G_reti C hr hlk hA hW (Option.some.inj hX).symm dX5_takeChoice_148
      have hX := br_p hX c80
      refine lv_aload_n C.1 C.2.1 dX5_takeChoice_64 rfl (lv_at hl 0 rfl) ?_
      refine va_ldcS C.1 C.2.1 C.2.2.2.1 (hEv.str hW 7 rfl) dX5_takeChoice_65 ?_
      obtain ⟨v96, hq, hX⟩ := bnd_st hX
      refine G_V0p (As := [.ref (ek 7)]) (rest := []) C hW (c_C_Reader_isWord l D cs ad K hKS hEv t 7 v96 hq.symm) (cwV 1 C.2.2.2.2 gX5_takeChoice_X5_isWord rfl rfl rfl (by decide +kernel) ⟨Nat.le_of_ble_eq_true rfl, Nat.le_of_ble_eq_true rfl⟩) (C_recv hW 5 hKS.k5_0 rfl rfl) rfl hl.1 rfl (Nat.le_of_ble_eq_true rfl) dX5_takeChoice_67 (fun H locs hW => ?_)
      refine lv_if_eq (tgt := 84) C.1 C.2.1 dX5_takeChoice_70 (by decide) (fun c97 => ?_) (fun c97 => ?_)
      · have hX := br_p hX c97
        refine lv_aload_n C.1 C.2.1 dX5_takeChoice_84 rfl (lv_at hl 0 rfl) ?_
        refine C_get C hW 5 rfl hin5 hKS.k5_0 rfl 7 (by decide) rfl f5_7 dX5_takeChoice_85 ?_
        refine lv_iconst (v := 4) C.1 C.2.1 dX5_takeChoice_88 (by decide) ?_
        refine lv_icmp_ne (tgt := 112) C.1 C.2.1 dX5_takeChoice_89 (by decide) (fun c98 => ?_) (fun c98 => ?_)
        · have hX := br_n hX c98
          refine lv_aload_n C.1 C.2.1 dX5_takeChoice_112 rfl (lv_at hl 0 rfl) ?_
          refine C_get C hW 5 rfl hin5 hKS.k5_0 rfl 7 (by decide) rfl f5_7 dX5_takeChoice_113 ?_
          refine lv_iconst (v := 4) C.1 C.2.1 dX5_takeChoice_116 (by decide) ?_
          refine lv_icmp_ne (tgt := 140) C.1 C.2.1 dX5_takeChoice_117 (by decide) (fun c99 => ?_) (fun c99 => ?_)
          · have hX := br_n hX c99
            refine lv_iconst (v := 2) C.1 C.2.1 dX5_takeChoice_140 (by decide) ?_
            exact G_reti C hr hlk hA hW (Option.some.inj hX).symm dX5_takeChoice_141
          have hX := br_p hX c99
          refine lv_aload_n C.1 C.2.1 dX5_takeChoice_120 rfl (lv_at hl 0 rfl) ?_
          refine va_ldcS C.1 C.2.1 C.2.2.2.1 (hEv.str hW 9 rfl) dX5_takeChoice_121 ?_
          obtain ⟨v100, hq, hX⟩ := bnd_st hX
          refine G_V0p (As := [.ref (ek 9)]) (rest := []) C hW (c_C_Reader_isWord l D cs ad K hKS hEv t 9 v100 hq.symm) (cwV 1 C.2.2.2.2 gX5_takeChoice_X5_isWord rfl rfl rfl (by decide +kernel) ⟨Nat.le_of_ble_eq_true rfl, Nat.le_of_ble_eq_true rfl⟩) (C_recv hW 5 hKS.k5_0 rfl rfl) rfl hl.1 rfl (Nat.le_of_ble_eq_true rfl) dX5_takeChoice_123 (fun H locs hW => ?_)
          refine lv_if_eq (tgt := 140) C.1 C.2.1 dX5_takeChoice_126 (by decide) (fun c101 => ?_) (fun c101 => ?_)
          · have hX := br_p hX c101
            refine lv_iconst (v := 2) C.1 C.2.1 dX5_takeChoice_140 (by decide) ?_
            exact G_reti C hr hlk hA hW (Option.some.inj hX).symm dX5_takeChoice_141
          have hX := br_n hX c101
          refine lv_aload_n C.1 C.2.1 dX5_takeChoice_129 rfl (lv_at hl 0 rfl) ?_
          refine C_get C hW 5 rfl hin5 hKS.k5_0 rfl 1 (by decide) rfl f5_1 dX5_takeChoice_130 ?_
          refine lv_iconst (v := 2) C.1 C.2.1 dX5_takeChoice_133 (by decide) ?_
          obtain ⟨t102, et102⟩ : ∃ z, z = uS t 4 4 1 2 := ⟨_, rfl⟩
          refine C_put C hW 4 rfl hin4 tyX4 tyX4_ok nmX4 hKS.k4_1 rfl 4 (by decide) rfl rfl rfl (Nat.le_of_ble_eq_true rfl) f4_4 dX5_takeChoice_134 (t' := t102) (by rw [et102]; exact wr4_4) (by rw [et102]; exact ho_S (by decide)) (fun H locs hW => ?_)
          have hX := nm_st hX et102
          refine lv_goto (tgt := 142) C.1 C.2.1 dX5_takeChoice_137 (by decide) ?_
          refine lv_aload_n C.1 C.2.1 dX5_takeChoice_142 rfl (lv_at hl 0 rfl) ?_
          refine lv_iconst (v := 2) C.1 C.2.1 dX5_takeChoice_143 (by decide) ?_
          obtain ⟨t103, et103⟩ : ∃ z, z = uS t102 5 6 0 2 := ⟨_, rfl⟩
          refine C_put C hW 5 rfl hin5 tyX5 tyX5_ok nmX5 hKS.k5_0 rfl 6 (by decide) rfl rfl rfl (Nat.le_of_ble_eq_true rfl) f5_6 dX5_takeChoice_144 (t' := t103) (by rw [et103]; exact wr5_6) (by rw [et103]; exact ho_S (by decide)) (fun H locs hW => ?_)
          have hX := nm_st hX et103
          refine lv_iconst (v := 0) C.1 C.2.1 dX5_takeChoice_147 (by decide) ?_
          exact G_reti C hr hlk hA hW (Option.some.inj hX).symm dX5_takeChoice_148
        have hX := br_p hX c98
        refine lv_aload_n C.1 C.2.1 dX5_takeChoice_92 rfl (lv_at hl 0 rfl) ?_
        refine va_ldcS C.1 C.2.1 C.2.2.2.1 (hEv.str hW 8 rfl) dX5_takeChoice_93 ?_
        obtain ⟨v104, hq, hX⟩ := bnd_st hX
        refine G_V0p (As := [.ref (ek 8)]) (rest := []) C hW (c_C_Reader_isWord l D cs ad K hKS hEv t 8 v104 hq.symm) (cwV 1 C.2.2.2.2 gX5_takeChoice_X5_isWord rfl rfl rfl (by decide +kernel) ⟨Nat.le_of_ble_eq_true rfl, Nat.le_of_ble_eq_true rfl⟩) (C_recv hW 5 hKS.k5_0 rfl rfl) rfl hl.1 rfl (Nat.le_of_ble_eq_true rfl) dX5_takeChoice_95 (fun H locs hW => ?_)
        refine lv_if_eq (tgt := 112) C.1 C.2.1 dX5_takeChoice_98 (by decide) (fun c105 => ?_) (fun c105 => ?_)
        · have hX := br_p hX c105
          refine lv_aload_n C.1 C.2.1 dX5_takeChoice_112 rfl (lv_at hl 0 rfl) ?_
          refine C_get C hW 5 rfl hin5 hKS.k5_0 rfl 7 (by decide) rfl f5_7 dX5_takeChoice_113 ?_
          refine lv_iconst (v := 4) C.1 C.2.1 dX5_takeChoice_116 (by decide) ?_
          refine lv_icmp_ne (tgt := 140) C.1 C.2.1 dX5_takeChoice_117 (by decide) (fun c106 => ?_) (fun c106 => ?_)
          · have hX := br_n hX c106
            refine lv_iconst (v := 2) C.1 C.2.1 dX5_takeChoice_140 (by decide) ?_
            exact G_reti C hr hlk hA hW (Option.some.inj hX).symm dX5_takeChoice_141
          have hX := br_p hX c106
          refine lv_aload_n C.1 C.2.1 dX5_takeChoice_120 rfl (lv_at hl 0 rfl) ?_
          refine va_ldcS C.1 C.2.1 C.2.2.2.1 (hEv.str hW 9 rfl) dX5_takeChoice_121 ?_
          obtain ⟨v107, hq, hX⟩ := bnd_st hX
          refine G_V0p (As := [.ref (ek 9)]) (rest := []) C hW (c_C_Reader_isWord l D cs ad K hKS hEv t 9 v107 hq.symm) (cwV 1 C.2.2.2.2 gX5_takeChoice_X5_isWord rfl rfl rfl (by decide +kernel) ⟨Nat.le_of_ble_eq_true rfl, Nat.le_of_ble_eq_true rfl⟩) (C_recv hW 5 hKS.k5_0 rfl rfl) rfl hl.1 rfl (Nat.le_of_ble_eq_true rfl) dX5_takeChoice_123 (fun H locs hW => ?_)
          refine lv_if_eq (tgt := 140) C.1 C.2.1 dX5_takeChoice_126 (by decide) (fun c108 => ?_) (fun c108 => ?_)
          · have hX := br_p hX c108
            refine lv_iconst (v := 2) C.1 C.2.1 dX5_takeChoice_140 (by decide) ?_
            exact G_reti C hr hlk hA hW (Option.some.inj hX).symm dX5_takeChoice_141
          have hX := br_n hX c108
          refine lv_aload_n C.1 C.2.1 dX5_takeChoice_129 rfl (lv_at hl 0 rfl) ?_
          refine C_get C hW 5 rfl hin5 hKS.k5_0 rfl 1 (by decide) rfl f5_1 dX5_takeChoice_130 ?_
          refine lv_iconst (v := 2) C.1 C.2.1 dX5_takeChoice_133 (by decide) ?_
          obtain ⟨t109, et109⟩ : ∃ z, z = uS t 4 4 1 2 := ⟨_, rfl⟩
          refine C_put C hW 4 rfl hin4 tyX4 tyX4_ok nmX4 hKS.k4_1 rfl 4 (by decide) rfl rfl rfl (Nat.le_of_ble_eq_true rfl) f4_4 dX5_takeChoice_134 (t' := t109) (by rw [et109]; exact wr4_4) (by rw [et109]; exact ho_S (by decide)) (fun H locs hW => ?_)
          have hX := nm_st hX et109
          refine lv_goto (tgt := 142) C.1 C.2.1 dX5_takeChoice_137 (by decide) ?_
          refine lv_aload_n C.1 C.2.1 dX5_takeChoice_142 rfl (lv_at hl 0 rfl) ?_
          refine lv_iconst (v := 2) C.1 C.2.1 dX5_takeChoice_143 (by decide) ?_
          obtain ⟨t110, et110⟩ : ∃ z, z = uS t109 5 6 0 2 := ⟨_, rfl⟩
          refine C_put C hW 5 rfl hin5 tyX5 tyX5_ok nmX5 hKS.k5_0 rfl 6 (by decide) rfl rfl rfl (Nat.le_of_ble_eq_true rfl) f5_6 dX5_takeChoice_144 (t' := t110) (by rw [et110]; exact wr5_6) (by rw [et110]; exact ho_S (by decide)) (fun H locs hW => ?_)
          have hX := nm_st hX et110
          refine lv_iconst (v := 0) C.1 C.2.1 dX5_takeChoice_147 (by decide) ?_
          exact G_reti C hr hlk hA hW (Option.some.inj hX).symm dX5_takeChoice_148
        have hX := br_n hX c105
        refine lv_aload_n C.1 C.2.1 dX5_takeChoice_101 rfl (lv_at hl 0 rfl) ?_
        refine C_get C hW 5 rfl hin5 hKS.k5_0 rfl 1 (by decide) rfl f5_1 dX5_takeChoice_102 ?_
        refine lv_iconst (v := 1) C.1 C.2.1 dX5_takeChoice_105 (by decide) ?_
        obtain ⟨t111, et111⟩ : ∃ z, z = uS t 4 4 1 1 := ⟨_, rfl⟩
        refine C_put C hW 4 rfl hin4 tyX4 tyX4_ok nmX4 hKS.k4_1 rfl 4 (by decide) rfl rfl rfl (Nat.le_of_ble_eq_true rfl) f4_4 dX5_takeChoice_106 (t' := t111) (by rw [et111]; exact wr4_4) (by rw [et111]; exact ho_S (by decide)) (fun H locs hW => ?_)
        have hX := nm_st hX et111
        refine lv_goto (tgt := 142) C.1 C.2.1 dX5_takeChoice_109 (by decide) ?_
        refine lv_aload_n C.1 C.2.1 dX5_takeChoice_142 rfl (lv_at hl 0 rfl) ?_
        refine lv_iconst (v := 2) C.1 C.2.1 dX5_takeChoice_143 (by decide) ?_
        obtain ⟨t112, et112⟩ : ∃ z, z = uS t111 5 6 0 2 := ⟨_, rfl⟩
        refine C_put C hW 5 rfl hin5 tyX5 tyX5_ok nmX5 hKS.k5_0 rfl 6 (by decide) rfl rfl rfl (Nat.le_of_ble_eq_true rfl) f5_6 dX5_takeChoice_144 (t' := t112) (by rw [et112]; exact wr5_6) (by rw [et112]; exact ho_S (by decide)) (fun H locs hW => ?_)
        have hX := nm_st hX et112
        refine lv_iconst (v := 0) C.1 C.2.1 dX5_takeChoice_147 (by decide) ?_
        exact G_reti C hr hlk hA hW (Option.some.inj hX).symm dX5_takeChoice_148
      have hX := br_n hX c97
      refine lv_aload_n C.1 C.2.1 dX5_takeChoice_73 rfl (lv_at hl 0 rfl) ?_
      refine C_get C hW 5 rfl hin5 hKS.k5_0 rfl 1 (by decide) rfl f5_1 dX5_takeChoice_74 ?_
      refine lv_iconst (v := 0) C.1 C.2.1 dX5_takeChoice_77 (by decide) ?_
      obtain ⟨t113, et113⟩ : ∃ z, z = uS t 4 4 1 0 := ⟨_, rfl⟩
      refine C_put C hW 4 rfl hin4 tyX4 tyX4_ok nmX4 hKS.k4_1 rfl 4 (by decide) rfl rfl rfl (Nat.le_of_ble_eq_true rfl) f4_4 dX5_takeChoice_78 (t' := t113) (by rw [et113]; exact wr4_4) (by rw [et113]; exact ho_S (by decide)) (fun H locs hW => ?_)
      have hX := nm_st hX et113
      refine lv_goto (tgt := 142) C.1 C.2.1 dX5_takeChoice_81 (by decide) ?_
      refine lv_aload_n C.1 C.2.1 dX5_takeChoice_142 rfl (lv_at hl 0 rfl) ?_
      refine lv_iconst (v := 2) C.1 C.2.1 dX5_takeChoice_143 (by decide) ?_
      obtain ⟨t114, et114⟩ : ∃ z, z = uS t113 5 6 0 2 := ⟨_, rfl⟩
      refine C_put C hW 5 rfl hin5 tyX5 tyX5_ok nmX5 hKS.k5_0 rfl 6 (by decide) rfl rfl rfl (Nat.le_of_ble_eq_true rfl) f5_6 dX5_takeChoice_144 (t' := t114) (by rw [et114]; exact wr5_6) (by rw [et114]; exact ho_S (by decide)) (fun H locs hW => ?_)
      have hX := nm_st hX et114
      refine lv_iconst (v := 0) C.1 C.2.1 dX5_takeChoice_147 (by decide) ?_
      exact G_reti C hr hlk hA hW (Option.some.inj hX).symm dX5_takeChoice_148
    have hX := br_p hX c79
    refine lv_aload_n C.1 C.2.1 dX5_takeChoice_36 rfl (lv_at hl 0 rfl) ?_
    refine va_ldcS C.1 C.2.1 C.2.2.2.1 (hEv.str hW 6 rfl) dX5_takeChoice_37 ?_
    obtain ⟨v115, hq, hX⟩ := bnd_st hX
    refine G_V0p (As := [.ref (ek 6)]) (rest := []) C hW (c_C_Reader_isWord l D cs ad K hKS hEv t 6 v115 hq.symm) (cwV 1 C.2.2.2.2 gX5_takeChoice_X5_isWord rfl rfl rfl (by decide +kernel) ⟨Nat.le_of_ble_eq_true rfl, Nat.le_of_ble_eq_true rfl⟩) (C_recv hW 5 hKS.k5_0 rfl rfl) rfl hl.1 rfl (Nat.le_of_ble_eq_true rfl) dX5_takeChoice_39 (fun H locs hW => ?_)
    refine lv_if_eq (tgt := 56) C.1 C.2.1 dX5_takeChoice_42 (by decide) (fun c116 => ?_) (fun c116 => ?_)
    · have hX := br_p hX c116
      refine lv_aload_n C.1 C.2.1 dX5_takeChoice_56 rfl (lv_at hl 0 rfl) ?_
      refine C_get C hW 5 rfl hin5 hKS.k5_0 rfl 7 (by decide) rfl f5_7 dX5_takeChoice_57 ?_
      refine lv_iconst (v := 4) C.1 C.2.1 dX5_takeChoice_60 (by decide) ?_
      refine lv_icmp_ne (tgt := 84) C.1 C.2.1 dX5_takeChoice_61 (by decide) (fun c117 => ?_) (fun c117 => ?_)
      · have hX := br_n hX c117
        refine lv_aload_n C.1 C.2.1 dX5_takeChoice_84 rfl (lv_at hl 0 rfl) ?_
        refine C_get C hW 5 rfl hin5 hKS.k5_0 rfl 7 (by decide) rfl f5_7 dX5_takeChoice_85 ?_
        refine lv_iconst (v := 4) C.1 C.2.1 dX5_takeChoice_88 (by decide) ?_
        refine lv_icmp_ne (tgt := 112) C.1 C.2.1 dX5_takeChoice_89 (by decide) (fun c118 => ?_) (fun c118 => ?_)
        · have hX := br_n hX c118
          refine lv_aload_n C.1 C.2.1 dX5_takeChoice_112 rfl (lv_at hl 0 rfl) ?_
          refine C_get C hW 5 rfl hin5 hKS.k5_0 rfl 7 (by decide) rfl f5_7 dX5_takeChoice_113 ?_
          refine lv_iconst (v := 4) C.1 C.2.1 dX5_takeChoice_116 (by decide) ?_
          refine lv_icmp_ne (tgt := 140) C.1 C.2.1 dX5_takeChoice_117 (by decide) (fun c119 => ?_) (fun c119 => ?_)
          · have hX := br_n hX c119
            refine lv_iconst (v := 2) C.1 C.2.1 dX5_takeChoice_140 (by decide) ?_
            exact G_reti C hr hlk hA hW (Option.some.inj hX).symm dX5_takeChoice_141
          have hX := br_p hX c119
          refine lv_aload_n C.1 C.2.1 dX5_takeChoice_120 rfl (lv_at hl 0 rfl) ?_
          refine va_ldcS C.1 C.2.1 C.2.2.2.1 (hEv.str hW 9 rfl) dX5_takeChoice_121 ?_
          obtain ⟨v120, hq, hX⟩ := bnd_st hX
          refine G_V0p (As := [.ref (ek 9)]) (rest := []) C hW (c_C_Reader_isWord l D cs ad K hKS hEv t 9 v120 hq.symm) (cwV 1 C.2.2.2.2 gX5_takeChoice_X5_isWord rfl rfl rfl (by decide +kernel) ⟨Nat.le_of_ble_eq_true rfl, Nat.le_of_ble_eq_true rfl⟩) (C_recv hW 5 hKS.k5_0 rfl rfl) rfl hl.1 rfl (Nat.le_of_ble_eq_true rfl) dX5_takeChoice_123 (fun H locs hW => ?_)
          refine lv_if_eq (tgt := 140) C.1 C.2.1 dX5_takeChoice_126 (by decide) (fun c121 => ?_) (fun c121 => ?_)
          · have hX := br_p hX c121
            refine lv_iconst (v := 2) C.1 C.2.1 dX5_takeChoice_140 (by decide) ?_
            exact G_reti C hr hlk hA hW (Option.some.inj hX).symm dX5_takeChoice_141
          have hX := br_n hX c121
          refine lv_aload_n C.1 C.2.1 dX5_takeChoice_129 rfl (lv_at hl 0 rfl) ?_
          refine C_get C hW 5 rfl hin5 hKS.k5_0 rfl 1 (by decide) rfl f5_1 dX5_takeChoice_130 ?_
          refine lv_iconst (v := 2) C.1 C.2.1 dX5_takeChoice_133 (by decide) ?_
          obtain ⟨t122, et122⟩ : ∃ z, z = uS t 4 4 1 2 := ⟨_, rfl⟩
          refine C_put C hW 4 rfl hin4 tyX4 tyX4_ok nmX4 hKS.k4_1 rfl 4 (by decide) rfl rfl rfl (Nat.le_of_ble_eq_true rfl) f4_4 dX5_takeChoice_134 (t' := t122) (by rw [et122]; exact wr4_4) (by rw [et122]; exact ho_S (by decide)) (fun H locs hW => ?_)
          have hX := nm_st hX et122
          refine lv_goto (tgt := 142) C.1 C.2.1 dX5_takeChoice_137 (by decide) ?_
          refine lv_aload_n C.1 C.2.1 dX5_takeChoice_142 rfl (lv_at hl 0 rfl) ?_
          refine lv_iconst (v := 2) C.1 C.2.1 dX5_takeChoice_143 (by decide) ?_
          obtain ⟨t123, et123⟩ : ∃ z, z = uS t122 5 6 0 2 := ⟨_, rfl⟩
          refine C_put C hW 5 rfl hin5 tyX5 tyX5_ok nmX5 hKS.k5_0 rfl 6 (by decide) rfl rfl rfl (Nat.le_of_ble_eq_true rfl) f5_6 dX5_takeChoice_144 (t' := t123) (by rw [et123]; exact wr5_6) (by rw [et123]; exact ho_S (by decide)) (fun H locs hW => ?_)
          have hX := nm_st hX et123
          refine lv_iconst (v := 0) C.1 C.2.1 dX5_takeChoice_147 (by decide) ?_
          exact G_reti C hr hlk hA hW (Option.some.inj hX).symm dX5_takeChoice_148
        have hX := br_p hX c118
        refine lv_aload_n C.1 C.2.1 dX5_takeChoice_92 rfl (lv_at hl 0 rfl) ?_
        refine va_ldcS C.1 C.2.1 C.2.2.2.1 (hEv.str hW 8 rfl) dX5_takeChoice_93 ?_
        obtain ⟨v124, hq, hX⟩ := bnd_st hX
        refine G_V0p (As := [.ref (ek 8)]) (rest := []) C hW (c_C_Reader_isWord l D cs ad K hKS hEv t 8 v124 hq.symm) (cwV 1 C.2.2.2.2 gX5_takeChoice_X5_isWord rfl rfl rfl (by decide +kernel) ⟨Nat.le_of_ble_eq_true rfl, Nat.le_of_ble_eq_true rfl⟩) (C_recv hW 5 hKS.k5_0 rfl rfl) rfl hl.1 rfl (Nat.le_of_ble_eq_true rfl) dX5_takeChoice_95 (fun H locs hW => ?_)
        refine lv_if_eq (tgt := 112) C.1 C.2.1 dX5_takeChoice_98 (by decide) (fun c125 => ?_) (fun c125 => ?_)
        · have hX := br_p hX c125
          refine lv_aload_n C.1 C.2.1 dX5_takeChoice_112 rfl (lv_at hl 0 rfl) ?_
          refine C_get C hW 5 rfl hin5 hKS.k5_0 rfl 7 (by decide) rfl f5_7 dX5_takeChoice_113 ?_
          refine lv_iconst (v := 4) C.1 C.2.1 dX5_takeChoice_116 (by decide) ?_
          refine lv_icmp_ne (tgt := 140) C.1 C.2.1 dX5_takeChoice_117 (by decide) (fun c126 => ?_) (fun c126 => ?_)
          · have hX := br_n hX c126
            refine lv_iconst (v := 2) C.1 C.2.1 dX5_takeChoice_140 (by decide) ?_
            exact G_reti C hr hlk hA hW (Option.some.inj hX).symm dX5_takeChoice_141
          have hX := br_p hX c126
          refine lv_aload_n C.1 C.2.1 dX5_takeChoice_120 rfl (lv_at hl 0 rfl) ?_
          refine va_ldcS C.1 C.2.1 C.2.2.2.1 (hEv.str hW 9 rfl) dX5_takeChoice_121 ?_
          obtain ⟨v127, hq, hX⟩ := bnd_st hX
          refine G_V0p (As := [.ref (ek 9)]) (rest := []) C hW (c_C_Reader_isWord l D cs ad K hKS hEv t 9 v127 hq.symm) (cwV 1 C.2.2.2.2 gX5_takeChoice_X5_isWord rfl rfl rfl (by decide +kernel) ⟨Nat.le_of_ble_eq_true rfl, Nat.le_of_ble_eq_true rfl⟩) (C_recv hW 5 hKS.k5_0 rfl rfl) rfl hl.1 rfl (Nat.le_of_ble_eq_true rfl) dX5_takeChoice_123 (fun H locs hW => ?_)
          refine lv_if_eq (tgt := 140) C.1 C.2.1 dX5_takeChoice_126 (by decide) (fun c128 => ?_) (fun c128 => ?_)
          · have hX := br_p hX c128
            refine lv_iconst (v := 2) C.1 C.2.1 dX5_takeChoice_140 (by decide) ?_
            exact G_reti C hr hlk hA hW (Option.some.inj hX).symm dX5_takeChoice_141
          have hX := br_n hX c128
          refine lv_aload_n C.1 C.2.1 dX5_takeChoice_129 rfl (lv_at hl 0 rfl) ?_
          refine C_get C hW 5 rfl hin5 hKS.k5_0 rfl 1 (by decide) rfl f5_1 dX5_takeChoice_130 ?_
          refine lv_iconst (v := 2) C.1 C.2.1 dX5_takeChoice_133 (by decide) ?_
          obtain ⟨t129, et129⟩ : ∃ z, z = uS t 4 4 1 2 := ⟨_, rfl⟩
          refine C_put C hW 4 rfl hin4 tyX4 tyX4_ok nmX4 hKS.k4_1 rfl 4 (by decide) rfl rfl rfl (Nat.le_of_ble_eq_true rfl) f4_4 dX5_takeChoice_134 (t' := t129) (by rw [et129]; exact wr4_4) (by rw [et129]; exact ho_S (by decide)) (fun H locs hW => ?_)
          have hX := nm_st hX et129
          refine lv_goto (tgt := 142) C.1 C.2.1 dX5_takeChoice_137 (by decide) ?_
          refine lv_aload_n C.1 C.2.1 dX5_takeChoice_142 rfl (lv_at hl 0 rfl) ?_
          refine lv_iconst (v := 2) C.1 C.2.1 dX5_takeChoice_143 (by decide) ?_
          obtain ⟨t130, et130⟩ : ∃ z, z = uS t129 5 6 0 2 := ⟨_, rfl⟩
          refine C_put C hW 5 rfl hin5 tyX5 tyX5_ok nmX5 hKS.k5_0 rfl 6 (by decide) rfl rfl rfl (Nat.le_of_ble_eq_true rfl) f5_6 dX5_takeChoice_144 (t' := t130) (by rw [et130]; exact wr5_6) (by rw [et130]; exact ho_S (by decide)) (fun H locs hW => ?_)
          have hX := nm_st hX et130
          refine lv_iconst (v := 0) C.1 C.2.1 dX5_takeChoice_147 (by decide) ?_
          exact G_reti C hr hlk hA hW (Option.some.inj hX).symm dX5_takeChoice_148
        have hX := br_n hX c125
        refine lv_aload_n C.1 C.2.1 dX5_takeChoice_101 rfl (lv_at hl 0 rfl) ?_
        refine C_get C hW 5 rfl hin5 hKS.k5_0 rfl 1 (by decide) rfl f5_1 dX5_takeChoice_102 ?_
        refine lv_iconst (v := 1) C.1 C.2.1 dX5_takeChoice_105 (by decide) ?_
        obtain ⟨t131, et131⟩ : ∃ z, z = uS t 4 4 1 1 := ⟨_, rfl⟩
        refine C_put C hW 4 rfl hin4 tyX4 tyX4_ok nmX4 hKS.k4_1 rfl 4 (by decide) rfl rfl rfl (Nat.le_of_ble_eq_true rfl) f4_4 dX5_takeChoice_106 (t' := t131) (by rw [et131]; exact wr4_4) (by rw [et131]; exact ho_S (by decide)) (fun H locs hW => ?_)
        have hX := nm_st hX et131
        refine lv_goto (tgt := 142) C.1 C.2.1 dX5_takeChoice_109 (by decide) ?_
        refine lv_aload_n C.1 C.2.1 dX5_takeChoice_142 rfl (lv_at hl 0 rfl) ?_
        refine lv_iconst (v := 2) C.1 C.2.1 dX5_takeChoice_143 (by decide) ?_
        obtain ⟨t132, et132⟩ : ∃ z, z = uS t131 5 6 0 2 := ⟨_, rfl⟩
        refine C_put C hW 5 rfl hin5 tyX5 tyX5_ok nmX5 hKS.k5_0 rfl 6 (by decide) rfl rfl rfl (Nat.le_of_ble_eq_true rfl) f5_6 dX5_takeChoice_144 (t' := t132) (by rw [et132]; exact wr5_6) (by rw [et132]; exact ho_S (by decide)) (fun H locs hW => ?_)
        have hX := nm_st hX et132
        refine lv_iconst (v := 0) C.1 C.2.1 dX5_takeChoice_147 (by decide) ?_
        exact G_reti C hr hlk hA hW (Option.some.inj hX).symm dX5_takeChoice_148
      have hX := br_p hX c117
      refine lv_aload_n C.1 C.2.1 dX5_takeChoice_64 rfl (lv_at hl 0 rfl) ?_
      refine va_ldcS C.1 C.2.1 C.2.2.2.1 (hEv.str hW 7 rfl) dX5_takeChoice_65 ?_
      obtain ⟨v133, hq, hX⟩ := bnd_st hX
      refine G_V0p (As := [.ref (ek 7)]) (rest := []) C hW (c_C_Reader_isWord l D cs ad K hKS hEv t 7 v133 hq.symm) (cwV 1 C.2.2.2.2 gX5_takeChoice_X5_isWord rfl rfl rfl (by decide +kernel) ⟨Nat.le_of_ble_eq_true rfl, Nat.le_of_ble_eq_true rfl⟩) (C_recv hW 5 hKS.k5_0 rfl rfl) rfl hl.1 rfl (Nat.le_of_ble_eq_true rfl) dX5_takeChoice_67 (fun H locs hW => ?_)
      refine lv_if_eq (tgt := 84) C.1 C.2.1 dX5_takeChoice_70 (by decide) (fun c134 => ?_) (fun c134 => ?_)
      · have hX := br_p hX c134
        refine lv_aload_n C.1 C.2.1 dX5_takeChoice_84 rfl (lv_at hl 0 rfl) ?_
        refine C_get C hW 5 rfl hin5 hKS.k5_0 rfl 7 (by decide) rfl f5_7 dX5_takeChoice_85 ?_
        refine lv_iconst (v := 4) C.1 C.2.1 dX5_takeChoice_88 (by decide) ?_
        refine lv_icmp_ne (tgt := 112) C.1 C.2.1 dX5_takeChoice_89 (by decide) (fun c135 => ?_) (fun c135 => ?_)
        · have hX := br_n hX c135
          refine lv_aload_n C.1 C.2.1 dX5_takeChoice_112 rfl (lv_at hl 0 rfl) ?_
          refine C_get C hW 5 rfl hin5 hKS.k5_0 rfl 7 (by decide) rfl f5_7 dX5_takeChoice_113 ?_
          refine lv_iconst (v := 4) C.1 C.2.1 dX5_takeChoice_116 (by decide) ?_
          refine lv_icmp_ne (tgt := 140) C.1 C.2.1 dX5_takeChoice_117 (by decide) (fun c136 => ?_) (fun c136 => ?_)
          · have hX := br_n hX c136
            refine lv_iconst (v := 2) C.1 C.2.1 dX5_takeChoice_140 (by decide) ?_
            exact G_reti C hr hlk hA hW (Option.some.inj hX).symm dX5_takeChoice_141
          have hX := br_p hX c136
          refine lv_aload_n C.1 C.2.1 dX5_takeChoice_120 rfl (lv_at hl 0 rfl) ?_
          refine va_ldcS C.1 C.2.1 C.2.2.2.1 (hEv.str hW 9 rfl) dX5_takeChoice_121 ?_
          obtain ⟨v137, hq, hX⟩ := bnd_st hX
          refine G_V0p (As := [.ref (ek 9)]) (rest := []) C hW (c_C_Reader_isWord l D cs ad K hKS hEv t 9 v137 hq.symm) (cwV 1 C.2.2.2.2 gX5_takeChoice_X5_isWord rfl rfl rfl (by decide +kernel) ⟨Nat.le_of_ble_eq_true rfl, Nat.le_of_ble_eq_true rfl⟩) (C_recv hW 5 hKS.k5_0 rfl rfl) rfl hl.1 rfl (Nat.le_of_ble_eq_true rfl) dX5_takeChoice_123 (fun H locs hW => ?_)
          refine lv_if_eq (tgt := 140) C.1 C.2.1 dX5_takeChoice_126 (by decide) (fun c138 => ?_) (fun c138 => ?_)
          · have hX := br_p hX c138
            refine lv_iconst (v := 2) C.1 C.2.1 dX5_takeChoice_140 (by decide) ?_
            exact G_reti C hr hlk hA hW (Option.some.inj hX).symm dX5_takeChoice_141
          have hX := br_n hX c138
          refine lv_aload_n C.1 C.2.1 dX5_takeChoice_129 rfl (lv_at hl 0 rfl) ?_
          refine C_get C hW 5 rfl hin5 hKS.k5_0 rfl 1 (by decide) rfl f5_1 dX5_takeChoice_130 ?_
          refine lv_iconst (v := 2) C.1 C.2.1 dX5_takeChoice_133 (by decide) ?_
          obtain ⟨t139, et139⟩ : ∃ z, z = uS t 4 4 1 2 := ⟨_, rfl⟩
          refine C_put C hW 4 rfl hin4 tyX4 tyX4_ok nmX4 hKS.k4_1 rfl 4 (by decide) rfl rfl rfl (Nat.le_of_ble_eq_true rfl) f4_4 dX5_takeChoice_134 (t' := t139) (by rw [et139]; exact wr4_4) (by rw [et139]; exact ho_S (by decide)) (fun H locs hW => ?_)
          have hX := nm_st hX et139
          refine lv_goto (tgt := 142) C.1 C.2.1 dX5_takeChoice_137 (by decide) ?_
          refine lv_aload_n C.1 C.2.1 dX5_takeChoice_142 rfl (lv_at hl 0 rfl) ?_
          refine lv_iconst (v := 2) C.1 C.2.1 dX5_takeChoice_143 (by decide) ?_
          obtain ⟨t140, et140⟩ : ∃ z, z = uS t139 5 6 0 2 := ⟨_, rfl⟩
          refine C_put C hW 5 rfl hin5 tyX5 tyX5_ok nmX5 hKS.k5_0 rfl 6 (by decide) rfl rfl rfl (Nat.le_of_ble_eq_true rfl) f5_6 dX5_takeChoice_144 (t' := t140) (by rw [et140]; exact wr5_6) (by rw [et140]; exact ho_S (by decide)) (fun H locs hW => ?_)
          have hX := nm_st hX et140
          refine lv_iconst (v := 0) C.1 C.2.1 dX5_takeChoice_147 (by decide) ?_
          exact G_reti C hr hlk hA hW (Option.some.inj hX).symm dX5_takeChoice_148
        have hX := br_p hX c135
        refine lv_aload_n C.1 C.2.1 dX5_takeChoice_92 rfl (lv_at hl 0 rfl) ?_
        refine va_ldcS C.1 C.2.1 C.2.2.2.1 (hEv.str hW 8 rfl) dX5_takeChoice_93 ?_
        obtain ⟨v141, hq, hX⟩ := bnd_st hX
        refine G_V0p (As := [.ref (ek 8)]) (rest := []) C hW (c_C_Reader_isWord l D cs ad K hKS hEv t 8 v141 hq.symm) (cwV 1 C.2.2.2.2 gX5_takeChoice_X5_isWord rfl rfl rfl (by decide +kernel) ⟨Nat.le_of_ble_eq_true rfl, Nat.le_of_ble_eq_true rfl⟩) (C_recv hW 5 hKS.k5_0 rfl rfl) rfl hl.1 rfl (Nat.le_of_ble_eq_true rfl) dX5_takeChoice_95 (fun H locs hW => ?_)
        refine lv_if_eq (tgt := 112) C.1 C.2.1 dX5_takeChoice_98 (by decide) (fun c142 => ?_) (fun c142 => ?_)
        · have hX := br_p hX c142
          refine lv_aload_n C.1 C.2.1 dX5_takeChoice_112 rfl (lv_at hl 0 rfl) ?_
          refine C_get C hW 5 rfl hin5 hKS.k5_0 rfl 7 (by decide) rfl f5_7 dX5_takeChoice_113 ?_
          refine lv_iconst (v := 4) C.1 C.2.1 dX5_takeChoice_116 (by decide) ?_
          refine lv_icmp_ne (tgt := 140) C.1 C.2.1 dX5_takeChoice_117 (by decide) (fun c143 => ?_) (fun c143 => ?_)
          · have hX := br_n hX c143
            refine lv_iconst (v := 2) C.1 C.2.1 dX5_takeChoice_140 (by decide) ?_
            exact G_reti C hr hlk hA hW (Option.some.inj hX).symm dX5_takeChoice_141
          have hX := br_p hX c143
          refine lv_aload_n C.1 C.2.1 dX5_takeChoice_120 rfl (lv_at hl 0 rfl) ?_
          refine va_ldcS C.1 C.2.1 C.2.2.2.1 (hEv.str hW 9 rfl) dX5_takeChoice_121 ?_
          obtain ⟨v144, hq, hX⟩ := bnd_st hX
          refine G_V0p (As := [.ref (ek 9)]) (rest := []) C hW (c_C_Reader_isWord l D cs ad K hKS hEv t 9 v144 hq.symm) (cwV 1 C.2.2.2.2 gX5_takeChoice_X5_isWord rfl rfl rfl (by decide +kernel) ⟨Nat.le_of_ble_eq_true rfl, Nat.le_of_ble_eq_true rfl⟩) (C_recv hW 5 hKS.k5_0 rfl rfl) rfl hl.1 rfl (Nat.le_of_ble_eq_true rfl) dX5_takeChoice_123 (fun H locs hW => ?_)
          refine lv_if_eq (tgt := 140) C.1 C.2.1 dX5_takeChoice_126 (by decide) (fun c145 => ?_) (fun c145 => ?_)
          · have hX := br_p hX c145
            refine lv_iconst (v := 2) C.1 C.2.1 dX5_takeChoice_140 (by decide) ?_
            exact G_reti C hr hlk hA hW (Option.some.inj hX).symm dX5_takeChoice_141
          have hX := br_n hX c145
          refine lv_aload_n C.1 C.2.1 dX5_takeChoice_129 rfl (lv_at hl 0 rfl) ?_
          refine C_get C hW 5 rfl hin5 hKS.k5_0 rfl 1 (by decide) rfl f5_1 dX5_takeChoice_130 ?_
          refine lv_iconst (v := 2) C.1 C.2.1 dX5_takeChoice_133 (by decide) ?_
          obtain ⟨t146, et146⟩ : ∃ z, z = uS t 4 4 1 2 := ⟨_, rfl⟩
          refine C_put C hW 4 rfl hin4 tyX4 tyX4_ok nmX4 hKS.k4_1 rfl 4 (by decide) rfl rfl rfl (Nat.le_of_ble_eq_true rfl) f4_4 dX5_takeChoice_134 (t' := t146) (by rw [et146]; exact wr4_4) (by rw [et146]; exact ho_S (by decide)) (fun H locs hW => ?_)
          have hX := nm_st hX et146
          refine lv_goto (tgt := 142) C.1 C.2.1 dX5_takeChoice_137 (by decide) ?_
          refine lv_aload_n C.1 C.2.1 dX5_takeChoice_142 rfl (lv_at hl 0 rfl) ?_
          refine lv_iconst (v := 2) C.1 C.2.1 dX5_takeChoice_143 (by decide) ?_
          obtain ⟨t147, et147⟩ : ∃ z, z = uS t146 5 6 0 2 := ⟨_, rfl⟩
          refine C_put C hW 5 rfl hin5 tyX5 tyX5_ok nmX5 hKS.k5_0 rfl 6 (by decide) rfl rfl rfl (Nat.le_of_ble_eq_true rfl) f5_6 dX5_takeChoice_144 (t' := t147) (by rw [et147]; exact wr5_6) (by rw [et147]; exact ho_S (by decide)) (fun H locs hW => ?_)
          have hX := nm_st hX et147
          refine lv_iconst (v := 0) C.1 C.2.1 dX5_takeChoice_147 (by decide) ?_
          exact G_reti C hr hlk hA hW (Option.some.inj hX).symm dX5_takeChoice_148
        have hX := br_n hX c142
        refine lv_aload_n C.1 C.2.1 dX5_takeChoice_101 rfl (lv_at hl 0 rfl) ?_
        refine C_get C hW 5 rfl hin5 hKS.k5_0 rfl 1 (by decide) rfl f5_1 dX5_takeChoice_102 ?_
        refine lv_iconst (v := 1) C.1 C.2.1 dX5_takeChoice_105 (by decide) ?_
        obtain ⟨t148, et148⟩ : ∃ z, z = uS t 4 4 1 1 := ⟨_, rfl⟩
        refine C_put C hW 4 rfl hin4 tyX4 tyX4_ok nmX4 hKS.k4_1 rfl 4 (by decide) rfl rfl rfl (Nat.le_of_ble_eq_true rfl) f4_4 dX5_takeChoice_106 (t' := t148) (by rw [et148]; exact wr4_4) (by rw [et148]; exact ho_S (by decide)) (fun H locs hW => ?_)
        have hX := nm_st hX et148
        refine lv_goto (tgt := 142) C.1 C.2.1 dX5_takeChoice_109 (by decide) ?_
        refine lv_aload_n C.1 C.2.1 dX5_takeChoice_142 rfl (lv_at hl 0 rfl) ?_
        refine lv_iconst (v := 2) C.1 C.2.1 dX5_takeChoice_143 (by decide) ?_
        obtain ⟨t149, et149⟩ : ∃ z, z = uS t148 5 6 0 2 := ⟨_, rfl⟩
        refine C_put C hW 5 rfl hin5 tyX5 tyX5_ok nmX5 hKS.k5_0 rfl 6 (by decide) rfl rfl rfl (Nat.le_of_ble_eq_true rfl) f5_6 dX5_takeChoice_144 (t' := t149) (by rw [et149]; exact wr5_6) (by rw [et149]; exact ho_S (by decide)) (fun H locs hW => ?_)
        have hX := nm_st hX et149
        refine lv_iconst (v := 0) C.1 C.2.1 dX5_takeChoice_147 (by decide) ?_
        exact G_reti C hr hlk hA hW (Option.some.inj hX).symm dX5_takeChoice_148
      have hX := br_n hX c134
      refine lv_aload_n C.1 C.2.1 dX5_takeChoice_73 rfl (lv_at hl 0 rfl) ?_
      refine C_get C hW 5 rfl hin5 hKS.k5_0 rfl 1 (by decide) rfl f5_1 dX5_takeChoice_74 ?_
      refine lv_iconst (v := 0) C.1 C.2.1 dX5_takeChoice_77 (by decide) ?_
      obtain ⟨t150, et150⟩ : ∃ z, z = uS t 4 4 1 0 := ⟨_, rfl⟩
      refine C_put C hW 4 rfl hin4 tyX4 tyX4_ok nmX4 hKS.k4_1 rfl 4 (by decide) rfl rfl rfl (Nat.le_of_ble_eq_true rfl) f4_4 dX5_takeChoice_78 (t' := t150) (by rw [et150]; exact wr4_4) (by rw [et150]; exact ho_S (by decide)) (fun H locs hW => ?_)
      have hX := nm_st hX et150
      refine lv_goto (tgt := 142) C.1 C.2.1 dX5_takeChoice_81 (by decide) ?_
      refine lv_aload_n C.1 C.2.1 dX5_takeChoice_142 rfl (lv_at hl 0 rfl) ?_
      refine lv_iconst (v := 2) C.1 C.2.1 dX5_takeChoice_143 (by decide) ?_
      obtain ⟨t151, et151⟩ : ∃ z, z = uS t150 5 6 0 2 := ⟨_, rfl⟩
      refine C_put C hW 5 rfl hin5 tyX5 tyX5_ok nmX5 hKS.k5_0 rfl 6 (by decide) rfl rfl rfl (Nat.le_of_ble_eq_true rfl) f5_6 dX5_takeChoice_144 (t' := t151) (by rw [et151]; exact wr5_6) (by rw [et151]; exact ho_S (by decide)) (fun H locs hW => ?_)
      have hX := nm_st hX et151
      refine lv_iconst (v := 0) C.1 C.2.1 dX5_takeChoice_147 (by decide) ?_
      exact G_reti C hr hlk hA hW (Option.some.inj hX).symm dX5_takeChoice_148
    have hX := br_n hX c116
    refine lv_aload_n C.1 C.2.1 dX5_takeChoice_45 rfl (lv_at hl 0 rfl) ?_
    refine C_get C hW 5 rfl hin5 hKS.k5_0 rfl 1 (by decide) rfl f5_1 dX5_takeChoice_46 ?_
    refine lv_iconst (v := 0) C.1 C.2.1 dX5_takeChoice_49 (by decide) ?_
    obtain ⟨t152, et152⟩ : ∃ z, z = uS t 4 1 1 0 := ⟨_, rfl⟩
    refine C_put C hW 4 rfl hin4 tyX4 tyX4_ok nmX4 hKS.k4_1 rfl 1 (by decide) rfl rfl rfl (Nat.le_of_ble_eq_true rfl) f4_1 dX5_takeChoice_50 (t' := t152) (by rw [et152]; exact wr4_1) (by rw [et152]; exact ho_S (by decide)) (fun H locs hW => ?_)
    have hX := nm_st hX et152
    refine lv_goto (tgt := 142) C.1 C.2.1 dX5_takeChoice_53 (by decide) ?_
    refine lv_aload_n C.1 C.2.1 dX5_takeChoice_142 rfl (lv_at hl 0 rfl) ?_
    refine lv_iconst (v := 2) C.1 C.2.1 dX5_takeChoice_143 (by decide) ?_
    obtain ⟨t153, et153⟩ : ∃ z, z = uS t152 5 6 0 2 := ⟨_, rfl⟩
    refine C_put C hW 5 rfl hin5 tyX5 tyX5_ok nmX5 hKS.k5_0 rfl 6 (by decide) rfl rfl rfl (Nat.le_of_ble_eq_true rfl) f5_6 dX5_takeChoice_144 (t' := t153) (by rw [et153]; exact wr5_6) (by rw [et153]; exact ho_S (by decide)) (fun H locs hW => ?_)
    have hX := nm_st hX et153
    refine lv_iconst (v := 0) C.1 C.2.1 dX5_takeChoice_147 (by decide) ?_
    exact G_reti C hr hlk hA hW (Option.some.inj hX).symm dX5_takeChoice_148
  have hX := br_n hX c78
  refine lv_aload_n C.1 C.2.1 dX5_takeChoice_17 rfl (lv_at hl 0 rfl) ?_
  refine C_get C hW 5 rfl hin5 hKS.k5_0 rfl 1 (by decide) rfl f5_1 dX5_takeChoice_18 ?_
  refine lv_iconst (v := 1) C.1 C.2.1 dX5_takeChoice_21 (by decide) ?_
  obtain ⟨t154, et154⟩ : ∃ z, z = uS t 4 1 1 1 := ⟨_, rfl⟩
  refine C_put C hW 4 rfl hin4 tyX4 tyX4_ok nmX4 hKS.k4_1 rfl 1 (by decide) rfl rfl rfl (Nat.le_of_ble_eq_true rfl) f4_1 dX5_takeChoice_22 (t' := t154) (by rw [et154]; exact wr4_1) (by rw [et154]; exact ho_S (by decide)) (fun H locs hW => ?_)
  have hX := nm_st hX et154
  refine lv_goto (tgt := 142) C.1 C.2.1 dX5_takeChoice_25 (by decide) ?_
  refine lv_aload_n C.1 C.2.1 dX5_takeChoice_142 rfl (lv_at hl 0 rfl) ?_
  refine lv_iconst (v := 2) C.1 C.2.1 dX5_takeChoice_143 (by decide) ?_
  obtain ⟨t155, et155⟩ : ∃ z, z = uS t154 5 6 0 2 := ⟨_, rfl⟩
  refine C_put C hW 5 rfl hin5 tyX5 tyX5_ok nmX5 hKS.k5_0 rfl 6 (by decide) rfl rfl rfl (Nat.le_of_ble_eq_true rfl) f5_6 dX5_takeChoice_144 (t' := t155) (by rw [et155]; exact wr5_6) (by rw [et155]; exact ho_S (by decide)) (fun H locs hW => ?_)
  have hX := nm_st hX et155
  refine lv_iconst (v := 0) C.1 C.2.1 dX5_takeChoice_147 (by decide) ?_
  exact G_reti C hr hlk hA hW (Option.some.inj hX).symm dX5_takeChoice_148
abbrev rm_C_Reader_takeToken : Room := { frames := 7, cells := 0, slots := 0, locals := 147 }
def C_Reader_takeToken (K : List (Nat × Nat)) (t : TH) : Option (Int32 × TH) := if (tS t 5 5 0) = 0 then some (1, t) else nm (tS t 5 6 0) (fun v2 => if v2 = 0 then if (tS t 5 5 0) = 4 then some (0, t) else bnd2 (C_Reader_takeRule K t) (fun v6 t5 => some (v6, t5)) else if v2 = 1 then if (tS t 5 7 0) = 1 then bnd2 (C_Reader_takeChoice K t) (fun v10 t9 => some (v10, t9)) else if (tS t 5 7 0) = 4 then bnd2 (C_Reader_takeChoice K t) (fun v15 t14 => some (v15, t14)) else bnd2 (C_Reader_takeNumber K t) (fun v13 t12 => some (v13, t12)) else bnd2 (C_Reader_takeSemicolon K t) (fun v17 t16 => some (v17, t16)))
set_option maxHeartbeats 4000000 in
set_option maxRecDepth 100000 in
theorem c_C_Reader_takeToken {Ev : EvT} {ek ev : Nat → Nat} {tp : Nat} (l : Launch) (D : va_G) (cs : Nat → ClassId) (ad : AD) (K : List (Nat × Nat)) (hKS : KS K) (hEv : EvC Ev ek ev tp) (t : TH) (X : Int32 × TH) (hX : some X = C_Reader_takeToken K t) : cGi Ev l D (tyC cs) (wC cs ad K) yX5_takeToken wsX5_takeToken rm_C_Reader_takeToken 0 0 [.ref (ad 5 0)] t (fun r u => (r, u) = X) := by
  refine G_ini (cc := cX5_takeToken) (maxL := 1) (ret := some .int) (by decide) rfl (Nat.le_of_ble_eq_true rfl) ?_
  intro p e s m below meth c A ls C hr hlk hini hA hW hl
  have C : Cx p s m _ c cX5_takeToken 1 wsX5_takeToken RX5 := C
  have hl : lv_has ls 1 [(0, .ref (ad 5 0))] := hl
  have hin5 : ∀ w ∈ wsX50, w ∈ wsX5_takeToken := fun w hw => List.mem_cons_of_mem _ (List.mem_append_left _ (List.mem_append_left _ (List.mem_append_right _ hw)))
  have f5_5 : (Cond.fieldLink RX5 28 (TX5 5).1 (TX5 5).2.1 (TX5 5).2.2.1).before _ s = true := C.2.2.2.2 _ (List.mem_of_getElem? (i := 1) rfl)
  have f5_6 : (Cond.fieldLink RX5 31 (TX5 6).1 (TX5 6).2.1 (TX5 6).2.2.1).before _ s = true := C.2.2.2.2 _ (List.mem_of_getElem? (i := 2) rfl)
  have f5_7 : (Cond.fieldLink RX5 34 (TX5 7).1 (TX5 7).2.1 (TX5 7).2.2.1).before _ s = true := C.2.2.2.2 _ (List.mem_of_getElem? (i := 3) rfl)
  obtain ⟨H, hH⟩ : ∃ H, H = s.heap := ⟨_, rfl⟩
  obtain ⟨locs, hlo⟩ : ∃ z : List Loc, z = [] := ⟨_, rfl⟩
  have hW : GW Ev D (tyC cs) (wC cs ad K) A s t H locs := by rw [hH, hlo]; exact hW
  rw [show W p l e rm_C_Reader_takeToken s m _ below meth c s.heap [] = W p l e rm_C_Reader_takeToken s m _ below meth c H locs from by rw [hH, hlo]]
  unfold C_Reader_takeToken at hX
  refine lv_aload_n C.1 C.2.1 dX5_takeToken_0 rfl (lv_at hl 0 rfl) ?_
  refine C_get C hW 5 rfl hin5 hKS.k5_0 rfl 5 (by decide) rfl f5_5 dX5_takeToken_1 ?_
  refine lv_if_ne (tgt := 9) C.1 C.2.1 dX5_takeToken_4 (by decide) (fun c1 => ?_) (fun c1 => ?_)
  · have hX := br_n hX c1
    refine lv_aload_n C.1 C.2.1 dX5_takeToken_9 rfl (lv_at hl 0 rfl) ?_
    refine C_get C hW 5 rfl hin5 hKS.k5_0 rfl 6 (by decide) rfl f5_6 dX5_takeToken_10 ?_
    refine lv_topi (fun v2 ev2 => ?_)
    have hX := nm_st hX ev2
    by_cases c3 : v2 = 0
    · have hX := br_p hX c3
      refine lv_lookup (off := 27) (tgt := 40) C.1 C.2.1 dX5_takeToken_13 (by decide) (by rw [c3]; decide) (by decide) ?_
      refine lv_aload_n C.1 C.2.1 dX5_takeToken_40 rfl (lv_at hl 0 rfl) ?_
      refine C_get C hW 5 rfl hin5 hKS.k5_0 rfl 5 (by decide) rfl f5_5 dX5_takeToken_41 ?_
      refine lv_iconst (v := 4) C.1 C.2.1 dX5_takeToken_44 (by decide) ?_
      refine lv_icmp_ne (tgt := 52) C.1 C.2.1 dX5_takeToken_45 (by decide) (fun c4 => ?_) (fun c4 => ?_)
      · have hX := br_n hX c4
        refine lv_aload_n C.1 C.2.1 dX5_takeToken_52 rfl (lv_at hl 0 rfl) ?_
        obtain ⟨v6, t5, hq, hX⟩ := bnd2_st hX
        refine G_V0e (As := []) (rest := []) C hW (c_C_Reader_takeRule l D cs ad K hKS hEv t (v6, t5) hq.symm) (cwV 0 C.2.2.2.2 gX5_takeToken_X5_takeRule rfl rfl rfl (by decide +kernel) ⟨Nat.le_of_ble_eq_true rfl, Nat.le_of_ble_eq_true rfl⟩) (C_recv hW 5 hKS.k5_0 rfl rfl) rfl hl.1 rfl (Nat.le_of_ble_eq_true rfl) dX5_takeToken_53 (fun H locs hW => ?_)
        exact G_reti C hr hlk hA hW (Option.some.inj hX).symm dX5_takeToken_56
      have hX := br_p hX c4
      refine lv_iconst (v := 0) C.1 C.2.1 dX5_takeToken_48 (by decide) ?_
      refine lv_goto (tgt := 56) C.1 C.2.1 dX5_takeToken_49 (by decide) ?_
      exact G_reti C hr hlk hA hW (Option.some.inj hX).symm dX5_takeToken_56
    have hX := br_n hX c3
    by_cases c7 : v2 = 1
    · have hX := br_p hX c7
      refine lv_lookup (off := 44) (tgt := 57) C.1 C.2.1 dX5_takeToken_13 (by decide) (by rw [c7]; decide) (by decide) ?_
      refine lv_aload_n C.1 C.2.1 dX5_takeToken_57 rfl (lv_at hl 0 rfl) ?_
      refine C_get C hW 5 rfl hin5 hKS.k5_0 rfl 7 (by decide) rfl f5_7 dX5_takeToken_58 ?_
      refine lv_iconst (v := 1) C.1 C.2.1 dX5_takeToken_61 (by decide) ?_
      refine lv_icmp_eq (tgt := 73) C.1 C.2.1 dX5_takeToken_62 (by decide) (fun c8 => ?_) (fun c8 => ?_)
      · have hX := br_p hX c8
        refine lv_aload_n C.1 C.2.1 dX5_takeToken_73 rfl (lv_at hl 0 rfl) ?_
        obtain ⟨v10, t9, hq, hX⟩ := bnd2_st hX
        refine G_V0e (As := []) (rest := []) C hW (c_C_Reader_takeChoice l D cs ad K hKS hEv t (v10, t9) hq.symm) (cwV 0 C.2.2.2.2 gX5_takeToken_X5_takeChoice rfl rfl rfl (by decide +kernel) ⟨Nat.le_of_ble_eq_true rfl, Nat.le_of_ble_eq_true rfl⟩) (C_recv hW 5 hKS.k5_0 rfl rfl) rfl hl.1 rfl (Nat.le_of_ble_eq_true rfl) dX5_takeToken_74 (fun H locs hW => ?_)
        refine lv_goto (tgt := 84) C.1 C.2.1 dX5_takeToken_77 (by decide) ?_
        exact G_reti C hr hlk hA hW (Option.some.inj hX).symm dX5_takeToken_84
      have hX := br_n hX c8
      refine lv_aload_n C.1 C.2.1 dX5_takeToken_65 rfl (lv_at hl 0 rfl) ?_
      refine C_get C hW 5 rfl hin5 hKS.k5_0 rfl 7 (by decide) rfl f5_7 dX5_takeToken_66 ?_
      refine lv_iconst (v := 4) C.1 C.2.1 dX5_takeToken_69 (by decide) ?_
      refine lv_icmp_ne (tgt := 80) C.1 C.2.1 dX5_takeToken_70 (by decide) (fun c11 => ?_) (fun c11 => ?_)
      · have hX := br_n hX c11
        refine lv_aload_n C.1 C.2.1 dX5_takeToken_80 rfl (lv_at hl 0 rfl) ?_
        obtain ⟨v13, t12, hq, hX⟩ := bnd2_st hX
        refine G_V0e (As := []) (rest := []) C hW (c_C_Reader_takeNumber l D cs ad K hKS hEv t (v13, t12) hq.symm) (cwV 0 C.2.2.2.2 gX5_takeToken_X5_takeNumber rfl rfl rfl (by decide +kernel) ⟨Nat.le_of_ble_eq_true rfl, Nat.le_of_ble_eq_true rfl⟩) (C_recv hW 5 hKS.k5_0 rfl rfl) rfl hl.1 rfl (Nat.le_of_ble_eq_true rfl) dX5_takeToken_81 (fun H locs hW => ?_)
        exact G_reti C hr hlk hA hW (Option.some.inj hX).symm dX5_takeToken_84
      have hX := br_p hX c11
      refine lv_aload_n C.1 C.2.1 dX5_takeToken_73 rfl (lv_at hl 0 rfl) ?_
      obtain ⟨v15, t14, hq, hX⟩ := bnd2_st hX
      refine G_V0e (As := []) (rest := []) C hW (c_C_Reader_takeChoice l D cs ad K hKS hEv t (v15, t14) hq.symm) (cwV 0 C.2.2.2.2 gX5_takeToken_X5_takeChoice rfl rfl rfl (by decide +kernel) ⟨Nat.le_of_ble_eq_true rfl, Nat.le_of_ble_eq_true rfl⟩) (C_recv hW 5 hKS.k5_0 rfl rfl) rfl hl.1 rfl (Nat.le_of_ble_eq_true rfl) dX5_takeToken_74 (fun H locs hW => ?_)
      refine lv_goto (tgt := 84) C.1 C.2.1 dX5_takeToken_77 (by decide) ?_
      exact G_reti C hr hlk hA hW (Option.some.inj hX).symm dX5_takeToken_84
    have hX := br_n hX c7
    refine lv_lookup (off := 72) (tgt := 85) C.1 C.2.1 dX5_takeToken_13 (by decide) (by have g0 := ts_n (z := 0) (by decide) c3; have g1 := ts_n (z := 1) (by decide) c7; simp [Op.lookupswitch.offset, g0, Ne.symm g0, g1, Ne.symm g1]) (by decide) ?_
    refine lv_aload_n C.1 C.2.1 dX5_takeToken_85 rfl (lv_at hl 0 rfl) ?_
    obtain ⟨v17, t16, hq, hX⟩ := bnd2_st hX
    refine G_V0e (As := []) (rest := []) C hW (c_C_Reader_takeSemicolon l D cs ad K hKS hEv t (v17, t16) hq.symm) (cwV 0 C.2.2.2.2 gX5_takeToken_X5_takeSemicolon rfl rfl rfl (by decide +kernel) ⟨Nat.le_of_ble_eq_true rfl, Nat.le_of_ble_eq_true rfl⟩) (C_recv hW 5 hKS.k5_0 rfl rfl) rfl hl.1 rfl (Nat.le_of_ble_eq_true rfl) dX5_takeToken_86 (fun H locs hW => ?_)
    exact G_reti C hr hlk hA hW (Option.some.inj hX).symm dX5_takeToken_89
  have hX := br_p hX c1
  refine lv_iconst (v := 1) C.1 C.2.1 dX5_takeToken_7 (by decide) ?_
  exact G_reti C hr hlk hA hW (Option.some.inj hX).symm dX5_takeToken_8
abbrev rm_C_Reader_read : Room := { frames := 8, cells := 0, slots := 0, locals := 167 }
def C_Reader_read_L34 : Nat → List (Nat × Nat) → TH → Int32 → Option (Nat × TH × Int32 × Int32)
  | 0, _, _, _ => none
  | n + 1, K, t, x1 => if (tS t 9 1 0) < x1 then some (1, t, x1, 0) else if (tS t 5 5 0) = 4 then some (1, t, x1, 0) else bnd (C_Reader_nextToken K t) (fun t17 => bnd2 (C_Reader_takeToken K t17) (fun v19 t18 => nm (uS t18 5 2 0 v19) (fun t20 => if (tS t20 5 2 0) = 0 then nm (x1 + 1) (fun v22 => C_Reader_read_L34 n K t20 v22) else some (0, t20, x1, ((-1) - (tS t20 5 4 0))))))
set_option maxHeartbeats 4000000 in
set_option maxRecDepth 100000 in
theorem r_C_Reader_read_L34 {p : Program} {l : Launch} {e : Env} {s : State} {m : MethodId} {args : Array Value} {below : List Frame} {meth : Method} {c : Code} {Q : State → Prop} {Ev : EvT} {D : va_G} {cs : Nat → ClassId} {ad : AD} {A : Nat → Prop} {ek ev : Nat → Nat} {tp : Nat} (C : Cx p s m args c cX5_read 2 wsX5_read RX5) {K : List (Nat × Nat)} (hKS : KS K) (hEv : EvC Ev ek ev tp) : ∀ (n : Nat) (t : TH) (x1 : Int32) (H : Heap) (locs : List Loc) (ls : Array Slot) (X : Nat × TH × Int32 × Int32), some X = C_Reader_read_L34 n K t x1 → GW Ev D (tyC cs) (wC cs ad K) A s t H locs → lv_has ls 2 [(1, .int x1), (0, .ref (ad 5 0))] → (∀ (τ : TH) (z1 : Int32) (w0 : Int32) (H : Heap) (locs : List Loc) (ls : Array Slot), X = (0, τ, z1, w0) → GW Ev D (tyC cs) (wC cs ad K) A s τ H locs → lv_has ls 2 [(1, .int z1), (0, .ref (ad 5 0))] → W p l e rm_C_Reader_read s m args below meth c H locs 0 0 Q (F0 m 78 ls [.int w0])) → (∀ (τ : TH) (z1 : Int32) (w0 : Int32) (H : Heap) (locs : List Loc) (ls : Array Slot), X = (1, τ, z1, w0) → GW Ev D (tyC cs) (wC cs ad K) A s τ H locs → lv_has ls 2 [(1, .int z1), (0, .ref (ad 5 0))] → W p l e rm_C_Reader_read s m args below meth c H locs 0 0 Q (F0 m 85 ls [])) → W p l e rm_C_Reader_read s m args below meth c H locs 0 0 Q (F0 m 34 ls []) := by
  have hin5 : ∀ w ∈ wsX50, w ∈ wsX5_read := fun w hw => List.mem_cons_of_mem _ (List.mem_append_left _ (List.mem_append_left _ (List.mem_append_right _ hw)))
  have hin9 : ∀ w ∈ wsX90, w ∈ wsX5_read := fun w hw => List.mem_cons_of_mem _ (List.mem_append_left _ (List.mem_append_right _ hw))
  have f5_0 : (Cond.fieldLink RX5 40 (TX5 0).1 (TX5 0).2.1 (TX5 0).2.2.1).before _ s = true := C.2.2.2.2 _ (List.mem_of_getElem? (i := 7) rfl)
  have f5_1 : (Cond.fieldLink RX5 12 (TX5 1).1 (TX5 1).2.1 (TX5 1).2.2.1).before _ s = true := C.2.2.2.2 _ (List.mem_of_getElem? (i := 1) rfl)
  have f5_2 : (Cond.fieldLink RX5 18 (TX5 2).1 (TX5 2).2.1 (TX5 2).2.2.1).before _ s = true := C.2.2.2.2 _ (List.mem_of_getElem? (i := 5) rfl)
  have f5_3 : (Cond.fieldLink RX5 22 (TX5 3).1 (TX5 3).2.1 (TX5 3).2.2.1).before _ s = true := C.2.2.2.2 _ (List.mem_of_getElem? (i := 2) rfl)
  have f5_4 : (Cond.fieldLink RX5 25 (TX5 4).1 (TX5 4).2.1 (TX5 4).2.2.1).before _ s = true := C.2.2.2.2 _ (List.mem_of_getElem? (i := 9) rfl)
  have f5_5 : (Cond.fieldLink RX5 28 (TX5 5).1 (TX5 5).2.1 (TX5 5).2.2.1).before _ s = true := C.2.2.2.2 _ (List.mem_of_getElem? (i := 6) rfl)
  have f5_6 : (Cond.fieldLink RX5 31 (TX5 6).1 (TX5 6).2.1 (TX5 6).2.2.1).before _ s = true := C.2.2.2.2 _ (List.mem_of_getElem? (i := 3) rfl)
  have f5_8 : (Cond.fieldLink RX5 37 (TX5 8).1 (TX5 8).2.1 (TX5 8).2.2.1).before _ s = true := C.2.2.2.2 _ (List.mem_of_getElem? (i := 4) rfl)
  have f9_1 : (Cond.fieldLink RX5 47 (TX9 1).1 (TX9 1).2.1 (TX9 1).2.2.1).before _ s = true := C.2.2.2.2 _ (List.mem_of_getElem? (i := 8) rfl)
  intro n
  induction n with
  | zero =>
    intro t x1 H locs ls X hX hW hl K0 K1
    cases hX
  | succ n ih =>
    intro t x1 H locs ls X hX hW hl K0 K1
    unfold C_Reader_read_L34 at hX
    refine lv_iload_n C.1 C.2.1 dX5_read_34 rfl (lv_at hl 0 rfl) ?_
    refine lv_aload_n C.1 C.2.1 dX5_read_35 rfl (lv_at hl 1 rfl) ?_
    refine C_get C hW 5 rfl hin5 hKS.k5_0 rfl 0 (by decide) rfl f5_0 dX5_read_36 ?_
    refine C_get C hW 9 rfl hin9 hKS.k9_0 rfl 1 (by decide) rfl f9_1 dX5_read_39 ?_
    refine lv_icmp_gt (tgt := 85) C.1 C.2.1 dX5_read_42 (by decide) (fun c15 => ?_) (fun c15 => ?_)
    · have hX := br_p hX c15
      exact K1 t x1 0 H locs ls (Option.some.inj hX) hW (lv_sub hl [0, 1] rfl)
    have hX := br_n hX c15
    refine lv_aload_n C.1 C.2.1 dX5_read_45 rfl (lv_at hl 1 rfl) ?_
    refine C_get C hW 5 rfl hin5 hKS.k5_0 rfl 5 (by decide) rfl f5_5 dX5_read_46 ?_
    refine lv_iconst (v := 4) C.1 C.2.1 dX5_read_49 (by decide) ?_
    refine lv_icmp_eq (tgt := 85) C.1 C.2.1 dX5_read_50 (by decide) (fun c16 => ?_) (fun c16 => ?_)
    · have hX := br_p hX c16
      exact K1 t x1 0 H locs ls (Option.some.inj hX) hW (lv_sub hl [0, 1] rfl)
    have hX := br_n hX c16
    refine lv_aload_n C.1 C.2.1 dX5_read_53 rfl (lv_at hl 1 rfl) ?_
    obtain ⟨t17, hq, hX⟩ := bnd_st hX
    refine G_V0u (As := []) (rest := []) C hW (c_C_Reader_nextToken l D cs ad K hKS hEv t t17 hq.symm) (cwV 0 C.2.2.2.2 gX5_read_X5_nextToken rfl rfl rfl (by decide +kernel) ⟨Nat.le_of_ble_eq_true rfl, Nat.le_of_ble_eq_true rfl⟩) (C_recv hW 5 hKS.k5_0 rfl rfl) rfl hl.1 rfl (Nat.le_of_ble_eq_true rfl) dX5_read_54 (fun H locs hW => ?_)
    refine lv_aload_n C.1 C.2.1 dX5_read_57 rfl (lv_at hl 1 rfl) ?_
    refine lv_aload_n C.1 C.2.1 dX5_read_58 rfl (lv_at hl 1 rfl) ?_
    obtain ⟨v19, t18, hq, hX⟩ := bnd2_st hX
    refine G_V0e (As := []) (rest := [.ref (ad 5 0)]) C hW (c_C_Reader_takeToken l D cs ad K hKS hEv t17 (v19, t18) hq.symm) (cwV 0 C.2.2.2.2 gX5_read_X5_takeToken rfl rfl rfl (by decide +kernel) ⟨Nat.le_of_ble_eq_true rfl, Nat.le_of_ble_eq_true rfl⟩) (C_recv hW 5 hKS.k5_0 rfl rfl) rfl hl.1 rfl (Nat.le_of_ble_eq_true rfl) dX5_read_59 (fun H locs hW => ?_)
    obtain ⟨t20, et20⟩ : ∃ z, z = uS t18 5 2 0 v19 := ⟨_, rfl⟩
    refine C_put C hW 5 rfl hin5 tyX5 tyX5_ok nmX5 hKS.k5_0 rfl 2 (by decide) rfl rfl rfl (Nat.le_of_ble_eq_true rfl) f5_2 dX5_read_62 (t' := t20) (by rw [et20]; exact wr5_2) (by rw [et20]; exact ho_S (by decide)) (fun H locs hW => ?_)
    have hX := nm_st hX et20
    refine lv_aload_n C.1 C.2.1 dX5_read_65 rfl (lv_at hl 1 rfl) ?_
    refine C_get C hW 5 rfl hin5 hKS.k5_0 rfl 2 (by decide) rfl f5_2 dX5_read_66 ?_
    refine lv_if_eq (tgt := 79) C.1 C.2.1 dX5_read_69 (by decide) (fun c21 => ?_) (fun c21 => ?_)
    · have hX := br_p hX c21
      obtain ⟨v22, ev22⟩ : ∃ z : Int32, z = x1 + 1 := ⟨_, rfl⟩
      have hX := nm_st hX ev22
      refine lv_iinc (v := v22) (lv' := [(1, .int v22), (0, .ref (ad 5 0))]) C.1 C.2.1 dX5_read_79 hl (k := 0) rfl (by rw [ev22]; rfl) (by decide) rfl (fun ls hl => ?_)
      refine lv_goto (tgt := 34) C.1 C.2.1 dX5_read_82 (by decide) ?_
      exact ih t20 v22 H locs ls X hX hW (lv_sub hl [0, 1] rfl) K0 K1
    have hX := br_n hX c21
    refine lv_iconst (v := -1) C.1 C.2.1 dX5_read_72 (by decide) ?_
    refine lv_aload_n C.1 C.2.1 dX5_read_73 rfl (lv_at hl 1 rfl) ?_
    refine C_get C hW 5 rfl hin5 hKS.k5_0 rfl 4 (by decide) rfl f5_4 dX5_read_74 ?_
    refine lv_isub C.1 C.2.1 dX5_read_77 ?_
    exact K0 t20 x1 ((-1) - (tS t20 5 4 0)) H locs ls (Option.some.inj hX) hW (lv_sub hl [0, 1] rfl)
def C_Reader_read (K : List (Nat × Nat)) (t : TH) : Option (Int32 × TH) := bnd (C_Law_forget K t) (fun t1 => nm (uS t1 5 3 0 0) (fun t2 => nm (uS t2 5 6 0 0) (fun t3 => nm (uS t3 5 8 0 0) (fun t4 => nm (uS t4 5 2 0 0) (fun t5 => nm (uS t5 5 5 0 0) (fun t6 => bnd (C_Reader_read_L34 100000 K t6 0) (fun q => nm2 q (fun j q => nm2 q (fun t23 q => nm2 q (fun v24 v25 => if j = 0 then some (v25, t23) else if j = 1 then some (tS t23 4 5 1, t23) else none))))))))))
set_option maxHeartbeats 4000000 in
set_option maxRecDepth 100000 in
theorem c_C_Reader_read {Ev : EvT} {ek ev : Nat → Nat} {tp : Nat} (l : Launch) (D : va_G) (cs : Nat → ClassId) (ad : AD) (K : List (Nat × Nat)) (hKS : KS K) (hEv : EvC Ev ek ev tp) (t : TH) (X : Int32 × TH) (hX : some X = C_Reader_read K t) : cGi Ev l D (tyC cs) (wC cs ad K) yX5_read wsX5_read rm_C_Reader_read 0 0 [.ref (ad 5 0)] t (fun r u => (r, u) = X) := by
  refine G_ini (cc := cX5_read) (maxL := 2) (ret := some .int) (by decide) rfl (Nat.le_of_ble_eq_true rfl) ?_
  intro p e s m below meth c A ls C hr hlk hini hA hW hl
  have C : Cx p s m _ c cX5_read 2 wsX5_read RX5 := C
  have hl : lv_has ls 2 [(0, .ref (ad 5 0))] := hl
  have hin4 : ∀ w ∈ wsX40, w ∈ wsX5_read := fun w hw => List.mem_cons_of_mem _ (List.mem_append_right _ hw)
  have hin5 : ∀ w ∈ wsX50, w ∈ wsX5_read := fun w hw => List.mem_cons_of_mem _ (List.mem_append_left _ (List.mem_append_left _ (List.mem_append_right _ hw)))
  have hin9 : ∀ w ∈ wsX90, w ∈ wsX5_read := fun w hw => List.mem_cons_of_mem _ (List.mem_append_left _ (List.mem_append_right _ hw))
  have f4_5 : (Cond.fieldLink RX5 59 (TX4 5).1 (TX4 5).2.1 (TX4 5).2.2.1).before _ s = true := C.2.2.2.2 _ (List.mem_of_getElem? (i := 10) rfl)
  have f5_0 : (Cond.fieldLink RX5 40 (TX5 0).1 (TX5 0).2.1 (TX5 0).2.2.1).before _ s = true := C.2.2.2.2 _ (List.mem_of_getElem? (i := 7) rfl)
  have f5_1 : (Cond.fieldLink RX5 12 (TX5 1).1 (TX5 1).2.1 (TX5 1).2.2.1).before _ s = true := C.2.2.2.2 _ (List.mem_of_getElem? (i := 1) rfl)
  have f5_2 : (Cond.fieldLink RX5 18 (TX5 2).1 (TX5 2).2.1 (TX5 2).2.2.1).before _ s = true := C.2.2.2.2 _ (List.mem_of_getElem? (i := 5) rfl)
  have f5_3 : (Cond.fieldLink RX5 22 (TX5 3).1 (TX5 3).2.1 (TX5 3).2.2.1).before _ s = true := C.2.2.2.2 _ (List.mem_of_getElem? (i := 2) rfl)
  have f5_4 : (Cond.fieldLink RX5 25 (TX5 4).1 (TX5 4).2.1 (TX5 4).2.2.1).before _ s = true := C.2.2.2.2 _ (List.mem_of_getElem? (i := 9) rfl)
  have f5_5 : (Cond.fieldLink RX5 28 (TX5 5).1 (TX5 5).2.1 (TX5 5).2.2.1).before _ s = true := C.2.2.2.2 _ (List.mem_of_getElem? (i := 6) rfl)
  have f5_6 : (Cond.fieldLink RX5 31 (TX5 6).1 (TX5 6).2.1 (TX5 6).2.2.1).before _ s = true := C.2.2.2.2 _ (List.mem_of_getElem? (i := 3) rfl)
  have f5_8 : (Cond.fieldLink RX5 37 (TX5 8).1 (TX5 8).2.1 (TX5 8).2.2.1).before _ s = true := C.2.2.2.2 _ (List.mem_of_getElem? (i := 4) rfl)
  have f9_1 : (Cond.fieldLink RX5 47 (TX9 1).1 (TX9 1).2.1 (TX9 1).2.2.1).before _ s = true := C.2.2.2.2 _ (List.mem_of_getElem? (i := 8) rfl)
  obtain ⟨H, hH⟩ : ∃ H, H = s.heap := ⟨_, rfl⟩
  obtain ⟨locs, hlo⟩ : ∃ z : List Loc, z = [] := ⟨_, rfl⟩
  have hW : GW Ev D (tyC cs) (wC cs ad K) A s t H locs := by rw [hH, hlo]; exact hW
  rw [show W p l e rm_C_Reader_read s m _ below meth c s.heap [] = W p l e rm_C_Reader_read s m _ below meth c H locs from by rw [hH, hlo]]
  unfold C_Reader_read at hX
  refine lv_aload_n C.1 C.2.1 dX5_read_0 rfl (lv_at hl 0 rfl) ?_
  refine C_get C hW 5 rfl hin5 hKS.k5_0 rfl 1 (by decide) rfl f5_1 dX5_read_1 ?_
  obtain ⟨t1, hq, hX⟩ := bnd_st hX
  refine G_V0u (As := []) (rest := []) C hW (c_C_Law_forget l D cs ad K hKS hEv t t1 hq.symm) (cwV 0 C.2.2.2.2 gX5_read_X4_forget rfl rfl rfl (by decide +kernel) ⟨Nat.le_of_ble_eq_true rfl, Nat.le_of_ble_eq_true rfl⟩) (C_recv hW 4 hKS.k4_1 rfl rfl) rfl hl.1 rfl (Nat.le_of_ble_eq_true rfl) dX5_read_4 (fun H locs hW => ?_)
  refine lv_aload_n C.1 C.2.1 dX5_read_7 rfl (lv_at hl 0 rfl) ?_
  refine lv_iconst (v := 0) C.1 C.2.1 dX5_read_8 (by decide) ?_
  obtain ⟨t2, et2⟩ : ∃ z, z = uS t1 5 3 0 0 := ⟨_, rfl⟩
  refine C_put C hW 5 rfl hin5 tyX5 tyX5_ok nmX5 hKS.k5_0 rfl 3 (by decide) rfl rfl rfl (Nat.le_of_ble_eq_true rfl) f5_3 dX5_read_9 (t' := t2) (by rw [et2]; exact wr5_3) (by rw [et2]; exact ho_S (by decide)) (fun H locs hW => ?_)
  have hX := nm_st hX et2
  refine lv_aload_n C.1 C.2.1 dX5_read_12 rfl (lv_at hl 0 rfl) ?_
  refine lv_iconst (v := 0) C.1 C.2.1 dX5_read_13 (by decide) ?_
  obtain ⟨t3, et3⟩ : ∃ z, z = uS t2 5 6 0 0 := ⟨_, rfl⟩
  refine C_put C hW 5 rfl hin5 tyX5 tyX5_ok nmX5 hKS.k5_0 rfl 6 (by decide) rfl rfl rfl (Nat.le_of_ble_eq_true rfl) f5_6 dX5_read_14 (t' := t3) (by rw [et3]; exact wr5_6) (by rw [et3]; exact ho_S (by decide)) (fun H locs hW => ?_)
  have hX := nm_st hX et3
  refine lv_aload_n C.1 C.2.1 dX5_read_17 rfl (lv_at hl 0 rfl) ?_
  refine lv_iconst (v := 0) C.1 C.2.1 dX5_read_18 (by decide) ?_
  obtain ⟨t4, et4⟩ : ∃ z, z = uS t3 5 8 0 0 := ⟨_, rfl⟩
  refine C_put C hW 5 rfl hin5 tyX5 tyX5_ok nmX5 hKS.k5_0 rfl 8 (by decide) rfl rfl rfl (Nat.le_of_ble_eq_true rfl) f5_8 dX5_read_19 (t' := t4) (by rw [et4]; exact wr5_8) (by rw [et4]; exact ho_S (by decide)) (fun H locs hW => ?_)
  have hX := nm_st hX et4
  refine lv_aload_n C.1 C.2.1 dX5_read_22 rfl (lv_at hl 0 rfl) ?_
  refine lv_iconst (v := 0) C.1 C.2.1 dX5_read_23 (by decide) ?_
  obtain ⟨t5, et5⟩ : ∃ z, z = uS t4 5 2 0 0 := ⟨_, rfl⟩
  refine C_put C hW 5 rfl hin5 tyX5 tyX5_ok nmX5 hKS.k5_0 rfl 2 (by decide) rfl rfl rfl (Nat.le_of_ble_eq_true rfl) f5_2 dX5_read_24 (t' := t5) (by rw [et5]; exact wr5_2) (by rw [et5]; exact ho_S (by decide)) (fun H locs hW => ?_)
  have hX := nm_st hX et5
  refine lv_aload_n C.1 C.2.1 dX5_read_27 rfl (lv_at hl 0 rfl) ?_
  refine lv_iconst (v := 0) C.1 C.2.1 dX5_read_28 (by decide) ?_
  obtain ⟨t6, et6⟩ : ∃ z, z = uS t5 5 5 0 0 := ⟨_, rfl⟩
  refine C_put C hW 5 rfl hin5 tyX5 tyX5_ok nmX5 hKS.k5_0 rfl 5 (by decide) rfl rfl rfl (Nat.le_of_ble_eq_true rfl) f5_5 dX5_read_29 (t' := t6) (by rw [et6]; exact wr5_5) (by rw [et6]; exact ho_S (by decide)) (fun H locs hW => ?_)
  have hX := nm_st hX et6
  refine lv_iconst (v := 0) C.1 C.2.1 dX5_read_32 (by decide) ?_
  refine lv_istore_n (i := 1) (lv' := [(1, .int 0), (0, .ref (ad 5 0))]) C.1 C.2.1 dX5_read_33 rfl hl (by decide) rfl (fun ls hl => ?_)
  obtain ⟨q, hq, hX⟩ := bnd_st hX
  refine r_C_Reader_read_L34 C hKS hEv 100000 t6 0 H locs ls q hq.symm hW (lv_sub hl [0, 1] rfl) ?_ ?_
  · intro t23 v24 v25 H locs ls hq hW hl
    subst hq
    have hX := nm2_st hX rfl
    have hX := nm2_st hX rfl
    have hX := nm2_st hX rfl
    have hX := br_p hX rfl
    exact G_reti C hr hlk hA hW (Option.some.inj hX).symm dX5_read_78
  intro t26 v27 v28 H locs ls hq hW hl
  subst hq
  have hX := nm2_st hX rfl
  have hX := nm2_st hX rfl
  have hX := nm2_st hX rfl
  have hX := br_n hX (by decide)
  have hX := br_p hX rfl
  refine lv_aload_n C.1 C.2.1 dX5_read_85 rfl (lv_at hl 1 rfl) ?_
  refine C_get C hW 5 rfl hin5 hKS.k5_0 rfl 1 (by decide) rfl f5_1 dX5_read_86 ?_
  refine C_get C hW 4 rfl hin4 hKS.k4_1 rfl 5 (by decide) rfl f4_5 dX5_read_89 ?_
  exact G_reti C hr hlk hA hW (Option.some.inj hX).symm dX5_read_92
