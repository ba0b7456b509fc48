theorem c_N_X10_init {Ev : EvT} (l : Launch) (D : va_G) (cs : Nat → ClassId) (h : Nat) (x1 x2 x3 : Int32) (g : Nat → Nat) (o : Option Nat) : cGv Ev l D (tyM cs) idw yX10_init wsX10_init rm_N_X10_init_r 0 0 [.ref h, .int x1, .int x2, .int x3, va_re g o] [(h, .inr (10, [.int 0, .int 0, .int 0, .null]))] (fun u => u = [(h, .inr (10, [.int x1, .int x2, .int x3, va_re g o]))]) := by
  cases o with
  | none => exact c_N_X10_init_n l D cs h x1 x2 x3
  | some j => exact c_N_X10_init_r l D cs h x1 x2 x3 (g j)

abbrev rm_C_Court_enter : Room := { frames := 2, cells := 1, slots := 10, locals := 39 }
def C_Court_enter_L32 : Nat → List (Nat × Nat) → TH → Int32 → Int32 → Nat → Int32 → Int32 → Option (Nat × Int32 × Int32 × Int32)
  | 0, _, _, _, _, _, _, _ => none
  | n + 1, K, t, x5, x4, x1, x2, x3 => if x5 < 0 then some (1, x5, x4, 0) else bnd (C_Court_claimAt K t x5) (fun v19 => opt v19 (nm (x5 + (-1)) (fun v21 => C_Court_enter_L32 n K t v21 x4 x1 x2 x3)) (fun j20 => chkP ((1, j20) ∈ K) (if (tS t 1 2 j20) = x2 then nm (tP t 1 1 j20) (fun v25 => opt v25 none (fun j26 => chkP ((7, j26) ∈ K) (chkP ((7, x1) ∈ K) (if (tS t 7 0 j26) = (tS t 7 0 x1) then some (0, x5, x4, (-1)) else nm (tS t 1 3 j20) (fun v30 => nm (x5 + (-1)) (fun v31 => C_Court_enter_L32 n K t v31 v30 x1 x2 x3)))))) else nm (x5 + (-1)) (fun v24 => C_Court_enter_L32 n K t v24 x4 x1 x2 x3))))
set_option maxHeartbeats 4000000 in
set_option maxRecDepth 100000 in
theorem r_C_Court_enter_L32 {p : Program} {l : Launch} {e : Env} {s : State} {m : MethodId} {args : Array Value} {below : List Frame} {meth : Method} {c : Code} {Q : State → Prop} {Ev : EvT} {D : va_G} {cs : Nat → ClassId} {ad : AD} {A : Nat → Prop} {ek ev : Nat → Nat} {tp : Nat} (C : Cx p s m args c cX2_enter 7 wsX2_enter RX2) {K : List (Nat × Nat)} (hKS : KS K) (hEv : EvC Ev ek ev tp) : ∀ (n : Nat) (t : TH) (x5 : Int32) (x4 : Int32) (x1 : Nat) (x2 : Int32) (x3 : Int32) (H : Heap) (locs : List Loc) (ls : Array Slot) (X : Nat × Int32 × Int32 × Int32), some X = C_Court_enter_L32 n K t x5 x4 x1 x2 x3 → GW Ev D (tyC cs) (wC cs ad K) A s t H locs → lv_has ls 7 [(5, .int x5), (4, .int x4), (0, .ref (ad 2 0)), (1, .ref (ad 7 x1)), (2, .int x2), (3, .int x3)] → (∀ (z5 : Int32) (z4 : Int32) (w0 : Int32) (H : Heap) (locs : List Loc) (ls : Array Slot), X = (0, z5, z4, w0) → GW Ev D (tyC cs) (wC cs ad K) A s t H locs → lv_has ls 7 [(5, .int z5), (4, .int z4), (0, .ref (ad 2 0)), (1, .ref (ad 7 x1)), (2, .int x2), (3, .int x3)] → W p l e rm_C_Court_enter s m args below meth c H locs 0 0 Q (F0 m 75 ls [.int w0])) → (∀ (z5 : Int32) (z4 : Int32) (w0 : Int32) (H : Heap) (locs : List Loc) (ls : Array Slot), X = (1, z5, z4, w0) → GW Ev D (tyC cs) (wC cs ad K) A s t H locs → lv_has ls 7 [(5, .int z5), (4, .int z4), (0, .ref (ad 2 0)), (1, .ref (ad 7 x1)), (2, .int x2), (3, .int x3)] → W p l e rm_C_Court_enter s m args below meth c H locs 0 0 Q (F0 m 89 ls [])) → W p l e rm_C_Court_enter s m args below meth c H locs 0 0 Q (F0 m 32 ls []) := by
  have hin1 : ∀ w ∈ wsX10, w ∈ wsX2_enter := fun w hw => List.mem_cons_of_mem _ (List.mem_append_left _ (List.mem_append_right _ hw))
  have hin2 : ∀ w ∈ wsX20, w ∈ wsX2_enter := fun w hw => List.mem_cons_of_mem _ (List.mem_append_left _ (List.mem_append_left _ (List.mem_append_right _ hw)))
  have hin7 : ∀ w ∈ wsX70, w ∈ wsX2_enter := fun w hw => List.mem_cons_of_mem _ (List.mem_append_right _ hw)
  have f1_1 : (Cond.fieldLink RX2 41 (TX1 1).1 (TX1 1).2.1 (TX1 1).2.2.1).before _ s = true := C.2.2.2.2 _ (List.mem_of_getElem? (i := 4) rfl)
  have f1_2 : (Cond.fieldLink RX2 38 (TX1 2).1 (TX1 2).2.1 (TX1 2).2.2.1).before _ s = true := C.2.2.2.2 _ (List.mem_of_getElem? (i := 3) rfl)
  have f1_3 : (Cond.fieldLink RX2 50 (TX1 3).1 (TX1 3).2.1 (TX1 3).2.2.1).before _ s = true := C.2.2.2.2 _ (List.mem_of_getElem? (i := 6) rfl)
  have f2_1 : (Cond.fieldLink RX2 11 (TX2 1).1 (TX2 1).2.1 (TX2 1).2.2.1).before _ s = true := C.2.2.2.2 _ (List.mem_of_getElem? (i := 2) rfl)
  have f2_3 : (Cond.fieldLink RX2 20 (TX2 3).1 (TX2 3).2.1 (TX2 3).2.2.1).before _ s = true := C.2.2.2.2 _ (List.mem_of_getElem? (i := 1) rfl)
  have f7_0 : (Cond.fieldLink RX2 45 (TX7 0).1 (TX7 0).2.1 (TX7 0).2.2.1).before _ s = true := C.2.2.2.2 _ (List.mem_of_getElem? (i := 5) rfl)
  intro n
  induction n with
  | zero =>
    intro t x5 x4 x1 x2 x3 H locs ls X hX hW hl K0 K1
    cases hX
  | succ n ih =>
    intro t x5 x4 x1 x2 x3 H locs ls X hX hW hl K0 K1
    unfold C_Court_enter_L32 at hX
    refine lv_iload C.1 C.2.1 dX2_enter_32 (lv_at hl 0 rfl) ?_
    refine lv_if_lt (tgt := 89) C.1 C.2.1 dX2_enter_34 (by decide) (fun c18 => ?_) (fun c18 => ?_)
    · have hX := br_p hX c18
      exact K1 x5 x4 0 H locs ls (Option.some.inj hX) hW (lv_sub hl [0, 1, 2, 3, 4, 5] rfl)
    have hX := br_n hX c18
    refine lv_aload_n C.1 C.2.1 dX2_enter_37 rfl (lv_at hl 2 rfl) ?_
    refine lv_iload C.1 C.2.1 dX2_enter_38 (lv_at hl 0 rfl) ?_
    obtain ⟨v19, hq, hX⟩ := bnd_st hX
    refine G_V0r (As := [.int x5]) (rest := []) C hW (c_C_Court_claimAt l D cs ad K hKS hEv t x5 v19 hq.symm) (cwV 1 C.2.2.2.2 gX2_enter_X2_claimAt rfl rfl rfl (by decide +kernel) ⟨Nat.le_of_ble_eq_true rfl, Nat.le_of_ble_eq_true rfl⟩) (C_recv hW 2 hKS.k2_0 rfl rfl) rfl hl.1 rfl (Nat.le_of_ble_eq_true rfl) dX2_enter_40 (fun H locs hW => ?_)
    refine lv_astoreQ (i := 6) (lv' := [(6, va_re (ad 1) v19), (5, .int x5), (4, .int x4), (0, .ref (ad 2 0)), (1, .ref (ad 7 x1)), (2, .int x2), (3, .int x3)]) C.1 C.2.1 dX2_enter_43 hl (by decide) rfl (fun ls hl => ?_)
    refine lv_aloadQ C.1 C.2.1 dX2_enter_45 (lv_at hl 0 rfl) ?_
    refine lv_ifnullQ (tgt := 83) C.1 C.2.1 dX2_enter_47 (by decide) (fun hj20 => ?_) (fun j20 hj20 => ?_)
    · have hX := opt_n hX hj20
      obtain ⟨v21, ev21⟩ : ∃ z : Int32, z = x5 + (-1) := ⟨_, rfl⟩
      have hX := nm_st hX ev21
      refine lv_iinc (v := v21) (lv' := [(5, .int v21), (6, va_re (ad 1) v19), (4, .int x4), (0, .ref (ad 2 0)), (1, .ref (ad 7 x1)), (2, .int x2), (3, .int x3)]) C.1 C.2.1 dX2_enter_83 hl (k := 1) rfl (by rw [ev21]; rfl) (by decide) rfl (fun ls hl => ?_)
      refine lv_goto (tgt := 32) C.1 C.2.1 dX2_enter_86 (by decide) ?_
      exact ih t v21 x4 x1 x2 x3 H locs ls X hX hW (lv_sub hl [0, 2, 3, 4, 5, 6] rfl) K0 K1
    have hX := opt_s hX hj20
    refine lv_aloadQ C.1 C.2.1 dX2_enter_50 (lv_at hl 0 rfl) ?_
    refine lv_topq hj20 ?_
    obtain ⟨hk22, hX⟩ := chkP_st hX
    refine C_get C hW 1 rfl hin1 hk22 rfl 2 (by decide) rfl f1_2 dX2_enter_52 ?_
    refine lv_iload_n C.1 C.2.1 dX2_enter_55 rfl (lv_at hl 5 rfl) ?_
    refine lv_icmp_ne (tgt := 83) C.1 C.2.1 dX2_enter_56 (by decide) (fun c23 => ?_) (fun c23 => ?_)
    · have hX := br_n hX c23
      obtain ⟨v24, ev24⟩ : ∃ z : Int32, z = x5 + (-1) := ⟨_, rfl⟩
      have hX := nm_st hX ev24
      refine lv_iinc (v := v24) (lv' := [(5, .int v24), (6, va_re (ad 1) v19), (4, .int x4), (0, .ref (ad 2 0)), (1, .ref (ad 7 x1)), (2, .int x2), (3, .int x3)]) C.1 C.2.1 dX2_enter_83 hl (k := 1) rfl (by rw [ev24]; rfl) (by decide) rfl (fun ls hl => ?_)
      refine lv_goto (tgt := 32) C.1 C.2.1 dX2_enter_86 (by decide) ?_
      exact ih t v24 x4 x1 x2 x3 H locs ls X hX hW (lv_sub hl [0, 2, 3, 4, 5, 6] rfl) K0 K1
    have hX := br_p hX c23
    refine lv_aloadQ C.1 C.2.1 dX2_enter_59 (lv_at hl 0 rfl) ?_
    refine lv_topq hj20 ?_
    refine C_get C hW 1 rfl hin1 hk22 rfl 1 (by decide) rfl f1_1 dX2_enter_61 ?_
    refine lv_topo (fun v25 ev25 => ?_)
    have hX := nm_st hX ev25
    obtain ⟨j26, hj26, hX⟩ := nn_st hX
    refine lv_topq hj26 ?_
    obtain ⟨hk27, hX⟩ := chkP_st hX
    refine C_get C hW 7 rfl hin7 hk27 rfl 0 (by decide) rfl f7_0 dX2_enter_64 ?_
    refine lv_aload_n C.1 C.2.1 dX2_enter_67 rfl (lv_at hl 4 rfl) ?_
    obtain ⟨hk28, hX⟩ := chkP_st hX
    refine C_get C hW 7 rfl hin7 hk28 rfl 0 (by decide) rfl f7_0 dX2_enter_68 ?_
    refine lv_icmp_ne (tgt := 76) C.1 C.2.1 dX2_enter_71 (by decide) (fun c29 => ?_) (fun c29 => ?_)
    · have hX := br_n hX c29
      refine lv_aloadQ C.1 C.2.1 dX2_enter_76 (lv_at hl 0 rfl) ?_
      refine lv_topq hj20 ?_
      refine C_get C hW 1 rfl hin1 hk22 rfl 3 (by decide) rfl f1_3 dX2_enter_78 ?_
      refine lv_topi (fun v30 ev30 => ?_)
      have hX := nm_st hX ev30
      refine lv_istore (i := 4) (lv' := [(4, .int v30), (6, va_re (ad 1) v19), (5, .int x5), (0, .ref (ad 2 0)), (1, .ref (ad 7 x1)), (2, .int x2), (3, .int x3)]) C.1 C.2.1 dX2_enter_81 hl (by decide) rfl (fun ls hl => ?_)
      obtain ⟨v31, ev31⟩ : ∃ z : Int32, z = x5 + (-1) := ⟨_, rfl⟩
      have hX := nm_st hX ev31
      refine lv_iinc (v := v31) (lv' := [(5, .int v31), (4, .int v30), (6, va_re (ad 1) v19), (0, .ref (ad 2 0)), (1, .ref (ad 7 x1)), (2, .int x2), (3, .int x3)]) C.1 C.2.1 dX2_enter_83 hl (k := 2) rfl (by rw [ev31]; rfl) (by decide) rfl (fun ls hl => ?_)
      refine lv_goto (tgt := 32) C.1 C.2.1 dX2_enter_86 (by decide) ?_
      exact ih t v31 v30 x1 x2 x3 H locs ls X hX hW (lv_sub hl [0, 1, 3, 4, 5, 6] rfl) K0 K1
    have hX := br_p hX c29
    refine lv_iconst (v := -1) C.1 C.2.1 dX2_enter_74 (by decide) ?_
    exact K0 x5 x4 (-1) H locs ls (Option.some.inj hX) hW (lv_sub hl [1, 2, 3, 4, 5, 6] rfl)
def C_Court_enter (K : List (Nat × Nat)) (t : TH) (x1 : Nat) (x2 : Int32) (x3 : Int32) : Option (Int32 × List (Nat × Nat) × TH) := if (tS t 2 3 0) < 0 then some ((-1), K, t) else if (tS t 2 3 0) < (nI (tN t 16 0)) then nm ((tS t 2 3 0) - 1) (fun v3 => bnd (C_Court_enter_L32 100000 K t v3 x3 x1 x2 x3) (fun q => nm2 q (fun j q => nm2 q (fun v32 q => nm2 q (fun v33 v34 => if j = 0 then some (v34, K, t) else if j = 1 then nm (tS t 2 3 0) (fun v38 => nm (mkClaim t (tS t 2 3 0).toNatClampNeg v38 x1 x2 x3 (x3 - v33)) (fun t1 => chkI v38 (tN t1 16 0) (nm (uP t1 16 0 v38.toNatClampNeg (some (tS t 2 3 0).toNatClampNeg)) (fun t2 => nm (uS t2 2 3 0 (tS t2 2 3 0 + 1)) (fun t3 => some (v38, (1, (tS t 2 3 0).toNatClampNeg) :: K, t3)))))) else none))))) else some ((-1), K, t)
set_option maxHeartbeats 4000000 in
set_option maxRecDepth 100000 in
theorem c_C_Court_enter {Ev : EvT} {ek ev : Nat → Nat} {tp : Nat} (l : Launch) (D : va_G) (cs : Nat → ClassId) (ad : AD) (K : List (Nat × Nat)) (hKS : KS K) (hEv : EvC Ev ek ev tp) (t : TH) (x1 : Nat) (x2 : Int32) (x3 : Int32) (X : Int32 × List (Nat × Nat) × TH) (hfr : ∀ n, n = (tS t 2 3 0).toNatClampNeg → (1, n) ∉ K ∧ ∀ j e, tP t 16 j e ≠ some n) (hX : some X = C_Court_enter K t x1 x2 x3) : cGi Ev l D (tyC cs) (wA cs) yX2_enter wsX2_enter rm_C_Court_enter 1 10 [.ref (ad 2 0), .ref (ad 7 x1), .int x2, .int x3] (ad, K, t) (fun r u => extA ad u.1 K ∧ (r, u.2) = X) := by
  refine G_ini (cc := cX2_enter) (maxL := 7) (ret := some .int) (by decide) rfl (Nat.le_of_ble_eq_true rfl) ?_
  intro p e s m below meth c A ls C hr hlk hini hA hW hl
  have C : Cx p s m _ c cX2_enter 7 wsX2_enter RX2 := C
  have hl : lv_has ls 7 [(0, .ref (ad 2 0)), (1, .ref (ad 7 x1)), (2, .int x2), (3, .int x3)] := hl
  have hin1 : ∀ w ∈ wsX10, w ∈ wsX2_enter := fun w hw => List.mem_cons_of_mem _ (List.mem_append_left _ (List.mem_append_right _ hw))
  have hin2 : ∀ w ∈ wsX20, w ∈ wsX2_enter := fun w hw => List.mem_cons_of_mem _ (List.mem_append_left _ (List.mem_append_left _ (List.mem_append_right _ hw)))
  have hin7 : ∀ w ∈ wsX70, w ∈ wsX2_enter := fun w hw => List.mem_cons_of_mem _ (List.mem_append_right _ hw)
  have f1_1 : (Cond.fieldLink RX2 41 (TX1 1).1 (TX1 1).2.1 (TX1 1).2.2.1).before _ s = true := C.2.2.2.2 _ (List.mem_of_getElem? (i := 4) rfl)
  have f1_2 : (Cond.fieldLink RX2 38 (TX1 2).1 (TX1 2).2.1 (TX1 2).2.2.1).before _ s = true := C.2.2.2.2 _ (List.mem_of_getElem? (i := 3) rfl)
  have f1_3 : (Cond.fieldLink RX2 50 (TX1 3).1 (TX1 3).2.1 (TX1 3).2.2.1).before _ s = true := C.2.2.2.2 _ (List.mem_of_getElem? (i := 6) rfl)
  have f2_1 : (Cond.fieldLink RX2 11 (TX2 1).1 (TX2 1).2.1 (TX2 1).2.2.1).before _ s = true := C.2.2.2.2 _ (List.mem_of_getElem? (i := 2) rfl)
  have f2_3 : (Cond.fieldLink RX2 20 (TX2 3).1 (TX2 3).2.1 (TX2 3).2.2.1).before _ s = true := C.2.2.2.2 _ (List.mem_of_getElem? (i := 1) rfl)
  have f7_0 : (Cond.fieldLink RX2 45 (TX7 0).1 (TX7 0).2.1 (TX7 0).2.2.1).before _ s = true := C.2.2.2.2 _ (List.mem_of_getElem? (i := 5) rfl)
  obtain ⟨H, hH⟩ : ∃ H, H = s.heap := ⟨_, rfl⟩
  obtain ⟨locs, hlo⟩ : ∃ z : List Loc, z = [] := ⟨_, rfl⟩
  have hW : GW Ev D (tyC cs) (wC cs ad K) A s t H locs := by rw [hH, hlo]; exact hW
  rw [show W p l e rm_C_Court_enter s m _ below meth c s.heap [] = W p l e rm_C_Court_enter s m _ below meth c H locs from by rw [hH, hlo]]
  unfold C_Court_enter at hX
  refine lv_aload_n C.1 C.2.1 dX2_enter_0 rfl (lv_at hl 0 rfl) ?_
  refine C_get C hW 2 rfl hin2 hKS.k2_0 rfl 3 (by decide) rfl f2_3 dX2_enter_1 ?_
  refine lv_if_lt (tgt := 19) C.1 C.2.1 dX2_enter_4 (by decide) (fun c1 => ?_) (fun c1 => ?_)
  · have hX := br_p hX c1
    refine lv_iconst (v := -1) C.1 C.2.1 dX2_enter_19 (by decide) ?_
    refine W.widen (k := 1) (n := 10) (Nat.zero_le _) (Nat.zero_le _) ?_
    exact G_reti C hr hlk hA (show GW Ev D (tyC cs) (wA cs) A s (ad, K, t) H locs from hW) ⟨extA_rf _ _, (Option.some.inj hX).symm⟩ dX2_enter_20
  have hX := br_n hX c1
  refine lv_aload_n C.1 C.2.1 dX2_enter_7 rfl (lv_at hl 0 rfl) ?_
  refine C_get C hW 2 rfl hin2 hKS.k2_0 rfl 3 (by decide) rfl f2_3 dX2_enter_8 ?_
  refine lv_aload_n C.1 C.2.1 dX2_enter_11 rfl (lv_at hl 0 rfl) ?_
  refine C_get C hW 2 rfl hin2 hKS.k2_0 rfl 1 (by decide) rfl f2_1 dX2_enter_12 ?_
  refine C_alen C hW hKS.k16_0 rfl 5 rfl dX2_enter_15 ?_
  refine lv_icmp_lt (tgt := 21) C.1 C.2.1 dX2_enter_16 (by decide) (fun c2 => ?_) (fun c2 => ?_)
  · have hX := br_p hX c2
    refine lv_iload_n C.1 C.2.1 dX2_enter_21 rfl (lv_at hl 3 rfl) ?_
    refine lv_istore (i := 4) (lv' := [(4, .int x3), (0, .ref (ad 2 0)), (1, .ref (ad 7 x1)), (2, .int x2), (3, .int x3)]) C.1 C.2.1 dX2_enter_22 hl (by decide) rfl (fun ls hl => ?_)
    refine lv_aload_n C.1 C.2.1 dX2_enter_24 rfl (lv_at hl 1 rfl) ?_
    refine C_get C hW 2 rfl hin2 hKS.k2_0 rfl 3 (by decide) rfl f2_3 dX2_enter_25 ?_
    refine lv_iconst (v := 1) C.1 C.2.1 dX2_enter_28 (by decide) ?_
    refine lv_isub C.1 C.2.1 dX2_enter_29 ?_
    refine lv_topi (fun v3 ev3 => ?_)
    have hX := nm_st hX ev3
    refine lv_istore (i := 5) (lv' := [(5, .int v3), (4, .int x3), (0, .ref (ad 2 0)), (1, .ref (ad 7 x1)), (2, .int x2), (3, .int x3)]) C.1 C.2.1 dX2_enter_30 hl (by decide) rfl (fun ls hl => ?_)
    obtain ⟨q, hq, hX⟩ := bnd_st hX
    refine r_C_Court_enter_L32 C hKS hEv 100000 t v3 x3 x1 x2 x3 H locs ls q hq.symm hW (lv_sub hl [0, 1, 2, 3, 4, 5] rfl) ?_ ?_
    · intro v32 v33 v34 H locs ls hq hW hl
      subst hq
      have hX := nm2_st hX rfl
      have hX := nm2_st hX rfl
      have hX := nm2_st hX rfl
      have hX := br_p hX rfl
      refine W.widen (k := 1) (n := 10) (Nat.zero_le _) (Nat.zero_le _) ?_
      exact G_reti C hr hlk hA (show GW Ev D (tyC cs) (wA cs) A s (ad, K, t) H locs from hW) ⟨extA_rf _ _, (Option.some.inj hX).symm⟩ dX2_enter_75
    intro v35 v36 v37 H locs ls hq hW hl
    subst hq
    have hX := nm2_st hX rfl
    have hX := nm2_st hX rfl
    have hX := nm2_st hX rfl
    have hX := br_n hX (by decide)
    have hX := br_p hX rfl
    refine lv_aload_n C.1 C.2.1 dX2_enter_89 rfl (lv_at hl 2 rfl) ?_
    refine C_get C hW 2 rfl hin2 hKS.k2_0 rfl 3 (by decide) rfl f2_3 dX2_enter_90 ?_
    refine lv_topi (fun v38 ev38 => ?_)
    have hX := nm_st hX ev38
    refine lv_istore (i := 5) (lv' := [(5, .int v38), (4, .int v36), (0, .ref (ad 2 0)), (1, .ref (ad 7 x1)), (2, .int x2), (3, .int x3)]) C.1 C.2.1 dX2_enter_93 hl (by decide) rfl (fun ls hl => ?_)
    refine lv_aload_n C.1 C.2.1 dX2_enter_95 rfl (lv_at hl 2 rfl) ?_
    refine C_get C hW 2 rfl hin2 hKS.k2_0 rfl 1 (by decide) rfl f2_1 dX2_enter_96 ?_
    refine lv_iload C.1 C.2.1 dX2_enter_99 (lv_at hl 0 rfl) ?_
    obtain ⟨n, hn⟩ : ∃ z, z = (tS t 2 3 0).toNatClampNeg := ⟨_, rfl⟩
    obtain ⟨hK1, hf1⟩ := hfr n hn
    rw [← hn] at hX
    refine X_new (fs := [.int 0, .null, .int 0, .int 0, .int 0, .null, .int 0, .int 0, .int 0, .int 0]) C (GX_of hW) 1 rfl hin1 tyX1 tyX1_ok (C.2.2.2.2 _ (List.mem_of_getElem? (i := 7) rfl)) (C.2.2.2.2 _ (List.mem_of_getElem? (i := 8) rfl)) (C.2.2.2.2 _ (List.mem_of_getElem? (i := 9) rfl)) (fun j hj => by rcases (show j = 0 ∨ j = 1 ∨ j = 2 ∨ j = 3 ∨ j = 4 ∨ j = 5 ∨ j = 6 ∨ j = 7 ∨ j = 8 ∨ j = 9 by omega) with rfl | rfl | rfl | rfl | rfl | rfl | rfl | rfl | rfl | rfl <;> rfl) (Nat.le_of_ble_eq_true rfl) (Nat.le_of_ble_eq_true rfl) dX2_enter_101 (fun q H hW2 => ?_)
    refine W.widen (k := 1) (n := 10) (Nat.le_of_ble_eq_true rfl) (Nat.le_of_ble_eq_true rfl) ?_
    refine lv_dup C.1 C.2.1 dX2_enter_104 rfl ?_
    refine lv_iload C.1 C.2.1 dX2_enter_105 (lv_at hl 0 rfl) ?_
    refine lv_aload_n C.1 C.2.1 dX2_enter_107 rfl (lv_at hl 3 rfl) ?_
    refine lv_iload_n C.1 C.2.1 dX2_enter_108 rfl (lv_at hl 4 rfl) ?_
    refine lv_iload_n C.1 C.2.1 dX2_enter_109 rfl (lv_at hl 5 rfl) ?_
    refine lv_iload_n C.1 C.2.1 dX2_enter_110 rfl (lv_at hl 5 rfl) ?_
    refine lv_iload C.1 C.2.1 dX2_enter_111 (lv_at hl 1 rfl) ?_
    refine lv_isub C.1 C.2.1 dX2_enter_113 ?_
    refine X_I (w := idw) (σ := [(q, .inr (1, [.int 0, .null, .int 0, .int 0, .int 0, .null, .int 0, .int 0, .int 0, .int 0]))]) (wr := wC cs ad K t) (As := [.int v38, .ref (ad 7 x1), .int x2, .int x3, .int (x3 - v36)]) (rest := [.ref q, .int v38, .ref (ad 16 0)]) C hW2 (c_N_X1_init l D cs q v38 (ad 7 x1) x2 x3 (x3 - v36)) (cwI 5 C.2.2.2.2 gX2_enter_X1_init rfl rfl rfl (C.2.2.2.2 _ (List.mem_of_getElem? (i := 9) rfl)) (C.2.2.2.2 _ (List.mem_of_getElem? (i := 15) rfl)) (C.2.2.2.2 _ (List.mem_of_getElem? (i := 16) rfl)) rfl (by decide +kernel) ⟨(Nat.le_of_ble_eq_true rfl), (Nat.le_of_ble_eq_true rfl)⟩) rfl hl.1 rfl (Nat.le_of_ble_eq_true rfl) dX2_enter_114 ⟨(Nat.le_of_ble_eq_true rfl), (Nat.le_of_ble_eq_true rfl)⟩ (fun u H locs hu hW2 => ?_)
    subst hu
    refine W.widen (k := 1) (n := 10) (Nat.le_of_ble_eq_true rfl) (Nat.le_of_ble_eq_true rfl) ?_
    have hW := fold_claim hK1 hf1 hW2
    obtain ⟨t1, et1⟩ : ∃ z, z = mkClaim t n v38 x1 x2 x3 (x3 - v36) := ⟨_, rfl⟩
    rw [← et1] at hW
    have hX := nm_st hX et1
    have hKS2 : KS ((1, n) :: K) := KS_cons hKS (by decide)
    obtain ⟨hi, hX⟩ := chkI_st hX
    obtain ⟨t2, et2⟩ : ∃ z, z = uP t1 16 0 v38.toNatClampNeg (some n) := ⟨_, rfl⟩
    rw [show Value.ref q = Value.ref (upA ad 1 n q 1 n) from by rw [upA_self]]
    have hl : lv_has ls 7 [(5, .int v38), (4, .int v36), (0, .ref (upA ad 1 n q 2 0)), (1, .ref (upA ad 1 n q 7 x1)), (2, .int x2), (3, .int x3)] := hl
    refine C_stQ (ad := upA ad 1 n q) (k3 := 1) (f := tP t1 16 0) C hW hKS2.k16_0 rfl 5 rfl rfl List.mem_cons_self rfl hi dX2_enter_117 (t' := t2) (by rw [et2]; exact wr16) (by rw [et2]; exact hr_P (by decide)) (fun H locs hW => ?_)
    have hX := nm_st hX et2
    refine lv_aload_n C.1 C.2.1 dX2_enter_118 rfl (lv_at hl 2 rfl) ?_
    refine lv_dup C.1 C.2.1 dX2_enter_119 rfl ?_
    refine C_get C hW 2 rfl hin2 hKS2.k2_0 rfl 3 (by decide) rfl f2_3 dX2_enter_120 ?_
    refine lv_iconst (v := 1) C.1 C.2.1 dX2_enter_123 (by decide) ?_
    refine lv_iadd C.1 C.2.1 dX2_enter_124 ?_
    obtain ⟨t3, et3⟩ : ∃ z, z = uS t2 2 3 0 (tS t2 2 3 0 + 1) := ⟨_, rfl⟩
    refine C_put C hW 2 rfl hin2 tyX2 tyX2_ok nmX2 hKS2.k2_0 rfl 3 (by decide) rfl rfl rfl (Nat.le_of_ble_eq_true rfl) f2_3 dX2_enter_125 (t' := t3) (by rw [et3]; exact wr2_3) (by rw [et3]; exact ho_S (by decide)) (fun H locs hW => ?_)
    have hX := nm_st hX et3
    refine lv_iload C.1 C.2.1 dX2_enter_128 (lv_at hl 0 rfl) ?_
    exact G_reti C hr hlk hA (show GW Ev D (tyC cs) (wA cs) A s (upA ad 1 n q, (1, n) :: K, t3) H locs from hW) ⟨fun k hk => upA_ne (fun z => hK1 (z ▸ hk)), (Option.some.inj hX).symm⟩ dX2_enter_130
  have hX := br_n hX c2
  refine lv_iconst (v := -1) C.1 C.2.1 dX2_enter_19 (by decide) ?_
  refine W.widen (k := 1) (n := 10) (Nat.zero_le _) (Nat.zero_le _) ?_
  exact G_reti C hr hlk hA (show GW Ev D (tyC cs) (wA cs) A s (ad, K, t) H locs from hW) ⟨extA_rf _ _, (Option.some.inj hX).symm⟩ dX2_enter_20
abbrev rm_C_Court_hear : Room := { frames := 2, cells := 1, slots := 4, locals := 38 }
def C_Court_hear (K : List (Nat × Nat)) (t : TH) (x1 : Option Nat) (x2 : Int32) (x3 : Int32) (x4 : Int32) : Option (Int32 × List (Nat × Nat) × TH) := opt x1 (some ((-1), K, t)) (fun j1 => if (tS t 2 4 0) < 200 then chkP ((1, j1) ∈ K) (nm (tP t 1 5 j1) (fun o => nm (mkWitness t (tS t 2 4 0).toNatClampNeg x2 x3 x4 o) (fun t1 => nm (uP t1 1 5 j1 (some (tS t 2 4 0).toNatClampNeg)) (fun t2 => nm (uS t2 1 6 j1 (tS t2 1 6 j1 + 1)) (fun t3 => nm (uS t3 2 4 0 (tS t3 2 4 0 + 1)) (fun t4 => some (tS t4 1 6 j1, (10, (tS t 2 4 0).toNatClampNeg) :: K, t4))))))) else some ((-1), K, t))
set_option maxHeartbeats 4000000 in
set_option maxRecDepth 100000 in
theorem c_C_Court_hear {Ev : EvT} {ek ev : Nat → Nat} {tp : Nat} (l : Launch) (D : va_G) (cs : Nat → ClassId) (ad : AD) (K : List (Nat × Nat)) (hKS : KS K) (hEv : EvC Ev ek ev tp) (t : TH) (x1 : Option Nat) (x2 : Int32) (x3 : Int32) (x4 : Int32) (X : Int32 × List (Nat × Nat) × TH) (hfr : ∀ n, n = (tS t 2 4 0).toNatClampNeg → (10, n) ∉ K ∧ (∀ j, tP t 1 5 j ≠ some n) ∧ ∀ j, tP t 10 3 j ≠ some n) (hX : some X = C_Court_hear K t x1 x2 x3 x4) : cGi Ev l D (tyC cs) (wA cs) yX2_hear wsX2_hear rm_C_Court_hear 1 4 [.ref (ad 2 0), va_re (ad 1) x1, .int x2, .int x3, .int x4] (ad, K, t) (fun r u => extA ad u.1 K ∧ (r, u.2) = X) := by
  refine G_ini (cc := cX2_hear) (maxL := 5) (ret := some .int) (by decide) rfl (by cases x1 <;> exact Nat.le_of_ble_eq_true rfl) ?_
  intro p e s m below meth c A ls C hr hlk hini hA hW hl
  have C : Cx p s m _ c cX2_hear 5 wsX2_hear RX2 := C
  have hl : lv_has ls 5 [(0, .ref (ad 2 0)), (1, va_re (ad 1) x1), (2, .int x2), (3, .int x3), (4, .int x4)] := by cases x1 <;> exact hl
  have hin1 : ∀ w ∈ wsX10, w ∈ wsX2_hear := fun w hw => List.mem_cons_of_mem _ (List.mem_append_right _ hw)
  have hin2 : ∀ w ∈ wsX20, w ∈ wsX2_hear := fun w hw => List.mem_cons_of_mem _ (List.mem_append_left _ (List.mem_append_left _ (List.mem_append_right _ hw)))
  have hin10 : ∀ w ∈ wsX100, w ∈ wsX2_hear := fun w hw => List.mem_cons_of_mem _ (List.mem_append_left _ (List.mem_append_right _ hw))
  have f1_5 : (Cond.fieldLink RX2 58 (TX1 5).1 (TX1 5).2.1 (TX1 5).2.2.1).before _ s = true := C.2.2.2.2 _ (List.mem_of_getElem? (i := 5) rfl)
  have f1_6 : (Cond.fieldLink RX2 65 (TX1 6).1 (TX1 6).2.1 (TX1 6).2.2.1).before _ s = true := C.2.2.2.2 _ (List.mem_of_getElem? (i := 6) rfl)
  have f2_4 : (Cond.fieldLink RX2 24 (TX2 4).1 (TX2 4).2.1 (TX2 4).2.2.1).before _ s = true := C.2.2.2.2 _ (List.mem_of_getElem? (i := 1) rfl)
  obtain ⟨H, hH⟩ : ∃ H, H = s.heap := ⟨_, rfl⟩
  obtain ⟨locs, hlo⟩ : ∃ z : List Loc, z = [] := ⟨_, rfl⟩
  have hW : GW Ev D (tyC cs) (wC cs ad K) A s t H locs := by rw [hH, hlo]; exact hW
  rw [show W p l e rm_C_Court_hear s m _ below meth c s.heap [] = W p l e rm_C_Court_hear s m _ below meth c H locs from by rw [hH, hlo]]
  unfold C_Court_hear at hX
  refine lv_aload_nQ C.1 C.2.1 dX2_hear_0 rfl (lv_at hl 1 rfl) ?_
  refine lv_ifnullQ (tgt := 14) C.1 C.2.1 dX2_hear_1 (by decide) (fun hj1 => ?_) (fun j1 hj1 => ?_)
  · have hX := opt_n hX hj1
    refine lv_iconst (v := -1) C.1 C.2.1 dX2_hear_14 (by decide) ?_
    refine W.widen (k := 1) (n := 4) (Nat.zero_le _) (Nat.zero_le _) ?_
    exact G_reti C hr hlk hA (show GW Ev D (tyC cs) (wA cs) A s (ad, K, t) H locs from hW) ⟨extA_rf _ _, (Option.some.inj hX).symm⟩ dX2_hear_15
  have hX := opt_s hX hj1
  refine lv_aload_n C.1 C.2.1 dX2_hear_4 rfl (lv_at hl 0 rfl) ?_
  refine C_get C hW 2 rfl hin2 hKS.k2_0 rfl 4 (by decide) rfl f2_4 dX2_hear_5 ?_
  refine lv_sipush (v := 200) C.1 C.2.1 dX2_hear_8 (by decide) ?_
  refine lv_icmp_lt (tgt := 16) C.1 C.2.1 dX2_hear_11 (by decide) (fun c2 => ?_) (fun c2 => ?_)
  · have hX := br_p hX c2
    refine lv_aload_nQ C.1 C.2.1 dX2_hear_16 rfl (lv_at hl 1 rfl) ?_
    obtain ⟨n, hn⟩ : ∃ z, z = (tS t 2 4 0).toNatClampNeg := ⟨_, rfl⟩
    obtain ⟨hK1, hf1, hf2⟩ := hfr n hn
    rw [← hn] at hX
    obtain ⟨hkj, hX⟩ := chkP_st hX
    refine X_new (fs := [.int 0, .int 0, .int 0, .null]) C (GX_of hW) 10 rfl hin10 tyX10 tyX10_ok (C.2.2.2.2 _ (List.mem_of_getElem? (i := 2) rfl)) (C.2.2.2.2 _ (List.mem_of_getElem? (i := 3) rfl)) (C.2.2.2.2 _ (List.mem_of_getElem? (i := 4) rfl)) (fun j hj => by rcases (show j = 0 ∨ j = 1 ∨ j = 2 ∨ j = 3 by omega) with rfl | rfl | rfl | rfl <;> rfl) (Nat.le_of_ble_eq_true rfl) (Nat.le_of_ble_eq_true rfl) dX2_hear_17 (fun q H hW2 => ?_)
    have hW : GW Ev D (tyC cs) (wC cs ad K) A s t H locs := GX_to (GX_tail hW2)
    refine W.widen (k := 1) (n := 4) (Nat.le_of_ble_eq_true rfl) (Nat.le_of_ble_eq_true rfl) ?_
    refine lv_dup C.1 C.2.1 dX2_hear_20 rfl ?_
    refine lv_iload_n C.1 C.2.1 dX2_hear_21 rfl (lv_at hl 2 rfl) ?_
    refine lv_iload_n C.1 C.2.1 dX2_hear_22 rfl (lv_at hl 3 rfl) ?_
    refine lv_iload C.1 C.2.1 dX2_hear_23 (lv_at hl 4 rfl) ?_
    refine lv_aload_nQ C.1 C.2.1 dX2_hear_25 rfl (lv_at hl 1 rfl) ?_
    refine lv_topq hj1 ?_
    refine C_get C hW 1 rfl hin1 hkj rfl 5 (by decide) rfl f1_5 dX2_hear_26 ?_
    refine lv_topo (fun o eo => ?_)
    have hX := nm_st hX eo
    refine X_I (w := idw) (σ := [(q, .inr (10, [.int 0, .int 0, .int 0, .null]))]) (wr := wC cs ad K t) (As := [.int x2, .int x3, .int x4, va_re (ad 10) o]) (rest := [.ref q, va_re (ad 1) x1]) C hW2 (c_N_X10_init l D cs q x2 x3 x4 (ad 10) o) (cwI 4 C.2.2.2.2 gX2_hear_X10_init rfl rfl rfl (C.2.2.2.2 _ (List.mem_of_getElem? (i := 4) rfl)) (C.2.2.2.2 _ (List.mem_of_getElem? (i := 7) rfl)) (C.2.2.2.2 _ (List.mem_of_getElem? (i := 8) rfl)) rfl (by decide +kernel) ⟨(Nat.le_of_ble_eq_true rfl), (Nat.le_of_ble_eq_true rfl)⟩) rfl hl.1 rfl (by simp only [List.map, List.sum_cons, List.sum_nil, re_cat]; exact Nat.le_of_ble_eq_true rfl) dX2_hear_29 ⟨(Nat.le_of_ble_eq_true rfl), (Nat.le_of_ble_eq_true rfl)⟩ (fun u H locs hu hW2 => ?_)
    subst hu
    refine W.widen (k := 1) (n := 4) (Nat.le_of_ble_eq_true rfl) (Nat.le_of_ble_eq_true rfl) ?_
    have hW := fold_witness hK1 hf1 hf2 (by rw [eo]; exact hf1 _) hW2
    obtain ⟨t1, et1⟩ : ∃ z, z = mkWitness t n x2 x3 x4 o := ⟨_, rfl⟩
    rw [← et1] at hW
    have hX := nm_st hX et1
    have hKS2 : KS ((10, n) :: K) := KS_cons hKS (by decide)
    have hkj2 : (1, j1) ∈ (10, n) :: K := List.mem_cons_of_mem _ hkj
    refine W.eq (g2 := F0 m 32 ls [va_re (upA ad 10 n q 10) (some n), Value.ref (upA ad 10 n q 1 j1)]) (by rw [show va_re (ad 1) x1 = Value.ref (upA ad 10 n q 1 j1) from by rw [hj1]; rfl, show Value.ref q = va_re (upA ad 10 n q 10) (some n) from by show _ = Value.ref (upA ad 10 n q 10 n); rw [upA_self]]) ?_
    have hl : lv_has ls 5 [(0, .ref (upA ad 10 n q 2 0)), (1, va_re (upA ad 10 n q 1) x1), (2, .int x2), (3, .int x3), (4, .int x4)] := hl
    obtain ⟨t2, et2⟩ : ∃ z, z = uP t1 1 5 j1 (some n) := ⟨_, rfl⟩
    refine C_put (ad := upA ad 10 n q) C hW 1 rfl hin1 tyX1 tyX1_ok nmX1 hkj2 rfl 5 (by decide) rfl (fitq1 _ _ _) (fitq2 _ _ _) (Nat.le_of_ble_eq_true rfl) f1_5 dX2_hear_32 (t' := t2) (by rw [et2]; exact wr1_5) (by rw [et2]; exact ho_P (by decide)) (fun H locs hW => ?_)
    have hX := nm_st hX et2
    refine lv_aload_nQ C.1 C.2.1 dX2_hear_35 rfl (lv_at hl 1 rfl) ?_
    refine lv_topq hj1 ?_
    refine lv_dup C.1 C.2.1 dX2_hear_36 rfl ?_
    refine C_get C hW 1 rfl hin1 hkj2 rfl 6 (by decide) rfl f1_6 dX2_hear_37 ?_
    refine lv_iconst (v := 1) C.1 C.2.1 dX2_hear_40 (by decide) ?_
    refine lv_iadd C.1 C.2.1 dX2_hear_41 ?_
    obtain ⟨t3, et3⟩ : ∃ z, z = uS t2 1 6 j1 (tS t2 1 6 j1 + 1) := ⟨_, rfl⟩
    refine C_put C hW 1 rfl hin1 tyX1 tyX1_ok nmX1 hkj2 rfl 6 (by decide) rfl rfl rfl (Nat.le_of_ble_eq_true rfl) f1_6 dX2_hear_42 (t' := t3) (by rw [et3]; exact wr1_6) (by rw [et3]; exact ho_S (by decide)) (fun H locs hW => ?_)
    have hX := nm_st hX et3
    refine lv_aload_n C.1 C.2.1 dX2_hear_45 rfl (lv_at hl 0 rfl) ?_
    refine lv_dup C.1 C.2.1 dX2_hear_46 rfl ?_
    refine C_get C hW 2 rfl hin2 hKS2.k2_0 rfl 4 (by decide) rfl f2_4 dX2_hear_47 ?_
    refine lv_iconst (v := 1) C.1 C.2.1 dX2_hear_50 (by decide) ?_
    refine lv_iadd C.1 C.2.1 dX2_hear_51 ?_
    obtain ⟨t4, et4⟩ : ∃ z, z = uS t3 2 4 0 (tS t3 2 4 0 + 1) := ⟨_, rfl⟩
    refine C_put C hW 2 rfl hin2 tyX2 tyX2_ok nmX2 hKS2.k2_0 rfl 4 (by decide) rfl rfl rfl (Nat.le_of_ble_eq_true rfl) f2_4 dX2_hear_52 (t' := t4) (by rw [et4]; exact wr2_4) (by rw [et4]; exact ho_S (by decide)) (fun H locs hW => ?_)
    have hX := nm_st hX et4
    refine lv_aload_nQ C.1 C.2.1 dX2_hear_55 rfl (lv_at hl 1 rfl) ?_
    refine lv_topq hj1 ?_
    refine C_get C hW 1 rfl hin1 hkj2 rfl 6 (by decide) rfl f1_6 dX2_hear_56 ?_
    exact G_reti C hr hlk hA (show GW Ev D (tyC cs) (wA cs) A s (upA ad 10 n q, (10, n) :: K, t4) H locs from hW) ⟨fun k hk => upA_ne (fun z => hK1 (z ▸ hk)), (Option.some.inj hX).symm⟩ dX2_hear_59
  have hX := br_n hX c2
  refine lv_iconst (v := -1) C.1 C.2.1 dX2_hear_14 (by decide) ?_
  refine W.widen (k := 1) (n := 4) (Nat.zero_le _) (Nat.zero_le _) ?_
  exact G_reti C hr hlk hA (show GW Ev D (tyC cs) (wA cs) A s (ad, K, t) H locs from hW) ⟨extA_rf _ _, (Option.some.inj hX).symm⟩ dX2_hear_15
abbrev rm_C_Run_file : Room := { frames := 3, cells := 1, slots := 10, locals := 65 }
def C_Run_file (K : List (Nat × Nat)) (t : TH) (x1 : Int32) (x2 : Int32) : Option (Int32 × List (Nat × Nat) × TH) := bnd (C_People_at K t x1) (fun v1 => opt v1 (some ((-1), K, t)) (fun j2 => bnd (C_Run_isQuarter x2) (fun v3 => if v3 = 0 then some ((-1), K, t) else C_Court_enter K t j2 x2 (tS t 11 8 0))))
set_option maxHeartbeats 4000000 in
set_option maxRecDepth 100000 in
theorem c_C_Run_file {Ev : EvT} {ek ev : Nat → Nat} {tp : Nat} (l : Launch) (D : va_G) (cs : Nat → ClassId) (ad : AD) (K : List (Nat × Nat)) (hKS : KS K) (hEv : EvC Ev ek ev tp) (t : TH) (x1 : Int32) (x2 : Int32) (X : Int32 × List (Nat × Nat) × TH) (hfr : ∀ n, n = (tS t 2 3 0).toNatClampNeg → (1, n) ∉ K ∧ ∀ j e, tP t 16 j e ≠ some n) (hX : some X = C_Run_file K t x1 x2) : cGi Ev l D (tyC cs) (wA cs) yX11_file wsX11_file rm_C_Run_file 1 10 [.ref (ad 11 0), .int x1, .int x2] (ad, K, t) (fun r u => extA ad u.1 K ∧ (r, u.2) = X) := by
  refine G_ini (cc := cX11_file) (maxL := 4) (ret := some .int) (by decide) rfl (Nat.le_of_ble_eq_true rfl) ?_
  intro p e s m below meth c A ls C hr hlk hini hA hW hl
  have C : Cx p s m _ c cX11_file 4 wsX11_file RX11 := C
  have hl : lv_has ls 4 [(0, .ref (ad 11 0)), (1, .int x1), (2, .int x2)] := hl
  have hin11 : ∀ w ∈ wsX110, w ∈ wsX11_file := fun w hw => List.mem_cons_of_mem _ (List.mem_append_left _ (List.mem_append_left _ (List.mem_append_left _ (List.mem_append_left _ (List.mem_append_right _ hw)))))
  have f11_2 : (Cond.fieldLink RX11 26 (TX11 2).1 (TX11 2).2.1 (TX11 2).2.2.1).before _ s = true := C.2.2.2.2 _ (List.mem_of_getElem? (i := 1) rfl)
  have f11_6 : (Cond.fieldLink RX11 60 (TX11 6).1 (TX11 6).2.1 (TX11 6).2.2.1).before _ s = true := C.2.2.2.2 _ (List.mem_of_getElem? (i := 2) rfl)
  have f11_8 : (Cond.fieldLink RX11 73 (TX11 8).1 (TX11 8).2.1 (TX11 8).2.2.1).before _ s = true := C.2.2.2.2 _ (List.mem_of_getElem? (i := 3) rfl)
  obtain ⟨H, hH⟩ : ∃ H, H = s.heap := ⟨_, rfl⟩
  obtain ⟨locs, hlo⟩ : ∃ z : List Loc, z = [] := ⟨_, rfl⟩
  have hW : GW Ev D (tyC cs) (wC cs ad K) A s t H locs := by rw [hH, hlo]; exact hW
  rw [show W p l e rm_C_Run_file s m _ below meth c s.heap [] = W p l e rm_C_Run_file s m _ below meth c H locs from by rw [hH, hlo]]
  unfold C_Run_file at hX
  refine lv_aload_n C.1 C.2.1 dX11_file_0 rfl (lv_at hl 0 rfl) ?_
  refine C_get C hW 11 rfl hin11 hKS.k11_0 rfl 2 (by decide) rfl f11_2 dX11_file_1 ?_
  refine lv_iload_n C.1 C.2.1 dX11_file_4 rfl (lv_at hl 1 rfl) ?_
  obtain ⟨v1, hq, hX⟩ := bnd_st hX
  refine G_V0r (As := [.int x1]) (rest := []) C hW (c_C_People_at l D cs ad K hKS hEv t x1 v1 hq.symm) (cwV 1 C.2.2.2.2 gX11_file_X6_at rfl rfl rfl (by decide +kernel) ⟨Nat.le_of_ble_eq_true rfl, Nat.le_of_ble_eq_true rfl⟩) (C_recv hW 6 hKS.k6_0 rfl rfl) rfl hl.1 rfl (Nat.le_of_ble_eq_true rfl) dX11_file_5 (fun H locs hW => ?_)
  refine lv_astore_nQ (i := 3) (lv' := [(3, va_re (ad 7) v1), (0, .ref (ad 11 0)), (1, .int x1), (2, .int x2)]) C.1 C.2.1 dX11_file_8 rfl hl (by decide) rfl (fun ls hl => ?_)
  refine lv_aload_nQ C.1 C.2.1 dX11_file_9 rfl (lv_at hl 0 rfl) ?_
  refine lv_ifnullQ (tgt := 20) C.1 C.2.1 dX11_file_10 (by decide) (fun hj2 => ?_) (fun j2 hj2 => ?_)
  · have hX := opt_n hX hj2
    refine lv_iconst (v := -1) C.1 C.2.1 dX11_file_20 (by decide) ?_
    refine W.widen (k := 1) (n := 10) (Nat.zero_le _) (Nat.zero_le _) ?_
    exact G_reti C hr hlk hA (show GW Ev D (tyC cs) (wA cs) A s (ad, K, t) H locs from hW) ⟨extA_rf _ _, (Option.some.inj hX).symm⟩ dX11_file_21
  have hX := opt_s hX hj2
  refine lv_iload_n C.1 C.2.1 dX11_file_13 rfl (lv_at hl 3 rfl) ?_
  obtain ⟨v3, hq, hX⟩ := bnd_st hX
  refine G_S0s (As := [.int x2]) (rest := []) C hW (c_C_Run_isQuarter l D (tyC cs) (wC cs ad K) t x2 v3 hq.symm) (va_cwS 1 C.2.2.2.2 gX11_file_X11_isQuarter rfl rfl rfl (by decide +kernel) ⟨Nat.le_of_ble_eq_true rfl, Nat.le_of_ble_eq_true rfl⟩) rfl hl.1 rfl (Nat.le_of_ble_eq_true rfl) dX11_file_14 (fun H locs hW => ?_)
  refine lv_if_ne (tgt := 22) C.1 C.2.1 dX11_file_17 (by decide) (fun c4 => ?_) (fun c4 => ?_)
  · have hX := br_n hX c4
    refine lv_aload_n C.1 C.2.1 dX11_file_22 rfl (lv_at hl 1 rfl) ?_
    refine C_get C hW 11 rfl hin11 hKS.k11_0 rfl 6 (by decide) rfl f11_6 dX11_file_23 ?_
    refine lv_aload_nQ C.1 C.2.1 dX11_file_26 rfl (lv_at hl 0 rfl) ?_
    refine lv_iload_n C.1 C.2.1 dX11_file_27 rfl (lv_at hl 3 rfl) ?_
    refine lv_aload_n C.1 C.2.1 dX11_file_28 rfl (lv_at hl 1 rfl) ?_
    refine C_get C hW 11 rfl hin11 hKS.k11_0 rfl 8 (by decide) rfl f11_8 dX11_file_29 ?_
    rw [show va_re (ad 7) v1 = .ref (ad 7 j2) from by rw [hj2]; rfl]
    refine G_Vi (w := wA cs) (σ := (ad, K, t)) (As := [.ref (ad 7 j2), .int x2, .int (tS t 11 8 0)]) (rest := []) C (show GW Ev D (tyC cs) (wA cs) A s (ad, K, t) H locs from hW) (c_C_Court_enter l D cs ad K hKS hEv t j2 x2 (tS t 11 8 0) X hfr hX) (cwV 3 C.2.2.2.2 gX11_file_X2_enter rfl rfl rfl (by decide +kernel) ⟨(Nat.le_of_ble_eq_true rfl), (Nat.le_of_ble_eq_true rfl)⟩) (C_recv hW 2 hKS.k2_0 rfl rfl) rfl hl.1 rfl (Nat.le_of_ble_eq_true rfl) dX11_file_32 ⟨(Nat.le_of_ble_eq_true rfl), (Nat.le_of_ble_eq_true rfl)⟩ (fun r u H locs hu hW => ?_)
    refine W.widen (k := 1) (n := 10) (Nat.le_of_ble_eq_true rfl) (Nat.le_of_ble_eq_true rfl) ?_
    exact G_reti C hr hlk hA hW hu dX11_file_35
  have hX := br_p hX c4
  refine lv_iconst (v := -1) C.1 C.2.1 dX11_file_20 (by decide) ?_
  refine W.widen (k := 1) (n := 10) (Nat.zero_le _) (Nat.zero_le _) ?_
  exact G_reti C hr hlk hA (show GW Ev D (tyC cs) (wA cs) A s (ad, K, t) H locs from hW) ⟨extA_rf _ _, (Option.some.inj hX).symm⟩ dX11_file_21
abbrev rm_C_Run_witness : Room := { frames := 3, cells := 1, slots := 4, locals := 62 }
def C_Run_witness (K : List (Nat × Nat)) (t : TH) (x1 : Int32) (x2 : Int32) (x3 : Int32) : Option (Int32 × List (Nat × Nat) × TH) := bnd (C_Run_isWithin x2 0 9999) (fun v1 => if v1 = 0 then some ((-1), K, t) else bnd (C_Run_isWithin x3 x2 9999) (fun v3 => if v3 = 0 then some ((-1), K, t) else bnd (C_Court_claimAt K t x1) (fun v5 => C_Court_hear K t v5 (tS t 11 8 0) x2 x3)))
set_option maxHeartbeats 4000000 in
set_option maxRecDepth 100000 in
theorem c_C_Run_witness {Ev : EvT} {ek ev : Nat → Nat} {tp : Nat} (l : Launch) (D : va_G) (cs : Nat → ClassId) (ad : AD) (K : List (Nat × Nat)) (hKS : KS K) (hEv : EvC Ev ek ev tp) (t : TH) (x1 : Int32) (x2 : Int32) (x3 : Int32) (X : Int32 × List (Nat × Nat) × TH) (hfr : ∀ n, n = (tS t 2 4 0).toNatClampNeg → (10, n) ∉ K ∧ (∀ j, tP t 1 5 j ≠ some n) ∧ ∀ j, tP t 10 3 j ≠ some n) (hX : some X = C_Run_witness K t x1 x2 x3) : cGi Ev l D (tyC cs) (wA cs) yX11_witness wsX11_witness rm_C_Run_witness 1 4 [.ref (ad 11 0), .int x1, .int x2, .int x3] (ad, K, t) (fun r u => extA ad u.1 K ∧ (r, u.2) = X) := by
  refine G_ini (cc := cX11_witness) (maxL := 4) (ret := some .int) (by decide) rfl (Nat.le_of_ble_eq_true rfl) ?_
  intro p e s m below meth c A ls C hr hlk hini hA hW hl
  have C : Cx p s m _ c cX11_witness 4 wsX11_witness RX11 := C
  have hl : lv_has ls 4 [(0, .ref (ad 11 0)), (1, .int x1), (2, .int x2), (3, .int x3)] := hl
  have hin11 : ∀ w ∈ wsX110, w ∈ wsX11_witness := fun w hw => List.mem_cons_of_mem _ (List.mem_append_left _ (List.mem_append_left _ (List.mem_append_left _ (List.mem_append_right _ hw))))
  have f11_6 : (Cond.fieldLink RX11 60 (TX11 6).1 (TX11 6).2.1 (TX11 6).2.2.1).before _ s = true := C.2.2.2.2 _ (List.mem_of_getElem? (i := 1) rfl)
  have f11_8 : (Cond.fieldLink RX11 73 (TX11 8).1 (TX11 8).2.1 (TX11 8).2.2.1).before _ s = true := C.2.2.2.2 _ (List.mem_of_getElem? (i := 2) rfl)
  obtain ⟨H, hH⟩ : ∃ H, H = s.heap := ⟨_, rfl⟩
  obtain ⟨locs, hlo⟩ : ∃ z : List Loc, z = [] := ⟨_, rfl⟩
  have hW : GW Ev D (tyC cs) (wC cs ad K) A s t H locs := by rw [hH, hlo]; exact hW
  rw [show W p l e rm_C_Run_witness s m _ below meth c s.heap [] = W p l e rm_C_Run_witness s m _ below meth c H locs from by rw [hH, hlo]]
  unfold C_Run_witness at hX
  refine lv_iload_n C.1 C.2.1 dX11_witness_0 rfl (lv_at hl 2 rfl) ?_
  refine lv_iconst (v := 0) C.1 C.2.1 dX11_witness_1 (by decide) ?_
  refine lv_sipush (v := 9999) C.1 C.2.1 dX11_witness_2 (by decide) ?_
  obtain ⟨v1, hq, hX⟩ := bnd_st hX
  refine G_S0s (As := [.int x2, .int 0, .int 9999]) (rest := []) C hW (c_C_Run_isWithin l D (tyC cs) (wC cs ad K) t x2 0 9999 v1 hq.symm) (va_cwS 3 C.2.2.2.2 gX11_witness_X11_isWithin rfl rfl rfl (by decide +kernel) ⟨Nat.le_of_ble_eq_true rfl, Nat.le_of_ble_eq_true rfl⟩) rfl hl.1 rfl (Nat.le_of_ble_eq_true rfl) dX11_witness_5 (fun H locs hW => ?_)
  refine lv_if_eq (tgt := 22) C.1 C.2.1 dX11_witness_8 (by decide) (fun c2 => ?_) (fun c2 => ?_)
  · have hX := br_p hX c2
    refine lv_iconst (v := -1) C.1 C.2.1 dX11_witness_22 (by decide) ?_
    refine W.widen (k := 1) (n := 4) (Nat.zero_le _) (Nat.zero_le _) ?_
    exact G_reti C hr hlk hA (show GW Ev D (tyC cs) (wA cs) A s (ad, K, t) H locs from hW) ⟨extA_rf _ _, (Option.some.inj hX).symm⟩ dX11_witness_23
  have hX := br_n hX c2
  refine lv_iload_n C.1 C.2.1 dX11_witness_11 rfl (lv_at hl 3 rfl) ?_
  refine lv_iload_n C.1 C.2.1 dX11_witness_12 rfl (lv_at hl 2 rfl) ?_
  refine lv_sipush (v := 9999) C.1 C.2.1 dX11_witness_13 (by decide) ?_
  obtain ⟨v3, hq, hX⟩ := bnd_st hX
  refine G_S0s (As := [.int x3, .int x2, .int 9999]) (rest := []) C hW (c_C_Run_isWithin l D (tyC cs) (wC cs ad K) t x3 x2 9999 v3 hq.symm) (va_cwS 3 C.2.2.2.2 gX11_witness_X11_isWithin rfl rfl rfl (by decide +kernel) ⟨Nat.le_of_ble_eq_true rfl, Nat.le_of_ble_eq_true rfl⟩) rfl hl.1 rfl (Nat.le_of_ble_eq_true rfl) dX11_witness_16 (fun H locs hW => ?_)
  refine lv_if_ne (tgt := 24) C.1 C.2.1 dX11_witness_19 (by decide) (fun c4 => ?_) (fun c4 => ?_)
  · have hX := br_n hX c4
    refine lv_aload_n C.1 C.2.1 dX11_witness_24 rfl (lv_at hl 0 rfl) ?_
    refine C_get C hW 11 rfl hin11 hKS.k11_0 rfl 6 (by decide) rfl f11_6 dX11_witness_25 ?_
    refine lv_aload_n C.1 C.2.1 dX11_witness_28 rfl (lv_at hl 0 rfl) ?_
    refine C_get C hW 11 rfl hin11 hKS.k11_0 rfl 6 (by decide) rfl f11_6 dX11_witness_29 ?_
    refine lv_iload_n C.1 C.2.1 dX11_witness_32 rfl (lv_at hl 1 rfl) ?_
    obtain ⟨v5, hq, hX⟩ := bnd_st hX
    refine G_V0r (As := [.int x1]) (rest := [.ref (ad 2 0)]) C hW (c_C_Court_claimAt l D cs ad K hKS hEv t x1 v5 hq.symm) (cwV 1 C.2.2.2.2 gX11_witness_X2_claimAt rfl rfl rfl (by decide +kernel) ⟨Nat.le_of_ble_eq_true rfl, Nat.le_of_ble_eq_true rfl⟩) (C_recv hW 2 hKS.k2_0 rfl rfl) rfl hl.1 rfl (Nat.le_of_ble_eq_true rfl) dX11_witness_33 (fun H locs hW => ?_)
    refine lv_aload_n C.1 C.2.1 dX11_witness_36 rfl (lv_at hl 0 rfl) ?_
    refine C_get C hW 11 rfl hin11 hKS.k11_0 rfl 8 (by decide) rfl f11_8 dX11_witness_37 ?_
    refine lv_iload_n C.1 C.2.1 dX11_witness_40 rfl (lv_at hl 2 rfl) ?_
    refine lv_iload_n C.1 C.2.1 dX11_witness_41 rfl (lv_at hl 3 rfl) ?_
    refine G_Vi (w := wA cs) (σ := (ad, K, t)) (As := [va_re (ad 1) v5, .int (tS t 11 8 0), .int x2, .int x3]) (rest := []) C (show GW Ev D (tyC cs) (wA cs) A s (ad, K, t) H locs from hW) (c_C_Court_hear l D cs ad K hKS hEv t v5 (tS t 11 8 0) x2 x3 X hfr hX) (cwV 4 C.2.2.2.2 gX11_witness_X2_hear rfl rfl rfl (by decide +kernel) ⟨(Nat.le_of_ble_eq_true rfl), (Nat.le_of_ble_eq_true rfl)⟩) (C_recv hW 2 hKS.k2_0 rfl rfl) rfl hl.1 rfl (Nat.le_of_ble_eq_true rfl) dX11_witness_42 ⟨(Nat.le_of_ble_eq_true rfl), (Nat.le_of_ble_eq_true rfl)⟩ (fun r u H locs hu hW => ?_)
    refine W.widen (k := 1) (n := 4) (Nat.le_of_ble_eq_true rfl) (Nat.le_of_ble_eq_true rfl) ?_
    exact G_reti C hr hlk hA hW hu dX11_witness_45
  have hX := br_p hX c4
  refine lv_iconst (v := -1) C.1 C.2.1 dX11_witness_22 (by decide) ?_
  refine W.widen (k := 1) (n := 4) (Nat.zero_le _) (Nat.zero_le _) ?_
  exact G_reti C hr hlk hA (show GW Ev D (tyC cs) (wA cs) A s (ad, K, t) H locs from hW) ⟨extA_rf _ _, (Option.some.inj hX).symm⟩ dX11_witness_23
