abbrev rm_C_Auction_weigh : Room := { frames := 1, cells := 0, slots := 0, locals := 23 }
def C_Auction_weigh_L4 : Nat → List (Nat × Nat) → TH → Int32 → Int32 → Int32 → Option (TH × Int32 × Int32)
  | 0, _, _, _, _, _ => none
  | n + 1, K, t, x3, x2, x1 => if (nI (tN t 14 1)) ≤ x3 then some (t, x3, x2) else if 8 ≤ x3 then some (t, x3, x2) else chkI x3 (tN t 14 1) (nm (uL t 14 1 x3.toNatClampNeg 0) (fun t17 => bnd (C_People_at K t17 x3) (fun v18 => opt v18 (nm (x3 + 1) (fun v20 => C_Auction_weigh_L4 n K t17 v20 x2 x1)) (fun j19 => chkP ((7, j19) ∈ K) (bnd (C_Person_penceFor K t17 j19 x1) (fun v22 => if v22 ≤ 0 then nm (x3 + 1) (fun v24 => C_Auction_weigh_L4 n K t17 v24 x2 x1) else bnd (C_Person_penceFor K t17 j19 x1) (fun v25 => bnd (C_Person_rankOf K t17 j19 x1) (fun v26 => chkI x3 8 (chkI x3 (tN t17 14 1) (nm (uL t17 14 1 x3.toNatClampNeg ((v25.toInt64 * 815730721) + (((12 - v26).toInt64) * (pw x3.toNatClampNeg)))) (fun t27 => nm (x3 + 1) (fun v28 => C_Auction_weigh_L4 n K t27 v28 1 x1))))))))))))
set_option maxHeartbeats 4000000 in
set_option maxRecDepth 100000 in
theorem r_C_Auction_weigh_L4 {p : Program} {l : Launch} {e : Env} {s : State} {m : MethodId} {args : Array Value} {below : List Frame} {meth : Method} {c : Code} {Q : State → Prop} {Ev : EvT} {D : va_G} {cs : Nat → ClassId} {ad : AD} {A : Nat → Prop} {ek ev : Nat → Nat} {tp : Nat} (C : Cx p s m args c cX0_weigh 5 wsX0_weigh RX0) {K : List (Nat × Nat)} (hKS : KS K) (hEv : EvC Ev ek ev tp) : ∀ (n : Nat) (t : TH) (x3 : Int32) (x2 : Int32) (x1 : Int32) (H : Heap) (locs : List Loc) (ls : Array Slot) (X : TH × Int32 × Int32), some X = C_Auction_weigh_L4 n K t x3 x2 x1 → GW Ev D (tyC cs) (wC cs ad K) A s t H locs → lv_has ls 5 [(3, .int x3), (2, .int x2), (0, .ref (ad 0 0)), (1, .int x1)] → (∀ (τ : TH) (z3 : Int32) (z2 : Int32) (H : Heap) (locs : List Loc) (ls : Array Slot), X = (τ, z3, z2) → GW Ev D (tyC cs) (wC cs ad K) A s τ H locs → lv_has ls 5 [(3, .int z3), (2, .int z2), (0, .ref (ad 0 0)), (1, .int x1)] → W p l e rm_C_Auction_weigh s m args below meth c H locs 0 0 Q (F0 m 94 ls [])) → W p l e rm_C_Auction_weigh s m args below meth c H locs 0 0 Q (F0 m 4 ls []) := by
  have hin0 : ∀ w ∈ wsX00, w ∈ wsX0_weigh := fun w hw => List.mem_cons_of_mem _ (List.mem_append_left _ (List.mem_append_left _ (List.mem_append_right _ hw)))
  have f0_0 : (Cond.fieldLink RX0 18 (TX0 0).1 (TX0 0).2.1 (TX0 0).2.2.1).before _ s = true := C.2.2.2.2 _ (List.mem_of_getElem? (i := 3) rfl)
  have f0_2 : (Cond.fieldLink RX0 15 (TX0 2).1 (TX0 2).2.1 (TX0 2).2.2.1).before _ s = true := C.2.2.2.2 _ (List.mem_of_getElem? (i := 1) rfl)
  have fst : (Cond.fieldLink RX0 48 "LandRun$Auction" "POWERS" "[J").before _ s = true := C.2.2.2.2 _ (List.mem_of_getElem? (i := 2) rfl)
  have k42 : (Cond.constantLong RX0 42 (815730721)).before _ s = true := C.2.2.2.2 _ (List.mem_of_getElem? (i := 4) rfl)
  intro n
  induction n with
  | zero =>
    intro t x3 x2 x1 H locs ls X hX hW hl K0
    cases hX
  | succ n ih =>
    intro t x3 x2 x1 H locs ls X hX hW hl K0
    unfold C_Auction_weigh_L4 at hX
    refine lv_iload_n C.1 C.2.1 dX0_weigh_4 rfl (lv_at hl 0 rfl) ?_
    refine lv_aload_n C.1 C.2.1 dX0_weigh_5 rfl (lv_at hl 2 rfl) ?_
    refine C_get C hW 0 rfl hin0 hKS.k0_0 rfl 2 (by decide) rfl f0_2 dX0_weigh_6 ?_
    refine C_alen C hW hKS.k14_1 rfl 2 rfl dX0_weigh_9 ?_
    refine lv_icmp_ge (tgt := 94) C.1 C.2.1 dX0_weigh_10 (by decide) (fun c15 => ?_) (fun c15 => ?_)
    · have hX := br_p hX c15
      exact K0 t x3 x2 H locs ls (Option.some.inj hX) hW (lv_sub hl [0, 1, 2, 3] rfl)
    have hX := br_n hX c15
    refine lv_iload_n C.1 C.2.1 dX0_weigh_13 rfl (lv_at hl 0 rfl) ?_
    refine va_gets C.1 C.2.1 (hEv.pz hW) hW.2.2.2.1 C.2.2.2.1 fst (fun _ h => h) dX0_weigh_14 ?_
    refine va_tlen (v := 8) C.1 C.2.1 (hEv.pt hW) hW.2.2.2.1 rfl dX0_weigh_17 ?_
    refine lv_icmp_ge (tgt := 94) C.1 C.2.1 dX0_weigh_18 (by decide) (fun c16 => ?_) (fun c16 => ?_)
    · have hX := br_p hX c16
      exact K0 t x3 x2 H locs ls (Option.some.inj hX) hW (lv_sub hl [0, 1, 2, 3] rfl)
    have hX := br_n hX c16
    refine lv_aload_n C.1 C.2.1 dX0_weigh_21 rfl (lv_at hl 2 rfl) ?_
    refine C_get C hW 0 rfl hin0 hKS.k0_0 rfl 2 (by decide) rfl f0_2 dX0_weigh_22 ?_
    refine lv_iload_n C.1 C.2.1 dX0_weigh_25 rfl (lv_at hl 0 rfl) ?_
    refine lv_lconst (v := 0) C.1 C.2.1 dX0_weigh_26 (by decide) ?_
    obtain ⟨hi, hX⟩ := chkI_st hX
    obtain ⟨t17, et17⟩ : ∃ z, z = uL t 14 1 x3.toNatClampNeg 0 := ⟨_, rfl⟩
    refine C_stJ C hW hKS.k14_1 rfl hi dX0_weigh_27 (t' := t17) (by rw [et17]; exact wr14) (by rw [et17]; exact hr_L (by decide)) (fun H locs hW => ?_)
    have hX := nm_st hX et17
    refine lv_aload_n C.1 C.2.1 dX0_weigh_28 rfl (lv_at hl 2 rfl) ?_
    refine C_get C hW 0 rfl hin0 hKS.k0_0 rfl 0 (by decide) rfl f0_0 dX0_weigh_29 ?_
    refine lv_iload_n C.1 C.2.1 dX0_weigh_32 rfl (lv_at hl 0 rfl) ?_
    obtain ⟨v18, hq, hX⟩ := bnd_st hX
    refine G_V0r (As := [.int x3]) (rest := []) C hW (c_C_People_at l D cs ad K hKS hEv t17 x3 v18 hq.symm) (cwV 1 C.2.2.2.2 gX0_weigh_X6_at rfl rfl rfl (by decide +kernel) ⟨Nat.le_of_ble_eq_true rfl, Nat.le_of_ble_eq_true rfl⟩) (C_recv hW 6 hKS.k6_0 rfl rfl) rfl hl.1 rfl (Nat.le_of_ble_eq_true rfl) dX0_weigh_33 (fun H locs hW => ?_)
    refine lv_astoreQ (i := 4) (lv' := [(4, va_re (ad 7) v18), (3, .int x3), (2, .int x2), (0, .ref (ad 0 0)), (1, .int x1)]) C.1 C.2.1 dX0_weigh_36 hl (by decide) rfl (fun ls hl => ?_)
    refine lv_aloadQ C.1 C.2.1 dX0_weigh_38 (lv_at hl 0 rfl) ?_
    refine lv_ifnullQ (tgt := 88) C.1 C.2.1 dX0_weigh_40 (by decide) (fun hj19 => ?_) (fun j19 hj19 => ?_)
    · have hX := opt_n hX hj19
      obtain ⟨v20, ev20⟩ : ∃ z : Int32, z = x3 + 1 := ⟨_, rfl⟩
      have hX := nm_st hX ev20
      refine lv_iinc (v := v20) (lv' := [(3, .int v20), (4, va_re (ad 7) v18), (2, .int x2), (0, .ref (ad 0 0)), (1, .int x1)]) C.1 C.2.1 dX0_weigh_88 hl (k := 1) rfl (by rw [ev20]; rfl) (by decide) rfl (fun ls hl => ?_)
      refine lv_goto (tgt := 4) C.1 C.2.1 dX0_weigh_91 (by decide) ?_
      exact ih t17 v20 x2 x1 H locs ls X hX hW (lv_sub hl [0, 2, 3, 4] rfl) K0
    have hX := opt_s hX hj19
    refine lv_aloadQ C.1 C.2.1 dX0_weigh_43 (lv_at hl 0 rfl) ?_
    refine lv_iload_n C.1 C.2.1 dX0_weigh_45 rfl (lv_at hl 4 rfl) ?_
    rw [show va_re (ad 7) v18 = .ref (ad 7 j19) from by rw [hj19]; rfl]
    obtain ⟨hk21, hX⟩ := chkP_st hX
    obtain ⟨v22, hq, hX⟩ := bnd_st hX
    refine G_V0p (As := [.int x1]) (rest := []) C hW (c_C_Person_penceFor l D cs ad K hKS hEv t17 j19 x1 v22 hq.symm) (cwV 1 C.2.2.2.2 gX0_weigh_X7_penceFor rfl rfl rfl (by decide +kernel) ⟨Nat.le_of_ble_eq_true rfl, Nat.le_of_ble_eq_true rfl⟩) (C_recv hW 7 hk21 rfl rfl) rfl hl.1 rfl (Nat.le_of_ble_eq_true rfl) dX0_weigh_46 (fun H locs hW => ?_)
    refine lv_if_le (tgt := 88) C.1 C.2.1 dX0_weigh_49 (by decide) (fun c23 => ?_) (fun c23 => ?_)
    · have hX := br_p hX c23
      obtain ⟨v24, ev24⟩ : ∃ z : Int32, z = x3 + 1 := ⟨_, rfl⟩
      have hX := nm_st hX ev24
      refine lv_iinc (v := v24) (lv' := [(3, .int v24), (4, va_re (ad 7) v18), (2, .int x2), (0, .ref (ad 0 0)), (1, .int x1)]) C.1 C.2.1 dX0_weigh_88 hl (k := 1) rfl (by rw [ev24]; rfl) (by decide) rfl (fun ls hl => ?_)
      refine lv_goto (tgt := 4) C.1 C.2.1 dX0_weigh_91 (by decide) ?_
      exact ih t17 v24 x2 x1 H locs ls X hX hW (lv_sub hl [0, 2, 3, 4] rfl) K0
    have hX := br_n hX c23
    refine lv_aload_n C.1 C.2.1 dX0_weigh_52 rfl (lv_at hl 3 rfl) ?_
    refine C_get C hW 0 rfl hin0 hKS.k0_0 rfl 2 (by decide) rfl f0_2 dX0_weigh_53 ?_
    refine lv_iload_n C.1 C.2.1 dX0_weigh_56 rfl (lv_at hl 1 rfl) ?_
    refine lv_aloadQ C.1 C.2.1 dX0_weigh_57 (lv_at hl 0 rfl) ?_
    refine lv_iload_n C.1 C.2.1 dX0_weigh_59 rfl (lv_at hl 4 rfl) ?_
    rw [show va_re (ad 7) v18 = .ref (ad 7 j19) from by rw [hj19]; rfl]
    obtain ⟨v25, hq, hX⟩ := bnd_st hX
    refine G_V0p (As := [.int x1]) (rest := [.int x3, .ref (ad 14 1)]) C hW (c_C_Person_penceFor l D cs ad K hKS hEv t17 j19 x1 v25 hq.symm) (cwV 1 C.2.2.2.2 gX0_weigh_X7_penceFor rfl rfl rfl (by decide +kernel) ⟨Nat.le_of_ble_eq_true rfl, Nat.le_of_ble_eq_true rfl⟩) (C_recv hW 7 hk21 rfl rfl) rfl hl.1 rfl (Nat.le_of_ble_eq_true rfl) dX0_weigh_60 (fun H locs hW => ?_)
    refine lv_i2l C.1 C.2.1 dX0_weigh_63 rfl ?_
    refine lv_ldc2 (v := 815730721) C.1 C.2.1 C.2.2.2.1 k42 dX0_weigh_64 ?_
    refine lv_lmul C.1 C.2.1 dX0_weigh_67 ?_
    refine lv_bipush (v := 12) C.1 C.2.1 dX0_weigh_68 (by decide) ?_
    refine lv_aloadQ C.1 C.2.1 dX0_weigh_70 (lv_at hl 0 rfl) ?_
    refine lv_iload_n C.1 C.2.1 dX0_weigh_72 rfl (lv_at hl 4 rfl) ?_
    rw [show va_re (ad 7) v18 = .ref (ad 7 j19) from by rw [hj19]; rfl]
    obtain ⟨v26, hq, hX⟩ := bnd_st hX
    refine G_V0p (As := [.int x1]) (rest := [.int 12, .long (v25.toInt64 * 815730721), .int x3, .ref (ad 14 1)]) C hW (c_C_Person_rankOf l D cs ad K hKS hEv t17 j19 x1 v26 hq.symm) (cwV 1 C.2.2.2.2 gX0_weigh_X7_rankOf rfl rfl rfl (by decide +kernel) ⟨Nat.le_of_ble_eq_true rfl, Nat.le_of_ble_eq_true rfl⟩) (C_recv hW 7 hk21 rfl rfl) rfl hl.1 rfl (Nat.le_of_ble_eq_true rfl) dX0_weigh_73 (fun H locs hW => ?_)
    refine lv_isub C.1 C.2.1 dX0_weigh_76 ?_
    refine lv_i2l C.1 C.2.1 dX0_weigh_77 rfl ?_
    refine va_gets C.1 C.2.1 (hEv.pz hW) hW.2.2.2.1 C.2.2.2.1 fst (fun _ h => h) dX0_weigh_78 ?_
    refine lv_iload_n C.1 C.2.1 dX0_weigh_81 rfl (lv_at hl 1 rfl) ?_
    obtain ⟨hi, hX⟩ := chkI_st hX
    refine va_tl C.1 C.2.1 (hEv.pt hW) hW.2.2.2.1 hi rfl dX0_weigh_82 ?_
    refine lv_lmul C.1 C.2.1 dX0_weigh_83 ?_
    refine lv_ladd C.1 C.2.1 dX0_weigh_84 ?_
    obtain ⟨hi, hX⟩ := chkI_st hX
    obtain ⟨t27, et27⟩ : ∃ z, z = uL t17 14 1 x3.toNatClampNeg ((v25.toInt64 * 815730721) + (((12 - v26).toInt64) * (pw x3.toNatClampNeg))) := ⟨_, rfl⟩
    refine C_stJ C hW hKS.k14_1 rfl hi dX0_weigh_85 (t' := t27) (by rw [et27]; exact wr14) (by rw [et27]; exact hr_L (by decide)) (fun H locs hW => ?_)
    have hX := nm_st hX et27
    refine lv_iconst (v := 1) C.1 C.2.1 dX0_weigh_86 (by decide) ?_
    refine lv_istore_n (i := 2) (lv' := [(2, .int 1), (4, va_re (ad 7) v18), (3, .int x3), (0, .ref (ad 0 0)), (1, .int x1)]) C.1 C.2.1 dX0_weigh_87 rfl hl (by decide) rfl (fun ls hl => ?_)
    obtain ⟨v28, ev28⟩ : ∃ z : Int32, z = x3 + 1 := ⟨_, rfl⟩
    have hX := nm_st hX ev28
    refine lv_iinc (v := v28) (lv' := [(3, .int v28), (2, .int 1), (4, va_re (ad 7) v18), (0, .ref (ad 0 0)), (1, .int x1)]) C.1 C.2.1 dX0_weigh_88 hl (k := 2) rfl (by rw [ev28]; rfl) (by decide) rfl (fun ls hl => ?_)
    refine lv_goto (tgt := 4) C.1 C.2.1 dX0_weigh_91 (by decide) ?_
    exact ih t27 v28 1 x1 H locs ls X hX hW (lv_sub hl [0, 1, 3, 4] rfl) K0
def C_Auction_weigh (K : List (Nat × Nat)) (t : TH) (x1 : Int32) : Option (Int32 × TH) := bnd (C_Auction_weigh_L4 100000 K t 0 0 x1) (fun q => nm2 q (fun t29 q => nm2 q (fun v30 v31 => chkZ v31 (some (v31, t29)))))
set_option maxHeartbeats 4000000 in
set_option maxRecDepth 100000 in
theorem c_C_Auction_weigh {Ev : EvT} {ek ev : Nat → Nat} {tp : Nat} (l : Launch) (D : va_G) (cs : Nat → ClassId) (ad : AD) (K : List (Nat × Nat)) (hKS : KS K) (hEv : EvC Ev ek ev tp) (t : TH) (x1 : Int32) (X : Int32 × TH) (hX : some X = C_Auction_weigh K t x1) : cGi Ev l D (tyC cs) (wC cs ad K) yX0_weigh wsX0_weigh rm_C_Auction_weigh 0 0 [.ref (ad 0 0), .int x1] t (fun r u => (r, u) = X) := by
  refine G_ini (cc := cX0_weigh) (maxL := 5) (ret := some .boolean) (by decide) rfl (Nat.le_of_ble_eq_true rfl) ?_
  intro p e s m below meth c A ls C hr hlk hini hA hW hl
  have C : Cx p s m _ c cX0_weigh 5 wsX0_weigh RX0 := C
  have hl : lv_has ls 5 [(0, .ref (ad 0 0)), (1, .int x1)] := hl
  have hin0 : ∀ w ∈ wsX00, w ∈ wsX0_weigh := fun w hw => List.mem_cons_of_mem _ (List.mem_append_left _ (List.mem_append_left _ (List.mem_append_right _ hw)))
  have f0_0 : (Cond.fieldLink RX0 18 (TX0 0).1 (TX0 0).2.1 (TX0 0).2.2.1).before _ s = true := C.2.2.2.2 _ (List.mem_of_getElem? (i := 3) rfl)
  have f0_2 : (Cond.fieldLink RX0 15 (TX0 2).1 (TX0 2).2.1 (TX0 2).2.2.1).before _ s = true := C.2.2.2.2 _ (List.mem_of_getElem? (i := 1) rfl)
  have fst : (Cond.fieldLink RX0 48 "LandRun$Auction" "POWERS" "[J").before _ s = true := C.2.2.2.2 _ (List.mem_of_getElem? (i := 2) rfl)
  have k42 : (Cond.constantLong RX0 42 (815730721)).before _ s = true := C.2.2.2.2 _ (List.mem_of_getElem? (i := 4) rfl)
  obtain ⟨H, hH⟩ : ∃ H, H = s.heap := ⟨_, rfl⟩
  obtain ⟨locs, hlo⟩ : ∃ z : List Loc, z = [] := ⟨_, rfl⟩
  have hW : GW Ev D (tyC cs) (wC cs ad K) A s t H locs := by rw [hH, hlo]; exact hW
  rw [show W p l e rm_C_Auction_weigh s m _ below meth c s.heap [] = W p l e rm_C_Auction_weigh s m _ below meth c H locs from by rw [hH, hlo]]
  unfold C_Auction_weigh at hX
  refine lv_iconst (v := 0) C.1 C.2.1 dX0_weigh_0 (by decide) ?_
  refine lv_istore_n (i := 2) (lv' := [(2, .int 0), (0, .ref (ad 0 0)), (1, .int x1)]) C.1 C.2.1 dX0_weigh_1 rfl hl (by decide) rfl (fun ls hl => ?_)
  refine lv_iconst (v := 0) C.1 C.2.1 dX0_weigh_2 (by decide) ?_
  refine lv_istore_n (i := 3) (lv' := [(3, .int 0), (2, .int 0), (0, .ref (ad 0 0)), (1, .int x1)]) C.1 C.2.1 dX0_weigh_3 rfl hl (by decide) rfl (fun ls hl => ?_)
  obtain ⟨q, hq, hX⟩ := bnd_st hX
  refine r_C_Auction_weigh_L4 C hKS hEv 100000 t 0 0 x1 H locs ls q hq.symm hW (lv_sub hl [0, 1, 2, 3] rfl) ?_
  intro t29 v30 v31 H locs ls hq hW hl
  subst hq
  have hX := nm2_st hX rfl
  have hX := nm2_st hX rfl
  refine lv_iload_n C.1 C.2.1 dX0_weigh_94 rfl (lv_at hl 1 rfl) ?_
  obtain ⟨hz, hX⟩ := chkZ_st hX
  exact G_retz C hr hlk hA hW hz.1 (Option.some.inj hX).symm dX0_weigh_95
abbrev rm_C_Auction_offer : Room := { frames := 1, cells := 0, slots := 0, locals := 23 }
def C_Auction_offer_L18 : Nat → List (Nat × Nat) → TH → Int32 → Int32 → Int32 → Option (TH × Int32)
  | 0, _, _, _, _, _ => none
  | n + 1, K, t, x3, x2, x1 => if (nI (tN t 14 1)) ≤ x3 then some (t, x3) else nm (x2 &&& (((1 : Int32) <<< (x3 &&& 31)) ^^^ (-1))) (fun v13 => if v13 = x2 then nm (x3 + 1) (fun v15 => C_Auction_offer_L18 n K t v15 x2 x1) else chkI x3 (tN t 14 1) (if (lg_cmp (tL t 14 1 x3.toNatClampNeg) 0) ≤ 0 then nm (x3 + 1) (fun v17 => C_Auction_offer_L18 n K t v17 x2 x1) else chkI x2 (tN t 14 0) (chkI v13 (tN t 14 0) (chkI x3 (tN t 14 1) (nm (if ((tL t 14 0 v13.toNatClampNeg) + (tL t 14 1 x3.toNatClampNeg)) < (tL t 14 0 x2.toNatClampNeg) then tL t 14 0 x2.toNatClampNeg else (tL t 14 0 v13.toNatClampNeg) + (tL t 14 1 x3.toNatClampNeg)) (fun v18 => chkI x2 (tN t 14 0) (nm (uL t 14 0 x2.toNatClampNeg v18) (fun t19 => nm (x3 + 1) (fun v20 => C_Auction_offer_L18 n K t19 v20 x2 x1)))))))))
set_option maxHeartbeats 4000000 in
set_option maxRecDepth 100000 in
theorem r_C_Auction_offer_L18 {p : Program} {l : Launch} {e : Env} {s : State} {m : MethodId} {args : Array Value} {below : List Frame} {meth : Method} {c : Code} {Q : State → Prop} {Ev : EvT} {D : va_G} {cs : Nat → ClassId} {ad : AD} {A : Nat → Prop} {ek ev : Nat → Nat} {tp : Nat} (C : Cx p s m args c cX0_offer 5 wsX0_offer RX0) {K : List (Nat × Nat)} (hKS : KS K) (hEv : EvC Ev ek ev tp) : ∀ (n : Nat) (t : TH) (x3 : Int32) (x2 : Int32) (x1 : Int32) (H : Heap) (locs : List Loc) (ls : Array Slot) (X : TH × Int32), some X = C_Auction_offer_L18 n K t x3 x2 x1 → GW Ev D (tyC cs) (wC cs ad K) A s t H locs → lv_has ls 5 [(3, .int x3), (2, .int x2), (0, .ref (ad 0 0)), (1, .int x1)] → (∀ (τ : TH) (z3 : Int32) (H : Heap) (locs : List Loc) (ls : Array Slot), X = (τ, z3) → GW Ev D (tyC cs) (wC cs ad K) A s τ H locs → lv_has ls 5 [(3, .int z3), (2, .int x2), (0, .ref (ad 0 0)), (1, .int x1)] → W p l e rm_C_Auction_offer s m args below meth c H locs 0 0 Q (F0 m 88 ls [])) → W p l e rm_C_Auction_offer s m args below meth c H locs 0 0 Q (F0 m 18 ls []) := by
  have hin0 : ∀ w ∈ wsX00, w ∈ wsX0_offer := fun w hw => List.mem_cons_of_mem _ (List.mem_append_right _ hw)
  have f0_1 : (Cond.fieldLink RX0 9 (TX0 1).1 (TX0 1).2.1 (TX0 1).2.2.1).before _ s = true := C.2.2.2.2 _ (List.mem_of_getElem? (i := 1) rfl)
  have f0_2 : (Cond.fieldLink RX0 15 (TX0 2).1 (TX0 2).2.1 (TX0 2).2.2.1).before _ s = true := C.2.2.2.2 _ (List.mem_of_getElem? (i := 6) rfl)
  have m28_l : (Cond.methodLink RX0 28 Lib.Math.min.name).before _ s = true := C.2.2.2.2 _ (List.mem_of_getElem? (i := 2) rfl)
  have m28_s : (Cond.static Lib.Math.min.name).before _ s = true := C.2.2.2.2 _ (List.mem_of_getElem? (i := 3) rfl)
  have m28_i : (Cond.initialized "java/lang/Math").before _ s = true := C.2.2.2.2 _ (List.mem_of_getElem? (i := 4) rfl)
  have m28_c : (Cond.code Lib.Math.min.name Lib.Math.min.code 2 (some .int)).before _ s = true := C.2.2.2.2 _ (List.mem_of_getElem? (i := 5) rfl)
  have m64_l : (Cond.methodLink RX0 64 Lib.MathLoose.max_long.x).before _ s = true := C.2.2.2.2 _ (List.mem_of_getElem? (i := 7) rfl)
  have m64_s : (Cond.static Lib.MathLoose.max_long.x).before _ s = true := C.2.2.2.2 _ (List.mem_of_getElem? (i := 8) rfl)
  have m64_i : (Cond.initialized "java/lang/Math").before _ s = true := C.2.2.2.2 _ (List.mem_of_getElem? (i := 4) rfl)
  have m64_c : (Cond.code Lib.MathLoose.max_long.x Lib.MathLoose.max_long.code 4 (some .long)).before _ s = true := C.2.2.2.2 _ (List.mem_of_getElem? (i := 9) rfl)
  intro n
  induction n with
  | zero =>
    intro t x3 x2 x1 H locs ls X hX hW hl K0
    cases hX
  | succ n ih =>
    intro t x3 x2 x1 H locs ls X hX hW hl K0
    unfold C_Auction_offer_L18 at hX
    refine lv_iload_n C.1 C.2.1 dX0_offer_18 rfl (lv_at hl 0 rfl) ?_
    refine lv_aload_n C.1 C.2.1 dX0_offer_19 rfl (lv_at hl 2 rfl) ?_
    refine C_get C hW 0 rfl hin0 hKS.k0_0 rfl 2 (by decide) rfl f0_2 dX0_offer_20 ?_
    refine C_alen C hW hKS.k14_1 rfl 2 rfl dX0_offer_23 ?_
    refine lv_icmp_ge (tgt := 88) C.1 C.2.1 dX0_offer_24 (by decide) (fun c12 => ?_) (fun c12 => ?_)
    · have hX := br_p hX c12
      exact K0 t x3 H locs ls (Option.some.inj hX) hW (lv_sub hl [0, 1, 2, 3] rfl)
    have hX := br_n hX c12
    refine lv_iload_n C.1 C.2.1 dX0_offer_27 rfl (lv_at hl 1 rfl) ?_
    refine lv_iconst (v := 1) C.1 C.2.1 dX0_offer_28 (by decide) ?_
    refine lv_iload_n C.1 C.2.1 dX0_offer_29 rfl (lv_at hl 0 rfl) ?_
    refine lv_ishl C.1 C.2.1 dX0_offer_30 ?_
    refine lv_iconst (v := -1) C.1 C.2.1 dX0_offer_31 (by decide) ?_
    refine lv_ixor C.1 C.2.1 dX0_offer_32 ?_
    refine lv_iand C.1 C.2.1 dX0_offer_33 ?_
    refine lv_topi (fun v13 ev13 => ?_)
    have hX := nm_st hX ev13
    refine lv_istore (i := 4) (lv' := [(4, .int v13), (3, .int x3), (2, .int x2), (0, .ref (ad 0 0)), (1, .int x1)]) C.1 C.2.1 dX0_offer_34 hl (by decide) rfl (fun ls hl => ?_)
    refine lv_iload C.1 C.2.1 dX0_offer_36 (lv_at hl 0 rfl) ?_
    refine lv_iload_n C.1 C.2.1 dX0_offer_38 rfl (lv_at hl 2 rfl) ?_
    refine lv_icmp_eq (tgt := 82) C.1 C.2.1 dX0_offer_39 (by decide) (fun c14 => ?_) (fun c14 => ?_)
    · have hX := br_p hX c14
      obtain ⟨v15, ev15⟩ : ∃ z : Int32, z = x3 + 1 := ⟨_, rfl⟩
      have hX := nm_st hX ev15
      refine lv_iinc (v := v15) (lv' := [(3, .int v15), (4, .int v13), (2, .int x2), (0, .ref (ad 0 0)), (1, .int x1)]) C.1 C.2.1 dX0_offer_82 hl (k := 1) rfl (by rw [ev15]; rfl) (by decide) rfl (fun ls hl => ?_)
      refine lv_goto (tgt := 18) C.1 C.2.1 dX0_offer_85 (by decide) ?_
      exact ih t v15 x2 x1 H locs ls X hX hW (lv_sub hl [0, 2, 3, 4] rfl) K0
    have hX := br_n hX c14
    refine lv_aload_n C.1 C.2.1 dX0_offer_42 rfl (lv_at hl 3 rfl) ?_
    refine C_get C hW 0 rfl hin0 hKS.k0_0 rfl 2 (by decide) rfl f0_2 dX0_offer_43 ?_
    refine lv_iload_n C.1 C.2.1 dX0_offer_46 rfl (lv_at hl 1 rfl) ?_
    obtain ⟨hi, hX⟩ := chkI_st hX
    refine C_ldJ C hW hKS.k14_1 rfl hi dX0_offer_47 ?_
    refine lv_lconst (v := 0) C.1 C.2.1 dX0_offer_48 (by decide) ?_
    refine W.lcmp C.1 C.2.1 dX0_offer_49 ?_
    refine lv_if_le (tgt := 82) C.1 C.2.1 dX0_offer_50 (by decide) (fun c16 => ?_) (fun c16 => ?_)
    · have hX := br_p hX c16
      obtain ⟨v17, ev17⟩ : ∃ z : Int32, z = x3 + 1 := ⟨_, rfl⟩
      have hX := nm_st hX ev17
      refine lv_iinc (v := v17) (lv' := [(3, .int v17), (4, .int v13), (2, .int x2), (0, .ref (ad 0 0)), (1, .int x1)]) C.1 C.2.1 dX0_offer_82 hl (k := 1) rfl (by rw [ev17]; rfl) (by decide) rfl (fun ls hl => ?_)
      refine lv_goto (tgt := 18) C.1 C.2.1 dX0_offer_85 (by decide) ?_
      exact ih t v17 x2 x1 H locs ls X hX hW (lv_sub hl [0, 2, 3, 4] rfl) K0
    have hX := br_n hX c16
    refine lv_aload_n C.1 C.2.1 dX0_offer_53 rfl (lv_at hl 3 rfl) ?_
    refine C_get C hW 0 rfl hin0 hKS.k0_0 rfl 1 (by decide) rfl f0_1 dX0_offer_54 ?_
    refine lv_iload_n C.1 C.2.1 dX0_offer_57 rfl (lv_at hl 2 rfl) ?_
    refine lv_aload_n C.1 C.2.1 dX0_offer_58 rfl (lv_at hl 3 rfl) ?_
    refine C_get C hW 0 rfl hin0 hKS.k0_0 rfl 1 (by decide) rfl f0_1 dX0_offer_59 ?_
    refine lv_iload_n C.1 C.2.1 dX0_offer_62 rfl (lv_at hl 2 rfl) ?_
    obtain ⟨hi, hX⟩ := chkI_st hX
    refine C_ldJ C hW hKS.k14_0 rfl hi dX0_offer_63 ?_
    refine lv_aload_n C.1 C.2.1 dX0_offer_64 rfl (lv_at hl 3 rfl) ?_
    refine C_get C hW 0 rfl hin0 hKS.k0_0 rfl 1 (by decide) rfl f0_1 dX0_offer_65 ?_
    refine lv_iload C.1 C.2.1 dX0_offer_68 (lv_at hl 0 rfl) ?_
    obtain ⟨hi, hX⟩ := chkI_st hX
    refine C_ldJ C hW hKS.k14_0 rfl hi dX0_offer_70 ?_
    refine lv_aload_n C.1 C.2.1 dX0_offer_71 rfl (lv_at hl 3 rfl) ?_
    refine C_get C hW 0 rfl hin0 hKS.k0_0 rfl 2 (by decide) rfl f0_2 dX0_offer_72 ?_
    refine lv_iload_n C.1 C.2.1 dX0_offer_75 rfl (lv_at hl 1 rfl) ?_
    obtain ⟨hi, hX⟩ := chkI_st hX
    refine C_ldJ C hW hKS.k14_1 rfl hi dX0_offer_76 ?_
    refine lv_ladd C.1 C.2.1 dX0_offer_77 ?_
    refine va_mmax_long C.1 C.2.1 (C.2.2.1.trans hl.1.symm) C.2.2.2.1 m64_l m64_s m64_i m64_c (Nat.le_of_ble_eq_true rfl) (Nat.le_of_ble_eq_true rfl) (Nat.zero_le _) (Nat.zero_le _) dX0_offer_78 ?_
    refine lv_topl (fun v18 ev18 => ?_)
    have hX := nm_st hX ev18
    obtain ⟨hi, hX⟩ := chkI_st hX
    obtain ⟨t19, et19⟩ : ∃ z, z = uL t 14 0 x2.toNatClampNeg v18 := ⟨_, rfl⟩
    refine C_stJ C hW hKS.k14_0 rfl hi dX0_offer_81 (t' := t19) (by rw [et19]; exact wr14) (by rw [et19]; exact hr_L (by decide)) (fun H locs hW => ?_)
    have hX := nm_st hX et19
    obtain ⟨v20, ev20⟩ : ∃ z : Int32, z = x3 + 1 := ⟨_, rfl⟩
    have hX := nm_st hX ev20
    refine lv_iinc (v := v20) (lv' := [(3, .int v20), (4, .int v13), (2, .int x2), (0, .ref (ad 0 0)), (1, .int x1)]) C.1 C.2.1 dX0_offer_82 hl (k := 1) rfl (by rw [ev20]; rfl) (by decide) rfl (fun ls hl => ?_)
    refine lv_goto (tgt := 18) C.1 C.2.1 dX0_offer_85 (by decide) ?_
    exact ih t19 v20 x2 x1 H locs ls X hX hW (lv_sub hl [0, 2, 3, 4] rfl) K0
def C_Auction_offer_L12 : Nat → List (Nat × Nat) → TH → Int32 → Int32 → Option (TH × Int32)
  | 0, _, _, _, _ => none
  | n + 1, K, t, x2, x1 => if x2 ≤ 0 then some (t, x2) else bnd (C_Auction_offer_L18 100000 K t 0 x2 x1) (fun q => nm2 q (fun t25 v26 => nm (x2 + (-1)) (fun v27 => C_Auction_offer_L12 n K t25 v27 x1)))
set_option maxHeartbeats 4000000 in
set_option maxRecDepth 100000 in
theorem r_C_Auction_offer_L12 {p : Program} {l : Launch} {e : Env} {s : State} {m : MethodId} {args : Array Value} {below : List Frame} {meth : Method} {c : Code} {Q : State → Prop} {Ev : EvT} {D : va_G} {cs : Nat → ClassId} {ad : AD} {A : Nat → Prop} {ek ev : Nat → Nat} {tp : Nat} (C : Cx p s m args c cX0_offer 5 wsX0_offer RX0) {K : List (Nat × Nat)} (hKS : KS K) (hEv : EvC Ev ek ev tp) : ∀ (n : Nat) (t : TH) (x2 : Int32) (x1 : Int32) (H : Heap) (locs : List Loc) (ls : Array Slot) (X : TH × Int32), some X = C_Auction_offer_L12 n K t x2 x1 → GW Ev D (tyC cs) (wC cs ad K) A s t H locs → lv_has ls 5 [(2, .int x2), (0, .ref (ad 0 0)), (1, .int x1)] → (∀ (τ : TH) (z2 : Int32) (H : Heap) (locs : List Loc) (ls : Array Slot), X = (τ, z2) → GW Ev D (tyC cs) (wC cs ad K) A s τ H locs → lv_has ls 5 [(2, .int z2), (0, .ref (ad 0 0)), (1, .int x1)] → W p l e rm_C_Auction_offer s m args below meth c H locs 0 0 Q (F0 m 94 ls [])) → W p l e rm_C_Auction_offer s m args below meth c H locs 0 0 Q (F0 m 12 ls []) := by
  have hin0 : ∀ w ∈ wsX00, w ∈ wsX0_offer := fun w hw => List.mem_cons_of_mem _ (List.mem_append_right _ hw)
  have f0_1 : (Cond.fieldLink RX0 9 (TX0 1).1 (TX0 1).2.1 (TX0 1).2.2.1).before _ s = true := C.2.2.2.2 _ (List.mem_of_getElem? (i := 1) rfl)
  have f0_2 : (Cond.fieldLink RX0 15 (TX0 2).1 (TX0 2).2.1 (TX0 2).2.2.1).before _ s = true := C.2.2.2.2 _ (List.mem_of_getElem? (i := 6) rfl)
  have m28_l : (Cond.methodLink RX0 28 Lib.Math.min.name).before _ s = true := C.2.2.2.2 _ (List.mem_of_getElem? (i := 2) rfl)
  have m28_s : (Cond.static Lib.Math.min.name).before _ s = true := C.2.2.2.2 _ (List.mem_of_getElem? (i := 3) rfl)
  have m28_i : (Cond.initialized "java/lang/Math").before _ s = true := C.2.2.2.2 _ (List.mem_of_getElem? (i := 4) rfl)
  have m28_c : (Cond.code Lib.Math.min.name Lib.Math.min.code 2 (some .int)).before _ s = true := C.2.2.2.2 _ (List.mem_of_getElem? (i := 5) rfl)
  have m64_l : (Cond.methodLink RX0 64 Lib.MathLoose.max_long.x).before _ s = true := C.2.2.2.2 _ (List.mem_of_getElem? (i := 7) rfl)
  have m64_s : (Cond.static Lib.MathLoose.max_long.x).before _ s = true := C.2.2.2.2 _ (List.mem_of_getElem? (i := 8) rfl)
  have m64_i : (Cond.initialized "java/lang/Math").before _ s = true := C.2.2.2.2 _ (List.mem_of_getElem? (i := 4) rfl)
  have m64_c : (Cond.code Lib.MathLoose.max_long.x Lib.MathLoose.max_long.code 4 (some .long)).before _ s = true := C.2.2.2.2 _ (List.mem_of_getElem? (i := 9) rfl)
  intro n
  induction n with
  | zero =>
    intro t x2 x1 H locs ls X hX hW hl K0
    cases hX
  | succ n ih =>
    intro t x2 x1 H locs ls X hX hW hl K0
    unfold C_Auction_offer_L12 at hX
    refine lv_iload_n C.1 C.2.1 dX0_offer_12 rfl (lv_at hl 0 rfl) ?_
    refine lv_if_le (tgt := 94) C.1 C.2.1 dX0_offer_13 (by decide) (fun c24 => ?_) (fun c24 => ?_)
    · have hX := br_p hX c24
      exact K0 t x2 H locs ls (Option.some.inj hX) hW (lv_sub hl [0, 1, 2] rfl)
    have hX := br_n hX c24
    refine lv_iconst (v := 0) C.1 C.2.1 dX0_offer_16 (by decide) ?_
    refine lv_istore_n (i := 3) (lv' := [(3, .int 0), (2, .int x2), (0, .ref (ad 0 0)), (1, .int x1)]) C.1 C.2.1 dX0_offer_17 rfl hl (by decide) rfl (fun ls hl => ?_)
    obtain ⟨q, hq, hX⟩ := bnd_st hX
    refine r_C_Auction_offer_L18 C hKS hEv 100000 t 0 x2 x1 H locs ls q hq.symm hW (lv_sub hl [0, 1, 2, 3] rfl) ?_
    intro t25 v26 H locs ls hq hW hl
    subst hq
    have hX := nm2_st hX rfl
    obtain ⟨v27, ev27⟩ : ∃ z : Int32, z = x2 + (-1) := ⟨_, rfl⟩
    have hX := nm_st hX ev27
    refine lv_iinc (v := v27) (lv' := [(2, .int v27), (3, .int v26), (0, .ref (ad 0 0)), (1, .int x1)]) C.1 C.2.1 dX0_offer_88 hl (k := 1) rfl (by rw [ev27]; rfl) (by decide) rfl (fun ls hl => ?_)
    refine lv_goto (tgt := 12) C.1 C.2.1 dX0_offer_91 (by decide) ?_
    exact ih t25 v27 x1 H locs ls X hX hW (lv_sub hl [0, 2, 3] rfl) K0
def C_Auction_offer (K : List (Nat × Nat)) (t : TH) (x1 : Int32) : Option (TH) := nm (if ((nI (tN t 14 0)) - 1) < x1 then (nI (tN t 14 0)) - 1 else x1) (fun v1 => bnd (C_Auction_offer_L12 100000 K t v1 x1) (fun q => nm2 q (fun t28 v29 => some t28)))
set_option maxHeartbeats 4000000 in
set_option maxRecDepth 100000 in
theorem c_C_Auction_offer {Ev : EvT} {ek ev : Nat → Nat} {tp : Nat} (l : Launch) (D : va_G) (cs : Nat → ClassId) (ad : AD) (K : List (Nat × Nat)) (hKS : KS K) (hEv : EvC Ev ek ev tp) (t : TH) (x1 : Int32) (X : TH) (hX : some X = C_Auction_offer K t x1) : cGv Ev l D (tyC cs) (wC cs ad K) yX0_offer wsX0_offer rm_C_Auction_offer 0 0 [.ref (ad 0 0), .int x1] t (fun u => u = X) := by
  refine G_inv (cc := cX0_offer) (maxL := 5) (ret := none) (by decide) rfl (Nat.le_of_ble_eq_true rfl) ?_
  intro p e s m below meth c A ls C hr hlk hini hA hW hl
  have C : Cx p s m _ c cX0_offer 5 wsX0_offer RX0 := C
  have hl : lv_has ls 5 [(0, .ref (ad 0 0)), (1, .int x1)] := hl
  have hin0 : ∀ w ∈ wsX00, w ∈ wsX0_offer := fun w hw => List.mem_cons_of_mem _ (List.mem_append_right _ hw)
  have f0_1 : (Cond.fieldLink RX0 9 (TX0 1).1 (TX0 1).2.1 (TX0 1).2.2.1).before _ s = true := C.2.2.2.2 _ (List.mem_of_getElem? (i := 1) rfl)
  have f0_2 : (Cond.fieldLink RX0 15 (TX0 2).1 (TX0 2).2.1 (TX0 2).2.2.1).before _ s = true := C.2.2.2.2 _ (List.mem_of_getElem? (i := 6) rfl)
  have m28_l : (Cond.methodLink RX0 28 Lib.Math.min.name).before _ s = true := C.2.2.2.2 _ (List.mem_of_getElem? (i := 2) rfl)
  have m28_s : (Cond.static Lib.Math.min.name).before _ s = true := C.2.2.2.2 _ (List.mem_of_getElem? (i := 3) rfl)
  have m28_i : (Cond.initialized "java/lang/Math").before _ s = true := C.2.2.2.2 _ (List.mem_of_getElem? (i := 4) rfl)
  have m28_c : (Cond.code Lib.Math.min.name Lib.Math.min.code 2 (some .int)).before _ s = true := C.2.2.2.2 _ (List.mem_of_getElem? (i := 5) rfl)
  have m64_l : (Cond.methodLink RX0 64 Lib.MathLoose.max_long.x).before _ s = true := C.2.2.2.2 _ (List.mem_of_getElem? (i := 7) rfl)
  have m64_s : (Cond.static Lib.MathLoose.max_long.x).before _ s = true := C.2.2.2.2 _ (List.mem_of_getElem? (i := 8) rfl)
  have m64_i : (Cond.initialized "java/lang/Math").before _ s = true := C.2.2.2.2 _ (List.mem_of_getElem? (i := 4) rfl)
  have m64_c : (Cond.code Lib.MathLoose.max_long.x Lib.MathLoose.max_long.code 4 (some .long)).before _ s = true := C.2.2.2.2 _ (List.mem_of_getElem? (i := 9) rfl)
  obtain ⟨H, hH⟩ : ∃ H, H = s.heap := ⟨_, rfl⟩
  obtain ⟨locs, hlo⟩ : ∃ z : List Loc, z = [] := ⟨_, rfl⟩
  have hW : GW Ev D (tyC cs) (wC cs ad K) A s t H locs := by rw [hH, hlo]; exact hW
  rw [show W p l e rm_C_Auction_offer s m _ below meth c s.heap [] = W p l e rm_C_Auction_offer s m _ below meth c H locs from by rw [hH, hlo]]
  unfold C_Auction_offer at hX
  refine lv_iload_n C.1 C.2.1 dX0_offer_0 rfl (lv_at hl 1 rfl) ?_
  refine lv_aload_n C.1 C.2.1 dX0_offer_1 rfl (lv_at hl 0 rfl) ?_
  refine C_get C hW 0 rfl hin0 hKS.k0_0 rfl 1 (by decide) rfl f0_1 dX0_offer_2 ?_
  refine C_alen C hW hKS.k14_0 rfl 2 rfl dX0_offer_5 ?_
  refine lv_iconst (v := 1) C.1 C.2.1 dX0_offer_6 (by decide) ?_
  refine lv_isub C.1 C.2.1 dX0_offer_7 ?_
  refine va_mmin C.1 C.2.1 (C.2.2.1.trans hl.1.symm) C.2.2.2.1 m28_l m28_s m28_i m28_c (Nat.le_of_ble_eq_true rfl) (Nat.le_of_ble_eq_true rfl) (Nat.zero_le _) (Nat.zero_le _) dX0_offer_8 ?_
  refine lv_topi (fun v1 ev1 => ?_)
  have hX := nm_st hX ev1
  refine lv_istore_n (i := 2) (lv' := [(2, .int v1), (0, .ref (ad 0 0)), (1, .int x1)]) C.1 C.2.1 dX0_offer_11 rfl hl (by decide) rfl (fun ls hl => ?_)
  obtain ⟨q, hq, hX⟩ := bnd_st hX
  refine r_C_Auction_offer_L12 C hKS hEv 100000 t v1 x1 H locs ls q hq.symm hW (lv_sub hl [0, 1, 2] rfl) ?_
  intro t28 v29 H locs ls hq hW hl
  subst hq
  have hX := nm2_st hX rfl
  exact G_retv C hr hlk hA hW (Option.some.inj hX).symm dX0_offer_94
abbrev rm_C_Auction_tellGains : Room := { frames := 2, cells := 0, slots := 0, locals := 45 }
def C_Auction_tellGains_L6 : Nat → List (Nat × Nat) → TH → Int32 → Int64 → Int64 → Option (TH × Int32 × Int64)
  | 0, _, _, _, _, _ => none
  | n + 1, K, t, x5, x3, x1 => if x5 < 0 then some (t, x5, x3) else nm ((x3 - x3 / 13 * 13).toInt32) (fun v16 => nm (x3 / 13) (fun v17 => bnd (C_People_at K t x5) (fun v18 => opt v18 (nm (x5 + (-1)) (fun v20 => C_Auction_tellGains_L6 n K t v20 v17 x1)) (fun j19 => if v16 = 0 then chkP ((7, j19) ∈ K) (nm (uS t 7 14 j19 (-1)) (fun t27 => nm (x5 + (-1)) (fun v28 => C_Auction_tellGains_L6 n K t27 v28 v17 x1))) else chkP ((7, j19) ∈ K) (bnd (C_Person_knownOfRank K t j19 (12 - v16)) (fun v23 => nm (uS t 7 14 j19 v23) (fun t24 => nm (x5 + (-1)) (fun v25 => C_Auction_tellGains_L6 n K t24 v25 v17 x1))))))))
set_option maxHeartbeats 4000000 in
set_option maxRecDepth 100000 in
theorem r_C_Auction_tellGains_L6 {p : Program} {l : Launch} {e : Env} {s : State} {m : MethodId} {args : Array Value} {below : List Frame} {meth : Method} {c : Code} {Q : State → Prop} {Ev : EvT} {D : va_G} {cs : Nat → ClassId} {ad : AD} {A : Nat → Prop} {ek ev : Nat → Nat} {tp : Nat} (C : Cx p s m args c cX0_tellGains 8 wsX0_tellGains RX0) {K : List (Nat × Nat)} (hKS : KS K) (hEv : EvC Ev ek ev tp) : ∀ (n : Nat) (t : TH) (x5 : Int32) (x3 : Int64) (x1 : Int64) (H : Heap) (locs : List Loc) (ls : Array Slot) (X : TH × Int32 × Int64), some X = C_Auction_tellGains_L6 n K t x5 x3 x1 → GW Ev D (tyC cs) (wC cs ad K) A s t H locs → lv_has ls 8 [(5, .int x5), (3, .long x3), (0, .ref (ad 0 0)), (1, .long x1)] → (∀ (τ : TH) (z5 : Int32) (z3 : Int64) (H : Heap) (locs : List Loc) (ls : Array Slot), X = (τ, z5, z3) → GW Ev D (tyC cs) (wC cs ad K) A s τ H locs → lv_has ls 8 [(5, .int z5), (3, .long z3), (0, .ref (ad 0 0)), (1, .long x1)] → W p l e rm_C_Auction_tellGains s m args below meth c H locs 0 0 Q (F0 m 71 ls [])) → W p l e rm_C_Auction_tellGains s m args below meth c H locs 0 0 Q (F0 m 6 ls []) := by
  have hin0 : ∀ w ∈ wsX00, w ∈ wsX0_tellGains := fun w hw => List.mem_cons_of_mem _ (List.mem_append_left _ (List.mem_append_left _ (List.mem_append_right _ hw)))
  have hin7 : ∀ w ∈ wsX70, w ∈ wsX0_tellGains := fun w hw => List.mem_cons_of_mem _ (List.mem_append_left _ (List.mem_append_right _ hw))
  have f0_0 : (Cond.fieldLink RX0 18 (TX0 0).1 (TX0 0).2.1 (TX0 0).2.2.1).before _ s = true := C.2.2.2.2 _ (List.mem_of_getElem? (i := 2) rfl)
  have f7_14 : (Cond.fieldLink RX0 73 (TX7 14).1 (TX7 14).2.1 (TX7 14).2.2.1).before _ s = true := C.2.2.2.2 _ (List.mem_of_getElem? (i := 3) rfl)
  have k68 : (Cond.constantLong RX0 68 (13)).before _ s = true := C.2.2.2.2 _ (List.mem_of_getElem? (i := 1) rfl)
  intro n
  induction n with
  | zero =>
    intro t x5 x3 x1 H locs ls X hX hW hl K0
    cases hX
  | succ n ih =>
    intro t x5 x3 x1 H locs ls X hX hW hl K0
    unfold C_Auction_tellGains_L6 at hX
    refine lv_iload C.1 C.2.1 dX0_tellGains_6 (lv_at hl 0 rfl) ?_
    refine lv_if_lt (tgt := 71) C.1 C.2.1 dX0_tellGains_8 (by decide) (fun c15 => ?_) (fun c15 => ?_)
    · have hX := br_p hX c15
      exact K0 t x5 x3 H locs ls (Option.some.inj hX) hW (lv_sub hl [0, 1, 2, 3] rfl)
    have hX := br_n hX c15
    refine lv_lload_n C.1 C.2.1 dX0_tellGains_11 rfl (lv_at hl 1 rfl) ?_
    refine lv_ldc2 (v := 13) C.1 C.2.1 C.2.2.2.1 k68 dX0_tellGains_12 ?_
    refine lv_lrem C.1 C.2.1 dX0_tellGains_15 (by decide) ?_
    refine lv_l2i C.1 C.2.1 dX0_tellGains_16 rfl ?_
    refine lv_topi (fun v16 ev16 => ?_)
    have hX := nm_st hX ev16
    refine lv_istore (i := 6) (lv' := [(6, .int v16), (5, .int x5), (3, .long x3), (0, .ref (ad 0 0)), (1, .long x1)]) C.1 C.2.1 dX0_tellGains_17 hl (by decide) rfl (fun ls hl => ?_)
    refine lv_lload_n C.1 C.2.1 dX0_tellGains_19 rfl (lv_at hl 2 rfl) ?_
    refine lv_ldc2 (v := 13) C.1 C.2.1 C.2.2.2.1 k68 dX0_tellGains_20 ?_
    refine lv_ldiv C.1 C.2.1 dX0_tellGains_23 (by decide) ?_
    refine lv_topl (fun v17 ev17 => ?_)
    have hX := nm_st hX ev17
    refine lv_lstore_n (i := 3) (lv' := [(3, .long v17), (6, .int v16), (5, .int x5), (0, .ref (ad 0 0)), (1, .long x1)]) C.1 C.2.1 dX0_tellGains_24 rfl hl (by decide) rfl (fun ls hl => ?_)
    refine lv_aload_n C.1 C.2.1 dX0_tellGains_25 rfl (lv_at hl 3 rfl) ?_
    refine C_get C hW 0 rfl hin0 hKS.k0_0 rfl 0 (by decide) rfl f0_0 dX0_tellGains_26 ?_
    refine lv_iload C.1 C.2.1 dX0_tellGains_29 (lv_at hl 2 rfl) ?_
    obtain ⟨v18, hq, hX⟩ := bnd_st hX
    refine G_V0r (As := [.int x5]) (rest := []) C hW (c_C_People_at l D cs ad K hKS hEv t x5 v18 hq.symm) (cwV 1 C.2.2.2.2 gX0_tellGains_X6_at rfl rfl rfl (by decide +kernel) ⟨Nat.le_of_ble_eq_true rfl, Nat.le_of_ble_eq_true rfl⟩) (C_recv hW 6 hKS.k6_0 rfl rfl) rfl hl.1 rfl (Nat.le_of_ble_eq_true rfl) dX0_tellGains_31 (fun H locs hW => ?_)
    refine lv_astoreQ (i := 7) (lv' := [(7, va_re (ad 7) v18), (3, .long v17), (6, .int v16), (5, .int x5), (0, .ref (ad 0 0)), (1, .long x1)]) C.1 C.2.1 dX0_tellGains_34 hl (by decide) rfl (fun ls hl => ?_)
    refine lv_aloadQ C.1 C.2.1 dX0_tellGains_36 (lv_at hl 0 rfl) ?_
    refine lv_ifnullQ (tgt := 65) C.1 C.2.1 dX0_tellGains_38 (by decide) (fun hj19 => ?_) (fun j19 hj19 => ?_)
    · have hX := opt_n hX hj19
      obtain ⟨v20, ev20⟩ : ∃ z : Int32, z = x5 + (-1) := ⟨_, rfl⟩
      have hX := nm_st hX ev20
      refine lv_iinc (v := v20) (lv' := [(5, .int v20), (7, va_re (ad 7) v18), (3, .long v17), (6, .int v16), (0, .ref (ad 0 0)), (1, .long x1)]) C.1 C.2.1 dX0_tellGains_65 hl (k := 3) rfl (by rw [ev20]; rfl) (by decide) rfl (fun ls hl => ?_)
      refine lv_goto (tgt := 6) C.1 C.2.1 dX0_tellGains_68 (by decide) ?_
      exact ih t v20 v17 x1 H locs ls X hX hW (lv_sub hl [0, 2, 4, 5] rfl) K0
    have hX := opt_s hX hj19
    refine lv_aloadQ C.1 C.2.1 dX0_tellGains_41 (lv_at hl 0 rfl) ?_
    refine lv_iload C.1 C.2.1 dX0_tellGains_43 (lv_at hl 2 rfl) ?_
    refine lv_if_ne (tgt := 52) C.1 C.2.1 dX0_tellGains_45 (by decide) (fun c21 => ?_) (fun c21 => ?_)
    · have hX := br_n hX c21
      refine lv_aloadQ C.1 C.2.1 dX0_tellGains_52 (lv_at hl 0 rfl) ?_
      refine lv_bipush (v := 12) C.1 C.2.1 dX0_tellGains_54 (by decide) ?_
      refine lv_iload C.1 C.2.1 dX0_tellGains_56 (lv_at hl 2 rfl) ?_
      refine lv_isub C.1 C.2.1 dX0_tellGains_58 ?_
      rw [show va_re (ad 7) v18 = .ref (ad 7 j19) from by rw [hj19]; rfl]
      obtain ⟨hk22, hX⟩ := chkP_st hX
      obtain ⟨v23, hq, hX⟩ := bnd_st hX
      refine G_V0p (As := [.int (12 - v16)]) (rest := [.ref (ad 7 j19)]) C hW (c_C_Person_knownOfRank l D cs ad K hKS hEv t j19 (12 - v16) v23 hq.symm) (cwV 1 C.2.2.2.2 gX0_tellGains_X7_knownOfRank rfl rfl rfl (by decide +kernel) ⟨Nat.le_of_ble_eq_true rfl, Nat.le_of_ble_eq_true rfl⟩) (C_recv hW 7 hk22 rfl rfl) rfl hl.1 rfl (Nat.le_of_ble_eq_true rfl) dX0_tellGains_59 (fun H locs hW => ?_)
      obtain ⟨t24, et24⟩ : ∃ z, z = uS t 7 14 j19 v23 := ⟨_, rfl⟩
      refine C_put C hW 7 rfl hin7 tyX7 tyX7_ok nmX7 hk22 rfl 14 (by decide) rfl rfl rfl (Nat.le_of_ble_eq_true rfl) f7_14 dX0_tellGains_62 (t' := t24) (by rw [et24]; exact wr7_14) (by rw [et24]; exact ho_S (by decide)) (fun H locs hW => ?_)
      have hX := nm_st hX et24
      obtain ⟨v25, ev25⟩ : ∃ z : Int32, z = x5 + (-1) := ⟨_, rfl⟩
      have hX := nm_st hX ev25
      refine lv_iinc (v := v25) (lv' := [(5, .int v25), (7, va_re (ad 7) v18), (3, .long v17), (6, .int v16), (0, .ref (ad 0 0)), (1, .long x1)]) C.1 C.2.1 dX0_tellGains_65 hl (k := 3) rfl (by rw [ev25]; rfl) (by decide) rfl (fun ls hl => ?_)
      refine lv_goto (tgt := 6) C.1 C.2.1 dX0_tellGains_68 (by decide) ?_
      exact ih t24 v25 v17 x1 H locs ls X hX hW (lv_sub hl [0, 2, 4, 5] rfl) K0
    have hX := br_p hX c21
    refine lv_iconst (v := -1) C.1 C.2.1 dX0_tellGains_48 (by decide) ?_
    refine lv_goto (tgt := 62) C.1 C.2.1 dX0_tellGains_49 (by decide) ?_
    rw [show va_re (ad 7) v18 = .ref (ad 7 j19) from by rw [hj19]; rfl]
    obtain ⟨hk26, hX⟩ := chkP_st hX
    obtain ⟨t27, et27⟩ : ∃ z, z = uS t 7 14 j19 (-1) := ⟨_, rfl⟩
    refine C_put C hW 7 rfl hin7 tyX7 tyX7_ok nmX7 hk26 rfl 14 (by decide) rfl rfl rfl (Nat.le_of_ble_eq_true rfl) f7_14 dX0_tellGains_62 (t' := t27) (by rw [et27]; exact wr7_14) (by rw [et27]; exact ho_S (by decide)) (fun H locs hW => ?_)
    have hX := nm_st hX et27
    obtain ⟨v28, ev28⟩ : ∃ z : Int32, z = x5 + (-1) := ⟨_, rfl⟩
    have hX := nm_st hX ev28
    refine lv_iinc (v := v28) (lv' := [(5, .int v28), (7, va_re (ad 7) v18), (3, .long v17), (6, .int v16), (0, .ref (ad 0 0)), (1, .long x1)]) C.1 C.2.1 dX0_tellGains_65 hl (k := 3) rfl (by rw [ev28]; rfl) (by decide) rfl (fun ls hl => ?_)
    refine lv_goto (tgt := 6) C.1 C.2.1 dX0_tellGains_68 (by decide) ?_
    exact ih t27 v28 v17 x1 H locs ls X hX hW (lv_sub hl [0, 2, 4, 5] rfl) K0
def C_Auction_tellGains (K : List (Nat × Nat)) (t : TH) (x1 : Int64) : Option (TH) := bnd (C_Auction_tellGains_L6 100000 K t 7 x1 x1) (fun q => nm2 q (fun t29 q => nm2 q (fun v30 v31 => some t29)))
set_option maxHeartbeats 4000000 in
set_option maxRecDepth 100000 in
theorem c_C_Auction_tellGains {Ev : EvT} {ek ev : Nat → Nat} {tp : Nat} (l : Launch) (D : va_G) (cs : Nat → ClassId) (ad : AD) (K : List (Nat × Nat)) (hKS : KS K) (hEv : EvC Ev ek ev tp) (t : TH) (x1 : Int64) (X : TH) (hX : some X = C_Auction_tellGains K t x1) : cGv Ev l D (tyC cs) (wC cs ad K) yX0_tellGains wsX0_tellGains rm_C_Auction_tellGains 0 0 [.ref (ad 0 0), .long x1] t (fun u => u = X) := by
  refine G_inv (cc := cX0_tellGains) (maxL := 8) (ret := none) (by decide) rfl (Nat.le_of_ble_eq_true rfl) ?_
  intro p e s m below meth c A ls C hr hlk hini hA hW hl
  have C : Cx p s m _ c cX0_tellGains 8 wsX0_tellGains RX0 := C
  have hl : lv_has ls 8 [(0, .ref (ad 0 0)), (1, .long x1)] := hl
  have hin0 : ∀ w ∈ wsX00, w ∈ wsX0_tellGains := fun w hw => List.mem_cons_of_mem _ (List.mem_append_left _ (List.mem_append_left _ (List.mem_append_right _ hw)))
  have hin7 : ∀ w ∈ wsX70, w ∈ wsX0_tellGains := fun w hw => List.mem_cons_of_mem _ (List.mem_append_left _ (List.mem_append_right _ hw))
  have f0_0 : (Cond.fieldLink RX0 18 (TX0 0).1 (TX0 0).2.1 (TX0 0).2.2.1).before _ s = true := C.2.2.2.2 _ (List.mem_of_getElem? (i := 2) rfl)
  have f7_14 : (Cond.fieldLink RX0 73 (TX7 14).1 (TX7 14).2.1 (TX7 14).2.2.1).before _ s = true := C.2.2.2.2 _ (List.mem_of_getElem? (i := 3) rfl)
  have k68 : (Cond.constantLong RX0 68 (13)).before _ s = true := C.2.2.2.2 _ (List.mem_of_getElem? (i := 1) rfl)
  obtain ⟨H, hH⟩ : ∃ H, H = s.heap := ⟨_, rfl⟩
  obtain ⟨locs, hlo⟩ : ∃ z : List Loc, z = [] := ⟨_, rfl⟩
  have hW : GW Ev D (tyC cs) (wC cs ad K) A s t H locs := by rw [hH, hlo]; exact hW
  rw [show W p l e rm_C_Auction_tellGains s m _ below meth c s.heap [] = W p l e rm_C_Auction_tellGains s m _ below meth c H locs from by rw [hH, hlo]]
  unfold C_Auction_tellGains at hX
  refine lv_lload_n C.1 C.2.1 dX0_tellGains_0 rfl (lv_at hl 1 rfl) ?_
  refine lv_lstore_n (i := 3) (lv' := [(3, .long x1), (0, .ref (ad 0 0)), (1, .long x1)]) C.1 C.2.1 dX0_tellGains_1 rfl hl (by decide) rfl (fun ls hl => ?_)
  refine lv_bipush (v := 7) C.1 C.2.1 dX0_tellGains_2 (by decide) ?_
  refine lv_istore (i := 5) (lv' := [(5, .int 7), (3, .long x1), (0, .ref (ad 0 0)), (1, .long x1)]) C.1 C.2.1 dX0_tellGains_4 hl (by decide) rfl (fun ls hl => ?_)
  obtain ⟨q, hq, hX⟩ := bnd_st hX
  refine r_C_Auction_tellGains_L6 C hKS hEv 100000 t 7 x1 x1 H locs ls q hq.symm hW (lv_sub hl [0, 1, 2, 3] rfl) ?_
  intro t29 v30 v31 H locs ls hq hW hl
  subst hq
  have hX := nm2_st hX rfl
  have hX := nm2_st hX rfl
  exact G_retv C hr hlk hA hW (Option.some.inj hX).symm dX0_tellGains_71
abbrev rm_C_Auction_settle : Room := { frames := 3, cells := 0, slots := 0, locals := 72 }
def C_Auction_settle_L19 : Nat → List (Nat × Nat) → TH → Int32 → Int32 → Option (TH × Int32)
  | 0, _, _, _, _ => none
  | n + 1, K, t, x2, x1 => if (nI (tN t 14 0)) ≤ x2 then some (t, x2) else chkI x2 (tN t 14 0) (nm (uL t 14 0 x2.toNatClampNeg 0) (fun t7 => nm (x2 + 1) (fun v8 => C_Auction_settle_L19 n K t7 v8 x1)))
set_option maxHeartbeats 4000000 in
set_option maxRecDepth 100000 in
theorem r_C_Auction_settle_L19 {p : Program} {l : Launch} {e : Env} {s : State} {m : MethodId} {args : Array Value} {below : List Frame} {meth : Method} {c : Code} {Q : State → Prop} {Ev : EvT} {D : va_G} {cs : Nat → ClassId} {ad : AD} {A : Nat → Prop} {ek ev : Nat → Nat} {tp : Nat} (C : Cx p s m args c cX0_settle 4 wsX0_settle RX0) {K : List (Nat × Nat)} (hKS : KS K) (hEv : EvC Ev ek ev tp) : ∀ (n : Nat) (t : TH) (x2 : Int32) (x1 : Int32) (H : Heap) (locs : List Loc) (ls : Array Slot) (X : TH × Int32), some X = C_Auction_settle_L19 n K t x2 x1 → GW Ev D (tyC cs) (wC cs ad K) A s t H locs → lv_has ls 4 [(2, .int x2), (1, .int x1), (0, .ref (ad 0 0))] → (∀ (τ : TH) (z2 : Int32) (H : Heap) (locs : List Loc) (ls : Array Slot), X = (τ, z2) → GW Ev D (tyC cs) (wC cs ad K) A s τ H locs → lv_has ls 4 [(2, .int z2), (1, .int x1), (0, .ref (ad 0 0))] → W p l e rm_C_Auction_settle s m args below meth c H locs 0 0 Q (F0 m 41 ls [])) → W p l e rm_C_Auction_settle s m args below meth c H locs 0 0 Q (F0 m 19 ls []) := by
  have hin0 : ∀ w ∈ wsX00, w ∈ wsX0_settle := fun w hw => List.mem_cons_of_mem _ (List.mem_append_left _ (List.mem_append_left _ (List.mem_append_right _ hw)))
  have hin6 : ∀ w ∈ wsX60, w ∈ wsX0_settle := fun w hw => List.mem_cons_of_mem _ (List.mem_append_left _ (List.mem_append_right _ hw))
  have f0_0 : (Cond.fieldLink RX0 18 (TX0 0).1 (TX0 0).2.1 (TX0 0).2.2.1).before _ s = true := C.2.2.2.2 _ (List.mem_of_getElem? (i := 1) rfl)
  have f0_1 : (Cond.fieldLink RX0 9 (TX0 1).1 (TX0 1).2.1 (TX0 1).2.2.1).before _ s = true := C.2.2.2.2 _ (List.mem_of_getElem? (i := 7) rfl)
  have f6_1 : (Cond.fieldLink RX0 22 (TX6 1).1 (TX6 1).2.1 (TX6 1).2.2.1).before _ s = true := C.2.2.2.2 _ (List.mem_of_getElem? (i := 2) rfl)
  have m28_l : (Cond.methodLink RX0 28 Lib.Math.min.name).before _ s = true := C.2.2.2.2 _ (List.mem_of_getElem? (i := 3) rfl)
  have m28_s : (Cond.static Lib.Math.min.name).before _ s = true := C.2.2.2.2 _ (List.mem_of_getElem? (i := 4) rfl)
  have m28_i : (Cond.initialized "java/lang/Math").before _ s = true := C.2.2.2.2 _ (List.mem_of_getElem? (i := 5) rfl)
  have m28_c : (Cond.code Lib.Math.min.name Lib.Math.min.code 2 (some .int)).before _ s = true := C.2.2.2.2 _ (List.mem_of_getElem? (i := 6) rfl)
  intro n
  induction n with
  | zero =>
    intro t x2 x1 H locs ls X hX hW hl K0
    cases hX
  | succ n ih =>
    intro t x2 x1 H locs ls X hX hW hl K0
    unfold C_Auction_settle_L19 at hX
    refine lv_iload_n C.1 C.2.1 dX0_settle_19 rfl (lv_at hl 0 rfl) ?_
    refine lv_aload_n C.1 C.2.1 dX0_settle_20 rfl (lv_at hl 2 rfl) ?_
    refine C_get C hW 0 rfl hin0 hKS.k0_0 rfl 1 (by decide) rfl f0_1 dX0_settle_21 ?_
    refine C_alen C hW hKS.k14_0 rfl 2 rfl dX0_settle_24 ?_
    refine lv_icmp_ge (tgt := 41) C.1 C.2.1 dX0_settle_25 (by decide) (fun c6 => ?_) (fun c6 => ?_)
    · have hX := br_p hX c6
      exact K0 t x2 H locs ls (Option.some.inj hX) hW (lv_sub hl [0, 1, 2] rfl)
    have hX := br_n hX c6
    refine lv_aload_n C.1 C.2.1 dX0_settle_28 rfl (lv_at hl 2 rfl) ?_
    refine C_get C hW 0 rfl hin0 hKS.k0_0 rfl 1 (by decide) rfl f0_1 dX0_settle_29 ?_
    refine lv_iload_n C.1 C.2.1 dX0_settle_32 rfl (lv_at hl 0 rfl) ?_
    refine lv_lconst (v := 0) C.1 C.2.1 dX0_settle_33 (by decide) ?_
    obtain ⟨hi, hX⟩ := chkI_st hX
    obtain ⟨t7, et7⟩ : ∃ z, z = uL t 14 0 x2.toNatClampNeg 0 := ⟨_, rfl⟩
    refine C_stJ C hW hKS.k14_0 rfl hi dX0_settle_34 (t' := t7) (by rw [et7]; exact wr14) (by rw [et7]; exact hr_L (by decide)) (fun H locs hW => ?_)
    have hX := nm_st hX et7
    obtain ⟨v8, ev8⟩ : ∃ z : Int32, z = x2 + 1 := ⟨_, rfl⟩
    have hX := nm_st hX ev8
    refine lv_iinc (v := v8) (lv' := [(2, .int v8), (1, .int x1), (0, .ref (ad 0 0))]) C.1 C.2.1 dX0_settle_35 hl (k := 0) rfl (by rw [ev8]; rfl) (by decide) rfl (fun ls hl => ?_)
    refine lv_goto (tgt := 19) C.1 C.2.1 dX0_settle_38 (by decide) ?_
    exact ih t7 v8 x1 H locs ls X hX hW (lv_sub hl [0, 1, 2] rfl) K0
def C_Auction_settle_L43 : Nat → List (Nat × Nat) → TH → Int32 → Int32 → Option (TH × Int32)
  | 0, _, _, _, _ => none
  | n + 1, K, t, x2, x1 => if 64 ≤ x2 then some (t, x2) else bnd2 (C_Auction_weigh K t x2) (fun v20 t19 => if v20 = 0 then nm (x2 + 1) (fun v22 => C_Auction_settle_L43 n K t19 v22 x1) else bnd (C_Auction_offer K t19 x1) (fun t23 => nm (x2 + 1) (fun v24 => C_Auction_settle_L43 n K t23 v24 x1)))
set_option maxHeartbeats 4000000 in
set_option maxRecDepth 100000 in
theorem r_C_Auction_settle_L43 {p : Program} {l : Launch} {e : Env} {s : State} {m : MethodId} {args : Array Value} {below : List Frame} {meth : Method} {c : Code} {Q : State → Prop} {Ev : EvT} {D : va_G} {cs : Nat → ClassId} {ad : AD} {A : Nat → Prop} {ek ev : Nat → Nat} {tp : Nat} (C : Cx p s m args c cX0_settle 4 wsX0_settle RX0) {K : List (Nat × Nat)} (hKS : KS K) (hEv : EvC Ev ek ev tp) : ∀ (n : Nat) (t : TH) (x2 : Int32) (x1 : Int32) (H : Heap) (locs : List Loc) (ls : Array Slot) (X : TH × Int32), some X = C_Auction_settle_L43 n K t x2 x1 → GW Ev D (tyC cs) (wC cs ad K) A s t H locs → lv_has ls 4 [(2, .int x2), (1, .int x1), (0, .ref (ad 0 0))] → (∀ (τ : TH) (z2 : Int32) (H : Heap) (locs : List Loc) (ls : Array Slot), X = (τ, z2) → GW Ev D (tyC cs) (wC cs ad K) A s τ H locs → lv_has ls 4 [(2, .int z2), (1, .int x1), (0, .ref (ad 0 0))] → W p l e rm_C_Auction_settle s m args below meth c H locs 0 0 Q (F0 m 68 ls [])) → W p l e rm_C_Auction_settle s m args below meth c H locs 0 0 Q (F0 m 43 ls []) := by
  have hin0 : ∀ w ∈ wsX00, w ∈ wsX0_settle := fun w hw => List.mem_cons_of_mem _ (List.mem_append_left _ (List.mem_append_left _ (List.mem_append_right _ hw)))
  have hin6 : ∀ w ∈ wsX60, w ∈ wsX0_settle := fun w hw => List.mem_cons_of_mem _ (List.mem_append_left _ (List.mem_append_right _ hw))
  have f0_0 : (Cond.fieldLink RX0 18 (TX0 0).1 (TX0 0).2.1 (TX0 0).2.2.1).before _ s = true := C.2.2.2.2 _ (List.mem_of_getElem? (i := 1) rfl)
  have f0_1 : (Cond.fieldLink RX0 9 (TX0 1).1 (TX0 1).2.1 (TX0 1).2.2.1).before _ s = true := C.2.2.2.2 _ (List.mem_of_getElem? (i := 7) rfl)
  have f6_1 : (Cond.fieldLink RX0 22 (TX6 1).1 (TX6 1).2.1 (TX6 1).2.2.1).before _ s = true := C.2.2.2.2 _ (List.mem_of_getElem? (i := 2) rfl)
  have m28_l : (Cond.methodLink RX0 28 Lib.Math.min.name).before _ s = true := C.2.2.2.2 _ (List.mem_of_getElem? (i := 3) rfl)
  have m28_s : (Cond.static Lib.Math.min.name).before _ s = true := C.2.2.2.2 _ (List.mem_of_getElem? (i := 4) rfl)
  have m28_i : (Cond.initialized "java/lang/Math").before _ s = true := C.2.2.2.2 _ (List.mem_of_getElem? (i := 5) rfl)
  have m28_c : (Cond.code Lib.Math.min.name Lib.Math.min.code 2 (some .int)).before _ s = true := C.2.2.2.2 _ (List.mem_of_getElem? (i := 6) rfl)
  intro n
  induction n with
  | zero =>
    intro t x2 x1 H locs ls X hX hW hl K0
    cases hX
  | succ n ih =>
    intro t x2 x1 H locs ls X hX hW hl K0
    unfold C_Auction_settle_L43 at hX
    refine lv_iload_n C.1 C.2.1 dX0_settle_43 rfl (lv_at hl 0 rfl) ?_
    refine lv_bipush (v := 64) C.1 C.2.1 dX0_settle_44 (by decide) ?_
    refine lv_icmp_ge (tgt := 68) C.1 C.2.1 dX0_settle_46 (by decide) (fun c18 => ?_) (fun c18 => ?_)
    · have hX := br_p hX c18
      exact K0 t x2 H locs ls (Option.some.inj hX) hW (lv_sub hl [0, 1, 2] rfl)
    have hX := br_n hX c18
    refine lv_aload_n C.1 C.2.1 dX0_settle_49 rfl (lv_at hl 2 rfl) ?_
    refine lv_iload_n C.1 C.2.1 dX0_settle_50 rfl (lv_at hl 0 rfl) ?_
    obtain ⟨v20, t19, hq, hX⟩ := bnd2_st hX
    refine G_V0e (As := [.int x2]) (rest := []) C hW (c_C_Auction_weigh l D cs ad K hKS hEv t x2 (v20, t19) hq.symm) (cwV 1 C.2.2.2.2 gX0_settle_X0_weigh rfl rfl rfl (by decide +kernel) ⟨Nat.le_of_ble_eq_true rfl, Nat.le_of_ble_eq_true rfl⟩) (C_recv hW 0 hKS.k0_0 rfl rfl) rfl hl.1 rfl (Nat.le_of_ble_eq_true rfl) dX0_settle_51 (fun H locs hW => ?_)
    refine lv_if_eq (tgt := 62) C.1 C.2.1 dX0_settle_54 (by decide) (fun c21 => ?_) (fun c21 => ?_)
    · have hX := br_p hX c21
      obtain ⟨v22, ev22⟩ : ∃ z : Int32, z = x2 + 1 := ⟨_, rfl⟩
      have hX := nm_st hX ev22
      refine lv_iinc (v := v22) (lv' := [(2, .int v22), (1, .int x1), (0, .ref (ad 0 0))]) C.1 C.2.1 dX0_settle_62 hl (k := 0) rfl (by rw [ev22]; rfl) (by decide) rfl (fun ls hl => ?_)
      refine lv_goto (tgt := 43) C.1 C.2.1 dX0_settle_65 (by decide) ?_
      exact ih t19 v22 x1 H locs ls X hX hW (lv_sub hl [0, 1, 2] rfl) K0
    have hX := br_n hX c21
    refine lv_aload_n C.1 C.2.1 dX0_settle_57 rfl (lv_at hl 2 rfl) ?_
    refine lv_iload_n C.1 C.2.1 dX0_settle_58 rfl (lv_at hl 1 rfl) ?_
    obtain ⟨t23, hq, hX⟩ := bnd_st hX
    refine G_V0u (As := [.int x1]) (rest := []) C hW (c_C_Auction_offer l D cs ad K hKS hEv t19 x1 t23 hq.symm) (cwV 1 C.2.2.2.2 gX0_settle_X0_offer rfl rfl rfl (by decide +kernel) ⟨Nat.le_of_ble_eq_true rfl, Nat.le_of_ble_eq_true rfl⟩) (C_recv hW 0 hKS.k0_0 rfl rfl) rfl hl.1 rfl (Nat.le_of_ble_eq_true rfl) dX0_settle_59 (fun H locs hW => ?_)
    obtain ⟨v24, ev24⟩ : ∃ z : Int32, z = x2 + 1 := ⟨_, rfl⟩
    have hX := nm_st hX ev24
    refine lv_iinc (v := v24) (lv' := [(2, .int v24), (1, .int x1), (0, .ref (ad 0 0))]) C.1 C.2.1 dX0_settle_62 hl (k := 0) rfl (by rw [ev24]; rfl) (by decide) rfl (fun ls hl => ?_)
    refine lv_goto (tgt := 43) C.1 C.2.1 dX0_settle_65 (by decide) ?_
    exact ih t23 v24 x1 H locs ls X hX hW (lv_sub hl [0, 1, 2] rfl) K0
def C_Auction_settle (K : List (Nat × Nat)) (t : TH) : Option (Int32 × TH) := nm (if 8 < (tS t 6 1 0) then 8 else tS t 6 1 0) (fun v1 => nm (((1 : Int32) <<< (v1 &&& 31)) - 1) (fun v2 => bnd (C_Auction_settle_L19 100000 K t 0 v2) (fun q => nm2 q (fun t9 v10 => bnd (C_Auction_settle_L43 100000 K t9 0 v2) (fun q => nm2 q (fun t25 v26 => if v2 < 0 then bnd (C_Auction_tellGains K t25 (0 - 0 / 815730721 * 815730721)) (fun t28 => some ((0 / 815730721).toInt32, t28)) else if (nI (tN t25 14 0)) ≤ v2 then bnd (C_Auction_tellGains K t25 (0 - 0 / 815730721 * 815730721)) (fun t30 => some ((0 / 815730721).toInt32, t30)) else chkI v2 (tN t25 14 0) (nm (tL t25 14 0 v2.toNatClampNeg) (fun v31 => bnd (C_Auction_tellGains K t25 (v31 - v31 / 815730721 * 815730721)) (fun t32 => some ((v31 / 815730721).toInt32, t32))))))))))
set_option maxHeartbeats 4000000 in
set_option maxRecDepth 100000 in
theorem c_C_Auction_settle {Ev : EvT} {ek ev : Nat → Nat} {tp : Nat} (l : Launch) (D : va_G) (cs : Nat → ClassId) (ad : AD) (K : List (Nat × Nat)) (hKS : KS K) (hEv : EvC Ev ek ev tp) (t : TH) (X : Int32 × TH) (hX : some X = C_Auction_settle K t) : cGi Ev l D (tyC cs) (wC cs ad K) yX0_settle wsX0_settle rm_C_Auction_settle 0 0 [.ref (ad 0 0)] t (fun r u => (r, u) = X) := by
  refine G_ini (cc := cX0_settle) (maxL := 4) (ret := some .int) (by decide) rfl (Nat.le_of_ble_eq_true rfl) ?_
  intro p e s m below meth c A ls C hr hlk hini hA hW hl
  have C : Cx p s m _ c cX0_settle 4 wsX0_settle RX0 := C
  have hl : lv_has ls 4 [(0, .ref (ad 0 0))] := hl
  have hin0 : ∀ w ∈ wsX00, w ∈ wsX0_settle := fun w hw => List.mem_cons_of_mem _ (List.mem_append_left _ (List.mem_append_left _ (List.mem_append_right _ hw)))
  have hin6 : ∀ w ∈ wsX60, w ∈ wsX0_settle := fun w hw => List.mem_cons_of_mem _ (List.mem_append_left _ (List.mem_append_right _ hw))
  have f0_0 : (Cond.fieldLink RX0 18 (TX0 0).1 (TX0 0).2.1 (TX0 0).2.2.1).before _ s = true := C.2.2.2.2 _ (List.mem_of_getElem? (i := 1) rfl)
  have f0_1 : (Cond.fieldLink RX0 9 (TX0 1).1 (TX0 1).2.1 (TX0 1).2.2.1).before _ s = true := C.2.2.2.2 _ (List.mem_of_getElem? (i := 7) rfl)
  have f6_1 : (Cond.fieldLink RX0 22 (TX6 1).1 (TX6 1).2.1 (TX6 1).2.2.1).before _ s = true := C.2.2.2.2 _ (List.mem_of_getElem? (i := 2) rfl)
  have k42 : (Cond.constantLong RX0 42 (815730721)).before _ s = true := C.2.2.2.2 _ (List.mem_of_getElem? (i := 8) rfl)
  have m28_l : (Cond.methodLink RX0 28 Lib.Math.min.name).before _ s = true := C.2.2.2.2 _ (List.mem_of_getElem? (i := 3) rfl)
  have m28_s : (Cond.static Lib.Math.min.name).before _ s = true := C.2.2.2.2 _ (List.mem_of_getElem? (i := 4) rfl)
  have m28_i : (Cond.initialized "java/lang/Math").before _ s = true := C.2.2.2.2 _ (List.mem_of_getElem? (i := 5) rfl)
  have m28_c : (Cond.code Lib.Math.min.name Lib.Math.min.code 2 (some .int)).before _ s = true := C.2.2.2.2 _ (List.mem_of_getElem? (i := 6) rfl)
  obtain ⟨H, hH⟩ : ∃ H, H = s.heap := ⟨_, rfl⟩
  obtain ⟨locs, hlo⟩ : ∃ z : List Loc, z = [] := ⟨_, rfl⟩
  have hW : GW Ev D (tyC cs) (wC cs ad K) A s t H locs := by rw [hH, hlo]; exact hW
  rw [show W p l e rm_C_Auction_settle s m _ below meth c s.heap [] = W p l e rm_C_Auction_settle s m _ below meth c H locs from by rw [hH, hlo]]
  unfold C_Auction_settle at hX
  refine lv_iconst (v := 1) C.1 C.2.1 dX0_settle_0 (by decide) ?_
  refine lv_aload_n C.1 C.2.1 dX0_settle_1 rfl (lv_at hl 0 rfl) ?_
  refine C_get C hW 0 rfl hin0 hKS.k0_0 rfl 0 (by decide) rfl f0_0 dX0_settle_2 ?_
  refine C_get C hW 6 rfl hin6 hKS.k6_0 rfl 1 (by decide) rfl f6_1 dX0_settle_5 ?_
  refine lv_bipush (v := 8) C.1 C.2.1 dX0_settle_8 (by decide) ?_
  refine va_mmin C.1 C.2.1 (C.2.2.1.trans hl.1.symm) C.2.2.2.1 m28_l m28_s m28_i m28_c (Nat.le_of_ble_eq_true rfl) (Nat.le_of_ble_eq_true rfl) (Nat.zero_le _) (Nat.zero_le _) dX0_settle_10 ?_
  refine lv_topi (fun v1 ev1 => ?_)
  have hX := nm_st hX ev1
  refine lv_ishl C.1 C.2.1 dX0_settle_13 ?_
  refine lv_iconst (v := 1) C.1 C.2.1 dX0_settle_14 (by decide) ?_
  refine lv_isub C.1 C.2.1 dX0_settle_15 ?_
  refine lv_topi (fun v2 ev2 => ?_)
  have hX := nm_st hX ev2
  refine lv_istore_n (i := 1) (lv' := [(1, .int v2), (0, .ref (ad 0 0))]) C.1 C.2.1 dX0_settle_16 rfl hl (by decide) rfl (fun ls hl => ?_)
  refine lv_iconst (v := 0) C.1 C.2.1 dX0_settle_17 (by decide) ?_
  refine lv_istore_n (i := 2) (lv' := [(2, .int 0), (1, .int v2), (0, .ref (ad 0 0))]) C.1 C.2.1 dX0_settle_18 rfl hl (by decide) rfl (fun ls hl => ?_)
  obtain ⟨q, hq, hX⟩ := bnd_st hX
  refine r_C_Auction_settle_L19 C hKS hEv 100000 t 0 v2 H locs ls q hq.symm hW (lv_sub hl [0, 1, 2] rfl) ?_
  intro t9 v10 H locs ls hq hW hl
  subst hq
  have hX := nm2_st hX rfl
  refine lv_iconst (v := 0) C.1 C.2.1 dX0_settle_41 (by decide) ?_
  refine lv_istore_n (i := 2) (lv' := [(2, .int 0), (1, .int v2), (0, .ref (ad 0 0))]) C.1 C.2.1 dX0_settle_42 rfl hl (by decide) rfl (fun ls hl => ?_)
  obtain ⟨q, hq, hX⟩ := bnd_st hX
  refine r_C_Auction_settle_L43 C hKS hEv 100000 t9 0 v2 H locs ls q hq.symm hW (lv_sub hl [0, 1, 2] rfl) ?_
  intro t25 v26 H locs ls hq hW hl
  subst hq
  have hX := nm2_st hX rfl
  refine lv_iload_n C.1 C.2.1 dX0_settle_68 rfl (lv_at hl 1 rfl) ?_
  refine lv_if_lt (tgt := 90) C.1 C.2.1 dX0_settle_69 (by decide) (fun c27 => ?_) (fun c27 => ?_)
  · have hX := br_p hX c27
    refine lv_lconst (v := 0) C.1 C.2.1 dX0_settle_90 (by decide) ?_
    refine lv_lstore_n (i := 2) (lv' := [(2, .long 0), (1, .int v2), (0, .ref (ad 0 0))]) C.1 C.2.1 dX0_settle_91 rfl hl (by decide) rfl (fun ls hl => ?_)
    refine lv_aload_n C.1 C.2.1 dX0_settle_92 rfl (lv_at hl 2 rfl) ?_
    refine lv_lload_n C.1 C.2.1 dX0_settle_93 rfl (lv_at hl 0 rfl) ?_
    refine lv_ldc2 (v := 815730721) C.1 C.2.1 C.2.2.2.1 k42 dX0_settle_94 ?_
    refine lv_lrem C.1 C.2.1 dX0_settle_97 (by decide) ?_
    obtain ⟨t28, hq, hX⟩ := bnd_st hX
    refine G_V0u (As := [.long (0 - 0 / 815730721 * 815730721)]) (rest := []) C hW (c_C_Auction_tellGains l D cs ad K hKS hEv t25 (0 - 0 / 815730721 * 815730721) t28 hq.symm) (cwV 1 C.2.2.2.2 gX0_settle_X0_tellGains rfl rfl rfl (by decide +kernel) ⟨Nat.le_of_ble_eq_true rfl, Nat.le_of_ble_eq_true rfl⟩) (C_recv hW 0 hKS.k0_0 rfl rfl) rfl hl.1 rfl (Nat.le_of_ble_eq_true rfl) dX0_settle_98 (fun H locs hW => ?_)
    refine lv_lload_n C.1 C.2.1 dX0_settle_101 rfl (lv_at hl 0 rfl) ?_
    refine lv_ldc2 (v := 815730721) C.1 C.2.1 C.2.2.2.1 k42 dX0_settle_102 ?_
    refine lv_ldiv C.1 C.2.1 dX0_settle_105 (by decide) ?_
    refine lv_l2i C.1 C.2.1 dX0_settle_106 rfl ?_
    exact G_reti C hr hlk hA hW (Option.some.inj hX).symm dX0_settle_107
  have hX := br_n hX c27
  refine lv_iload_n C.1 C.2.1 dX0_settle_72 rfl (lv_at hl 1 rfl) ?_
  refine lv_aload_n C.1 C.2.1 dX0_settle_73 rfl (lv_at hl 2 rfl) ?_
  refine C_get C hW 0 rfl hin0 hKS.k0_0 rfl 1 (by decide) rfl f0_1 dX0_settle_74 ?_
  refine C_alen C hW hKS.k14_0 rfl 2 rfl dX0_settle_77 ?_
  refine lv_icmp_ge (tgt := 90) C.1 C.2.1 dX0_settle_78 (by decide) (fun c29 => ?_) (fun c29 => ?_)
  · have hX := br_p hX c29
    refine lv_lconst (v := 0) C.1 C.2.1 dX0_settle_90 (by decide) ?_
    refine lv_lstore_n (i := 2) (lv' := [(2, .long 0), (1, .int v2), (0, .ref (ad 0 0))]) C.1 C.2.1 dX0_settle_91 rfl hl (by decide) rfl (fun ls hl => ?_)
    refine lv_aload_n C.1 C.2.1 dX0_settle_92 rfl (lv_at hl 2 rfl) ?_
    refine lv_lload_n C.1 C.2.1 dX0_settle_93 rfl (lv_at hl 0 rfl) ?_
    refine lv_ldc2 (v := 815730721) C.1 C.2.1 C.2.2.2.1 k42 dX0_settle_94 ?_
    refine lv_lrem C.1 C.2.1 dX0_settle_97 (by decide) ?_
    obtain ⟨t30, hq, hX⟩ := bnd_st hX
    refine G_V0u (As := [.long (0 - 0 / 815730721 * 815730721)]) (rest := []) C hW (c_C_Auction_tellGains l D cs ad K hKS hEv t25 (0 - 0 / 815730721 * 815730721) t30 hq.symm) (cwV 1 C.2.2.2.2 gX0_settle_X0_tellGains rfl rfl rfl (by decide +kernel) ⟨Nat.le_of_ble_eq_true rfl, Nat.le_of_ble_eq_true rfl⟩) (C_recv hW 0 hKS.k0_0 rfl rfl) rfl hl.1 rfl (Nat.le_of_ble_eq_true rfl) dX0_settle_98 (fun H locs hW => ?_)
    refine lv_lload_n C.1 C.2.1 dX0_settle_101 rfl (lv_at hl 0 rfl) ?_
    refine lv_ldc2 (v := 815730721) C.1 C.2.1 C.2.2.2.1 k42 dX0_settle_102 ?_
    refine lv_ldiv C.1 C.2.1 dX0_settle_105 (by decide) ?_
    refine lv_l2i C.1 C.2.1 dX0_settle_106 rfl ?_
    exact G_reti C hr hlk hA hW (Option.some.inj hX).symm dX0_settle_107
  have hX := br_n hX c29
  refine lv_aload_n C.1 C.2.1 dX0_settle_81 rfl (lv_at hl 2 rfl) ?_
  refine C_get C hW 0 rfl hin0 hKS.k0_0 rfl 1 (by decide) rfl f0_1 dX0_settle_82 ?_
  refine lv_iload_n C.1 C.2.1 dX0_settle_85 rfl (lv_at hl 1 rfl) ?_
  obtain ⟨hi, hX⟩ := chkI_st hX
  refine C_ldJ C hW hKS.k14_0 rfl hi dX0_settle_86 ?_
  refine lv_goto (tgt := 91) C.1 C.2.1 dX0_settle_87 (by decide) ?_
  refine lv_topl (fun v31 ev31 => ?_)
  have hX := nm_st hX ev31
  refine lv_lstore_n (i := 2) (lv' := [(2, .long v31), (1, .int v2), (0, .ref (ad 0 0))]) C.1 C.2.1 dX0_settle_91 rfl hl (by decide) rfl (fun ls hl => ?_)
  refine lv_aload_n C.1 C.2.1 dX0_settle_92 rfl (lv_at hl 2 rfl) ?_
  refine lv_lload_n C.1 C.2.1 dX0_settle_93 rfl (lv_at hl 0 rfl) ?_
  refine lv_ldc2 (v := 815730721) C.1 C.2.1 C.2.2.2.1 k42 dX0_settle_94 ?_
  refine lv_lrem C.1 C.2.1 dX0_settle_97 (by decide) ?_
  obtain ⟨t32, hq, hX⟩ := bnd_st hX
  refine G_V0u (As := [.long (v31 - v31 / 815730721 * 815730721)]) (rest := []) C hW (c_C_Auction_tellGains l D cs ad K hKS hEv t25 (v31 - v31 / 815730721 * 815730721) t32 hq.symm) (cwV 1 C.2.2.2.2 gX0_settle_X0_tellGains rfl rfl rfl (by decide +kernel) ⟨Nat.le_of_ble_eq_true rfl, Nat.le_of_ble_eq_true rfl⟩) (C_recv hW 0 hKS.k0_0 rfl rfl) rfl hl.1 rfl (Nat.le_of_ble_eq_true rfl) dX0_settle_98 (fun H locs hW => ?_)
  refine lv_lload_n C.1 C.2.1 dX0_settle_101 rfl (lv_at hl 0 rfl) ?_
  refine lv_ldc2 (v := 815730721) C.1 C.2.1 C.2.2.2.1 k42 dX0_settle_102 ?_
  refine lv_ldiv C.1 C.2.1 dX0_settle_105 (by decide) ?_
  refine lv_l2i C.1 C.2.1 dX0_settle_106 rfl ?_
  exact G_reti C hr hlk hA hW (Option.some.inj hX).symm dX0_settle_107
