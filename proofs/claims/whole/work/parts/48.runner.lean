def EvX (ek : Nat → Nat) (A : Nat → Prop) (U : State) (H : Heap) : Prop := va_AO "LandRun$Person" U ∧ va_AO "LandRun$Claim" U ∧ va_Nw (.castable "java/util/NoSuchElementException" "java/util/NoSuchElementException") U ∧ va_Nw (.declares (Bundle.initS "java/lang/RuntimeException")) U ∧ va_Nw (.declares (Bundle.initS "java/lang/Exception")) U ∧ va_Nw (.declares (Bundle.initS "java/lang/Throwable")) U ∧ vx_Zq Bundle.tN "UNASSIGNED_STACK" Bundle.steD A U H ∧ vx_Zq Bundle.tN "SUPPRESSED_SENTINEL" Bundle.listD A U H ∧ vk_R "LandRun" 133 "no such one of the people" (ek 10) U ∧ vk_R "LandRun" 164 "nothing such is told of a runner" (ek 11) U ∧ va_Nw (.methodLinkNest RX11 9 yX9_init "LandRun") U ∧ va_Nw (.methodLinkNest RX11 18 yX3_init "LandRun") U ∧ va_Nw (.methodLinkNest RX11 25 yX6_init "LandRun") U ∧ va_Nw (.methodLinkNest RX11 41 yX4_init "LandRun") U ∧ va_Nw (.methodLinkNest RX5 11 yX4_init "LandRun") U
theorem EvX_ok (ek : Nat → Nat) : EvOK (EvX ek) := by
  refine ⟨fun A B s U H H1 h hB hW hq => ?_, fun A s U H hv h => ?_⟩
  · obtain ⟨a1, a2, a3, d1, d2, d3, a4, a5, a6, a7, b0, b1, b2, b3, b4⟩ := h
    exact ⟨a1.moved hW.alike, a2.moved hW.alike, a3.warmC hW, d1.warmD hW, d2.warmD hW, d3.warmD hW, ((a4.moved hW.alike).kept hq).narrow hB, ((a5.moved hW.alike).kept hq).narrow hB, a6.warm hW, a7.warm hW, b0.warmM hW, b1.warmM hW, b2.warmM hW, b3.warmM hW, b4.warmM hW⟩
  · obtain ⟨a1, a2, a3, d1, d2, d3, a4, a5, a6, a7, b0, b1, b2, b3, b4⟩ := h
    have ha : s.vm.Alike U.vm := by rw [← hv]; exact Vm.Alike.refl s.vm
    exact ⟨a1.moved ha, a2.moved ha, a3.same rfl hv, d1.same rfl hv, d2.same rfl hv, d3.same rfl hv, a4.moved ha, a5.moved ha, a6.same hv.symm, a7.same hv.symm, b0.same rfl hv, b1.same rfl hv, b2.same rfl hv, b3.same rfl hv, b4.same rfl hv⟩
def EvA (ek ev : Nat → Nat) (tp : Nat) (A : Nat → Prop) (U : State) (H : Heap) : Prop := EvF ek ev tp A U H ∧ EvX ek A U H
theorem EvA_ok (ek ev : Nat → Nat) (tp : Nat) : EvOK (EvA ek ev tp) := ⟨fun A B s U H H1 h hB hW hq => ⟨(EvF_ok ek ev tp).1 A B s U H H1 h.1 hB hW hq, (EvX_ok ek).1 A B s U H H1 h.2 hB hW hq⟩, fun A s U H hv h => ⟨(EvF_ok ek ev tp).2 A s U H hv h.1, (EvX_ok ek).2 A s U H hv h.2⟩⟩
theorem EvA_c (ek ev : Nat → Nat) (tp : Nat) : EvC (EvA ek ev tp) ek ev tp := fun _ _ _ h => h.1
section GX9
variable {S : Type} {Ev : EvT} {l : Launch} {D : va_G} {tys : List (ClassId × FieldType)} {w : S → va_W} {y : MethodName} {ws : List Cond} {rm : Room} {mc ms : Nat} {av : List Value} {σ : S} {cc : ByteArray} {maxL : Nat} {ret : Option FieldType}
/-- a method that returns an int or throws E0; the world is whole either way -/
def cGx (Ev : EvT) (l : Launch) (D : va_G) (tys : List (ClassId × FieldType)) (w : S → va_W) (y : MethodName) (ws : List Cond) (rm : Room) (mc ms : Nat) (av : List Value) (σ : S) (E0 : String) (post : Int32 → S → Prop) (px : S → Prop) : Prop :=
  ∀ sz : Nat, vx_Met l y ws rm (va_Pc av (gPre Ev D tys w σ sz)) (va_Qi post (gPos D tys w σ sz) (va_A (w σ) sz)) (vx_X px (fun E u t => E = E0 ∧ gPos D tys w σ sz u t) (va_A (w σ) sz)) mc ms (va_A (w σ) sz)
theorem G_inx {post : Int32 → S → Prop} {px : S → Prop} {E0 : String} {ws' : List Cond} (hy : plainName y.cls = true) (hw : ws = Cond.code y cc maxL ret :: ws') (hlen : (lg_sl av).length ≤ maxL)
    (body : ∀ (p : Program) (e : Env) (s : State) (m : MethodId) (below : List Frame) (meth : Method) (c : Code) (A : Nat → Prop) (ls : Array Slot), Cx p s m av.toArray c cc maxL ws y.cls → meth.sig.returnType = ret → meth.locks = false → (∀ x ∈ c.exceptionTable.toList, False) → A = va_A (w σ) s.heap.size → GW Ev D tys w A s σ s.heap [] → lv_has ls maxL (lv_args 0 av) →
      W p l e rm s m av.toArray below meth c s.heap [] 0 0 (vx_MQ below (va_Qi post (gPos D tys w σ s.heap.size) A) (vx_X px (fun E u t => E = E0 ∧ gPos D tys w σ s.heap.size u t) A) av.toArray s mc ms A) (F0 m 0 ls [])) : cGx Ev l D tys w y ws rm mc ms av σ E0 post px := by
  intro sz
  refine vx_ofW (cc := cc) (maxL := maxL) (ret := ret) hy hw ?_
  intro p e s m args below meth c s₁ B hml hex hv
  obtain ⟨rfl, hsz, hP, hK, hD0, hE, hO⟩ := hv
  subst hsz
  have hl := lv_entry av (n := maxL) hlen
  rw [lg_entry_eq]
  exact body p e s m below meth c _ _ ⟨B.exec, B.bytes, hml, findClass_of_methodNamed B.named, atoms_spec (ws := ws) B.pre⟩ B.returns B.notSynchronized hex rfl ⟨hK, hP, hD0.self, va_S.rf, fun q h => Or.inr h, hE, hO⟩ hl
theorem GW.thr {A : Nat → Prop} {s : State} {u : S} {H : Heap} {locs : List Loc} (h : GW Ev D tys w A s u H locs) {σ0 : S} (hA : A = va_A (w σ0) s.heap.size) {t : State} (hv : s.vm.Alike t.vm) (h1 : H.size ≤ t.heap.size) (h2 : ∀ q : Nat, q < H.size → t.heap[q]? = H[q]?) : gPos D tys w σ0 s.heap.size u t ∧ va_F A s t :=
  ⟨⟨h.2.1.kept (fun k q hk => h2 q.1 (vx_lt h.2.1 hk)), va_K.moved hv h.1, by rw [← hA]; exact h.2.2.1⟩, Nat.le_trans h.2.2.2.1.1 h1, fun q hq hn => (h2 q (Nat.lt_of_lt_of_le hq h.2.2.2.1.1)).trans (h.2.2.2.1.2.1 q hq hn)⟩
end GX9
abbrev rm_C_J13_bitCount : Room := { frames := 0, cells := 0, slots := 0, locals := 0 }
def C_J13_bitCount (x0 : Int64) : Option Int32 := nm (x0 - (((x0.toUInt64 >>> ((1 : Int32).toInt64.toUInt64 &&& Int64.toUInt64 63)).toInt64) &&& 6148914691236517205)) (fun v1 => nm ((v1 &&& 3689348814741910323) + (((v1.toUInt64 >>> ((2 : Int32).toInt64.toUInt64 &&& Int64.toUInt64 63)).toInt64) &&& 3689348814741910323)) (fun v2 => nm ((v2 + ((v2.toUInt64 >>> ((4 : Int32).toInt64.toUInt64 &&& Int64.toUInt64 63)).toInt64)) &&& 1085102592571150095) (fun v3 => nm (v3 + ((v3.toUInt64 >>> ((8 : Int32).toInt64.toUInt64 &&& Int64.toUInt64 63)).toInt64)) (fun v4 => nm (v4 + ((v4.toUInt64 >>> ((16 : Int32).toInt64.toUInt64 &&& Int64.toUInt64 63)).toInt64)) (fun v5 => nm (v5 + ((v5.toUInt64 >>> ((32 : Int32).toInt64.toUInt64 &&& Int64.toUInt64 63)).toInt64)) (fun v6 => some (v6.toInt32 &&& 127)))))))
set_option maxHeartbeats 4000000 in
set_option maxRecDepth 100000 in
theorem c_C_J13_bitCount {S : Type} {Ev : EvT} (l : Launch) (D : va_G) (tys : List (ClassId × FieldType)) (w : S → va_W) (t : S) (x0 : Int64) (X : Int32) (hX : some X = C_J13_bitCount x0) : cGi Ev l D tys w yJ13_bitCount_95d88 wsJ13_bitCount_95d88 rm_C_J13_bitCount 0 0 [.long x0] t (fun r u => r = X ∧ u = t) := by
  refine G_ini (cc := cJ13_bitCount_95d88) (maxL := 2) (ret := some .int) (by decide) rfl (Nat.le_of_ble_eq_true rfl) ?_
  intro p e s m below meth c A ls C hr hlk hini hA hW hl
  have C : Cx p s m _ c cJ13_bitCount_95d88 2 wsJ13_bitCount_95d88 RJ13 := C
  have hl : lv_has ls 2 [(0, .long x0)] := hl
  have k314 : (Cond.constantLong RJ13 314 (6148914691236517205)).before _ s = true := C.2.2.2.2 _ (List.mem_of_getElem? (i := 1) rfl)
  have k316 : (Cond.constantLong RJ13 316 (3689348814741910323)).before _ s = true := C.2.2.2.2 _ (List.mem_of_getElem? (i := 2) rfl)
  have k318 : (Cond.constantLong RJ13 318 (1085102592571150095)).before _ s = true := C.2.2.2.2 _ (List.mem_of_getElem? (i := 3) rfl)
  obtain ⟨H, hH⟩ : ∃ H, H = s.heap := ⟨_, rfl⟩
  obtain ⟨locs, hlo⟩ : ∃ z : List Loc, z = [] := ⟨_, rfl⟩
  have hW : GW Ev D tys w A s t H locs := by rw [hH, hlo]; exact hW
  rw [show W p l e rm_C_J13_bitCount s m _ below meth c s.heap [] = W p l e rm_C_J13_bitCount s m _ below meth c H locs from by rw [hH, hlo]]
  unfold C_J13_bitCount at hX
  refine lv_lload_n C.1 C.2.1 dJ13_bitCount_95d88_0 rfl (lv_at hl 0 rfl) ?_
  refine lv_lload_n C.1 C.2.1 dJ13_bitCount_95d88_1 rfl (lv_at hl 0 rfl) ?_
  refine lv_iconst (v := 1) C.1 C.2.1 dJ13_bitCount_95d88_2 (by decide) ?_
  refine lv_lushr C.1 C.2.1 dJ13_bitCount_95d88_3 rfl ?_
  refine lv_ldc2 (v := 6148914691236517205) C.1 C.2.1 C.2.2.2.1 k314 dJ13_bitCount_95d88_4 ?_
  refine lv_land C.1 C.2.1 dJ13_bitCount_95d88_7 ?_
  refine lv_lsub C.1 C.2.1 dJ13_bitCount_95d88_8 ?_
  refine lv_topl (fun v1 ev1 => ?_)
  have hX := nm_st hX ev1
  refine lv_lstore_n (i := 0) (lv' := [(0, .long v1)]) C.1 C.2.1 dJ13_bitCount_95d88_9 rfl hl (by decide) rfl (fun ls hl => ?_)
  refine lv_lload_n C.1 C.2.1 dJ13_bitCount_95d88_10 rfl (lv_at hl 0 rfl) ?_
  refine lv_ldc2 (v := 3689348814741910323) C.1 C.2.1 C.2.2.2.1 k316 dJ13_bitCount_95d88_11 ?_
  refine lv_land C.1 C.2.1 dJ13_bitCount_95d88_14 ?_
  refine lv_lload_n C.1 C.2.1 dJ13_bitCount_95d88_15 rfl (lv_at hl 0 rfl) ?_
  refine lv_iconst (v := 2) C.1 C.2.1 dJ13_bitCount_95d88_16 (by decide) ?_
  refine lv_lushr C.1 C.2.1 dJ13_bitCount_95d88_17 rfl ?_
  refine lv_ldc2 (v := 3689348814741910323) C.1 C.2.1 C.2.2.2.1 k316 dJ13_bitCount_95d88_18 ?_
  refine lv_land C.1 C.2.1 dJ13_bitCount_95d88_21 ?_
  refine lv_ladd C.1 C.2.1 dJ13_bitCount_95d88_22 ?_
  refine lv_topl (fun v2 ev2 => ?_)
  have hX := nm_st hX ev2
  refine lv_lstore_n (i := 0) (lv' := [(0, .long v2)]) C.1 C.2.1 dJ13_bitCount_95d88_23 rfl hl (by decide) rfl (fun ls hl => ?_)
  refine lv_lload_n C.1 C.2.1 dJ13_bitCount_95d88_24 rfl (lv_at hl 0 rfl) ?_
  refine lv_lload_n C.1 C.2.1 dJ13_bitCount_95d88_25 rfl (lv_at hl 0 rfl) ?_
  refine lv_iconst (v := 4) C.1 C.2.1 dJ13_bitCount_95d88_26 (by decide) ?_
  refine lv_lushr C.1 C.2.1 dJ13_bitCount_95d88_27 rfl ?_
  refine lv_ladd C.1 C.2.1 dJ13_bitCount_95d88_28 ?_
  refine lv_ldc2 (v := 1085102592571150095) C.1 C.2.1 C.2.2.2.1 k318 dJ13_bitCount_95d88_29 ?_
  refine lv_land C.1 C.2.1 dJ13_bitCount_95d88_32 ?_
  refine lv_topl (fun v3 ev3 => ?_)
  have hX := nm_st hX ev3
  refine lv_lstore_n (i := 0) (lv' := [(0, .long v3)]) C.1 C.2.1 dJ13_bitCount_95d88_33 rfl hl (by decide) rfl (fun ls hl => ?_)
  refine lv_lload_n C.1 C.2.1 dJ13_bitCount_95d88_34 rfl (lv_at hl 0 rfl) ?_
  refine lv_lload_n C.1 C.2.1 dJ13_bitCount_95d88_35 rfl (lv_at hl 0 rfl) ?_
  refine lv_bipush (v := 8) C.1 C.2.1 dJ13_bitCount_95d88_36 (by decide) ?_
  refine lv_lushr C.1 C.2.1 dJ13_bitCount_95d88_38 rfl ?_
  refine lv_ladd C.1 C.2.1 dJ13_bitCount_95d88_39 ?_
  refine lv_topl (fun v4 ev4 => ?_)
  have hX := nm_st hX ev4
  refine lv_lstore_n (i := 0) (lv' := [(0, .long v4)]) C.1 C.2.1 dJ13_bitCount_95d88_40 rfl hl (by decide) rfl (fun ls hl => ?_)
  refine lv_lload_n C.1 C.2.1 dJ13_bitCount_95d88_41 rfl (lv_at hl 0 rfl) ?_
  refine lv_lload_n C.1 C.2.1 dJ13_bitCount_95d88_42 rfl (lv_at hl 0 rfl) ?_
  refine lv_bipush (v := 16) C.1 C.2.1 dJ13_bitCount_95d88_43 (by decide) ?_
  refine lv_lushr C.1 C.2.1 dJ13_bitCount_95d88_45 rfl ?_
  refine lv_ladd C.1 C.2.1 dJ13_bitCount_95d88_46 ?_
  refine lv_topl (fun v5 ev5 => ?_)
  have hX := nm_st hX ev5
  refine lv_lstore_n (i := 0) (lv' := [(0, .long v5)]) C.1 C.2.1 dJ13_bitCount_95d88_47 rfl hl (by decide) rfl (fun ls hl => ?_)
  refine lv_lload_n C.1 C.2.1 dJ13_bitCount_95d88_48 rfl (lv_at hl 0 rfl) ?_
  refine lv_lload_n C.1 C.2.1 dJ13_bitCount_95d88_49 rfl (lv_at hl 0 rfl) ?_
  refine lv_bipush (v := 32) C.1 C.2.1 dJ13_bitCount_95d88_50 (by decide) ?_
  refine lv_lushr C.1 C.2.1 dJ13_bitCount_95d88_52 rfl ?_
  refine lv_ladd C.1 C.2.1 dJ13_bitCount_95d88_53 ?_
  refine lv_topl (fun v6 ev6 => ?_)
  have hX := nm_st hX ev6
  refine lv_lstore_n (i := 0) (lv' := [(0, .long v6)]) C.1 C.2.1 dJ13_bitCount_95d88_54 rfl hl (by decide) rfl (fun ls hl => ?_)
  refine lv_lload_n C.1 C.2.1 dJ13_bitCount_95d88_55 rfl (lv_at hl 0 rfl) ?_
  refine lv_l2i C.1 C.2.1 dJ13_bitCount_95d88_56 rfl ?_
  refine lv_bipush (v := 127) C.1 C.2.1 dJ13_bitCount_95d88_57 (by decide) ?_
  refine lv_iand C.1 C.2.1 dJ13_bitCount_95d88_59 ?_
  exact G_reti C hr hlk hA hW ⟨(Option.some.inj hX).symm, rfl⟩ dJ13_bitCount_95d88_60
abbrev rm_C_Run_runner : Room := { frames := 6, cells := 1, slots := 6, locals := 90 }
def C_Run_runner (K : List (Nat × Nat)) (t : TH) (x1 : Int32) (x2 : Int32) : Option (Option Int32) := bnd (C_People_at K t x1) (fun v1 => opt v1 (some none) (fun j2 => chkP ((7, j2) ∈ K) (if x2 = 0 then bnd (C_Person_place K t j2) (fun v => some (some v)) else if x2 = 1 then some (some (tS t 7 8 j2)) else if x2 = 2 then some (some (tS t 7 10 j2)) else if x2 = 3 then some (some (tS t 7 11 j2)) else if x2 = 4 then bnd (C_J13_bitCount (tL t 7 12 j2)) (fun v => some (some v)) else if x2 = 5 then (if tS t 7 1 j2 = 0 then some (some 0) else some (some 1)) else some none)))
set_option maxHeartbeats 4000000 in
set_option maxRecDepth 100000 in
theorem c_C_Run_runner {Ev : EvT} {ek ev : Nat → Nat} {tp : Nat} (l : Launch) (hst : l.stackTraces = false) (D : va_G) (cs : Nat → ClassId) (ad : AD) (K : List (Nat × Nat)) (hKS : KS K) (hEv : EvC Ev ek ev tp) (hEx : ∀ (A : Nat → Prop) (U : State) (H : Heap), Ev A U H → EvX ek A U H) (t : TH) (x1 : Int32) (x2 : Int32) (X : Option Int32) (hX : some X = C_Run_runner K t x1 x2) : cGx Ev l D (tyC cs) (wC cs ad K) yX11_runner wsX11_runner rm_C_Run_runner 1 6 [.ref (ad 11 0), .int x1, .int x2] t "java/util/NoSuchElementException" (fun r u => some r = X ∧ u = t) (fun u => none = X ∧ u = t) := by
  refine G_inx (cc := cX11_runner) (maxL := 4) (ret := some .int) (by decide) rfl (Nat.le_of_ble_eq_true rfl) ?_
  intro p e s m below meth c A ls C hr hlk hex hA hW hl
  have C : Cx p s m _ c cX11_runner 4 wsX11_runner RX11 := C
  have hl : lv_has ls 4 [(0, .ref (ad 11 0)), (1, .int x1), (2, .int x2)] := hl
  have hin11 : ∀ w ∈ wsX110, w ∈ wsX11_runner := fun w hw => List.mem_cons_of_mem _ (List.mem_append_left _ (List.mem_append_left _ (List.mem_append_left _ (List.mem_append_right _ hw))))
  have hin7 : ∀ w ∈ wsX70, w ∈ wsX11_runner := fun w hw => List.mem_cons_of_mem _ (List.mem_append_left _ (List.mem_append_left _ (List.mem_append_right _ hw)))
  have f11_2 : (Cond.fieldLink RX11 26 (TX11 2).1 (TX11 2).2.1 (TX11 2).2.2.1).before _ s = true := C.2.2.2.2 _ (List.mem_of_getElem? (i := 3) rfl)
  have f7_8 : (Cond.fieldLink RX11 142 (TX7 8).1 (TX7 8).2.1 (TX7 8).2.2.1).before _ s = true := C.2.2.2.2 _ (List.mem_of_getElem? (i := 4) rfl)
  have f7_10 : (Cond.fieldLink RX11 145 (TX7 10).1 (TX7 10).2.1 (TX7 10).2.2.1).before _ s = true := C.2.2.2.2 _ (List.mem_of_getElem? (i := 5) rfl)
  have f7_11 : (Cond.fieldLink RX11 148 (TX7 11).1 (TX7 11).2.1 (TX7 11).2.2.1).before _ s = true := C.2.2.2.2 _ (List.mem_of_getElem? (i := 6) rfl)
  have f7_12 : (Cond.fieldLink RX11 151 (TX7 12).1 (TX7 12).2.1 (TX7 12).2.2.1).before _ s = true := C.2.2.2.2 _ (List.mem_of_getElem? (i := 7) rfl)
  have f7_1 : (Cond.fieldLink RX11 161 (TX7 1).1 (TX7 1).2.1 (TX7 1).2.2.1).before _ s = true := C.2.2.2.2 _ (List.mem_of_getElem? (i := 8) rfl)
  have hk : (Cond.classLink RX11 131 "java/util/NoSuchElementException").before _ s = true := C.2.2.2.2 _ (List.mem_of_getElem? (i := 1) rfl)
  have hi0 : (Cond.initialized "java/util/NoSuchElementException").before _ s = true := C.2.2.2.2 _ (List.mem_of_getElem? (i := 2) rfl)
  have hE := hEx A s s.heap hW.2.2.2.2.2.1
  have hat : ∀ w ∈ nx_atS RX11 135 "java/util/NoSuchElementException" "java/lang/RuntimeException" 13 prog_27_method_4_code ["java/lang/Exception"], w.before _ s = true := vx_hat (B := [.castable "java/util/NoSuchElementException" "java/util/NoSuchElementException", .declares (Bundle.initS "java/lang/RuntimeException"), .declares (Bundle.initS "java/lang/Exception"), .declares (Bundle.initS "java/lang/Throwable")]) (fun w hw => C.2.2.2.2 w (List.mem_cons_of_mem _ (List.mem_append_right _ hw))) (by decide +kernel) (vx_c (hE.2.2.1.use rfl) (vx_c (hE.2.2.2.1.use rfl) (vx_c (hE.2.2.2.2.1.use rfl) (vx_c (hE.2.2.2.2.2.1.use rfl) vx_n))))
  obtain ⟨H, hH⟩ : ∃ H, H = s.heap := ⟨_, rfl⟩
  obtain ⟨locs, hlo⟩ : ∃ z : List Loc, z = [] := ⟨_, rfl⟩
  have hW : GW Ev D (tyC cs) (wC cs ad K) A s t H locs := by rw [hH, hlo]; exact hW
  rw [show W p l e rm_C_Run_runner s m _ below meth c s.heap [] = W p l e rm_C_Run_runner s m _ below meth c H locs from by rw [hH, hlo]]
  unfold C_Run_runner at hX
  refine lv_aload_n C.1 C.2.1 dX11_runner_0 rfl (lv_at hl 0 rfl) ?_
  refine C_get C hW 11 rfl hin11 hKS.k11_0 rfl 2 (by decide) rfl f11_2 dX11_runner_1 ?_
  refine lv_iload_n C.1 C.2.1 dX11_runner_4 rfl (lv_at hl 1 rfl) ?_
  obtain ⟨v1, hq, hX⟩ := bnd_st hX
  refine G_V0r (As := [.int x1]) (rest := []) C hW (c_C_People_at l D cs ad K hKS hEv t x1 v1 hq.symm) (cwV 1 C.2.2.2.2 gX11_runner_X6_at rfl rfl rfl (by decide +kernel) ⟨(Nat.le_of_ble_eq_true rfl), (Nat.le_of_ble_eq_true rfl)⟩) (C_recv hW 6 hKS.k6_0 rfl rfl) rfl hl.1 rfl (Nat.le_of_ble_eq_true rfl) dX11_runner_5 (fun H locs hW => ?_)
  refine lv_astore_nQ (i := 3) (lv' := [(3, va_re (ad 7) v1), (0, .ref (ad 11 0)), (1, .int x1), (2, .int x2)]) C.1 C.2.1 dX11_runner_8 rfl hl (by decide) rfl (fun ls hl => ?_)
  refine lv_aload_nQ C.1 C.2.1 dX11_runner_9 rfl (lv_at hl 0 rfl) ?_
  refine lv_ifnonnullQ (tgt := 23) C.1 C.2.1 dX11_runner_10 (by decide) (fun j2 hj2 => ?_) (fun hj2 => ?_)
  · have hX := opt_s hX hj2
    obtain ⟨hk3, hX⟩ := chkP_st hX
    refine lv_iload_n C.1 C.2.1 dX11_runner_23 rfl (lv_at hl 3 rfl) ?_
    by_cases c0 : x2 = 0
    · have hX := br_p hX c0
      refine lv_tableIn (tgt := 64) C.1 C.2.1 dX11_runner_24 (by rw [c0]; decide) (by rw [c0]; decide) (by rw [c0]; rfl) (by decide) ?_
      refine lv_aload_nQ C.1 C.2.1 dX11_runner_64 rfl (lv_at hl 0 rfl) ?_
      refine lv_topq hj2 ?_
      obtain ⟨v4, hq, hX⟩ := bnd_st hX
      refine G_V0p (As := []) (rest := []) C hW (c_C_Person_place l D cs ad K hKS hEv t j2 v4 hq.symm) (cwV 0 C.2.2.2.2 gX11_runner_X7_place rfl rfl rfl (by decide +kernel) ⟨(Nat.le_of_ble_eq_true rfl), (Nat.le_of_ble_eq_true rfl)⟩) (C_recv hW 7 hk3 rfl rfl) rfl hl.1 rfl (Nat.le_of_ble_eq_true rfl) dX11_runner_65 (fun H locs hW => ?_)
      refine vx_ret (W.widen (k := 1) (n := 6) (Nat.zero_le _) (Nat.zero_le _) ?_)
      exact G_reti C hr hlk hA hW ⟨(Option.some.inj hX).symm, rfl⟩ dX11_runner_68
    have hX := br_n hX c0
    by_cases c1 : x2 = 1
    · have hX := br_p hX c1
      refine lv_tableIn (tgt := 69) C.1 C.2.1 dX11_runner_24 (by rw [c1]; decide) (by rw [c1]; decide) (by rw [c1]; rfl) (by decide) ?_
      refine lv_aload_nQ C.1 C.2.1 dX11_runner_69 rfl (lv_at hl 0 rfl) ?_
      refine lv_topq hj2 ?_
      refine C_get C hW 7 rfl hin7 hk3 rfl 8 (by decide) rfl f7_8 dX11_runner_70 ?_
      refine vx_ret (W.widen (k := 1) (n := 6) (Nat.zero_le _) (Nat.zero_le _) ?_)
      exact G_reti C hr hlk hA hW ⟨(Option.some.inj hX).symm, rfl⟩ dX11_runner_73
    have hX := br_n hX c1
    by_cases c2 : x2 = 2
    · have hX := br_p hX c2
      refine lv_tableIn (tgt := 74) C.1 C.2.1 dX11_runner_24 (by rw [c2]; decide) (by rw [c2]; decide) (by rw [c2]; rfl) (by decide) ?_
      refine lv_aload_nQ C.1 C.2.1 dX11_runner_74 rfl (lv_at hl 0 rfl) ?_
      refine lv_topq hj2 ?_
      refine C_get C hW 7 rfl hin7 hk3 rfl 10 (by decide) rfl f7_10 dX11_runner_75 ?_
      refine vx_ret (W.widen (k := 1) (n := 6) (Nat.zero_le _) (Nat.zero_le _) ?_)
      exact G_reti C hr hlk hA hW ⟨(Option.some.inj hX).symm, rfl⟩ dX11_runner_78
    have hX := br_n hX c2
    by_cases c3 : x2 = 3
    · have hX := br_p hX c3
      refine lv_tableIn (tgt := 79) C.1 C.2.1 dX11_runner_24 (by rw [c3]; decide) (by rw [c3]; decide) (by rw [c3]; rfl) (by decide) ?_
      refine lv_aload_nQ C.1 C.2.1 dX11_runner_79 rfl (lv_at hl 0 rfl) ?_
      refine lv_topq hj2 ?_
      refine C_get C hW 7 rfl hin7 hk3 rfl 11 (by decide) rfl f7_11 dX11_runner_80 ?_
      refine vx_ret (W.widen (k := 1) (n := 6) (Nat.zero_le _) (Nat.zero_le _) ?_)
      exact G_reti C hr hlk hA hW ⟨(Option.some.inj hX).symm, rfl⟩ dX11_runner_83
    have hX := br_n hX c3
    by_cases c4 : x2 = 4
    · have hX := br_p hX c4
      refine lv_tableIn (tgt := 84) C.1 C.2.1 dX11_runner_24 (by rw [c4]; decide) (by rw [c4]; decide) (by rw [c4]; rfl) (by decide) ?_
      refine lv_aload_nQ C.1 C.2.1 dX11_runner_84 rfl (lv_at hl 0 rfl) ?_
      refine lv_topq hj2 ?_
      refine C_get C hW 7 rfl hin7 hk3 rfl 12 (by decide) rfl f7_12 dX11_runner_85 ?_
      obtain ⟨v4, hq, hX⟩ := bnd_st hX
      refine G_S0s (As := [.long (tL t 7 12 j2)]) (rest := []) C hW (c_C_J13_bitCount l D (tyC cs) (wC cs ad K) t (tL t 7 12 j2) v4 hq.symm) (va_cwS 1 C.2.2.2.2 gX11_runner_J13_bitCount_95d88 rfl rfl rfl (by decide +kernel) ⟨(Nat.le_of_ble_eq_true rfl), (Nat.le_of_ble_eq_true rfl)⟩) rfl hl.1 rfl (Nat.le_of_ble_eq_true rfl) dX11_runner_88 (fun H locs hW => ?_)
      refine vx_ret (W.widen (k := 1) (n := 6) (Nat.zero_le _) (Nat.zero_le _) ?_)
      exact G_reti C hr hlk hA hW ⟨(Option.some.inj hX).symm, rfl⟩ dX11_runner_91
    have hX := br_n hX c4
    by_cases c5 : x2 = 5
    · have hX := br_p hX c5
      refine lv_tableIn (tgt := 92) C.1 C.2.1 dX11_runner_24 (by rw [c5]; decide) (by rw [c5]; decide) (by rw [c5]; rfl) (by decide) ?_
      refine lv_aload_nQ C.1 C.2.1 dX11_runner_92 rfl (lv_at hl 0 rfl) ?_
      refine lv_topq hj2 ?_
      refine C_get C hW 7 rfl hin7 hk3 rfl 1 (by decide) rfl f7_1 dX11_runner_93 ?_
      refine lv_if_eq (tgt := 103) C.1 C.2.1 dX11_runner_96 (by decide) (fun cz => ?_) (fun cz => ?_)
      · have hX := br_p hX cz
        refine lv_iconst (v := 0) C.1 C.2.1 dX11_runner_103 (by decide) ?_
        refine vx_ret (W.widen (k := 1) (n := 6) (Nat.zero_le _) (Nat.zero_le _) ?_)
        exact G_reti C hr hlk hA hW ⟨(Option.some.inj hX).symm, rfl⟩ dX11_runner_104
      have hX := br_n hX cz
      refine lv_iconst (v := 1) C.1 C.2.1 dX11_runner_99 (by decide) ?_
      refine lv_goto (tgt := 104) C.1 C.2.1 dX11_runner_100 (by decide) ?_
      refine vx_ret (W.widen (k := 1) (n := 6) (Nat.zero_le _) (Nat.zero_le _) ?_)
      exact G_reti C hr hlk hA hW ⟨(Option.some.inj hX).symm, rfl⟩ dX11_runner_104
    have hX := br_n hX c5
    refine lv_tableOut (tgt := 105) C.1 C.2.1 dX11_runner_24 (by have g0 := ts_n (z := 0) (by decide) c0; have g1 := ts_n (z := 1) (by decide) c1; have g2 := ts_n (z := 2) (by decide) c2; have g3 := ts_n (z := 3) (by decide) c3; have g4 := ts_n (z := 4) (by decide) c4; have g5 := ts_n (z := 5) (by decide) c5; omega) (by decide) ?_
    refine nx_throwS (A := A) (is := 164) (sa := ek 11) C.1 C.2.1 hst (own := RX11) (cls := "java/util/NoSuchElementException") (text := "nothing such is told of a runner") (names := ["java/lang/Exception"]) (ic := 135) (Y9 := "java/lang/RuntimeException") (n9 := 13) (b9 := prog_27_method_4_code) (by decide +kernel) (by decide +kernel) (by decide +kernel) (by decide +kernel) (by decide +kernel) C.2.2.2.1 (by decide +kernel) (by decide +kernel) hk hi0 hE.2.2.2.2.2.2.2.2.2.1 hat (by decide +kernel) hE.2.2.2.2.2.2.1 hE.2.2.2.2.2.2.2.1 hW.2.2.2.1 (hl.1.trans C.2.2.1.symm) dX11_runner_105 dX11_runner_108 dX11_runner_109 dX11_runner_111 dX11_runner_114 (fun x hx => (hex x hx).elim) (Nat.le_of_ble_eq_true rfl) (Nat.le_of_ble_eq_true rfl) (Nat.le_of_ble_eq_true rfl) (Nat.le_of_ble_eq_true rfl) hlk (fun T hv h1 h2 => ?_) hW.2.2.2.1.2.2 (Nat.le_of_ble_eq_true rfl) (Nat.le_of_ble_eq_true rfl)
    obtain ⟨g1, g2⟩ := hW.thr hA hv h1 h2
    exact ⟨t, ⟨(Option.some.inj hX).symm, rfl⟩, ⟨rfl, g1⟩, g2⟩
  have hX := opt_n hX hj2
  refine nx_throwS (A := A) (is := 133) (sa := ek 10) C.1 C.2.1 hst (own := RX11) (cls := "java/util/NoSuchElementException") (text := "no such one of the people") (names := ["java/lang/Exception"]) (ic := 135) (Y9 := "java/lang/RuntimeException") (n9 := 13) (b9 := prog_27_method_4_code) (by decide +kernel) (by decide +kernel) (by decide +kernel) (by decide +kernel) (by decide +kernel) C.2.2.2.1 (by decide +kernel) (by decide +kernel) hk hi0 hE.2.2.2.2.2.2.2.2.1 hat (by decide +kernel) hE.2.2.2.2.2.2.1 hE.2.2.2.2.2.2.2.1 hW.2.2.2.1 (hl.1.trans C.2.2.1.symm) dX11_runner_13 dX11_runner_16 dX11_runner_17 dX11_runner_19 dX11_runner_22 (fun x hx => (hex x hx).elim) (Nat.le_of_ble_eq_true rfl) (Nat.le_of_ble_eq_true rfl) (Nat.le_of_ble_eq_true rfl) (Nat.le_of_ble_eq_true rfl) hlk (fun T hv h1 h2 => ?_) hW.2.2.2.1.2.2 (Nat.le_of_ble_eq_true rfl) (Nat.le_of_ble_eq_true rfl)
  obtain ⟨g1, g2⟩ := hW.thr hA hv h1 h2
  exact ⟨t, ⟨(Option.some.inj hX).symm, rfl⟩, ⟨rfl, g1⟩, g2⟩
