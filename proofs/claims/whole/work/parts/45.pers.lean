/-- a method that answers a new cell -/
def cGr {S : Type} (Ev : EvT) (l : Launch) (D : va_G) (tys : List (ClassId × FieldType)) (w : S → va_W) (y : MethodName) (ws : List Cond) (rm : Room) (mc ms : Nat) (av : List Value) (σ : S) (post : Nat → S → Prop) : Prop :=
  ∀ sz : Nat, Met l y ws rm (va_Pc av (gPre Ev D tys w σ sz)) (va_Qr (S := Nat × S) (fun ua => post ua.1 ua.2) (fun ua a t => ua.1 = a ∧ gPos D tys w σ sz ua.2 t) (va_A (w σ) sz)) mc ms (va_A (w σ) sz)
section PR
variable {S : Type} {Ev : EvT} {p : Program} {l : Launch} {e : Env} {R : Room} {s : State} {m : MethodId} {args : Array Value} {below : List Frame} {meth : Method} {c : Code} {H : Heap} {locs : List Loc} {cells slots : Nat} {Q : State → Prop}
variable {cc : ByteArray} {pc : Nat} {ls : Array Slot} {rest : List Value} {D : va_G} {tys : List (ClassId × FieldType)} {w : S → va_W} {A : Nat → Prop} {σ σ0 : S}
variable {nL : Nat} {Ts : List Cond} {own : String} {y : MethodName} {ws : List Cond} {rm : Room} {n index mc ms : Nat} {bytes : ByteArray} {maxL : Nat} {ret : Option FieldType} {CC : String} {b : Addr} {As : List Value}
theorem G_inr {post : Nat → S → Prop} {ws' : List Cond} {av : List Value} (hy : plainFor y = true) (hw : ws = Cond.code y cc maxL ret :: ws') (hlen : (lg_sl av).length ≤ maxL)
    (body : ∀ (p : Program) (e : Env) (s : State) (m : MethodId) (below : List Frame) (meth : Method) (c : Code) (A : Nat → Prop) (ls : Array Slot), Cx p s m av.toArray c cc maxL ws y.cls → meth.sig.returnType = ret → meth.locks = false → A = va_A (w σ) s.heap.size → GW Ev D tys w A s σ s.heap [] → lv_has ls maxL (lv_args 0 av) →
      W p l e rm s m av.toArray below meth c s.heap [] 0 0 (MQ below (va_Qr (S := Nat × S) (fun ua => post ua.1 ua.2) (fun ua a t => ua.1 = a ∧ gPos D tys w σ s.heap.size ua.2 t) A) av.toArray s mc ms A) (F0 m 0 ls [])) : cGr Ev l D tys w y ws rm mc ms av σ post := by
  intro sz
  refine va_MetF (cc := cc) (maxL := maxL) (ret := ret) hy hw ?_
  intro p e s m args below meth c s₁ B hml hv
  obtain ⟨rfl, hsz, hP, hK, hD0, hE, hO⟩ := hv
  subst hsz
  have hl := lv_entry av (n := maxL) hlen
  rw [lg_entry_eq]
  exact body p e s m below meth c _ _ ⟨B.exec, B.bytes, hml, findClass_of_methodNamed B.named, atoms_spec (ws := ws) B.pre⟩ B.returns B.notSynchronized rfl ⟨hK, hP, hD0.self, va_S.rf, fun q h => Or.inr h, hE, hO⟩ hl
theorem G_retr {post : Nat → S → Prop} {a : Nat} {rt : FieldType} (C : Cx p s m args c cc nL Ts own) (hr : meth.sig.returnType = some rt) (hrt : (∃ n, rt = .object n) ∨ ∃ t, rt = .array t) (hlk : meth.locks = false) (hA : A = va_A (w σ0) s.heap.size) (hW : GW Ev D tys w A s σ H locs) (hp : post a σ) (hdg : decode cc pc = .ok (.areturn, 1)) : W p l e R s m args below meth c H locs cells slots (MQ below (va_Qr (S := Nat × S) (fun ua => post ua.1 ua.2) (fun ua a t => ua.1 = a ∧ gPos D tys w σ0 s.heap.size ua.2 t) A) args s cells slots A) (F0 m pc ls [.ref a]) :=
  W.aret C.1 C.2.1 hr hrt (Or.inr ⟨a, rfl⟩) (fun t ht hv => ⟨⟨(a, σ), a, rfl, hp, rfl, hW.ret hA ht hv⟩, hW.2.2.2.1.F ht⟩) hW.2.2.2.1.2.2 hdg hlk
theorem G_Sr {post : Nat → S → Prop} {st0 : List Value} (C : Cx p s m args c cc nL Ts own) (hW : GW Ev D tys w A s σ H locs) (hM : cGr Ev l D tys w y ws rm mc ms As σ post) (cw : CallB R s args own index y bytes maxL ret ws rm mc ms n ∧ (Cond.static y).before args s = true) (hn : As.length = n) (hls : ls.size = nL) (hst : st0 = As.reverse ++ rest) (hW8 : (rest.map fun v => v.category).sum ≤ 8) (hdg : decode cc pc = .ok (.invokestatic index, 3)) (hf : cells + mc ≤ R.cells ∧ slots + ms ≤ R.slots)
    (kk : ∀ (a : Nat) (u : S) (H1 : Heap) (locs1 : List Loc), post a u → GW Ev D tys w A s u H1 locs1 → W p l e R s m args below meth c H1 locs1 (cells + mc) (slots + ms) Q (F0 m (pc + 3) ls (.ref a :: rest))) : W p l e R s m args below meth c H locs cells slots Q (F0 m pc ls st0) :=
  va_callr (va_runS (As := As) (rest := rest) C (hM H.size) cw ⟨gPre_blind, fun U hU hv => ⟨rfl, hW.pre hU hv⟩⟩ rfl hn hls hst (lv_room (m := m) (pc := pc) (ls := ls) (rest := st0) hW8) hdg hf) hW.2.2.2.1 (fun q _ h => hW.sub q h) (fun q h => hW.sub q h) (fun u ra t H1 locs1 ht hvm hw hB hz1 hk1 hS => by
    obtain ⟨h1, h2⟩ := hB
    rw [← h1]
    exact kk u.1 u.2 H1 locs1 hw (hW.pos ht hvm h2 hS))
theorem G_Vr {post : Nat → S → Prop} {st0 : List Value} (C : Cx p s m args c cc nL Ts own) (hW : GW Ev D tys w A s σ H locs) (hM : cGr Ev l D tys w y ws rm mc ms (.ref b :: As) σ post) (cw : CallW R s args own CC index y bytes maxL ret ws rm mc ms n) (hrv : ∃ cellB : Cell, H[b]? = some cellB ∧ cellB.vm.isStatics = false ∧ s.vm.findClass CC = some cellB.cls) (hn : As.length = n) (hls : ls.size = nL) (hst : st0 = As.reverse ++ .ref b :: rest) (hW8 : (rest.map fun v => v.category).sum ≤ 8) (hdg : decode cc pc = .ok (.invokevirtual index, 3)) (hf : cells + mc ≤ R.cells ∧ slots + ms ≤ R.slots)
    (kk : ∀ (a : Nat) (u : S) (H1 : Heap) (locs1 : List Loc), post a u → GW Ev D tys w A s u H1 locs1 → W p l e R s m args below meth c H1 locs1 (cells + mc) (slots + ms) Q (F0 m (pc + 3) ls (.ref a :: rest))) : W p l e R s m args below meth c H locs cells slots Q (F0 m pc ls st0) :=
  va_callr (va_runV (As := As) (rest := rest) C (hM H.size) cw ⟨gPre_blind, hrv, fun U hU hv => ⟨rfl, hW.pre hU hv⟩⟩ rfl hn hls hst (lv_room (m := m) (pc := pc) (ls := ls) (rest := st0) hW8) hdg hf) hW.2.2.2.1 (fun q _ h => hW.sub q h) (fun q h => hW.sub q h) (fun u ra t H1 locs1 ht hvm hw hB hz1 hk1 hS => by
    obtain ⟨h1, h2⟩ := hB
    rw [← h1]
    exact kk u.1 u.2 H1 locs1 hw (hW.pos ht hvm h2 hS))
end PR
abbrev rm_copyOf : Room := { frames := 1, cells := 1, slots := 12, locals := 40 }
set_option maxHeartbeats 4000000 in
set_option maxRecDepth 100000 in
theorem c_copyOf {Ev : EvT} (l : Launch) (D : va_G) (cs : Nat → ClassId) (ws : va_W) (k a0 n0 N : Nat) (f : Nat → Int32) (he : ws[k]? = some (a0, .inl (cs 1, n0, .inl f))) (hN : N ≤ 12) (hn : N < n0) (hn0 : n0 < 1000) : cGr Ev l D (tyM cs) idw yJ7_copyOf_59c91 wsJ7_copyOf_59c91 rm_copyOf 1 12 [.ref a0, .int (nI N)] ws (fun a u => u = (a, .inl (cs 1, N, .inl (va_cpy f (fun _ => 0) 0 0 N))) :: ws) := by
  refine G_inr (cc := cJ7_copyOf_59c91) (maxL := 3) (ret := some (.array .int)) (by decide +kernel) rfl (Nat.le_of_ble_eq_true rfl) ?_
  intro p e s m below meth c A ls C hr hlk hA hW hl
  have C : Cx p s m _ c cJ7_copyOf_59c91 3 wsJ7_copyOf_59c91 RJ7 := C
  have hl : lv_has ls 3 [(0, .ref a0), (1, .int (nI N))] := hl
  refine lv_iload_n C.1 C.2.1 dJ7_copyOf_59c91_0 rfl (lv_at hl 1 rfl) ?_
  refine lv_aload_n C.1 C.2.1 dJ7_copyOf_59c91_1 rfl (lv_at hl 0 rfl) ?_
  refine X_lenI C hW k he dJ7_copyOf_59c91_2 ?_
  refine lv_icmp_ne (tgt := 14) C.1 C.2.1 dJ7_copyOf_59c91_3 (by decide) (fun _ => ?_) (fun q => absurd ((nI_eq (by omega) (by omega)).mp q) (by omega))
  refine lv_iload_n C.1 C.2.1 dJ7_copyOf_59c91_14 rfl (lv_at hl 1 rfl) ?_
  refine X_newI (N := N) C hW (C.2.2.2.2 _ (List.mem_of_getElem? (i := 7) rfl)) (nI_pos (by omega)) (nI_clamp (by omega)) (by omega) (Nat.le_of_ble_eq_true rfl) (by show 0 + N ≤ 12; omega) dJ7_copyOf_59c91_15 (fun q H hW => ?_)
  refine W.widen (k := 1) (n := 12) (Nat.le_of_ble_eq_true rfl) (by omega) ?_
  refine lv_astore_n (i := 2) (lv' := [(2, .ref q), (0, .ref a0), (1, .int (nI N))]) C.1 C.2.1 dJ7_copyOf_59c91_17 rfl hl (by decide) rfl (fun ls hl => ?_)
  refine lv_aload_n C.1 C.2.1 dJ7_copyOf_59c91_18 rfl (lv_at hl 1 rfl) ?_
  refine lv_iconst (v := 0) C.1 C.2.1 dJ7_copyOf_59c91_19 (by decide) ?_
  refine lv_aload_n C.1 C.2.1 dJ7_copyOf_59c91_20 rfl (lv_at hl 0 rfl) ?_
  refine lv_iconst (v := 0) C.1 C.2.1 dJ7_copyOf_59c91_21 (by decide) ?_
  refine lv_aload_n C.1 C.2.1 dJ7_copyOf_59c91_22 rfl (lv_at hl 1 rfl) ?_
  refine X_lenI C hW (k + 1) (show ((q, _) :: ws)[k + 1]? = _ from he) dJ7_copyOf_59c91_23 ?_
  refine lv_iload_n C.1 C.2.1 dJ7_copyOf_59c91_24 rfl (lv_at hl 2 rfl) ?_
  refine va_mmin C.1 C.2.1 (C.2.2.1.trans hl.1.symm) C.2.2.2.1 (C.2.2.2.2 _ (List.mem_of_getElem? (i := 8) rfl)) (C.2.2.2.2 _ (List.mem_of_getElem? (i := 9) rfl)) (C.2.2.2.2 _ (List.mem_of_getElem? (i := 10) rfl)) (C.2.2.2.2 _ (List.mem_of_getElem? (i := 11) rfl)) (Nat.le_of_ble_eq_true rfl) (Nat.le_of_ble_eq_true rfl) (Nat.le_of_ble_eq_true rfl) (Nat.le_of_ble_eq_true rfl) dJ7_copyOf_59c91_25 ?_
  rw [if_pos (nI_lt hn (by omega))]
  refine va_copyi C.1 C.2.1 (C.2.2.1.trans hl.1.symm) C.2.2.2.1 (C.2.2.2.2 _ (List.mem_of_getElem? (i := 12) rfl)) (C.2.2.2.2 _ (List.mem_of_getElem? (i := 13) rfl)) (C.2.2.2.2 _ (List.mem_of_getElem? (i := 14) rfl)) (C.2.2.2.2 _ (List.mem_of_getElem? (i := 15) rfl)) hW.1 hW.2.1 hW.2.2.1 hW.2.2.2.1 (k + 1) 0 1 1 (show ((q, _) :: ws)[k + 1]? = _ from he) rfl rfl rfl rfl (by decide) (by decide) (nI_pos (by omega)) (by rw [nI_clamp (by omega)]; show 0 + N ≤ n0; omega) (by rw [nI_clamp (by omega)]; show 0 + N ≤ N; omega) (fun _ _ => rfl) (Nat.le_of_ble_eq_true rfl) (by decide +kernel) dJ7_copyOf_59c91_28 (fun H locs hP hD hS => ?_)
  have hW : GW Ev D (tyM cs) idw A s ((q, .inl (cs 1, N, .inl (va_cpy f (fun _ => 0) 0 0 N))) :: ws) H locs := by
    rw [nI_clamp (by omega)] at hP hD
    exact ⟨hW.1, hP, hD, hS, hW.2.2.2.2⟩
  refine lv_aload_n C.1 C.2.1 dJ7_copyOf_59c91_31 rfl (lv_at hl 0 rfl) ?_
  exact G_retr (post := fun a u => u = (a, .inl (cs 1, N, .inl (va_cpy f (fun _ => 0) 0 0 N))) :: ws) C hr (Or.inr ⟨_, rfl⟩) hlk hA hW rfl dJ7_copyOf_59c91_32
def C_Tape_copied (t : TH) (x1 : Int32) : Option Nat := nm (if x1 < tS t 9 1 0 then x1 else tS t 9 1 0) (fun a => nm (if 0 < a then a else 0) (fun b => chkP (¬ b < 0 ∧ b.toNatClampNeg ≤ 12 ∧ b.toNatClampNeg < tN t 13 0 ∧ tN t 13 0 < 1000) (some b.toNatClampNeg)))
abbrev rm_copied : Room := { frames := 2, cells := 1, slots := 12, locals := 62 }
set_option maxHeartbeats 4000000 in
set_option maxRecDepth 100000 in
theorem c_C_Tape_copied {Ev : EvT} (l : Launch) (D : va_G) (cs : Nat → ClassId) (ad : AD) (K : List (Nat × Nat)) (hKS : KS K) (Xs : va_W) (t : TH) (x1 : Int32) (N : Nat) (hX : some N = C_Tape_copied t x1) : cGr Ev l D (tyM cs) idw yX9_copied wsX9_copied rm_copied 1 12 [.ref (ad 9 0), .int x1] (Xs ++ wC cs ad K t) (fun a u => u = (a, .inl (cs 1, N, .inl (va_cpy (tS t 13 0) (fun _ => 0) 0 0 N))) :: (Xs ++ wC cs ad K t)) := by
  refine G_inr (cc := cX9_copied) (maxL := 2) (ret := some (.array .int)) (by decide +kernel) rfl (Nat.le_of_ble_eq_true rfl) ?_
  intro p e s m below meth c A ls C hr hlk hA hW hl
  have C : Cx p s m _ c cX9_copied 2 wsX9_copied RX9 := C
  have hl : lv_has ls 2 [(0, .ref (ad 9 0)), (1, .int x1)] := hl
  have hin9 : ∀ w ∈ wsX90, w ∈ wsX9_copied := fun w hw => List.mem_cons_of_mem _ (List.mem_append_right _ hw)
  have f0 : (Cond.fieldLink RX9 9 (TX9 0).1 (TX9 0).2.1 (TX9 0).2.2.1).before _ s = true := (C.2.2.2.2 _ (List.mem_of_getElem? (i := 1) rfl))
  have f1 : (Cond.fieldLink RX9 15 (TX9 1).1 (TX9 1).2.1 (TX9 1).2.2.1).before _ s = true := (C.2.2.2.2 _ (List.mem_of_getElem? (i := 2) rfl))
  have hC : GW Ev D (tyC cs) (wC cs ad K) A s t s.heap [] := GX_left (w := wC cs ad K) (GX_comm hW)
  unfold C_Tape_copied at hX
  refine lv_aload_n C.1 C.2.1 dX9_copied_0 rfl (lv_at hl 0 rfl) ?_
  refine C_get C hC 9 rfl hin9 hKS.k9_0 rfl 0 (by decide) rfl f0 dX9_copied_1 ?_
  refine lv_iconst (v := 0) C.1 C.2.1 dX9_copied_4 (by decide) ?_
  refine lv_aload_n C.1 C.2.1 dX9_copied_5 rfl (lv_at hl 0 rfl) ?_
  refine C_get C hC 9 rfl hin9 hKS.k9_0 rfl 1 (by decide) rfl f1 dX9_copied_6 ?_
  refine lv_iload_n C.1 C.2.1 dX9_copied_9 rfl (lv_at hl 1 rfl) ?_
  refine va_mmin C.1 C.2.1 (C.2.2.1.trans hl.1.symm) C.2.2.2.1 (C.2.2.2.2 _ (List.mem_of_getElem? (i := 3) rfl)) (C.2.2.2.2 _ (List.mem_of_getElem? (i := 4) rfl)) (C.2.2.2.2 _ (List.mem_of_getElem? (i := 5) rfl)) (C.2.2.2.2 _ (List.mem_of_getElem? (i := 6) rfl)) (Nat.le_of_ble_eq_true rfl) (Nat.le_of_ble_eq_true rfl) (Nat.zero_le _) (Nat.zero_le _) dX9_copied_10 ?_
  refine lv_topi (fun a ea => ?_)
  have hX := nm_st hX ea
  refine va_mmax C.1 C.2.1 (C.2.2.1.trans hl.1.symm) C.2.2.2.1 (C.2.2.2.2 _ (List.mem_of_getElem? (i := 7) rfl)) (C.2.2.2.2 _ (List.mem_of_getElem? (i := 8) rfl)) (C.2.2.2.2 _ (List.mem_of_getElem? (i := 5) rfl)) (C.2.2.2.2 _ (List.mem_of_getElem? (i := 9) rfl)) (Nat.le_of_ble_eq_true rfl) (Nat.le_of_ble_eq_true rfl) (Nat.zero_le _) (Nat.zero_le _) dX9_copied_13 ?_
  refine lv_topi (fun b eb => ?_)
  have hX := nm_st hX eb
  obtain ⟨⟨hb0, hb1, hb2, hb3⟩, hX⟩ := chkP_st hX
  have hbN : b = nI N := by
    obtain ⟨j, hj, rfl⟩ := nI_of hb0
    rw [Option.some.inj hX, nI_clamp hj]
  have hN : N = b.toNatClampNeg := Option.some.inj hX
  rw [← hN] at hb1 hb2
  rw [hbN]
  obtain ⟨kb, hkb, hwb⟩ := wC_pos (cs := cs) (ad := ad) (t := t) hKS.k13_0
  refine G_Sr (w := idw) (σ := Xs ++ wC cs ad K t) (As := [.ref (ad 13 0), .int (nI N)]) (rest := []) C hW (c_copyOf l D cs (Xs ++ wC cs ad K t) (Xs.length + kb) (ad 13 0) (tN t 13 0) N (tS t 13 0) (by rw [List.getElem?_append_right (by omega), Nat.add_sub_cancel_left]; exact hwb) hb1 hb2 hb3) (va_cwS 2 C.2.2.2.2 gX9_copied_J7_copyOf_59c91 rfl rfl rfl (by decide +kernel) ⟨(Nat.le_of_ble_eq_true rfl), (Nat.le_of_ble_eq_true rfl)⟩) rfl hl.1 rfl (Nat.le_of_ble_eq_true rfl) dX9_copied_16 ⟨(Nat.le_of_ble_eq_true rfl), (Nat.le_of_ble_eq_true rfl)⟩ (fun a u H locs hu hW => ?_)
  refine W.widen (k := 1) (n := 12) (Nat.le_of_ble_eq_true rfl) (Nat.le_of_ble_eq_true rfl) ?_
  exact G_retr (post := fun a u => u = (a, .inl (cs 1, N, .inl (va_cpy (tS t 13 0) (fun _ => 0) 0 0 N))) :: (Xs ++ wC cs ad K t)) C hr (Or.inr ⟨_, rfl⟩) hlk hA hW hu dX9_copied_19
abbrev rm_N_X7_init_f : Room := { frames := 1, cells := 1, slots := 12, locals := 22 }
set_option maxHeartbeats 8000000 in
set_option maxRecDepth 100000 in
theorem c_N_X7_init_f {Ev : EvT} (l : Launch) (D : va_G) (cs : Nat → ClassId) (h : Nat) (x1 : Int32) (x2 : Int32) (x3 : Int32) (x4 : Int32) (a5 : Nat) (kn : Nat) (kf : Nat → Int32) (hkn : kn ≤ 12)  (hz : narrow .boolean (.int x2) = .int x2 ∧ fits .boolean (.int x2) = true) (hnz :  x2 = 0)  : cGv Ev l D (tyM cs) idw yX7_init wsX7_init rm_N_X7_init_f 1 12 [.ref h, .int x1, .int x2, .int x3, .int x4, .ref a5] [(a5, .inl (cs 1, kn, .inl kf)), (h, .inr (7, [.int 0, .int 0, .int 0, .int 0, .null, .null, .int 0, .int 0, .int 0, .int 0, .int 0, .int 0, .long 0, .int 0, .int 0]))] (fun u => ∃ q1 : Nat, u = [(q1, .inl (cs 1, kn, .inl (fun _ => 0))), (a5, .inl (cs 1, kn, .inl kf)), (h, .inr (7, [.int (-1), .int x2, .int x3, .int x4, .ref a5, .ref q1, .int x1, .int (-1), .int (-1), .int (0), .int (-1), .int (-1), .long 0, .int (-1), .int (-1)]))]) := by
  refine G_inv (cc := cX7_init) (maxL := 6) (ret := none) (by decide) rfl (Nat.le_of_ble_eq_true rfl) ?_
  intro p e s m below meth c A ls C hr hlk hini hA hW hl
  have C : Cx p s m _ c cX7_init 6 wsX7_init RX7 := C
  have hl : lv_has ls 6 [(0, .ref h), (1, .int x1), (2, .int x2), (3, .int x3), (4, .int x4), (5, .ref a5)] := hl
  have hin7 : ∀ w ∈ wsX70, w ∈ wsX7_init := fun w hw => List.mem_cons_of_mem _ (List.mem_append_right _ hw)
  have f7_0 : (Cond.fieldLink RX7 9 (TX7 0).1 (TX7 0).2.1 (TX7 0).2.2.1).before _ s = true := C.2.2.2.2 _ (List.mem_of_getElem? (i := 4) rfl)
  have f7_1 : (Cond.fieldLink RX7 37 (TX7 1).1 (TX7 1).2.1 (TX7 1).2.2.1).before _ s = true := C.2.2.2.2 _ (List.mem_of_getElem? (i := 12) rfl)
  have f7_2 : (Cond.fieldLink RX7 41 (TX7 2).1 (TX7 2).2.1 (TX7 2).2.2.1).before _ s = true := C.2.2.2.2 _ (List.mem_of_getElem? (i := 13) rfl)
  have f7_3 : (Cond.fieldLink RX7 44 (TX7 3).1 (TX7 3).2.1 (TX7 3).2.2.1).before _ s = true := C.2.2.2.2 _ (List.mem_of_getElem? (i := 14) rfl)
  have f7_4 : (Cond.fieldLink RX7 47 (TX7 4).1 (TX7 4).2.1 (TX7 4).2.2.1).before _ s = true := C.2.2.2.2 _ (List.mem_of_getElem? (i := 15) rfl)
  have f7_5 : (Cond.fieldLink RX7 51 (TX7 5).1 (TX7 5).2.1 (TX7 5).2.2.1).before _ s = true := C.2.2.2.2 _ (List.mem_of_getElem? (i := 17) rfl)
  have f7_6 : (Cond.fieldLink RX7 60 (TX7 6).1 (TX7 6).2.1 (TX7 6).2.2.1).before _ s = true := C.2.2.2.2 _ (List.mem_of_getElem? (i := 18) rfl)
  have f7_7 : (Cond.fieldLink RX7 66 (TX7 7).1 (TX7 7).2.1 (TX7 7).2.2.1).before _ s = true := C.2.2.2.2 _ (List.mem_of_getElem? (i := 19) rfl)
  have f7_8 : (Cond.fieldLink RX7 15 (TX7 8).1 (TX7 8).2.1 (TX7 8).2.2.1).before _ s = true := C.2.2.2.2 _ (List.mem_of_getElem? (i := 5) rfl)
  have f7_9 : (Cond.fieldLink RX7 18 (TX7 9).1 (TX7 9).2.1 (TX7 9).2.2.1).before _ s = true := C.2.2.2.2 _ (List.mem_of_getElem? (i := 6) rfl)
  have f7_10 : (Cond.fieldLink RX7 21 (TX7 10).1 (TX7 10).2.1 (TX7 10).2.2.1).before _ s = true := C.2.2.2.2 _ (List.mem_of_getElem? (i := 7) rfl)
  have f7_11 : (Cond.fieldLink RX7 24 (TX7 11).1 (TX7 11).2.1 (TX7 11).2.2.1).before _ s = true := C.2.2.2.2 _ (List.mem_of_getElem? (i := 8) rfl)
  have f7_12 : (Cond.fieldLink RX7 27 (TX7 12).1 (TX7 12).2.1 (TX7 12).2.2.1).before _ s = true := C.2.2.2.2 _ (List.mem_of_getElem? (i := 9) rfl)
  have f7_13 : (Cond.fieldLink RX7 31 (TX7 13).1 (TX7 13).2.1 (TX7 13).2.2.1).before _ s = true := C.2.2.2.2 _ (List.mem_of_getElem? (i := 10) rfl)
  have f7_14 : (Cond.fieldLink RX7 34 (TX7 14).1 (TX7 14).2.1 (TX7 14).2.2.1).before _ s = true := C.2.2.2.2 _ (List.mem_of_getElem? (i := 11) rfl)
  obtain ⟨H, hH⟩ : ∃ H, H = s.heap := ⟨_, rfl⟩
  obtain ⟨locs, hlo⟩ : ∃ z : List Loc, z = [] := ⟨_, rfl⟩
  have hW : GW Ev D (tyM cs) idw A s [(a5, .inl (cs 1, kn, .inl kf)), (h, .inr (7, [.int 0, .int 0, .int 0, .int 0, .null, .null, .int 0, .int 0, .int 0, .int 0, .int 0, .int 0, .long 0, .int 0, .int 0]))] H locs := by rw [hH, hlo]; exact hW
  rw [show W p l e rm_N_X7_init_f s m _ below meth c s.heap [] = W p l e rm_N_X7_init_f s m _ below meth c H locs from by rw [hH, hlo]]
  refine lv_aload_n C.1 C.2.1 dX7_init_0 rfl (lv_at hl 0 rfl) ?_
  refine W.objInit C.1 C.2.1 C.2.2.2.1 (C.2.2.2.2 _ (List.mem_of_getElem? (i := 1) rfl)) (C.2.2.2.2 _ (List.mem_of_getElem? (i := 2) rfl)) (C.2.2.2.2 _ (List.mem_of_getElem? (i := 3) rfl)) rfl (hl.1.trans C.2.2.1.symm) rfl dX7_init_1 (Nat.le_of_ble_eq_true rfl) (Nat.le_of_ble_eq_true rfl) ?_
  refine W.eq (g2 := F0 m 4 ls []) rfl ?_
  refine lv_aload_n C.1 C.2.1 dX7_init_4 rfl (lv_at hl 0 rfl) ?_
  refine lv_iconst (v := -1) C.1 C.2.1 dX7_init_5 (by decide) ?_
  refine X_put C hW 1 7 rfl hin7 tyX7 tyX7_ok nmX7 rfl 0 (by decide) rfl rfl rfl  (Nat.le_of_ble_eq_true rfl) f7_0 dX7_init_6 (fun H locs hW => ?_)
  have hW : GW Ev D (tyM cs) idw A s [(a5, .inl (cs 1, kn, .inl kf)), (h, .inr (7, [.int (-1), .int 0, .int 0, .int 0, .null, .null, .int 0, .int 0, .int 0, .int 0, .int 0, .int 0, .long 0, .int 0, .int 0]))] H locs := hW
  refine lv_aload_n C.1 C.2.1 dX7_init_9 rfl (lv_at hl 0 rfl) ?_
  refine lv_iconst (v := -1) C.1 C.2.1 dX7_init_10 (by decide) ?_
  refine X_put C hW 1 7 rfl hin7 tyX7 tyX7_ok nmX7 rfl 8 (by decide) rfl rfl rfl  (Nat.le_of_ble_eq_true rfl) f7_8 dX7_init_11 (fun H locs hW => ?_)
  have hW : GW Ev D (tyM cs) idw A s [(a5, .inl (cs 1, kn, .inl kf)), (h, .inr (7, [.int (-1), .int 0, .int 0, .int 0, .null, .null, .int 0, .int 0, .int (-1), .int 0, .int 0, .int 0, .long 0, .int 0, .int 0]))] H locs := hW
  refine lv_aload_n C.1 C.2.1 dX7_init_14 rfl (lv_at hl 0 rfl) ?_
  refine lv_iconst (v := 0) C.1 C.2.1 dX7_init_15 (by decide) ?_
  refine X_put C hW 1 7 rfl hin7 tyX7 tyX7_ok nmX7 rfl 9 (by decide) rfl rfl rfl  (Nat.le_of_ble_eq_true rfl) f7_9 dX7_init_16 (fun H locs hW => ?_)
  have hW : GW Ev D (tyM cs) idw A s [(a5, .inl (cs 1, kn, .inl kf)), (h, .inr (7, [.int (-1), .int 0, .int 0, .int 0, .null, .null, .int 0, .int 0, .int (-1), .int (0), .int 0, .int 0, .long 0, .int 0, .int 0]))] H locs := hW
  refine lv_aload_n C.1 C.2.1 dX7_init_19 rfl (lv_at hl 0 rfl) ?_
  refine lv_iconst (v := -1) C.1 C.2.1 dX7_init_20 (by decide) ?_
  refine X_put C hW 1 7 rfl hin7 tyX7 tyX7_ok nmX7 rfl 10 (by decide) rfl rfl rfl  (Nat.le_of_ble_eq_true rfl) f7_10 dX7_init_21 (fun H locs hW => ?_)
  have hW : GW Ev D (tyM cs) idw A s [(a5, .inl (cs 1, kn, .inl kf)), (h, .inr (7, [.int (-1), .int 0, .int 0, .int 0, .null, .null, .int 0, .int 0, .int (-1), .int (0), .int (-1), .int 0, .long 0, .int 0, .int 0]))] H locs := hW
  refine lv_aload_n C.1 C.2.1 dX7_init_24 rfl (lv_at hl 0 rfl) ?_
  refine lv_iconst (v := -1) C.1 C.2.1 dX7_init_25 (by decide) ?_
  refine X_put C hW 1 7 rfl hin7 tyX7 tyX7_ok nmX7 rfl 11 (by decide) rfl rfl rfl  (Nat.le_of_ble_eq_true rfl) f7_11 dX7_init_26 (fun H locs hW => ?_)
  have hW : GW Ev D (tyM cs) idw A s [(a5, .inl (cs 1, kn, .inl kf)), (h, .inr (7, [.int (-1), .int 0, .int 0, .int 0, .null, .null, .int 0, .int 0, .int (-1), .int (0), .int (-1), .int (-1), .long 0, .int 0, .int 0]))] H locs := hW
  refine lv_aload_n C.1 C.2.1 dX7_init_29 rfl (lv_at hl 0 rfl) ?_
  refine lv_lconst (v := 0) C.1 C.2.1 dX7_init_30 (by decide) ?_
  refine X_put C hW 1 7 rfl hin7 tyX7 tyX7_ok nmX7 rfl 12 (by decide) rfl rfl rfl  (Nat.le_of_ble_eq_true rfl) f7_12 dX7_init_31 (fun H locs hW => ?_)
  have hW : GW Ev D (tyM cs) idw A s [(a5, .inl (cs 1, kn, .inl kf)), (h, .inr (7, [.int (-1), .int 0, .int 0, .int 0, .null, .null, .int 0, .int 0, .int (-1), .int (0), .int (-1), .int (-1), .long 0, .int 0, .int 0]))] H locs := hW
  refine lv_aload_n C.1 C.2.1 dX7_init_34 rfl (lv_at hl 0 rfl) ?_
  refine lv_iconst (v := -1) C.1 C.2.1 dX7_init_35 (by decide) ?_
  refine X_put C hW 1 7 rfl hin7 tyX7 tyX7_ok nmX7 rfl 13 (by decide) rfl rfl rfl  (Nat.le_of_ble_eq_true rfl) f7_13 dX7_init_36 (fun H locs hW => ?_)
  have hW : GW Ev D (tyM cs) idw A s [(a5, .inl (cs 1, kn, .inl kf)), (h, .inr (7, [.int (-1), .int 0, .int 0, .int 0, .null, .null, .int 0, .int 0, .int (-1), .int (0), .int (-1), .int (-1), .long 0, .int (-1), .int 0]))] H locs := hW
  refine lv_aload_n C.1 C.2.1 dX7_init_39 rfl (lv_at hl 0 rfl) ?_
  refine lv_iconst (v := -1) C.1 C.2.1 dX7_init_40 (by decide) ?_
  refine X_put C hW 1 7 rfl hin7 tyX7 tyX7_ok nmX7 rfl 14 (by decide) rfl rfl rfl  (Nat.le_of_ble_eq_true rfl) f7_14 dX7_init_41 (fun H locs hW => ?_)
  have hW : GW Ev D (tyM cs) idw A s [(a5, .inl (cs 1, kn, .inl kf)), (h, .inr (7, [.int (-1), .int 0, .int 0, .int 0, .null, .null, .int 0, .int 0, .int (-1), .int (0), .int (-1), .int (-1), .long 0, .int (-1), .int (-1)]))] H locs := hW
  refine lv_aload_n C.1 C.2.1 dX7_init_44 rfl (lv_at hl 0 rfl) ?_
  refine lv_iload_n C.1 C.2.1 dX7_init_45 rfl (lv_at hl 2 rfl) ?_
  refine X_putF C (hini rfl) hW 1 7 rfl hin7 tyX7 tyX7_ok nmX7 rfl 1 (by decide) rfl rfl hz.1 hz.2  (Nat.le_of_ble_eq_true rfl) f7_1 dX7_init_46 (fun H locs hW => ?_)
  have hW : GW Ev D (tyM cs) idw A s [(a5, .inl (cs 1, kn, .inl kf)), (h, .inr (7, [.int (-1), .int x2, .int 0, .int 0, .null, .null, .int 0, .int 0, .int (-1), .int (0), .int (-1), .int (-1), .long 0, .int (-1), .int (-1)]))] H locs := hW
  refine lv_aload_n C.1 C.2.1 dX7_init_49 rfl (lv_at hl 0 rfl) ?_
  refine lv_iload_n C.1 C.2.1 dX7_init_50 rfl (lv_at hl 3 rfl) ?_
  refine X_putF C (hini rfl) hW 1 7 rfl hin7 tyX7 tyX7_ok nmX7 rfl 2 (by decide) rfl rfl rfl rfl  (Nat.le_of_ble_eq_true rfl) f7_2 dX7_init_51 (fun H locs hW => ?_)
  have hW : GW Ev D (tyM cs) idw A s [(a5, .inl (cs 1, kn, .inl kf)), (h, .inr (7, [.int (-1), .int x2, .int x3, .int 0, .null, .null, .int 0, .int 0, .int (-1), .int (0), .int (-1), .int (-1), .long 0, .int (-1), .int (-1)]))] H locs := hW
  refine lv_aload_n C.1 C.2.1 dX7_init_54 rfl (lv_at hl 0 rfl) ?_
  refine lv_iload C.1 C.2.1 dX7_init_55 (lv_at hl 4 rfl) ?_
  refine X_putF C (hini rfl) hW 1 7 rfl hin7 tyX7 tyX7_ok nmX7 rfl 3 (by decide) rfl rfl rfl rfl  (Nat.le_of_ble_eq_true rfl) f7_3 dX7_init_57 (fun H locs hW => ?_)
  have hW : GW Ev D (tyM cs) idw A s [(a5, .inl (cs 1, kn, .inl kf)), (h, .inr (7, [.int (-1), .int x2, .int x3, .int x4, .null, .null, .int 0, .int 0, .int (-1), .int (0), .int (-1), .int (-1), .long 0, .int (-1), .int (-1)]))] H locs := hW
  refine lv_aload_n C.1 C.2.1 dX7_init_60 rfl (lv_at hl 0 rfl) ?_
  refine lv_aload C.1 C.2.1 dX7_init_61 (lv_at hl 5 rfl) ?_
  refine X_putF C (hini rfl) hW 1 7 rfl hin7 tyX7 tyX7_ok nmX7 rfl 4 (by decide) rfl rfl rfl rfl  (Nat.le_of_ble_eq_true rfl) f7_4 dX7_init_63 (fun H locs hW => ?_)
  have hW : GW Ev D (tyM cs) idw A s [(a5, .inl (cs 1, kn, .inl kf)), (h, .inr (7, [.int (-1), .int x2, .int x3, .int x4, .ref a5, .null, .int 0, .int 0, .int (-1), .int (0), .int (-1), .int (-1), .long 0, .int (-1), .int (-1)]))] H locs := hW
  refine lv_aload_n C.1 C.2.1 dX7_init_66 rfl (lv_at hl 0 rfl) ?_
  refine lv_aload C.1 C.2.1 dX7_init_67 (lv_at hl 5 rfl) ?_
  refine X_lenI C hW 0 rfl dX7_init_69 ?_
  refine X_newI (N := kn) C hW (C.2.2.2.2 _ (List.mem_of_getElem? (i := 16) rfl)) (nI_pos (by omega)) (nI_clamp (by omega)) (by omega) (Nat.le_of_ble_eq_true rfl) (by show 0 + kn ≤ 12; omega) dX7_init_70 (fun q1 H hW => ?_)
  have hW : GW Ev D (tyM cs) idw A s [(q1, .inl (cs 1, kn, .inl (fun _ => 0))), (a5, .inl (cs 1, kn, .inl kf)), (h, .inr (7, [.int (-1), .int x2, .int x3, .int x4, .ref a5, .null, .int 0, .int 0, .int (-1), .int (0), .int (-1), .int (-1), .long 0, .int (-1), .int (-1)]))] H locs := hW
  refine W.widen (k := 1) (n := 12) (Nat.le_of_ble_eq_true rfl) (by omega) ?_
  refine X_putF C (hini rfl) hW 2 7 rfl hin7 tyX7 tyX7_ok nmX7 rfl 5 (by decide) rfl rfl rfl rfl  (Nat.le_of_ble_eq_true rfl) f7_5 dX7_init_72 (fun H locs hW => ?_)
  have hW : GW Ev D (tyM cs) idw A s [(q1, .inl (cs 1, kn, .inl (fun _ => 0))), (a5, .inl (cs 1, kn, .inl kf)), (h, .inr (7, [.int (-1), .int x2, .int x3, .int x4, .ref a5, .ref q1, .int 0, .int 0, .int (-1), .int (0), .int (-1), .int (-1), .long 0, .int (-1), .int (-1)]))] H locs := hW
  refine lv_aload_n C.1 C.2.1 dX7_init_75 rfl (lv_at hl 0 rfl) ?_
  refine lv_iload_n C.1 C.2.1 dX7_init_76 rfl (lv_at hl 2 rfl) ?_
  refine lv_if_eq (tgt := 89) C.1 C.2.1 dX7_init_77 (by decide) (fun _ => ?_) (fun q => absurd hnz q)
  refine lv_iload_n C.1 C.2.1 dX7_init_89 rfl (lv_at hl 1 rfl) ?_
  refine X_put C hW 2 7 rfl hin7 tyX7 tyX7_ok nmX7 rfl 6 (by decide) rfl rfl rfl  (Nat.le_of_ble_eq_true rfl) f7_6 dX7_init_90 (fun H locs hW => ?_)
  have hW : GW Ev D (tyM cs) idw A s [(q1, .inl (cs 1, kn, .inl (fun _ => 0))), (a5, .inl (cs 1, kn, .inl kf)), (h, .inr (7, [.int (-1), .int x2, .int x3, .int x4, .ref a5, .ref q1, .int x1, .int 0, .int (-1), .int (0), .int (-1), .int (-1), .long 0, .int (-1), .int (-1)]))] H locs := hW
  refine lv_aload_n C.1 C.2.1 dX7_init_93 rfl (lv_at hl 0 rfl) ?_
  refine lv_iload_n C.1 C.2.1 dX7_init_94 rfl (lv_at hl 2 rfl) ?_
  refine lv_if_eq (tgt := 107) C.1 C.2.1 dX7_init_95 (by decide) (fun _ => ?_) (fun q => absurd hnz q)
  refine lv_iconst (v := -1) C.1 C.2.1 dX7_init_107 (by decide) ?_
  refine X_put C hW 2 7 rfl hin7 tyX7 tyX7_ok nmX7 rfl 7 (by decide) rfl rfl rfl  (Nat.le_of_ble_eq_true rfl) f7_7 dX7_init_108 (fun H locs hW => ?_)
  have hW : GW Ev D (tyM cs) idw A s [(q1, .inl (cs 1, kn, .inl (fun _ => 0))), (a5, .inl (cs 1, kn, .inl kf)), (h, .inr (7, [.int (-1), .int x2, .int x3, .int x4, .ref a5, .ref q1, .int x1, .int (-1), .int (-1), .int (0), .int (-1), .int (-1), .long 0, .int (-1), .int (-1)]))] H locs := hW
  exact G_retv C hr hlk hA hW ⟨q1, rfl⟩ dX7_init_111
abbrev rm_N_X7_init_t : Room := { frames := 1, cells := 1, slots := 12, locals := 22 }
set_option maxHeartbeats 8000000 in
set_option maxRecDepth 100000 in
theorem c_N_X7_init_t {Ev : EvT} (l : Launch) (D : va_G) (cs : Nat → ClassId) (h : Nat) (x1 : Int32) (x2 : Int32) (x3 : Int32) (x4 : Int32) (a5 : Nat) (kn : Nat) (kf : Nat → Int32) (hkn : kn ≤ 12) (fd fm : Int32) (hfd : some fd = C_J9_floorDiv x1 8) (hfm : some fm = C_J9_floorMod x1 8) (hz : narrow .boolean (.int x2) = .int x2 ∧ fits .boolean (.int x2) = true) (hnz : ¬ x2 = 0)  : cGv Ev l D (tyM cs) idw yX7_init wsX7_init rm_N_X7_init_t 1 12 [.ref h, .int x1, .int x2, .int x3, .int x4, .ref a5] [(a5, .inl (cs 1, kn, .inl kf)), (h, .inr (7, [.int 0, .int 0, .int 0, .int 0, .null, .null, .int 0, .int 0, .int 0, .int 0, .int 0, .int 0, .long 0, .int 0, .int 0]))] (fun u => ∃ q1 : Nat, u = [(q1, .inl (cs 1, kn, .inl (fun _ => 0))), (a5, .inl (cs 1, kn, .inl kf)), (h, .inr (7, [.int (-1), .int x2, .int x3, .int x4, .ref a5, .ref q1, .int fd, .int fm, .int (-1), .int (0), .int (-1), .int (-1), .long 0, .int (-1), .int (-1)]))]) := by
  refine G_inv (cc := cX7_init) (maxL := 6) (ret := none) (by decide) rfl (Nat.le_of_ble_eq_true rfl) ?_
  intro p e s m below meth c A ls C hr hlk hini hA hW hl
  have C : Cx p s m _ c cX7_init 6 wsX7_init RX7 := C
  have hl : lv_has ls 6 [(0, .ref h), (1, .int x1), (2, .int x2), (3, .int x3), (4, .int x4), (5, .ref a5)] := hl
  have hin7 : ∀ w ∈ wsX70, w ∈ wsX7_init := fun w hw => List.mem_cons_of_mem _ (List.mem_append_right _ hw)
  have f7_0 : (Cond.fieldLink RX7 9 (TX7 0).1 (TX7 0).2.1 (TX7 0).2.2.1).before _ s = true := C.2.2.2.2 _ (List.mem_of_getElem? (i := 4) rfl)
  have f7_1 : (Cond.fieldLink RX7 37 (TX7 1).1 (TX7 1).2.1 (TX7 1).2.2.1).before _ s = true := C.2.2.2.2 _ (List.mem_of_getElem? (i := 12) rfl)
  have f7_2 : (Cond.fieldLink RX7 41 (TX7 2).1 (TX7 2).2.1 (TX7 2).2.2.1).before _ s = true := C.2.2.2.2 _ (List.mem_of_getElem? (i := 13) rfl)
  have f7_3 : (Cond.fieldLink RX7 44 (TX7 3).1 (TX7 3).2.1 (TX7 3).2.2.1).before _ s = true := C.2.2.2.2 _ (List.mem_of_getElem? (i := 14) rfl)
  have f7_4 : (Cond.fieldLink RX7 47 (TX7 4).1 (TX7 4).2.1 (TX7 4).2.2.1).before _ s = true := C.2.2.2.2 _ (List.mem_of_getElem? (i := 15) rfl)
  have f7_5 : (Cond.fieldLink RX7 51 (TX7 5).1 (TX7 5).2.1 (TX7 5).2.2.1).before _ s = true := C.2.2.2.2 _ (List.mem_of_getElem? (i := 17) rfl)
  have f7_6 : (Cond.fieldLink RX7 60 (TX7 6).1 (TX7 6).2.1 (TX7 6).2.2.1).before _ s = true := C.2.2.2.2 _ (List.mem_of_getElem? (i := 18) rfl)
  have f7_7 : (Cond.fieldLink RX7 66 (TX7 7).1 (TX7 7).2.1 (TX7 7).2.2.1).before _ s = true := C.2.2.2.2 _ (List.mem_of_getElem? (i := 19) rfl)
  have f7_8 : (Cond.fieldLink RX7 15 (TX7 8).1 (TX7 8).2.1 (TX7 8).2.2.1).before _ s = true := C.2.2.2.2 _ (List.mem_of_getElem? (i := 5) rfl)
  have f7_9 : (Cond.fieldLink RX7 18 (TX7 9).1 (TX7 9).2.1 (TX7 9).2.2.1).before _ s = true := C.2.2.2.2 _ (List.mem_of_getElem? (i := 6) rfl)
  have f7_10 : (Cond.fieldLink RX7 21 (TX7 10).1 (TX7 10).2.1 (TX7 10).2.2.1).before _ s = true := C.2.2.2.2 _ (List.mem_of_getElem? (i := 7) rfl)
  have f7_11 : (Cond.fieldLink RX7 24 (TX7 11).1 (TX7 11).2.1 (TX7 11).2.2.1).before _ s = true := C.2.2.2.2 _ (List.mem_of_getElem? (i := 8) rfl)
  have f7_12 : (Cond.fieldLink RX7 27 (TX7 12).1 (TX7 12).2.1 (TX7 12).2.2.1).before _ s = true := C.2.2.2.2 _ (List.mem_of_getElem? (i := 9) rfl)
  have f7_13 : (Cond.fieldLink RX7 31 (TX7 13).1 (TX7 13).2.1 (TX7 13).2.2.1).before _ s = true := C.2.2.2.2 _ (List.mem_of_getElem? (i := 10) rfl)
  have f7_14 : (Cond.fieldLink RX7 34 (TX7 14).1 (TX7 14).2.1 (TX7 14).2.2.1).before _ s = true := C.2.2.2.2 _ (List.mem_of_getElem? (i := 11) rfl)
  obtain ⟨H, hH⟩ : ∃ H, H = s.heap := ⟨_, rfl⟩
  obtain ⟨locs, hlo⟩ : ∃ z : List Loc, z = [] := ⟨_, rfl⟩
  have hW : GW Ev D (tyM cs) idw A s [(a5, .inl (cs 1, kn, .inl kf)), (h, .inr (7, [.int 0, .int 0, .int 0, .int 0, .null, .null, .int 0, .int 0, .int 0, .int 0, .int 0, .int 0, .long 0, .int 0, .int 0]))] H locs := by rw [hH, hlo]; exact hW
  rw [show W p l e rm_N_X7_init_t s m _ below meth c s.heap [] = W p l e rm_N_X7_init_t s m _ below meth c H locs from by rw [hH, hlo]]
  refine lv_aload_n C.1 C.2.1 dX7_init_0 rfl (lv_at hl 0 rfl) ?_
  refine W.objInit C.1 C.2.1 C.2.2.2.1 (C.2.2.2.2 _ (List.mem_of_getElem? (i := 1) rfl)) (C.2.2.2.2 _ (List.mem_of_getElem? (i := 2) rfl)) (C.2.2.2.2 _ (List.mem_of_getElem? (i := 3) rfl)) rfl (hl.1.trans C.2.2.1.symm) rfl dX7_init_1 (Nat.le_of_ble_eq_true rfl) (Nat.le_of_ble_eq_true rfl) ?_
  refine W.eq (g2 := F0 m 4 ls []) rfl ?_
  refine lv_aload_n C.1 C.2.1 dX7_init_4 rfl (lv_at hl 0 rfl) ?_
  refine lv_iconst (v := -1) C.1 C.2.1 dX7_init_5 (by decide) ?_
  refine X_put C hW 1 7 rfl hin7 tyX7 tyX7_ok nmX7 rfl 0 (by decide) rfl rfl rfl  (Nat.le_of_ble_eq_true rfl) f7_0 dX7_init_6 (fun H locs hW => ?_)
  have hW : GW Ev D (tyM cs) idw A s [(a5, .inl (cs 1, kn, .inl kf)), (h, .inr (7, [.int (-1), .int 0, .int 0, .int 0, .null, .null, .int 0, .int 0, .int 0, .int 0, .int 0, .int 0, .long 0, .int 0, .int 0]))] H locs := hW
  refine lv_aload_n C.1 C.2.1 dX7_init_9 rfl (lv_at hl 0 rfl) ?_
  refine lv_iconst (v := -1) C.1 C.2.1 dX7_init_10 (by decide) ?_
  refine X_put C hW 1 7 rfl hin7 tyX7 tyX7_ok nmX7 rfl 8 (by decide) rfl rfl rfl  (Nat.le_of_ble_eq_true rfl) f7_8 dX7_init_11 (fun H locs hW => ?_)
  have hW : GW Ev D (tyM cs) idw A s [(a5, .inl (cs 1, kn, .inl kf)), (h, .inr (7, [.int (-1), .int 0, .int 0, .int 0, .null, .null, .int 0, .int 0, .int (-1), .int 0, .int 0, .int 0, .long 0, .int 0, .int 0]))] H locs := hW
  refine lv_aload_n C.1 C.2.1 dX7_init_14 rfl (lv_at hl 0 rfl) ?_
  refine lv_iconst (v := 0) C.1 C.2.1 dX7_init_15 (by decide) ?_
  refine X_put C hW 1 7 rfl hin7 tyX7 tyX7_ok nmX7 rfl 9 (by decide) rfl rfl rfl  (Nat.le_of_ble_eq_true rfl) f7_9 dX7_init_16 (fun H locs hW => ?_)
  have hW : GW Ev D (tyM cs) idw A s [(a5, .inl (cs 1, kn, .inl kf)), (h, .inr (7, [.int (-1), .int 0, .int 0, .int 0, .null, .null, .int 0, .int 0, .int (-1), .int (0), .int 0, .int 0, .long 0, .int 0, .int 0]))] H locs := hW
  refine lv_aload_n C.1 C.2.1 dX7_init_19 rfl (lv_at hl 0 rfl) ?_
  refine lv_iconst (v := -1) C.1 C.2.1 dX7_init_20 (by decide) ?_
  refine X_put C hW 1 7 rfl hin7 tyX7 tyX7_ok nmX7 rfl 10 (by decide) rfl rfl rfl  (Nat.le_of_ble_eq_true rfl) f7_10 dX7_init_21 (fun H locs hW => ?_)
  have hW : GW Ev D (tyM cs) idw A s [(a5, .inl (cs 1, kn, .inl kf)), (h, .inr (7, [.int (-1), .int 0, .int 0, .int 0, .null, .null, .int 0, .int 0, .int (-1), .int (0), .int (-1), .int 0, .long 0, .int 0, .int 0]))] H locs := hW
  refine lv_aload_n C.1 C.2.1 dX7_init_24 rfl (lv_at hl 0 rfl) ?_
  refine lv_iconst (v := -1) C.1 C.2.1 dX7_init_25 (by decide) ?_
  refine X_put C hW 1 7 rfl hin7 tyX7 tyX7_ok nmX7 rfl 11 (by decide) rfl rfl rfl  (Nat.le_of_ble_eq_true rfl) f7_11 dX7_init_26 (fun H locs hW => ?_)
  have hW : GW Ev D (tyM cs) idw A s [(a5, .inl (cs 1, kn, .inl kf)), (h, .inr (7, [.int (-1), .int 0, .int 0, .int 0, .null, .null, .int 0, .int 0, .int (-1), .int (0), .int (-1), .int (-1), .long 0, .int 0, .int 0]))] H locs := hW
  refine lv_aload_n C.1 C.2.1 dX7_init_29 rfl (lv_at hl 0 rfl) ?_
  refine lv_lconst (v := 0) C.1 C.2.1 dX7_init_30 (by decide) ?_
  refine X_put C hW 1 7 rfl hin7 tyX7 tyX7_ok nmX7 rfl 12 (by decide) rfl rfl rfl  (Nat.le_of_ble_eq_true rfl) f7_12 dX7_init_31 (fun H locs hW => ?_)
  have hW : GW Ev D (tyM cs) idw A s [(a5, .inl (cs 1, kn, .inl kf)), (h, .inr (7, [.int (-1), .int 0, .int 0, .int 0, .null, .null, .int 0, .int 0, .int (-1), .int (0), .int (-1), .int (-1), .long 0, .int 0, .int 0]))] H locs := hW
  refine lv_aload_n C.1 C.2.1 dX7_init_34 rfl (lv_at hl 0 rfl) ?_
  refine lv_iconst (v := -1) C.1 C.2.1 dX7_init_35 (by decide) ?_
  refine X_put C hW 1 7 rfl hin7 tyX7 tyX7_ok nmX7 rfl 13 (by decide) rfl rfl rfl  (Nat.le_of_ble_eq_true rfl) f7_13 dX7_init_36 (fun H locs hW => ?_)
  have hW : GW Ev D (tyM cs) idw A s [(a5, .inl (cs 1, kn, .inl kf)), (h, .inr (7, [.int (-1), .int 0, .int 0, .int 0, .null, .null, .int 0, .int 0, .int (-1), .int (0), .int (-1), .int (-1), .long 0, .int (-1), .int 0]))] H locs := hW
  refine lv_aload_n C.1 C.2.1 dX7_init_39 rfl (lv_at hl 0 rfl) ?_
  refine lv_iconst (v := -1) C.1 C.2.1 dX7_init_40 (by decide) ?_
  refine X_put C hW 1 7 rfl hin7 tyX7 tyX7_ok nmX7 rfl 14 (by decide) rfl rfl rfl  (Nat.le_of_ble_eq_true rfl) f7_14 dX7_init_41 (fun H locs hW => ?_)
  have hW : GW Ev D (tyM cs) idw A s [(a5, .inl (cs 1, kn, .inl kf)), (h, .inr (7, [.int (-1), .int 0, .int 0, .int 0, .null, .null, .int 0, .int 0, .int (-1), .int (0), .int (-1), .int (-1), .long 0, .int (-1), .int (-1)]))] H locs := hW
  refine lv_aload_n C.1 C.2.1 dX7_init_44 rfl (lv_at hl 0 rfl) ?_
  refine lv_iload_n C.1 C.2.1 dX7_init_45 rfl (lv_at hl 2 rfl) ?_
  refine X_putF C (hini rfl) hW 1 7 rfl hin7 tyX7 tyX7_ok nmX7 rfl 1 (by decide) rfl rfl hz.1 hz.2  (Nat.le_of_ble_eq_true rfl) f7_1 dX7_init_46 (fun H locs hW => ?_)
  have hW : GW Ev D (tyM cs) idw A s [(a5, .inl (cs 1, kn, .inl kf)), (h, .inr (7, [.int (-1), .int x2, .int 0, .int 0, .null, .null, .int 0, .int 0, .int (-1), .int (0), .int (-1), .int (-1), .long 0, .int (-1), .int (-1)]))] H locs := hW
  refine lv_aload_n C.1 C.2.1 dX7_init_49 rfl (lv_at hl 0 rfl) ?_
  refine lv_iload_n C.1 C.2.1 dX7_init_50 rfl (lv_at hl 3 rfl) ?_
  refine X_putF C (hini rfl) hW 1 7 rfl hin7 tyX7 tyX7_ok nmX7 rfl 2 (by decide) rfl rfl rfl rfl  (Nat.le_of_ble_eq_true rfl) f7_2 dX7_init_51 (fun H locs hW => ?_)
  have hW : GW Ev D (tyM cs) idw A s [(a5, .inl (cs 1, kn, .inl kf)), (h, .inr (7, [.int (-1), .int x2, .int x3, .int 0, .null, .null, .int 0, .int 0, .int (-1), .int (0), .int (-1), .int (-1), .long 0, .int (-1), .int (-1)]))] H locs := hW
  refine lv_aload_n C.1 C.2.1 dX7_init_54 rfl (lv_at hl 0 rfl) ?_
  refine lv_iload C.1 C.2.1 dX7_init_55 (lv_at hl 4 rfl) ?_
  refine X_putF C (hini rfl) hW 1 7 rfl hin7 tyX7 tyX7_ok nmX7 rfl 3 (by decide) rfl rfl rfl rfl  (Nat.le_of_ble_eq_true rfl) f7_3 dX7_init_57 (fun H locs hW => ?_)
  have hW : GW Ev D (tyM cs) idw A s [(a5, .inl (cs 1, kn, .inl kf)), (h, .inr (7, [.int (-1), .int x2, .int x3, .int x4, .null, .null, .int 0, .int 0, .int (-1), .int (0), .int (-1), .int (-1), .long 0, .int (-1), .int (-1)]))] H locs := hW
  refine lv_aload_n C.1 C.2.1 dX7_init_60 rfl (lv_at hl 0 rfl) ?_
  refine lv_aload C.1 C.2.1 dX7_init_61 (lv_at hl 5 rfl) ?_
  refine X_putF C (hini rfl) hW 1 7 rfl hin7 tyX7 tyX7_ok nmX7 rfl 4 (by decide) rfl rfl rfl rfl  (Nat.le_of_ble_eq_true rfl) f7_4 dX7_init_63 (fun H locs hW => ?_)
  have hW : GW Ev D (tyM cs) idw A s [(a5, .inl (cs 1, kn, .inl kf)), (h, .inr (7, [.int (-1), .int x2, .int x3, .int x4, .ref a5, .null, .int 0, .int 0, .int (-1), .int (0), .int (-1), .int (-1), .long 0, .int (-1), .int (-1)]))] H locs := hW
  refine lv_aload_n C.1 C.2.1 dX7_init_66 rfl (lv_at hl 0 rfl) ?_
  refine lv_aload C.1 C.2.1 dX7_init_67 (lv_at hl 5 rfl) ?_
  refine X_lenI C hW 0 rfl dX7_init_69 ?_
  refine X_newI (N := kn) C hW (C.2.2.2.2 _ (List.mem_of_getElem? (i := 16) rfl)) (nI_pos (by omega)) (nI_clamp (by omega)) (by omega) (Nat.le_of_ble_eq_true rfl) (by show 0 + kn ≤ 12; omega) dX7_init_70 (fun q1 H hW => ?_)
  have hW : GW Ev D (tyM cs) idw A s [(q1, .inl (cs 1, kn, .inl (fun _ => 0))), (a5, .inl (cs 1, kn, .inl kf)), (h, .inr (7, [.int (-1), .int x2, .int x3, .int x4, .ref a5, .null, .int 0, .int 0, .int (-1), .int (0), .int (-1), .int (-1), .long 0, .int (-1), .int (-1)]))] H locs := hW
  refine W.widen (k := 1) (n := 12) (Nat.le_of_ble_eq_true rfl) (by omega) ?_
  refine X_putF C (hini rfl) hW 2 7 rfl hin7 tyX7 tyX7_ok nmX7 rfl 5 (by decide) rfl rfl rfl rfl  (Nat.le_of_ble_eq_true rfl) f7_5 dX7_init_72 (fun H locs hW => ?_)
  have hW : GW Ev D (tyM cs) idw A s [(q1, .inl (cs 1, kn, .inl (fun _ => 0))), (a5, .inl (cs 1, kn, .inl kf)), (h, .inr (7, [.int (-1), .int x2, .int x3, .int x4, .ref a5, .ref q1, .int 0, .int 0, .int (-1), .int (0), .int (-1), .int (-1), .long 0, .int (-1), .int (-1)]))] H locs := hW
  refine lv_aload_n C.1 C.2.1 dX7_init_75 rfl (lv_at hl 0 rfl) ?_
  refine lv_iload_n C.1 C.2.1 dX7_init_76 rfl (lv_at hl 2 rfl) ?_
  refine lv_if_eq (tgt := 89) C.1 C.2.1 dX7_init_77 (by decide) (fun q => absurd q hnz) (fun _ => ?_)
  refine lv_iload_n C.1 C.2.1 dX7_init_80 rfl (lv_at hl 1 rfl) ?_
  refine lv_bipush (v := 8) C.1 C.2.1 dX7_init_81 (by decide) ?_
  refine G_Si (w := idw) (σ := [(q1, .inl (cs 1, kn, .inl (fun _ => 0))), (a5, .inl (cs 1, kn, .inl kf)), (h, .inr (7, [.int (-1), .int x2, .int x3, .int x4, .ref a5, .ref q1, .int 0, .int 0, .int (-1), .int (0), .int (-1), .int (-1), .long 0, .int (-1), .int (-1)]))]) (As := [.int x1, .int (8)]) (rest := [.ref h]) C hW (c_C_J9_floorDiv l D (tyM cs) idw _ x1 8 fd hfd) (va_cwS 2 C.2.2.2.2 gX7_init_J9_floorDiv_7cf53 rfl rfl rfl (by decide +kernel) ⟨(Nat.le_of_ble_eq_true rfl), (Nat.le_of_ble_eq_true rfl)⟩) rfl hl.1 rfl (Nat.le_of_ble_eq_true rfl) dX7_init_83 ⟨(Nat.le_of_ble_eq_true rfl), (Nat.le_of_ble_eq_true rfl)⟩ (fun r u H locs hu hW => ?_)
  obtain ⟨hr1, hu1⟩ := hu
  rw [hu1] at hW
  rw [hr1]
  refine W.widen (k := 1) (n := 12) (Nat.le_of_ble_eq_true rfl) (Nat.le_of_ble_eq_true rfl) ?_
  have hW : GW Ev D (tyM cs) idw A s [(q1, .inl (cs 1, kn, .inl (fun _ => 0))), (a5, .inl (cs 1, kn, .inl kf)), (h, .inr (7, [.int (-1), .int x2, .int x3, .int x4, .ref a5, .ref q1, .int 0, .int 0, .int (-1), .int (0), .int (-1), .int (-1), .long 0, .int (-1), .int (-1)]))] H locs := hW
  refine lv_goto (tgt := 90) C.1 C.2.1 dX7_init_86 (by decide) ?_
  refine X_put C hW 2 7 rfl hin7 tyX7 tyX7_ok nmX7 rfl 6 (by decide) rfl rfl rfl  (Nat.le_of_ble_eq_true rfl) f7_6 dX7_init_90 (fun H locs hW => ?_)
  have hW : GW Ev D (tyM cs) idw A s [(q1, .inl (cs 1, kn, .inl (fun _ => 0))), (a5, .inl (cs 1, kn, .inl kf)), (h, .inr (7, [.int (-1), .int x2, .int x3, .int x4, .ref a5, .ref q1, .int fd, .int 0, .int (-1), .int (0), .int (-1), .int (-1), .long 0, .int (-1), .int (-1)]))] H locs := hW
  refine lv_aload_n C.1 C.2.1 dX7_init_93 rfl (lv_at hl 0 rfl) ?_
  refine lv_iload_n C.1 C.2.1 dX7_init_94 rfl (lv_at hl 2 rfl) ?_
  refine lv_if_eq (tgt := 107) C.1 C.2.1 dX7_init_95 (by decide) (fun q => absurd q hnz) (fun _ => ?_)
  refine lv_iload_n C.1 C.2.1 dX7_init_98 rfl (lv_at hl 1 rfl) ?_
  refine lv_bipush (v := 8) C.1 C.2.1 dX7_init_99 (by decide) ?_
  refine G_Si (w := idw) (σ := [(q1, .inl (cs 1, kn, .inl (fun _ => 0))), (a5, .inl (cs 1, kn, .inl kf)), (h, .inr (7, [.int (-1), .int x2, .int x3, .int x4, .ref a5, .ref q1, .int fd, .int 0, .int (-1), .int (0), .int (-1), .int (-1), .long 0, .int (-1), .int (-1)]))]) (As := [.int x1, .int (8)]) (rest := [.ref h]) C hW (c_C_J9_floorMod l D (tyM cs) idw _ x1 8 fm hfm) (va_cwS 2 C.2.2.2.2 gX7_init_J9_floorMod_7cf53 rfl rfl rfl (by decide +kernel) ⟨(Nat.le_of_ble_eq_true rfl), (Nat.le_of_ble_eq_true rfl)⟩) rfl hl.1 rfl (Nat.le_of_ble_eq_true rfl) dX7_init_101 ⟨(Nat.le_of_ble_eq_true rfl), (Nat.le_of_ble_eq_true rfl)⟩ (fun r u H locs hu hW => ?_)
  obtain ⟨hr1, hu1⟩ := hu
  rw [hu1] at hW
  rw [hr1]
  refine W.widen (k := 1) (n := 12) (Nat.le_of_ble_eq_true rfl) (Nat.le_of_ble_eq_true rfl) ?_
  have hW : GW Ev D (tyM cs) idw A s [(q1, .inl (cs 1, kn, .inl (fun _ => 0))), (a5, .inl (cs 1, kn, .inl kf)), (h, .inr (7, [.int (-1), .int x2, .int x3, .int x4, .ref a5, .ref q1, .int fd, .int 0, .int (-1), .int (0), .int (-1), .int (-1), .long 0, .int (-1), .int (-1)]))] H locs := hW
  refine lv_goto (tgt := 108) C.1 C.2.1 dX7_init_104 (by decide) ?_
  refine X_put C hW 2 7 rfl hin7 tyX7 tyX7_ok nmX7 rfl 7 (by decide) rfl rfl rfl  (Nat.le_of_ble_eq_true rfl) f7_7 dX7_init_108 (fun H locs hW => ?_)
  have hW : GW Ev D (tyM cs) idw A s [(q1, .inl (cs 1, kn, .inl (fun _ => 0))), (a5, .inl (cs 1, kn, .inl kf)), (h, .inr (7, [.int (-1), .int x2, .int x3, .int x4, .ref a5, .ref q1, .int fd, .int fm, .int (-1), .int (0), .int (-1), .int (-1), .long 0, .int (-1), .int (-1)]))] H locs := hW
  exact G_retv C hr hlk hA hW ⟨q1, rfl⟩ dX7_init_111
def C_rowcol (x1 x2 : Int32) : Option (Int32 × Int32) := if x2 = 0 then some (x1, -1) else bnd (C_J9_floorDiv x1 8) (fun a => bnd (C_J9_floorMod x1 8) (fun b => some (a, b)))
theorem c_N_X7_init {Ev : EvT} (l : Launch) (D : va_G) (cs : Nat → ClassId) (h : Nat) (x1 x2 x3 x4 : Int32) (a5 kn : Nat) (kf : Nat → Int32) (hkn : kn ≤ 12) (hz : narrow .boolean (.int x2) = .int x2 ∧ fits .boolean (.int x2) = true) (rw cl : Int32) (hX : some (rw, cl) = C_rowcol x1 x2) : cGv Ev l D (tyM cs) idw yX7_init wsX7_init rm_N_X7_init_t 1 12 [.ref h, .int x1, .int x2, .int x3, .int x4, .ref a5] [(a5, .inl (cs 1, kn, .inl kf)), (h, .inr (7, [.int 0, .int 0, .int 0, .int 0, .null, .null, .int 0, .int 0, .int 0, .int 0, .int 0, .int 0, .long 0, .int 0, .int 0]))] (fun u => ∃ q, u = [(q, .inl (cs 1, kn, .inl (fun _ => 0))), (a5, .inl (cs 1, kn, .inl kf)), (h, .inr (7, [.int (-1), .int x2, .int x3, .int x4, .ref a5, .ref q, .int rw, .int cl, .int (-1), .int 0, .int (-1), .int (-1), .long 0, .int (-1), .int (-1)]))]) := by
  unfold C_rowcol at hX
  by_cases hc : x2 = 0
  · have hX := br_p hX hc
    obtain ⟨rfl, rfl⟩ := Prod.mk.inj (Option.some.inj hX)
    exact c_N_X7_init_f l D cs h rw x2 x3 x4 a5 kn kf hkn hz hc
  · have hX := br_n hX hc
    obtain ⟨fd, h1, hX⟩ := bnd_st hX
    obtain ⟨fm, h2, hX⟩ := bnd_st hX
    obtain ⟨rfl, rfl⟩ := Prod.mk.inj (Option.some.inj hX)
    exact c_N_X7_init_t l D cs h x1 x2 x3 x4 a5 kn kf hkn rw cl h1.symm h2.symm hz hc
