section GH
variable {S : Type} {Ev : EvT} {l : Launch} {D : va_G} {tys : List (ClassId × FieldType)} {w : S → va_W} {y : MethodName} {ws : List Cond} {rm : Room} {mc ms : Nat} {av : List Value} {σ : S} {cc : ByteArray} {maxL : Nat} {ret : Option FieldType}
theorem G_inh {post : Int32 → S → Prop} {ws' : List Cond} {hh : List (Nat × Nat × Nat × Nat)} (hy : plainName y.cls = true) (hw : ws = Cond.codeWith y cc maxL ret hh :: ws') (hlen : (lg_sl av).length ≤ maxL)
    (body : ∀ (p : Program) (e : Env) (s : State) (m : MethodId) (below : List Frame) (meth : Method) (c : Code) (A : Nat → Prop) (ls : Array Slot), Cx p s m av.toArray c cc maxL ws y.cls → meth.sig.returnType = ret → meth.locks = false → c.exceptionTable.toList = tableOf hh → A = va_A (w σ) s.heap.size → GW Ev D tys w A s σ s.heap [] → lv_has ls maxL (lv_args 0 av) →
      W p l e rm s m av.toArray below meth c s.heap [] 0 0 (vx_MQ below (va_Qi post (gPos D tys w σ s.heap.size) A) (vx_X (fun _ : S => False) (fun _ _ _ => True) A) av.toArray s mc ms A) (F0 m 0 ls [])) :
    ∀ sz : Nat, vx_Met l y ws rm (va_Pc av (gPre Ev D tys w σ sz)) (va_Qi post (gPos D tys w σ sz) (va_A (w σ) sz)) (vx_X (fun _ : S => False) (fun _ _ _ => True) (va_A (w σ) sz)) mc ms (va_A (w σ) sz) := by
  intro sz
  refine vx_ofWH (cc := cc) (maxL := maxL) (ret := ret) (hh := hh) hy hw ?_
  intro p e s m args below meth c s₁ B hml hv
  obtain ⟨rfl, hsz, hP, hK, hD0, hE, hO⟩ := hv
  subst hsz
  have hl := lv_entry av (n := maxL) hlen
  rw [lg_entry_eq]
  have ht := vx_table (x := y) B (atoms_spec (ws := ws) B.pre _ (by rw [hw]; exact List.mem_cons_self))
  exact body p e s m below meth c _ _ ⟨B.exec, B.bytes, hml, findClass_of_methodNamed B.named, atoms_spec (ws := ws) B.pre⟩ B.returns B.notSynchronized ht rfl ⟨hK, hP, hD0.self, va_S.rf, fun q h => Or.inr h, hE, hO⟩ hl
end GH
abbrev oW (cs : Nat → ClassId) (ao : Nat) (f : Nat → Int64) : Nat × va_E := (ao, .inl (cs 2, 1, .inr (.inl f)))
abbrev rm_L_runner : Room := { frames := 7, cells := 1, slots := 6, locals := 113 }
set_option maxHeartbeats 4000000 in
set_option maxRecDepth 100000 in
theorem c_L_runner {Ev : EvT} {ek ev : Nat → Nat} {tp : Nat} (l : Launch) (hst : l.stackTraces = false) (D : va_G) (cs : Nat → ClassId) (ad : AD) (K : List (Nat × Nat)) (hKS : KS K) (hEv : EvC Ev ek ev tp) (hEx : ∀ (A : Nat → Prop) (U : State) (H : Heap), Ev A U H → EvX ek A U H) (t : TH) (x1 : Int32) (x2 : Int32) (X : Option Int32) (hX : some X = C_Run_runner K t x1 x2) (ao : Nat) (f : Nat → Int64) :
    ∀ sz : Nat, vx_Met l yL_runner wsL_runner rm_L_runner (va_Pc [.ref (ad 11 0), .int x1, .int x2, .ref ao] (gPre Ev D (tyC cs) idw (oW cs ao f :: wC cs ad K t) sz)) (va_Qi (fun r u => ∃ f', u = oW cs ao f' :: wC cs ad K t ∧ ((∃ v : Int32, X = some v ∧ r = 0 ∧ f' 0 = v.toInt64) ∨ (X = none ∧ r = 1))) (gPos D (tyC cs) idw (oW cs ao f :: wC cs ad K t) sz) (va_A (idw (oW cs ao f :: wC cs ad K t)) sz)) (vx_X (fun _ : va_W => False) (fun _ _ _ => True) (va_A (idw (oW cs ao f :: wC cs ad K t)) sz)) 1 6 (va_A (idw (oW cs ao f :: wC cs ad K t)) sz) := by
  refine G_inh (cc := cL_runner) (maxL := 5) (ret := some .int) (hh := [(0, 10, 13, 13)]) (by decide) rfl (Nat.le_of_ble_eq_true rfl) ?_
  intro p e s m below meth c A ls C hr hlk htab hA hW hl
  have C : Cx p s m _ c cL_runner 5 wsL_runner RL := C
  have hl : lv_has ls 5 [(0, .ref (ad 11 0)), (1, .int x1), (2, .int x2), (3, .ref ao)] := hl
  have hk : (Cond.classLink RL 13 "java/util/NoSuchElementException").before _ s = true := C.2.2.2.2 _ (List.mem_of_getElem? (i := 1) rfl)
  have hE := hEx A s s.heap hW.2.2.2.2.2.1
  have hW2 : GW Ev D (tyC cs) idw A s (wC cs ad K t ++ [oW cs ao f]) s.heap [] := GX_comm (a := [oW cs ao f]) hW
  have hWc : GW Ev D (tyC cs) (wC cs ad K) A s t s.heap [] := GX_left hW2
  refine lv_aload_n C.1 C.2.1 dL_runner_0 rfl (lv_at hl 3 rfl) ?_
  refine lv_iconst (v := 0) C.1 C.2.1 dL_runner_1 (by decide) ?_
  refine lv_aload_n C.1 C.2.1 dL_runner_2 rfl (lv_at hl 0 rfl) ?_
  refine lv_iload_n C.1 C.2.1 dL_runner_3 rfl (lv_at hl 1 rfl) ?_
  refine lv_iload_n C.1 C.2.1 dL_runner_4 rfl (lv_at hl 2 rfl) ?_
  refine vx_calli (vx_runV (As := [.int x1, .int x2]) (rest := [.int 0, .ref ao]) C (c_C_Run_runner l hst D cs ad K hKS hEv hEx t x1 x2 X hX s.heap.size) (cwV 2 C.2.2.2.2 gL_runner_X11_runner rfl rfl rfl (by decide +kernel) ⟨(Nat.le_of_ble_eq_true rfl), (Nat.le_of_ble_eq_true rfl)⟩) ⟨gPre_blind, C_recv hWc 11 hKS.k11_0 rfl rfl, fun U hU hv => ⟨rfl, hWc.pre hU hv⟩⟩ rfl rfl hl.1 rfl (lv_room (m := m) (pc := 5) (ls := ls) (rest := [.int x2, .int x1, .ref (ad 11 0), .int 0, .ref ao]) (Nat.le_of_ble_eq_true rfl)) dL_runner_5 ⟨(Nat.le_of_ble_eq_true rfl), (Nat.le_of_ble_eq_true rfl)⟩) hW.2.2.2.1 (fun q _ h => hWc.sub q h) (fun q h => hWc.sub q h) (fun q _ h => hWc.sub q h) ?_ ?_
  · intro E ce q9 u T H1 locs1 ht hvm hp hB hz hkk hS hcell hcv hcl
    obtain ⟨rfl, hB⟩ := hB
    obtain ⟨hp1, rfl⟩ := hp
    have hW := GX_comm (GX_frame hW2 ht hB hkk hS)
    refine vx_catch (own := RL) (name := "java/util/NoSuchElementException") C.2.2.2.1 [] ⟨0, 10, 13, 13⟩ [] (htab.trans rfl) (fun z hz => nomatch hz) (by decide) (by decide) hk (hE.2.2.1.use rfl) hcell hcv hcl ?_
    refine lv_astore (lv' := [(4, .ref q9), (0, .ref (ad 11 0)), (1, .int x1), (2, .int x2), (3, .ref ao)]) C.1 C.2.1 dL_runner_13 hl (by decide) rfl (fun ls hl => ?_)
    refine lv_iconst (v := 1) C.1 C.2.1 dL_runner_15 (by decide) ?_
    refine vx_ret ?_
    exact G_reti C hr hlk hA (show GW Ev D (tyC cs) idw A s (oW cs ao f :: wC cs ad K u) H1 locs1 from hW) ⟨f, rfl, Or.inr ⟨hp1.symm, rfl⟩⟩ dL_runner_16
  · intro r u T H1 locs1 ht hvm hp hB hz hkk hS
    obtain ⟨hp1, rfl⟩ := hp
    have hW : GW Ev D (tyC cs) idw A s (oW cs ao f :: wC cs ad K u) H1 locs1 := GX_comm (GX_frame hW2 ht hB hkk hS)
    refine lv_i2l C.1 C.2.1 dL_runner_8 rfl ?_
    refine va_last C.1 C.2.1 hW.1 hW.2.1 hW.2.2.1 hW.2.2.2.1 0 2 rfl rfl (show vp_in (0 : Int32) 1 from vp_in_nI (n := 0) (by decide) (by decide)) dL_runner_9 (fun H locs hP hD hS => ?_)
    have hW : GW Ev D (tyC cs) idw A s (oW cs ao (vp_updL f (0 : Int32).toNatClampNeg r.toInt64) :: wC cs ad K u) H locs := ⟨hW.1, hP, hD, hS, hW.2.2.2.2⟩
    refine lv_goto (tgt := 17) C.1 C.2.1 dL_runner_10 (by decide) ?_
    refine lv_iconst (v := 0) C.1 C.2.1 dL_runner_17 (by decide) ?_
    refine vx_ret ?_
    exact G_reti C hr hlk hA hW ⟨_, rfl, Or.inl ⟨r, hp1.symm, rfl, by simp [vp_updL]⟩⟩ dL_runner_18
