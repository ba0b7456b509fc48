abbrev rm_S_pre : Room := { frames := 0, cells := 0, slots := 0, locals := 0 }
set_option maxHeartbeats 4000000 in
set_option maxRecDepth 100000 in
theorem c_S_pre {S : Type} {Ev : EvT} (l : Launch) (D : va_G) (tys : List (ClassId × FieldType)) (w : S → va_W) (t : S) (x0 x1 : Int32) (f : Value) (hf : f = .null ∨ ∃ a, f = .ref a) (h0 : ¬ x0 < 0) (h1 : x0 < x1) : cGi Ev l D tys w yJ3_checkIndex_8e157 wsJ3_checkIndex_8e157 rm_S_pre 0 0 [.int x0, .int x1, f] t (fun r u => r = x0 ∧ u = t) := by
  have key : ∀ (p : Program) (e : Env) (s : State) (m : MethodId) (below : List Frame) (meth : Method) (c : Code) (A : Nat → Prop) (ls : Array Slot), Cx p s m #[.int x0, .int x1, f] c cJ3_checkIndex_8e157 3 wsJ3_checkIndex_8e157 RJ3 → meth.sig.returnType = some .int → meth.locks = false → A = va_A (w t) s.heap.size → GW Ev D tys w A s t s.heap [] → lv_has ls 3 [(0, .int x0), (1, .int x1)] → W p l e rm_S_pre s m #[.int x0, .int x1, f] below meth c s.heap [] 0 0 (MQ below (va_Qi (fun r u => r = x0 ∧ u = t) (gPos D tys w t s.heap.size) A) #[.int x0, .int x1, f] s 0 0 A) (F0 m 0 ls []) := by
    intro p e s m below meth c A ls C hr hlk hA hW hl
    refine lv_iload_n C.1 C.2.1 dJ3_checkIndex_8e157_0 rfl (lv_at hl 0 rfl) ?_
    refine lv_if_lt (tgt := 9) C.1 C.2.1 dJ3_checkIndex_8e157_1 (by decide) (fun q => absurd q h0) (fun _ => ?_)
    refine lv_iload_n C.1 C.2.1 dJ3_checkIndex_8e157_4 rfl (lv_at hl 0 rfl) ?_
    refine lv_iload_n C.1 C.2.1 dJ3_checkIndex_8e157_5 rfl (lv_at hl 1 rfl) ?_
    refine lv_icmp_lt (tgt := 16) C.1 C.2.1 dJ3_checkIndex_8e157_6 (by decide) (fun _ => ?_) (fun q => absurd h1 q)
    refine lv_iload_n C.1 C.2.1 dJ3_checkIndex_8e157_16 rfl (lv_at hl 0 rfl) ?_
    exact G_reti C hr hlk hA hW ⟨rfl, rfl⟩ dJ3_checkIndex_8e157_17
  rcases hf with rfl | ⟨a, rfl⟩
  · refine G_ini (cc := cJ3_checkIndex_8e157) (maxL := 3) (ret := some .int) (by decide) rfl (Nat.le_of_ble_eq_true rfl) ?_
    intro p e s m below meth c A ls C hr hlk hini hA hW hl
    exact key p e s m below meth c A ls C hr hlk hA hW (lv_sub hl [0, 1] rfl)
  · refine G_ini (cc := cJ3_checkIndex_8e157) (maxL := 3) (ret := some .int) (by decide) rfl (Nat.le_of_ble_eq_true rfl) ?_
    intro p e s m below meth c A ls C hr hlk hini hA hW hl
    exact key p e s m below meth c A ls C hr hlk hA hW (lv_sub hl [0, 1] rfl)
abbrev rm_S_chk : Room := { frames := 1, cells := 0, slots := 0, locals := 22 }
set_option maxHeartbeats 4000000 in
set_option maxRecDepth 100000 in
theorem c_S_chk {S : Type} {Ev : EvT} {ek ev : Nat → Nat} {tp : Nat} (l : Launch) (D : va_G) (tys : List (ClassId × FieldType)) (w : S → va_W) (hEv : EvC Ev ek ev tp) (t : S) (x0 x1 : Int32) (h0 : ¬ x0 < 0) (h1 : x0 < x1) : cGv Ev l D tys w yJ0_checkIndex_df160 wsJ0_checkIndex_df160 rm_S_chk 0 0 [.int x0, .int x1] t (fun u => u = t) := by
  refine G_inv (cc := cJ0_checkIndex_df160) (maxL := 2) (ret := none) (by decide) rfl (Nat.le_of_ble_eq_true rfl) ?_
  intro p e s m below meth c A ls C hr hlk hini hA hW hl
  have C : Cx p s m _ c cJ0_checkIndex_df160 2 wsJ0_checkIndex_df160 RJ0 := C
  have hl : lv_has ls 2 [(0, .int x0), (1, .int x1)] := hl
  obtain ⟨H, hH⟩ : ∃ H, H = s.heap := ⟨_, rfl⟩
  obtain ⟨locs, hlo⟩ : ∃ z : List Loc, z = [] := ⟨_, rfl⟩
  have hW : GW Ev D tys w A s t H locs := by rw [hH, hlo]; exact hW
  rw [show W p l e rm_S_chk s m _ below meth c s.heap [] = W p l e rm_S_chk s m _ below meth c H locs from by rw [hH, hlo]]
  have fz : (Cond.fieldLink RJ0 1053 "jdk/internal/util/Preconditions" "SIOOBE_FORMATTER" "Ljava/util/function/BiFunction;").before _ s = true := C.2.2.2.2 _ (List.mem_of_getElem? (i := 1) rfl)
  refine lv_iload_n C.1 C.2.1 dJ0_checkIndex_df160_0 rfl (lv_at hl 0 rfl) ?_
  refine lv_iload_n C.1 C.2.1 dJ0_checkIndex_df160_1 rfl (lv_at hl 1 rfl) ?_
  have fin : ∀ f : Value, (f = .null ∨ ∃ a, f = .ref a) → W p l e rm_S_chk s m #[.int x0, .int x1] below meth c H locs 0 0 (MQ below (va_Qv (fun u => u = t) (gPos D tys w t s.heap.size) A) #[.int x0, .int x1] s 0 0 A) (F0 m 5 ls [f, .int x1, .int x0]) := by
    intro f hf
    refine G_S0i (As := [.int x0, .int x1, f]) (rest := []) C hW (c_S_pre l D tys w t x0 x1 f hf h0 h1) (va_cwS 3 C.2.2.2.2 gJ0_checkIndex_df160_J3_checkIndex_8e157 rfl rfl rfl (by decide +kernel) ⟨Nat.le_of_ble_eq_true rfl, Nat.le_of_ble_eq_true rfl⟩) rfl hl.1 rfl (Nat.le_of_ble_eq_true rfl) dJ0_checkIndex_df160_5 (fun r u H locs hu hW => ?_)
    obtain ⟨h2, h3⟩ := hu
    rw [h3] at hW
    refine lv_pop C.1 C.2.1 dJ0_checkIndex_df160_8 rfl ?_
    exact G_retv C hr hlk hA hW rfl dJ0_checkIndex_df160_9
  rcases hEv.fz hW with hz | ⟨a, hz⟩
  · exact va_gets C.1 C.2.1 hz hW.2.2.2.1 C.2.2.2.1 fz (fun _ h => h) dJ0_checkIndex_df160_2 (fin _ (Or.inl rfl))
  · exact va_gets C.1 C.2.1 hz hW.2.2.2.1 C.2.2.2.1 fz (fun _ h => h) dJ0_checkIndex_df160_2 (fin _ (Or.inr ⟨_, rfl⟩))
theorem slen_lt : ∀ i, slen.getD i 0 < 100 := by
  intro i
  rcases Nat.lt_or_ge i 10 with q | q
  · exact (show ∀ i, i < 10 → slen.getD i 0 < 100 by decide) i q
  · rw [List.getD_eq_getElem?_getD, List.getElem?_eq_none (by exact q)]; decide
theorem G_retc {S : Type} {Ev : EvT} {p : Program} {l : Launch} {e : Env} {R : Room} {s : State} {m : MethodId} {args : Array Value} {below : List Frame} {meth : Method} {c : Code} {H : Heap} {locs : List Loc} {cells slots : Nat} {cc : ByteArray} {pc : Nat} {ls : Array Slot} {D : va_G} {tys : List (ClassId × FieldType)} {w : S → va_W} {A : Nat → Prop} {σ σ0 : S} {nL : Nat} {Ts : List Cond} {own : String} {post : Int32 → S → Prop} {r : Int32} {ty : FieldType} (C : Cx p s m args c cc nL Ts own) (hr : meth.sig.returnType = some ty) (hlk : meth.locks = false) (hA : A = va_A (w σ0) s.heap.size) (hW : GW Ev D tys w A s σ H locs) (hz : narrow ty (.int r) = .int r) (hp : post r σ) (hdg : decode cc pc = .ok (.ireturn, 1)) : W p l e R s m args below meth c H locs cells slots (MQ below (va_Qi post (gPos D tys w σ0 s.heap.size) A) args s cells slots A) (F0 m pc ls [.int r]) :=
  W.zret C.1 C.2.1 hr hz (fun t ht hv => ⟨⟨r, σ, rfl, hp, hW.ret hA ht hv⟩, hW.2.2.2.1.F ht⟩) hW.2.2.2.1.2.2 hdg hlk
abbrev rm_S_lat : Room := { frames := 2, cells := 0, slots := 0, locals := 43 }
def S_lat (i : Nat) (x1 : Int32) : Option Int32 := chkP (i < 10) (chkI x1 (slen.getD i 0) (some ((((sbyt.getD i []).getD x1.toNatClampNeg 0) &&& 255).toUInt32 % 65536).toInt32))
set_option maxHeartbeats 4000000 in
set_option maxRecDepth 100000 in
theorem c_S_lat {S : Type} {Ev : EvT} {ek ev : Nat → Nat} {tp : Nat} (l : Launch) (D : va_G) (tys : List (ClassId × FieldType)) (w : S → va_W) (hEv : EvC Ev ek ev tp) (t : S) (i : Nat) (x1 : Int32) (X : Int32) (hX : some X = S_lat i x1) : cGi Ev l D tys w yJ1_charAt_3b067 wsJ1_charAt_3b067 rm_S_lat 0 0 [.ref (ev i), .int x1] t (fun r u => r = X ∧ u = t) := by
  refine G_ini (cc := cJ1_charAt_3b067) (maxL := 2) (ret := some .char) (by decide) rfl (Nat.le_of_ble_eq_true rfl) ?_
  intro p e s m below meth c A ls C hr hlk hini hA hW hl
  have C : Cx p s m _ c cJ1_charAt_3b067 2 wsJ1_charAt_3b067 RJ1 := C
  have hl : lv_has ls 2 [(0, .ref (ev i)), (1, .int x1)] := hl
  obtain ⟨H, hH⟩ : ∃ H, H = s.heap := ⟨_, rfl⟩
  obtain ⟨locs, hlo⟩ : ∃ z : List Loc, z = [] := ⟨_, rfl⟩
  have hW : GW Ev D tys w A s t H locs := by rw [hH, hlo]; exact hW
  rw [show W p l e rm_S_lat s m _ below meth c s.heap [] = W p l e rm_S_lat s m _ below meth c H locs from by rw [hH, hlo]]
  unfold S_lat at hX
  obtain ⟨hi, hX⟩ := chkP_st hX
  obtain ⟨hj, hX⟩ := chkI_st hX
  have hlt : ¬ x1 < 0 ∧ x1.toNatClampNeg < slen.getD i 0 := ⟨fun q => hj (Or.inl q), Nat.not_le.mp fun q => hj (Or.inr q)⟩
  have hl31 : slen.getD i 0 < 100 := slen_lt i
  have hlt2 : x1 < nI (slen.getD i 0) := by
    obtain ⟨k, hk1, rfl⟩ := nI_of hlt.1
    rw [nI_clamp hk1] at hlt
    exact nI_lt hlt.2 (by omega)
  have hT := ((hEv.ks hW).1 i hi).2.2.2
  refine lv_iload_n C.1 C.2.1 dJ1_charAt_3b067_0 rfl (lv_at hl 1 rfl) ?_
  refine lv_aload_n C.1 C.2.1 dJ1_charAt_3b067_1 rfl (lv_at hl 0 rfl) ?_
  refine va_tlen C.1 C.2.1 hT hW.2.2.2.1 rfl dJ1_charAt_3b067_2 ?_
  refine G_S0v (As := [.int x1, .int (nI (slen.getD i 0))]) (rest := []) C hW (c_S_chk l D tys w hEv t x1 _ hlt.1 hlt2) (va_cwS 2 C.2.2.2.2 gJ1_charAt_3b067_J0_checkIndex_df160 rfl rfl rfl (by decide +kernel) ⟨Nat.le_of_ble_eq_true rfl, Nat.le_of_ble_eq_true rfl⟩) rfl hl.1 rfl (Nat.le_of_ble_eq_true rfl) dJ1_charAt_3b067_3 (fun u H locs hu hW => ?_)
  rw [hu] at hW
  have hT := ((hEv.ks hW).1 i hi).2.2.2
  refine lv_aload_n C.1 C.2.1 dJ1_charAt_3b067_6 rfl (lv_at hl 0 rfl) ?_
  refine lv_iload_n C.1 C.2.1 dJ1_charAt_3b067_7 rfl (lv_at hl 1 rfl) ?_
  refine va_tb C.1 C.2.1 hT hW.2.2.2.1 hj rfl dJ1_charAt_3b067_8 ?_
  refine lv_sipush (v := 255) C.1 C.2.1 dJ1_charAt_3b067_9 (by decide) ?_
  refine lv_iand C.1 C.2.1 dJ1_charAt_3b067_12 ?_
  refine lv_i2c C.1 C.2.1 dJ1_charAt_3b067_13 rfl ?_
  exact G_retc C hr hlk hA hW (by rw [sc_c2]; exact sc_nar _) ⟨(Option.some.inj hX).symm, rfl⟩ dJ1_charAt_3b067_14
abbrev rm_S_isl : Room := { frames := 0, cells := 0, slots := 0, locals := 0 }
def S_isl (i : Nat) : Option Int32 := chkP (i < 10) (some 1)
set_option maxHeartbeats 4000000 in
set_option maxRecDepth 100000 in
theorem c_S_isl {S : Type} {Ev : EvT} {ek ev : Nat → Nat} {tp : Nat} (l : Launch) (D : va_G) (tys : List (ClassId × FieldType)) (w : S → va_W) (hEv : EvC Ev ek ev tp) (t : S) (i : Nat) (X : Int32) (hX : some X = S_isl i) : cGi Ev l D tys w yJ0_isLatin1_aae02 wsJ0_isLatin1_aae02 rm_S_isl 0 0 [.ref (ek i)] t (fun r u => r = X ∧ u = t) := by
  refine G_ini (cc := cJ0_isLatin1_aae02) (maxL := 1) (ret := some .boolean) (by decide) rfl (Nat.le_of_ble_eq_true rfl) ?_
  intro p e s m below meth c A ls C hr hlk hini hA hW hl
  have C : Cx p s m _ c cJ0_isLatin1_aae02 1 wsJ0_isLatin1_aae02 RJ0 := C
  have hl : lv_has ls 1 [(0, .ref (ek i))] := hl
  obtain ⟨H, hH⟩ : ∃ H, H = s.heap := ⟨_, rfl⟩
  obtain ⟨locs, hlo⟩ : ∃ z : List Loc, z = [] := ⟨_, rfl⟩
  have hW : GW Ev D tys w A s t H locs := by rw [hH, hlo]; exact hW
  rw [show W p l e rm_S_isl s m _ below meth c s.heap [] = W p l e rm_S_isl s m _ below meth c H locs from by rw [hH, hlo]]
  unfold S_isl at hX
  obtain ⟨hi, hX⟩ := chkP_st hX
  have fz : (Cond.fieldLink RJ0 38 "java/lang/String" "COMPACT_STRINGS" "Z").before _ s = true := C.2.2.2.2 _ (List.mem_of_getElem? (i := 1) rfl)
  have fc : (Cond.fieldLink RJ0 15 "java/lang/String" "coder" "B").before _ s = true := C.2.2.2.2 _ (List.mem_of_getElem? (i := 2) rfl)
  refine va_gets C.1 C.2.1 (hEv.cz hW) hW.2.2.2.1 C.2.2.2.1 fz (fun _ h => h) dJ0_isLatin1_aae02_0 ?_
  refine lv_if_eq (tgt := 17) C.1 C.2.1 dJ0_isLatin1_aae02_3 (by decide) (fun q => absurd q (by decide)) (fun _ => ?_)
  refine lv_aload_n C.1 C.2.1 dJ0_isLatin1_aae02_6 rfl (lv_at hl 0 rfl) ?_
  refine vk_getf C.1 C.2.1 ((hEv.ks hW).1 i hi).2.1 hW.2.2.2.1 C.2.2.2.1 fc (fun _ h => h) dJ0_isLatin1_aae02_7 ?_
  refine lv_if_ne (tgt := 17) C.1 C.2.1 dJ0_isLatin1_aae02_10 (by decide) (fun q => absurd rfl q) (fun _ => ?_)
  refine lv_iconst (v := 1) C.1 C.2.1 dJ0_isLatin1_aae02_13 (by decide) ?_
  refine lv_goto (tgt := 18) C.1 C.2.1 dJ0_isLatin1_aae02_14 (by decide) ?_
  exact G_retc C hr hlk hA hW rfl ⟨(Option.some.inj hX).symm, rfl⟩ dJ0_isLatin1_aae02_18
abbrev rm_S_cod : Room := { frames := 0, cells := 0, slots := 0, locals := 0 }
def S_cod (i : Nat) : Option Int32 := chkP (i < 10) (some 0)
set_option maxHeartbeats 4000000 in
set_option maxRecDepth 100000 in
theorem c_S_cod {S : Type} {Ev : EvT} {ek ev : Nat → Nat} {tp : Nat} (l : Launch) (D : va_G) (tys : List (ClassId × FieldType)) (w : S → va_W) (hEv : EvC Ev ek ev tp) (t : S) (i : Nat) (X : Int32) (hX : some X = S_cod i) : cGi Ev l D tys w yJ0_coder_7d493 wsJ0_coder_7d493 rm_S_cod 0 0 [.ref (ek i)] t (fun r u => r = X ∧ u = t) := by
  refine G_ini (cc := cJ0_coder_7d493) (maxL := 1) (ret := some .byte) (by decide) rfl (Nat.le_of_ble_eq_true rfl) ?_
  intro p e s m below meth c A ls C hr hlk hini hA hW hl
  have C : Cx p s m _ c cJ0_coder_7d493 1 wsJ0_coder_7d493 RJ0 := C
  have hl : lv_has ls 1 [(0, .ref (ek i))] := hl
  obtain ⟨H, hH⟩ : ∃ H, H = s.heap := ⟨_, rfl⟩
  obtain ⟨locs, hlo⟩ : ∃ z : List Loc, z = [] := ⟨_, rfl⟩
  have hW : GW Ev D tys w A s t H locs := by rw [hH, hlo]; exact hW
  rw [show W p l e rm_S_cod s m _ below meth c s.heap [] = W p l e rm_S_cod s m _ below meth c H locs from by rw [hH, hlo]]
  unfold S_cod at hX
  obtain ⟨hi, hX⟩ := chkP_st hX
  have fz : (Cond.fieldLink RJ0 38 "java/lang/String" "COMPACT_STRINGS" "Z").before _ s = true := C.2.2.2.2 _ (List.mem_of_getElem? (i := 1) rfl)
  have fc : (Cond.fieldLink RJ0 15 "java/lang/String" "coder" "B").before _ s = true := C.2.2.2.2 _ (List.mem_of_getElem? (i := 2) rfl)
  refine va_gets C.1 C.2.1 (hEv.cz hW) hW.2.2.2.1 C.2.2.2.1 fz (fun _ h => h) dJ0_coder_7d493_0 ?_
  refine lv_if_eq (tgt := 13) C.1 C.2.1 dJ0_coder_7d493_3 (by decide) (fun q => absurd q (by decide)) (fun _ => ?_)
  refine lv_aload_n C.1 C.2.1 dJ0_coder_7d493_6 rfl (lv_at hl 0 rfl) ?_
  refine vk_getf C.1 C.2.1 ((hEv.ks hW).1 i hi).2.1 hW.2.2.2.1 C.2.2.2.1 fc (fun _ h => h) dJ0_coder_7d493_7 ?_
  refine lv_goto (tgt := 14) C.1 C.2.1 dJ0_coder_7d493_10 (by decide) ?_
  exact G_retc C hr hlk hA hW rfl ⟨(Option.some.inj hX).symm, rfl⟩ dJ0_coder_7d493_14
abbrev rm_S_length : Room := { frames := 1, cells := 0, slots := 0, locals := 20 }
def S_length (i : Nat) : Option Int32 := chkP (i < 10) (some (nI (slen.getD i 0)))
set_option maxHeartbeats 4000000 in
set_option maxRecDepth 100000 in
theorem c_S_length {S : Type} {Ev : EvT} {ek ev : Nat → Nat} {tp : Nat} (l : Launch) (D : va_G) (tys : List (ClassId × FieldType)) (w : S → va_W) (hEv : EvC Ev ek ev tp) (t : S) (i : Nat) (X : Int32) (hX : some X = S_length i) : cGi Ev l D tys w yJ0_length_8abf5 wsJ0_length_8abf5 rm_S_length 0 0 [.ref (ek i)] t (fun r u => r = X ∧ u = t) := by
  refine G_ini (cc := cJ0_length_8abf5) (maxL := 1) (ret := some .int) (by decide) rfl (Nat.le_of_ble_eq_true rfl) ?_
  intro p e s m below meth c A ls C hr hlk hini hA hW hl
  have C : Cx p s m _ c cJ0_length_8abf5 1 wsJ0_length_8abf5 RJ0 := C
  have hl : lv_has ls 1 [(0, .ref (ek i))] := hl
  obtain ⟨H, hH⟩ : ∃ H, H = s.heap := ⟨_, rfl⟩
  obtain ⟨locs, hlo⟩ : ∃ z : List Loc, z = [] := ⟨_, rfl⟩
  have hW : GW Ev D tys w A s t H locs := by rw [hH, hlo]; exact hW
  rw [show W p l e rm_S_length s m _ below meth c s.heap [] = W p l e rm_S_length s m _ below meth c H locs from by rw [hH, hlo]]
  unfold S_length at hX
  obtain ⟨hi, hX⟩ := chkP_st hX
  have fv : (Cond.fieldLink RJ0 9 "java/lang/String" "value" "[B").before _ s = true := C.2.2.2.2 _ (List.mem_of_getElem? (i := 1) rfl)
  have hK := (hEv.ks hW).1 i hi
  refine lv_aload_n C.1 C.2.1 dJ0_length_8abf5_0 rfl (lv_at hl 0 rfl) ?_
  refine vk_getf C.1 C.2.1 hK.2.2.1 hW.2.2.2.1 C.2.2.2.1 fv (fun _ h => h) dJ0_length_8abf5_1 ?_
  refine va_tlen C.1 C.2.1 hK.2.2.2 hW.2.2.2.1 rfl dJ0_length_8abf5_4 ?_
  refine lv_aload_n C.1 C.2.1 dJ0_length_8abf5_5 rfl (lv_at hl 0 rfl) ?_
  refine G_V0p (As := []) (rest := [.int (nI (slen.getD i 0))]) C hW (c_S_cod l D tys w hEv t i 0 (by unfold S_cod chkP; rw [if_pos hi])) (cwV 0 C.2.2.2.2 gJ0_length_8abf5_J0_coder_7d493 rfl rfl rfl (by decide +kernel) ⟨Nat.le_of_ble_eq_true rfl, Nat.le_of_ble_eq_true rfl⟩) (vk_recv (hEv.ks hW) hi hW.2.2.2.1) rfl hl.1 rfl (Nat.le_of_ble_eq_true rfl) dJ0_length_8abf5_6 (fun H locs hW => ?_)
  refine lv_ishr C.1 C.2.1 dJ0_length_8abf5_9 ?_
  rw [sb_shr0]
  exact G_reti C hr hlk hA hW ⟨(Option.some.inj hX).symm, rfl⟩ dJ0_length_8abf5_10
abbrev rm_S_charAt : Room := { frames := 3, cells := 0, slots := 0, locals := 64 }
def S_charAt (i : Nat) (x1 : Int32) : Option Int32 := S_lat i x1
set_option maxHeartbeats 4000000 in
set_option maxRecDepth 100000 in
theorem c_S_charAt {S : Type} {Ev : EvT} {ek ev : Nat → Nat} {tp : Nat} (l : Launch) (D : va_G) (tys : List (ClassId × FieldType)) (w : S → va_W) (hEv : EvC Ev ek ev tp) (t : S) (i : Nat) (x1 : Int32) (X : Int32) (hX : some X = S_charAt i x1) : cGi Ev l D tys w yJ0_charAt_5068e wsJ0_charAt_5068e rm_S_charAt 0 0 [.ref (ek i), .int x1] t (fun r u => r = X ∧ u = t) := by
  refine G_ini (cc := cJ0_charAt_5068e) (maxL := 2) (ret := some .char) (by decide) rfl (Nat.le_of_ble_eq_true rfl) ?_
  intro p e s m below meth c A ls C hr hlk hini hA hW hl
  have C : Cx p s m _ c cJ0_charAt_5068e 2 wsJ0_charAt_5068e RJ0 := C
  have hl : lv_has ls 2 [(0, .ref (ek i)), (1, .int x1)] := hl
  obtain ⟨H, hH⟩ : ∃ H, H = s.heap := ⟨_, rfl⟩
  obtain ⟨locs, hlo⟩ : ∃ z : List Loc, z = [] := ⟨_, rfl⟩
  have hW : GW Ev D tys w A s t H locs := by rw [hH, hlo]; exact hW
  rw [show W p l e rm_S_charAt s m _ below meth c s.heap [] = W p l e rm_S_charAt s m _ below meth c H locs from by rw [hH, hlo]]
  unfold S_charAt at hX
  obtain ⟨hi, hX0⟩ := chkP_st (by rw [hX]; rfl : some X = chkP (i < 10) (chkI x1 (slen.getD i 0) (some ((((sbyt.getD i []).getD x1.toNatClampNeg 0) &&& 255).toUInt32 % 65536).toInt32)))
  have fv : (Cond.fieldLink RJ0 9 "java/lang/String" "value" "[B").before _ s = true := C.2.2.2.2 _ (List.mem_of_getElem? (i := 1) rfl)
  refine lv_aload_n C.1 C.2.1 dJ0_charAt_5068e_0 rfl (lv_at hl 0 rfl) ?_
  refine G_V0p (As := []) (rest := []) C hW (c_S_isl l D tys w hEv t i 1 (by unfold S_isl chkP; rw [if_pos hi])) (cwV 0 C.2.2.2.2 gJ0_charAt_5068e_J0_isLatin1_aae02 rfl rfl rfl (by decide +kernel) ⟨Nat.le_of_ble_eq_true rfl, Nat.le_of_ble_eq_true rfl⟩) (vk_recv (hEv.ks hW) hi hW.2.2.2.1) rfl hl.1 rfl (Nat.le_of_ble_eq_true rfl) dJ0_charAt_5068e_1 (fun H locs hW => ?_)
  refine lv_if_eq (tgt := 16) C.1 C.2.1 dJ0_charAt_5068e_4 (by decide) (fun q => absurd q (by decide)) (fun _ => ?_)
  refine lv_aload_n C.1 C.2.1 dJ0_charAt_5068e_7 rfl (lv_at hl 0 rfl) ?_
  refine vk_getf C.1 C.2.1 ((hEv.ks hW).1 i hi).2.2.1 hW.2.2.2.1 C.2.2.2.1 fv (fun _ h => h) dJ0_charAt_5068e_8 ?_
  refine lv_iload_n C.1 C.2.1 dJ0_charAt_5068e_11 rfl (lv_at hl 1 rfl) ?_
  refine G_S0s (As := [.ref (ev i), .int x1]) (rest := []) C hW (c_S_lat l D tys w hEv t i x1 X hX) (va_cwS 2 C.2.2.2.2 gJ0_charAt_5068e_J1_charAt_3b067 rfl rfl rfl (by decide +kernel) ⟨Nat.le_of_ble_eq_true rfl, Nat.le_of_ble_eq_true rfl⟩) rfl hl.1 rfl (Nat.le_of_ble_eq_true rfl) dJ0_charAt_5068e_12 (fun H locs hW => ?_)
  exact G_retc C hr hlk hA hW (by obtain ⟨-, h2⟩ := chkI_st hX0; rw [Option.some.inj h2, sc_c2]; exact sc_nar _) ⟨rfl, rfl⟩ dJ0_charAt_5068e_15
