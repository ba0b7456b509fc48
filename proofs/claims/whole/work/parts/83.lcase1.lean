section LW
variable {Ev : EvT} {D : va_G} {tys : List (ClassId × FieldType)} {A : Nat → Prop} {s : State} {H : Heap} {locs : List Loc} {x : Nat × va_E} {a b : va_W}
theorem LW_c (h : GW Ev D tys idw A s (x :: (a ++ b)) H locs) : GW Ev D tys idw A s (a ++ (b ++ [x])) H locs := by
  have h2 := GX_comm (a := [x]) (b := a ++ b) h
  rw [List.append_assoc] at h2
  exact h2
theorem LW_m (h : GW Ev D tys idw A s (a ++ (b ++ [x])) H locs) : GW Ev D tys idw A s (b ++ ([x] ++ a)) H locs := by
  have h2 := GX_comm h
  rw [List.append_assoc] at h2
  exact h2
theorem LW_m2 (h : GW Ev D tys idw A s ((x :: a) ++ b) H locs) : GW Ev D tys idw A s (b ++ ([x] ++ a)) H locs := GX_comm h
theorem LW_b (h : GW Ev D tys idw A s (b ++ ([x] ++ a)) H locs) : GW Ev D tys idw A s (x :: (a ++ b)) H locs := GX_comm h
theorem L_cmp (x y : Int64) : lg_cmp x y = 0 ↔ x = y := by
  unfold lg_cmp
  by_cases h1 : x = y
  · simp [h1]
  · by_cases h2 : y < x
    · simp [h1, h2]
    · simp [h1, h2]
theorem L_i2l {x y : Int32} (h : x.toInt64 = y.toInt64) : x = y := by
  have := congrArg Int64.toInt32 h
  simpa using this
theorem L_eq {f : Nat → Int64} {v b : Int32} (hv : f 0 = v.toInt64) (h : lg_cmp (f (0 : Int32).toNatClampNeg) b.toInt64 = 0) : v = b := L_i2l (hv.symm.trans ((L_cmp _ _).mp h))
theorem L_ne {f : Nat → Int64} {v b : Int32} (hv : f 0 = v.toInt64) (h : ¬ lg_cmp (f (0 : Int32).toNatClampNeg) b.toInt64 = 0) : ¬ v = b := fun e => h ((L_cmp _ _).mpr (hv.trans (by rw [e])))
end LW
def L_feed (K : List (Nat × Nat)) (t : TH) (σ : St) (a1 : Int32) (a2 : Int32) (a3 : Int32) (a4 : Int32) (a5 : Int32) : Option (List (Nat × Nat) × TH × St) := bnd2 (C_Run_feed K t a1 a2 a3 a4 a5) (fun r t1 => bnd2 (M_feed σ a1 a2 a3 a4 a5) (fun b σ1 => if r = b then some (K, t1, σ1) else none))
set_option maxHeartbeats 4000000 in
set_option maxRecDepth 100000 in
theorem l_feed {p : Program} {l : Launch} (hst : l.stackTraces = false) {e : Env} {s : State} {m : MethodId} {below : List Frame} {meth : Method} {c : Code} {D : va_G} {cs : Nat → ClassId} {ek ev : Nat → Nat} {tp b L : Nat} {xs : Nat → Int32} {A : Nat → Prop} {Q : State → Prop} (C : Cx p s m #[Value.ref b] c code 7 wsL_law RL) (hXs : va_X b L xs s s.heap) (hbl : b < s.heap.size) (hbA : ¬ A b) {ad : AD} {K : List (Nat × Nat)} (hKS : KS K) {t : TH} {σ : St} {h : Nat} {a : Nat → Nat} {ao : Nat} {f : Nat → Int64} {x4 : Int32} {H : Heap} {locs : List Loc} {ls : Array Slot} {cells slots : Nat} (hc : cells + 3 ≤ 601024) (hs : slots + 40 ≤ 7293034) (h1 : vp_in (x4 + 1) L) (h2 : vp_in (x4 + 2) L) (h3 : vp_in (x4 + 3) L) (h4 : vp_in (x4 + 4) L) (h5 : vp_in (x4 + 5) L) (hW : GW (EvA ek ev tp) D (tyC cs) idw A s (oW cs ao f :: (wC cs ad K t ++ wM h a cs σ)) H locs) (hl : lv_has ls 7 [(0, .ref b), (1, .ref (ad 11 0)), (2, .ref h), (3, .ref ao), (4, .int x4)]) {Y : List (Nat × Nat) × TH × St} (hX : some Y = L_feed K t σ (xs (x4 + 1).toNatClampNeg) (xs (x4 + 2).toNatClampNeg) (xs (x4 + 3).toNatClampNeg) (xs (x4 + 4).toNatClampNeg) (xs (x4 + 5).toNatClampNeg))
    (kk : ∀ (ad' : AD) (f' : Nat → Int64) (H : Heap) (locs : List Loc) (ls : Array Slot), ad' 11 0 = ad 11 0 → GW (EvA ek ev tp) D (tyC cs) idw A s (oW cs ao f' :: (wC cs ad' Y.1 Y.2.1 ++ wM h a cs Y.2.2)) H locs → lv_has ls 7 [(0, .ref b), (1, .ref (ad 11 0)), (2, .ref h), (3, .ref ao), (4, .int x4)] → W p l e room_1 s m #[Value.ref b] below meth c H locs (cells + 3) (slots + 40) Q (F0 m 868 ls [])) : W p l e room_1 s m #[Value.ref b] below meth c H locs cells slots Q (F0 m 140 ls []) := by
  have hEv : EvC (EvA ek ev tp) ek ev tp := EvA_c ek ev tp
  unfold L_feed at hX
  refine lv_aload_n C.1 C.2.1 dL_law_140 rfl (lv_at hl 1 rfl) ?_
  refine lv_aload_n C.1 C.2.1 dL_law_141 rfl (lv_at hl 0 rfl) ?_
  refine lv_iload C.1 C.2.1 dL_law_142 (lv_at hl 4 rfl) ?_
  refine lv_iconst (v := 1) C.1 C.2.1 dL_law_144 (by decide) ?_
  refine lv_iadd C.1 C.2.1 dL_law_145 ?_
  refine va_sld C.1 C.2.1 hXs hbl hbA hW.2.2.2.1 h1 dL_law_146 ?_
  refine lv_aload_n C.1 C.2.1 dL_law_147 rfl (lv_at hl 0 rfl) ?_
  refine lv_iload C.1 C.2.1 dL_law_148 (lv_at hl 4 rfl) ?_
  refine lv_iconst (v := 2) C.1 C.2.1 dL_law_150 (by decide) ?_
  refine lv_iadd C.1 C.2.1 dL_law_151 ?_
  refine va_sld C.1 C.2.1 hXs hbl hbA hW.2.2.2.1 h2 dL_law_152 ?_
  refine lv_aload_n C.1 C.2.1 dL_law_153 rfl (lv_at hl 0 rfl) ?_
  refine lv_iload C.1 C.2.1 dL_law_154 (lv_at hl 4 rfl) ?_
  refine lv_iconst (v := 3) C.1 C.2.1 dL_law_156 (by decide) ?_
  refine lv_iadd C.1 C.2.1 dL_law_157 ?_
  refine va_sld C.1 C.2.1 hXs hbl hbA hW.2.2.2.1 h3 dL_law_158 ?_
  refine lv_aload_n C.1 C.2.1 dL_law_159 rfl (lv_at hl 0 rfl) ?_
  refine lv_iload C.1 C.2.1 dL_law_160 (lv_at hl 4 rfl) ?_
  refine lv_iconst (v := 4) C.1 C.2.1 dL_law_162 (by decide) ?_
  refine lv_iadd C.1 C.2.1 dL_law_163 ?_
  refine va_sld C.1 C.2.1 hXs hbl hbA hW.2.2.2.1 h4 dL_law_164 ?_
  refine lv_aload_n C.1 C.2.1 dL_law_165 rfl (lv_at hl 0 rfl) ?_
  refine lv_iload C.1 C.2.1 dL_law_166 (lv_at hl 4 rfl) ?_
  refine lv_iconst (v := 5) C.1 C.2.1 dL_law_168 (by decide) ?_
  refine lv_iadd C.1 C.2.1 dL_law_169 ?_
  refine va_sld C.1 C.2.1 hXs hbl hbA hW.2.2.2.1 h5 dL_law_170 ?_
  have hW := LW_c hW
  obtain ⟨r, t1, hq, hX⟩ := bnd2_st hX
  refine X_Vi (w := wC cs ad K) (σ := t) (As := [.int (xs (x4 + 1).toNatClampNeg), .int (xs (x4 + 2).toNatClampNeg), .int (xs (x4 + 3).toNatClampNeg), .int (xs (x4 + 4).toNatClampNeg), .int (xs (x4 + 5).toNatClampNeg)]) (rest := []) C hW (c_C_Run_feed l D cs ad K hKS hEv t (xs (x4 + 1).toNatClampNeg) (xs (x4 + 2).toNatClampNeg) (xs (x4 + 3).toNatClampNeg) (xs (x4 + 4).toNatClampNeg) (xs (x4 + 5).toNatClampNeg) (r, t1) hq.symm) (cwV 5 C.2.2.2.2 gL_law_X11_feed rfl rfl rfl (by decide +kernel) ⟨(Nat.le_of_ble_eq_true rfl), (Nat.le_of_ble_eq_true rfl)⟩) (C_recv (GX_left hW) 11 hKS.k11_0 rfl rfl) rfl hl.1 rfl (Nat.le_of_ble_eq_true rfl) dL_law_171 ⟨by show cells + 0 ≤ 601024; omega, by show slots + 0 ≤ 7293034; omega⟩ (fun r' u H locs hu hW => ?_)
  obtain ⟨hu1, hu2⟩ := Prod.mk.inj hu
  cases hu1
  cases hu2
  have hW := LW_m hW
  refine lv_aload_n C.1 C.2.1 dL_law_174 rfl (lv_at hl 2 rfl) ?_
  refine lv_aload_n C.1 C.2.1 dL_law_175 rfl (lv_at hl 0 rfl) ?_
  refine lv_iload C.1 C.2.1 dL_law_176 (lv_at hl 4 rfl) ?_
  refine lv_iconst (v := 1) C.1 C.2.1 dL_law_178 (by decide) ?_
  refine lv_iadd C.1 C.2.1 dL_law_179 ?_
  refine va_sld C.1 C.2.1 hXs hbl hbA hW.2.2.2.1 h1 dL_law_180 ?_
  refine lv_aload_n C.1 C.2.1 dL_law_181 rfl (lv_at hl 0 rfl) ?_
  refine lv_iload C.1 C.2.1 dL_law_182 (lv_at hl 4 rfl) ?_
  refine lv_iconst (v := 2) C.1 C.2.1 dL_law_184 (by decide) ?_
  refine lv_iadd C.1 C.2.1 dL_law_185 ?_
  refine va_sld C.1 C.2.1 hXs hbl hbA hW.2.2.2.1 h2 dL_law_186 ?_
  refine lv_aload_n C.1 C.2.1 dL_law_187 rfl (lv_at hl 0 rfl) ?_
  refine lv_iload C.1 C.2.1 dL_law_188 (lv_at hl 4 rfl) ?_
  refine lv_iconst (v := 3) C.1 C.2.1 dL_law_190 (by decide) ?_
  refine lv_iadd C.1 C.2.1 dL_law_191 ?_
  refine va_sld C.1 C.2.1 hXs hbl hbA hW.2.2.2.1 h3 dL_law_192 ?_
  refine lv_aload_n C.1 C.2.1 dL_law_193 rfl (lv_at hl 0 rfl) ?_
  refine lv_iload C.1 C.2.1 dL_law_194 (lv_at hl 4 rfl) ?_
  refine lv_iconst (v := 4) C.1 C.2.1 dL_law_196 (by decide) ?_
  refine lv_iadd C.1 C.2.1 dL_law_197 ?_
  refine va_sld C.1 C.2.1 hXs hbl hbA hW.2.2.2.1 h4 dL_law_198 ?_
  refine lv_aload_n C.1 C.2.1 dL_law_199 rfl (lv_at hl 0 rfl) ?_
  refine lv_iload C.1 C.2.1 dL_law_200 (lv_at hl 4 rfl) ?_
  refine lv_iconst (v := 5) C.1 C.2.1 dL_law_202 (by decide) ?_
  refine lv_iadd C.1 C.2.1 dL_law_203 ?_
  refine va_sld C.1 C.2.1 hXs hbl hbA hW.2.2.2.1 h5 dL_law_204 ?_
  obtain ⟨b1, σ1, hq, hX⟩ := bnd2_st hX
  refine X_Vi (w := wM h a cs) (σ := σ) (As := [.int (xs (x4 + 1).toNatClampNeg), .int (xs (x4 + 2).toNatClampNeg), .int (xs (x4 + 3).toNatClampNeg), .int (xs (x4 + 4).toNatClampNeg), .int (xs (x4 + 5).toNatClampNeg)]) (rest := [.int r]) C hW (c_M_feed l D cs h a σ (xs (x4 + 1).toNatClampNeg) (xs (x4 + 2).toNatClampNeg) (xs (x4 + 3).toNatClampNeg) (xs (x4 + 4).toNatClampNeg) (xs (x4 + 5).toNatClampNeg) (b1, σ1) hq.symm) (cwV 5 C.2.2.2.2 gL_law_X12_feed rfl rfl rfl (by decide +kernel) ⟨(Nat.le_of_ble_eq_true rfl), (Nat.le_of_ble_eq_true rfl)⟩) (M_recv (GX_left hW)) rfl hl.1 rfl (Nat.le_of_ble_eq_true rfl) dL_law_205 ⟨by show cells + 0 + 0 ≤ 601024; omega, by show slots + 0 + 0 ≤ 7293034; omega⟩ (fun r'' u H locs hu hW => ?_)
  obtain ⟨hu1, hu2⟩ := Prod.mk.inj hu
  cases hu1
  cases hu2
  have hW := LW_b hW
  refine lv_icmp_eq (tgt := 868) C.1 C.2.1 dL_law_208 (by decide) (fun cc => ?_) (fun cc => ?_)
  · have hX := br_p hX cc
    cases hX
    refine W.widen (k := cells + 3) (n := slots + 40) (by omega) (by omega) ?_
    exact kk ad _ _ _ _ rfl hW (lv_sub hl [0, 1, 2, 3, 4] rfl)
  have hX := br_n hX cc
  cases hX

def L_end (K : List (Nat × Nat)) (t : TH) (σ : St) (a1 : Int32) : Option (List (Nat × Nat) × TH × St) := bnd2 (C_Run_end K t a1) (fun r t1 => bnd2 (M_end σ a1) (fun b σ1 => if r = b then some (K, t1, σ1) else none))
set_option maxHeartbeats 4000000 in
set_option maxRecDepth 100000 in
theorem l_end {p : Program} {l : Launch} (hst : l.stackTraces = false) {e : Env} {s : State} {m : MethodId} {below : List Frame} {meth : Method} {c : Code} {D : va_G} {cs : Nat → ClassId} {ek ev : Nat → Nat} {tp b L : Nat} {xs : Nat → Int32} {A : Nat → Prop} {Q : State → Prop} (C : Cx p s m #[Value.ref b] c code 7 wsL_law RL) (hXs : va_X b L xs s s.heap) (hbl : b < s.heap.size) (hbA : ¬ A b) {ad : AD} {K : List (Nat × Nat)} (hKS : KS K) {t : TH} {σ : St} {h : Nat} {a : Nat → Nat} {ao : Nat} {f : Nat → Int64} {x4 : Int32} {H : Heap} {locs : List Loc} {ls : Array Slot} {cells slots : Nat} (hc : cells + 3 ≤ 601024) (hs : slots + 40 ≤ 7293034) (h1 : vp_in (x4 + 1) L) (hW : GW (EvA ek ev tp) D (tyC cs) idw A s (oW cs ao f :: (wC cs ad K t ++ wM h a cs σ)) H locs) (hl : lv_has ls 7 [(0, .ref b), (1, .ref (ad 11 0)), (2, .ref h), (3, .ref ao), (4, .int x4)]) {Y : List (Nat × Nat) × TH × St} (hX : some Y = L_end K t σ (xs (x4 + 1).toNatClampNeg))
    (kk : ∀ (ad' : AD) (f' : Nat → Int64) (H : Heap) (locs : List Loc) (ls : Array Slot), ad' 11 0 = ad 11 0 → GW (EvA ek ev tp) D (tyC cs) idw A s (oW cs ao f' :: (wC cs ad' Y.1 Y.2.1 ++ wM h a cs Y.2.2)) H locs → lv_has ls 7 [(0, .ref b), (1, .ref (ad 11 0)), (2, .ref h), (3, .ref ao), (4, .int x4)] → W p l e room_1 s m #[Value.ref b] below meth c H locs (cells + 3) (slots + 40) Q (F0 m 868 ls [])) : W p l e room_1 s m #[Value.ref b] below meth c H locs cells slots Q (F0 m 213 ls []) := by
  have hEv : EvC (EvA ek ev tp) ek ev tp := EvA_c ek ev tp
  unfold L_end at hX
  refine lv_aload_n C.1 C.2.1 dL_law_213 rfl (lv_at hl 1 rfl) ?_
  refine lv_aload_n C.1 C.2.1 dL_law_214 rfl (lv_at hl 0 rfl) ?_
  refine lv_iload C.1 C.2.1 dL_law_215 (lv_at hl 4 rfl) ?_
  refine lv_iconst (v := 1) C.1 C.2.1 dL_law_217 (by decide) ?_
  refine lv_iadd C.1 C.2.1 dL_law_218 ?_
  refine va_sld C.1 C.2.1 hXs hbl hbA hW.2.2.2.1 h1 dL_law_219 ?_
  have hW := LW_c hW
  obtain ⟨r, t1, hq, hX⟩ := bnd2_st hX
  refine X_Vi (w := wC cs ad K) (σ := t) (As := [.int (xs (x4 + 1).toNatClampNeg)]) (rest := []) C hW (c_C_Run_end l D cs ad K hKS hEv t (xs (x4 + 1).toNatClampNeg) (r, t1) hq.symm) (cwV 1 C.2.2.2.2 gL_law_X11_end rfl rfl rfl (by decide +kernel) ⟨(Nat.le_of_ble_eq_true rfl), (Nat.le_of_ble_eq_true rfl)⟩) (C_recv (GX_left hW) 11 hKS.k11_0 rfl rfl) rfl hl.1 rfl (Nat.le_of_ble_eq_true rfl) dL_law_220 ⟨by show cells + 0 ≤ 601024; omega, by show slots + 0 ≤ 7293034; omega⟩ (fun r' u H locs hu hW => ?_)
  obtain ⟨hu1, hu2⟩ := Prod.mk.inj hu
  cases hu1
  cases hu2
  have hW := LW_m hW
  refine lv_aload_n C.1 C.2.1 dL_law_223 rfl (lv_at hl 2 rfl) ?_
  refine lv_aload_n C.1 C.2.1 dL_law_224 rfl (lv_at hl 0 rfl) ?_
  refine lv_iload C.1 C.2.1 dL_law_225 (lv_at hl 4 rfl) ?_
  refine lv_iconst (v := 1) C.1 C.2.1 dL_law_227 (by decide) ?_
  refine lv_iadd C.1 C.2.1 dL_law_228 ?_
  refine va_sld C.1 C.2.1 hXs hbl hbA hW.2.2.2.1 h1 dL_law_229 ?_
  obtain ⟨b1, σ1, hq, hX⟩ := bnd2_st hX
  refine X_Vi (w := wM h a cs) (σ := σ) (As := [.int (xs (x4 + 1).toNatClampNeg)]) (rest := [.int r]) C hW (c_M_end l D cs h a σ (xs (x4 + 1).toNatClampNeg) (b1, σ1) hq.symm) (cwV 1 C.2.2.2.2 gL_law_X12_end rfl rfl rfl (by decide +kernel) ⟨(Nat.le_of_ble_eq_true rfl), (Nat.le_of_ble_eq_true rfl)⟩) (M_recv (GX_left hW)) rfl hl.1 rfl (Nat.le_of_ble_eq_true rfl) dL_law_230 ⟨by show cells + 0 + 0 ≤ 601024; omega, by show slots + 0 + 0 ≤ 7293034; omega⟩ (fun r'' u H locs hu hW => ?_)
  obtain ⟨hu1, hu2⟩ := Prod.mk.inj hu
  cases hu1
  cases hu2
  have hW := LW_b hW
  refine lv_icmp_eq (tgt := 868) C.1 C.2.1 dL_law_233 (by decide) (fun cc => ?_) (fun cc => ?_)
  · have hX := br_p hX cc
    cases hX
    refine W.widen (k := cells + 3) (n := slots + 40) (by omega) (by omega) ?_
    exact kk ad _ _ _ _ rfl hW (lv_sub hl [0, 1, 2, 3, 4] rfl)
  have hX := br_n hX cc
  cases hX

def L_land (K : List (Nat × Nat)) (t : TH) (σ : St) (a1 : Int32) (a2 : Int32) (a3 : Int32) : Option (List (Nat × Nat) × TH × St) := bnd2 (C_Run_land K t a1 a2 a3) (fun r t1 => bnd2 (M_land σ a1 a2 a3) (fun b σ1 => if r = b then some (K, t1, σ1) else none))
set_option maxHeartbeats 4000000 in
set_option maxRecDepth 100000 in
theorem l_land {p : Program} {l : Launch} (hst : l.stackTraces = false) {e : Env} {s : State} {m : MethodId} {below : List Frame} {meth : Method} {c : Code} {D : va_G} {cs : Nat → ClassId} {ek ev : Nat → Nat} {tp b L : Nat} {xs : Nat → Int32} {A : Nat → Prop} {Q : State → Prop} (C : Cx p s m #[Value.ref b] c code 7 wsL_law RL) (hXs : va_X b L xs s s.heap) (hbl : b < s.heap.size) (hbA : ¬ A b) {ad : AD} {K : List (Nat × Nat)} (hKS : KS K) {t : TH} {σ : St} {h : Nat} {a : Nat → Nat} {ao : Nat} {f : Nat → Int64} {x4 : Int32} {H : Heap} {locs : List Loc} {ls : Array Slot} {cells slots : Nat} (hc : cells + 3 ≤ 601024) (hs : slots + 40 ≤ 7293034) (h1 : vp_in (x4 + 1) L) (h2 : vp_in (x4 + 2) L) (h3 : vp_in (x4 + 3) L) (hW : GW (EvA ek ev tp) D (tyC cs) idw A s (oW cs ao f :: (wC cs ad K t ++ wM h a cs σ)) H locs) (hl : lv_has ls 7 [(0, .ref b), (1, .ref (ad 11 0)), (2, .ref h), (3, .ref ao), (4, .int x4)]) {Y : List (Nat × Nat) × TH × St} (hX : some Y = L_land K t σ (xs (x4 + 1).toNatClampNeg) (xs (x4 + 2).toNatClampNeg) (xs (x4 + 3).toNatClampNeg))
    (kk : ∀ (ad' : AD) (f' : Nat → Int64) (H : Heap) (locs : List Loc) (ls : Array Slot), ad' 11 0 = ad 11 0 → GW (EvA ek ev tp) D (tyC cs) idw A s (oW cs ao f' :: (wC cs ad' Y.1 Y.2.1 ++ wM h a cs Y.2.2)) H locs → lv_has ls 7 [(0, .ref b), (1, .ref (ad 11 0)), (2, .ref h), (3, .ref ao), (4, .int x4)] → W p l e room_1 s m #[Value.ref b] below meth c H locs (cells + 3) (slots + 40) Q (F0 m 868 ls [])) : W p l e room_1 s m #[Value.ref b] below meth c H locs cells slots Q (F0 m 238 ls []) := by
  have hEv : EvC (EvA ek ev tp) ek ev tp := EvA_c ek ev tp
  unfold L_land at hX
  refine lv_aload_n C.1 C.2.1 dL_law_238 rfl (lv_at hl 1 rfl) ?_
  refine lv_aload_n C.1 C.2.1 dL_law_239 rfl (lv_at hl 0 rfl) ?_
  refine lv_iload C.1 C.2.1 dL_law_240 (lv_at hl 4 rfl) ?_
  refine lv_iconst (v := 1) C.1 C.2.1 dL_law_242 (by decide) ?_
  refine lv_iadd C.1 C.2.1 dL_law_243 ?_
  refine va_sld C.1 C.2.1 hXs hbl hbA hW.2.2.2.1 h1 dL_law_244 ?_
  refine lv_aload_n C.1 C.2.1 dL_law_245 rfl (lv_at hl 0 rfl) ?_
  refine lv_iload C.1 C.2.1 dL_law_246 (lv_at hl 4 rfl) ?_
  refine lv_iconst (v := 2) C.1 C.2.1 dL_law_248 (by decide) ?_
  refine lv_iadd C.1 C.2.1 dL_law_249 ?_
  refine va_sld C.1 C.2.1 hXs hbl hbA hW.2.2.2.1 h2 dL_law_250 ?_
  refine lv_aload_n C.1 C.2.1 dL_law_251 rfl (lv_at hl 0 rfl) ?_
  refine lv_iload C.1 C.2.1 dL_law_252 (lv_at hl 4 rfl) ?_
  refine lv_iconst (v := 3) C.1 C.2.1 dL_law_254 (by decide) ?_
  refine lv_iadd C.1 C.2.1 dL_law_255 ?_
  refine va_sld C.1 C.2.1 hXs hbl hbA hW.2.2.2.1 h3 dL_law_256 ?_
  have hW := LW_c hW
  obtain ⟨r, t1, hq, hX⟩ := bnd2_st hX
  refine X_Vi (w := wC cs ad K) (σ := t) (As := [.int (xs (x4 + 1).toNatClampNeg), .int (xs (x4 + 2).toNatClampNeg), .int (xs (x4 + 3).toNatClampNeg)]) (rest := []) C hW (c_C_Run_land l D cs ad K hKS hEv t (xs (x4 + 1).toNatClampNeg) (xs (x4 + 2).toNatClampNeg) (xs (x4 + 3).toNatClampNeg) (r, t1) hq.symm) (cwV 3 C.2.2.2.2 gL_law_X11_land rfl rfl rfl (by decide +kernel) ⟨(Nat.le_of_ble_eq_true rfl), (Nat.le_of_ble_eq_true rfl)⟩) (C_recv (GX_left hW) 11 hKS.k11_0 rfl rfl) rfl hl.1 rfl (Nat.le_of_ble_eq_true rfl) dL_law_257 ⟨by show cells + 0 ≤ 601024; omega, by show slots + 0 ≤ 7293034; omega⟩ (fun r' u H locs hu hW => ?_)
  obtain ⟨hu1, hu2⟩ := Prod.mk.inj hu
  cases hu1
  cases hu2
  have hW := LW_m hW
  refine lv_aload_n C.1 C.2.1 dL_law_260 rfl (lv_at hl 2 rfl) ?_
  refine lv_aload_n C.1 C.2.1 dL_law_261 rfl (lv_at hl 0 rfl) ?_
  refine lv_iload C.1 C.2.1 dL_law_262 (lv_at hl 4 rfl) ?_
  refine lv_iconst (v := 1) C.1 C.2.1 dL_law_264 (by decide) ?_
  refine lv_iadd C.1 C.2.1 dL_law_265 ?_
  refine va_sld C.1 C.2.1 hXs hbl hbA hW.2.2.2.1 h1 dL_law_266 ?_
  refine lv_aload_n C.1 C.2.1 dL_law_267 rfl (lv_at hl 0 rfl) ?_
  refine lv_iload C.1 C.2.1 dL_law_268 (lv_at hl 4 rfl) ?_
  refine lv_iconst (v := 2) C.1 C.2.1 dL_law_270 (by decide) ?_
  refine lv_iadd C.1 C.2.1 dL_law_271 ?_
  refine va_sld C.1 C.2.1 hXs hbl hbA hW.2.2.2.1 h2 dL_law_272 ?_
  refine lv_aload_n C.1 C.2.1 dL_law_273 rfl (lv_at hl 0 rfl) ?_
  refine lv_iload C.1 C.2.1 dL_law_274 (lv_at hl 4 rfl) ?_
  refine lv_iconst (v := 3) C.1 C.2.1 dL_law_276 (by decide) ?_
  refine lv_iadd C.1 C.2.1 dL_law_277 ?_
  refine va_sld C.1 C.2.1 hXs hbl hbA hW.2.2.2.1 h3 dL_law_278 ?_
  obtain ⟨b1, σ1, hq, hX⟩ := bnd2_st hX
  refine X_Vi (w := wM h a cs) (σ := σ) (As := [.int (xs (x4 + 1).toNatClampNeg), .int (xs (x4 + 2).toNatClampNeg), .int (xs (x4 + 3).toNatClampNeg)]) (rest := [.int r]) C hW (c_M_land l D cs h a σ (xs (x4 + 1).toNatClampNeg) (xs (x4 + 2).toNatClampNeg) (xs (x4 + 3).toNatClampNeg) (b1, σ1) hq.symm) (cwV 3 C.2.2.2.2 gL_law_X12_land rfl rfl rfl (by decide +kernel) ⟨(Nat.le_of_ble_eq_true rfl), (Nat.le_of_ble_eq_true rfl)⟩) (M_recv (GX_left hW)) rfl hl.1 rfl (Nat.le_of_ble_eq_true rfl) dL_law_279 ⟨by show cells + 0 + 0 ≤ 601024; omega, by show slots + 0 + 0 ≤ 7293034; omega⟩ (fun r'' u H locs hu hW => ?_)
  obtain ⟨hu1, hu2⟩ := Prod.mk.inj hu
  cases hu1
  cases hu2
  have hW := LW_b hW
  refine lv_icmp_eq (tgt := 868) C.1 C.2.1 dL_law_282 (by decide) (fun cc => ?_) (fun cc => ?_)
  · have hX := br_p hX cc
    cases hX
    refine W.widen (k := cells + 3) (n := slots + 40) (by omega) (by omega) ?_
    exact kk ad _ _ _ _ rfl hW (lv_sub hl [0, 1, 2, 3, 4] rfl)
  have hX := br_n hX cc
  cases hX

def L_person0 (K : List (Nat × Nat)) (t : TH) (σ : St) (a1 : Int32) (a2 : Int32) (a3 : Int32) (a4 : Int32) : Option (List (Nat × Nat) × TH × St) := bnd2 (C_Run_person K t a1 a2 a3 a4) (fun r u => bnd2 (M_person σ a1 a2 a3 a4) (fun b σ1 => if r = b then some (u.1, u.2, σ1) else none))
def L_person (K : List (Nat × Nat)) (t : TH) (σ : St) (a1 : Int32) (a2 : Int32) (a3 : Int32) (a4 : Int32) : Option (List (Nat × Nat) × TH × St) := if a2 = 0 then L_person0 K t σ a1 0 a3 a4 else L_person0 K t σ a1 1 a3 a4
set_option maxHeartbeats 4000000 in
set_option maxRecDepth 100000 in
theorem l_person {p : Program} {l : Launch} (hst : l.stackTraces = false) {e : Env} {s : State} {m : MethodId} {below : List Frame} {meth : Method} {c : Code} {D : va_G} {cs : Nat → ClassId} {ek ev : Nat → Nat} {tp b L : Nat} {xs : Nat → Int32} {A : Nat → Prop} {Q : State → Prop} (C : Cx p s m #[Value.ref b] c code 7 wsL_law RL) (hXs : va_X b L xs s s.heap) (hbl : b < s.heap.size) (hbA : ¬ A b) {ad : AD} {K : List (Nat × Nat)} (hKS : KS K) {t : TH} {σ : St} {h : Nat} {a : Nat → Nat} {ao : Nat} {f : Nat → Int64} {x4 : Int32} {H : Heap} {locs : List Loc} {ls : Array Slot} {cells slots : Nat} (hc : cells + 3 ≤ 601024) (hs : slots + 40 ≤ 7293034) (h1 : vp_in (x4 + 1) L) (h2 : vp_in (x4 + 2) L) (h3 : vp_in (x4 + 3) L) (h4 : vp_in (x4 + 4) L) (hW : GW (EvA ek ev tp) D (tyC cs) idw A s (oW cs ao f :: (wC cs ad K t ++ wM h a cs σ)) H locs) (hl : lv_has ls 7 [(0, .ref b), (1, .ref (ad 11 0)), (2, .ref h), (3, .ref ao), (4, .int x4)]) {Y : List (Nat × Nat) × TH × St} (hfr : ∀ n, n = (tS t 6 1 0).toNatClampNeg → (7, n) ∉ K ∧ (17, n) ∉ K ∧ (18, n) ∉ K ∧ (∀ j, tP t 1 1 j ≠ some n) ∧ ∀ j e, tP t 15 j e ≠ some n) (hX : some Y = L_person K t σ (xs (x4 + 1).toNatClampNeg) (xs (x4 + 2).toNatClampNeg) (xs (x4 + 3).toNatClampNeg) (xs (x4 + 4).toNatClampNeg))
    (kk : ∀ (ad' : AD) (f' : Nat → Int64) (H : Heap) (locs : List Loc) (ls : Array Slot), ad' 11 0 = ad 11 0 → GW (EvA ek ev tp) D (tyC cs) idw A s (oW cs ao f' :: (wC cs ad' Y.1 Y.2.1 ++ wM h a cs Y.2.2)) H locs → lv_has ls 7 [(0, .ref b), (1, .ref (ad 11 0)), (2, .ref h), (3, .ref ao), (4, .int x4)] → W p l e room_1 s m #[Value.ref b] below meth c H locs (cells + 3) (slots + 40) Q (F0 m 868 ls [])) : W p l e room_1 s m #[Value.ref b] below meth c H locs cells slots Q (F0 m 287 ls []) := by
  have hEv : EvC (EvA ek ev tp) ek ev tp := EvA_c ek ev tp
  unfold L_person at hX
  refine lv_aload_n C.1 C.2.1 dL_law_287 rfl (lv_at hl 1 rfl) ?_
  refine lv_aload_n C.1 C.2.1 dL_law_288 rfl (lv_at hl 0 rfl) ?_
  refine lv_iload C.1 C.2.1 dL_law_289 (lv_at hl 4 rfl) ?_
  refine lv_iconst (v := 1) C.1 C.2.1 dL_law_291 (by decide) ?_
  refine lv_iadd C.1 C.2.1 dL_law_292 ?_
  refine va_sld C.1 C.2.1 hXs hbl hbA hW.2.2.2.1 h1 dL_law_293 ?_
  refine lv_aload_n C.1 C.2.1 dL_law_294 rfl (lv_at hl 0 rfl) ?_
  refine lv_iload C.1 C.2.1 dL_law_295 (lv_at hl 4 rfl) ?_
  refine lv_iconst (v := 2) C.1 C.2.1 dL_law_297 (by decide) ?_
  refine lv_iadd C.1 C.2.1 dL_law_298 ?_
  refine va_sld C.1 C.2.1 hXs hbl hbA hW.2.2.2.1 h2 dL_law_299 ?_
  refine lv_if_eq (tgt := 307) C.1 C.2.1 dL_law_300 (by decide) (fun c1 => ?_) (fun c1 => ?_)
  · have hX := br_p hX c1
    unfold L_person0 at hX
    refine lv_iconst (v := 0) C.1 C.2.1 dL_law_307 (by decide) ?_
    refine lv_aload_n C.1 C.2.1 dL_law_308 rfl (lv_at hl 0 rfl) ?_
    refine lv_iload C.1 C.2.1 dL_law_309 (lv_at hl 4 rfl) ?_
    refine lv_iconst (v := 3) C.1 C.2.1 dL_law_311 (by decide) ?_
    refine lv_iadd C.1 C.2.1 dL_law_312 ?_
    refine va_sld C.1 C.2.1 hXs hbl hbA hW.2.2.2.1 h3 dL_law_313 ?_
    refine lv_aload_n C.1 C.2.1 dL_law_314 rfl (lv_at hl 0 rfl) ?_
    refine lv_iload C.1 C.2.1 dL_law_315 (lv_at hl 4 rfl) ?_
    refine lv_iconst (v := 4) C.1 C.2.1 dL_law_317 (by decide) ?_
    refine lv_iadd C.1 C.2.1 dL_law_318 ?_
    refine va_sld C.1 C.2.1 hXs hbl hbA hW.2.2.2.1 h4 dL_law_319 ?_
    have hW := LW_c hW
    obtain ⟨r, K1t1, hq, hX⟩ := bnd2_st hX
    refine X_Vi (w := wA cs) (σ := (ad, K, t)) (As := [.int (xs (x4 + 1).toNatClampNeg), .int (0 : Int32), .int (xs (x4 + 3).toNatClampNeg), .int (xs (x4 + 4).toNatClampNeg)]) (rest := []) C hW (c_C_Run_person l D cs ad K hKS hEv t (xs (x4 + 1).toNatClampNeg) (0 : Int32) (xs (x4 + 3).toNatClampNeg) (xs (x4 + 4).toNatClampNeg) (r, K1t1) hfr hq.symm) (cwV 4 C.2.2.2.2 gL_law_X11_person rfl rfl rfl (by decide +kernel) ⟨(Nat.le_of_ble_eq_true rfl), (Nat.le_of_ble_eq_true rfl)⟩) (C_recv (GX_left (w := wC cs ad K) hW) 11 hKS.k11_0 rfl rfl) rfl hl.1 rfl (Nat.le_of_ble_eq_true rfl) dL_law_320 ⟨by show cells + 3 ≤ 601024; omega, by show slots + 39 ≤ 7293034; omega⟩ (fun r' u H locs hu hW => ?_)
    obtain ⟨hext, hu⟩ := hu
    obtain ⟨ad1, K1, t1⟩ := u
    obtain ⟨hu1, hu2⟩ := Prod.mk.inj hu
    cases hu1
    cases hu2
    have had : ad1 11 0 = ad 11 0 := hext (11, 0) hKS.k11_0
    have hW := LW_m (a := wC cs ad1 K1 t1) hW
    refine lv_aload_n C.1 C.2.1 dL_law_323 rfl (lv_at hl 2 rfl) ?_
    refine lv_aload_n C.1 C.2.1 dL_law_324 rfl (lv_at hl 0 rfl) ?_
    refine lv_iload C.1 C.2.1 dL_law_325 (lv_at hl 4 rfl) ?_
    refine lv_iconst (v := 1) C.1 C.2.1 dL_law_327 (by decide) ?_
    refine lv_iadd C.1 C.2.1 dL_law_328 ?_
    refine va_sld C.1 C.2.1 hXs hbl hbA hW.2.2.2.1 h1 dL_law_329 ?_
    refine lv_aload_n C.1 C.2.1 dL_law_330 rfl (lv_at hl 0 rfl) ?_
    refine lv_iload C.1 C.2.1 dL_law_331 (lv_at hl 4 rfl) ?_
    refine lv_iconst (v := 2) C.1 C.2.1 dL_law_333 (by decide) ?_
    refine lv_iadd C.1 C.2.1 dL_law_334 ?_
    refine va_sld C.1 C.2.1 hXs hbl hbA hW.2.2.2.1 h2 dL_law_335 ?_
    refine lv_if_eq (tgt := 343) C.1 C.2.1 dL_law_336 (by decide) (fun _ => ?_) (fun c2 => absurd c1 c2)
    refine lv_iconst (v := 0) C.1 C.2.1 dL_law_343 (by decide) ?_
    refine lv_aload_n C.1 C.2.1 dL_law_344 rfl (lv_at hl 0 rfl) ?_
    refine lv_iload C.1 C.2.1 dL_law_345 (lv_at hl 4 rfl) ?_
    refine lv_iconst (v := 3) C.1 C.2.1 dL_law_347 (by decide) ?_
    refine lv_iadd C.1 C.2.1 dL_law_348 ?_
    refine va_sld C.1 C.2.1 hXs hbl hbA hW.2.2.2.1 h3 dL_law_349 ?_
    refine lv_aload_n C.1 C.2.1 dL_law_350 rfl (lv_at hl 0 rfl) ?_
    refine lv_iload C.1 C.2.1 dL_law_351 (lv_at hl 4 rfl) ?_
    refine lv_iconst (v := 4) C.1 C.2.1 dL_law_353 (by decide) ?_
    refine lv_iadd C.1 C.2.1 dL_law_354 ?_
    refine va_sld C.1 C.2.1 hXs hbl hbA hW.2.2.2.1 h4 dL_law_355 ?_
    obtain ⟨b1, σ1, hq, hX⟩ := bnd2_st hX
    refine X_Vi (w := wM h a cs) (σ := σ) (As := [.int (xs (x4 + 1).toNatClampNeg), .int (0 : Int32), .int (xs (x4 + 3).toNatClampNeg), .int (xs (x4 + 4).toNatClampNeg)]) (rest := [.int r]) C hW (c_M_person l D cs h a σ (xs (x4 + 1).toNatClampNeg) (0 : Int32) (xs (x4 + 3).toNatClampNeg) (xs (x4 + 4).toNatClampNeg) (b1, σ1) hq.symm) (cwV 4 C.2.2.2.2 gL_law_X12_person rfl rfl rfl (by decide +kernel) ⟨(Nat.le_of_ble_eq_true rfl), (Nat.le_of_ble_eq_true rfl)⟩) (M_recv (GX_left hW)) rfl hl.1 rfl (Nat.le_of_ble_eq_true rfl) dL_law_356 ⟨by show cells + 3 + 0 ≤ 601024; omega, by show slots + 39 + 0 ≤ 7293034; omega⟩ (fun r'' u H locs hu hW => ?_)
    obtain ⟨hu1, hu2⟩ := Prod.mk.inj hu
    cases hu1
    cases hu2
    have hW := LW_b hW
    refine lv_icmp_eq (tgt := 868) C.1 C.2.1 dL_law_359 (by decide) (fun cc => ?_) (fun cc => ?_)
    · have hX := br_p hX cc
      cases hX
      refine W.widen (k := cells + 3) (n := slots + 40) (by omega) (by omega) ?_
      exact kk ad1 _ _ _ _ had hW (lv_sub hl [0, 1, 2, 3, 4] rfl)
    have hX := br_n hX cc
    cases hX
  have hX := br_n hX c1
  unfold L_person0 at hX
  refine lv_iconst (v := 1) C.1 C.2.1 dL_law_303 (by decide) ?_
  refine lv_goto (tgt := 308) C.1 C.2.1 dL_law_304 (by decide) ?_
  refine lv_aload_n C.1 C.2.1 dL_law_308 rfl (lv_at hl 0 rfl) ?_
  refine lv_iload C.1 C.2.1 dL_law_309 (lv_at hl 4 rfl) ?_
  refine lv_iconst (v := 3) C.1 C.2.1 dL_law_311 (by decide) ?_
  refine lv_iadd C.1 C.2.1 dL_law_312 ?_
  refine va_sld C.1 C.2.1 hXs hbl hbA hW.2.2.2.1 h3 dL_law_313 ?_
  refine lv_aload_n C.1 C.2.1 dL_law_314 rfl (lv_at hl 0 rfl) ?_
  refine lv_iload C.1 C.2.1 dL_law_315 (lv_at hl 4 rfl) ?_
  refine lv_iconst (v := 4) C.1 C.2.1 dL_law_317 (by decide) ?_
  refine lv_iadd C.1 C.2.1 dL_law_318 ?_
  refine va_sld C.1 C.2.1 hXs hbl hbA hW.2.2.2.1 h4 dL_law_319 ?_
  have hW := LW_c hW
  obtain ⟨r, K1t1, hq, hX⟩ := bnd2_st hX
  refine X_Vi (w := wA cs) (σ := (ad, K, t)) (As := [.int (xs (x4 + 1).toNatClampNeg), .int (1 : Int32), .int (xs (x4 + 3).toNatClampNeg), .int (xs (x4 + 4).toNatClampNeg)]) (rest := []) C hW (c_C_Run_person l D cs ad K hKS hEv t (xs (x4 + 1).toNatClampNeg) (1 : Int32) (xs (x4 + 3).toNatClampNeg) (xs (x4 + 4).toNatClampNeg) (r, K1t1) hfr hq.symm) (cwV 4 C.2.2.2.2 gL_law_X11_person rfl rfl rfl (by decide +kernel) ⟨(Nat.le_of_ble_eq_true rfl), (Nat.le_of_ble_eq_true rfl)⟩) (C_recv (GX_left (w := wC cs ad K) hW) 11 hKS.k11_0 rfl rfl) rfl hl.1 rfl (Nat.le_of_ble_eq_true rfl) dL_law_320 ⟨by show cells + 3 ≤ 601024; omega, by show slots + 39 ≤ 7293034; omega⟩ (fun r' u H locs hu hW => ?_)
  obtain ⟨hext, hu⟩ := hu
  obtain ⟨ad1, K1, t1⟩ := u
  obtain ⟨hu1, hu2⟩ := Prod.mk.inj hu
  cases hu1
  cases hu2
  have had : ad1 11 0 = ad 11 0 := hext (11, 0) hKS.k11_0
  have hW := LW_m (a := wC cs ad1 K1 t1) hW
  refine lv_aload_n C.1 C.2.1 dL_law_323 rfl (lv_at hl 2 rfl) ?_
  refine lv_aload_n C.1 C.2.1 dL_law_324 rfl (lv_at hl 0 rfl) ?_
  refine lv_iload C.1 C.2.1 dL_law_325 (lv_at hl 4 rfl) ?_
  refine lv_iconst (v := 1) C.1 C.2.1 dL_law_327 (by decide) ?_
  refine lv_iadd C.1 C.2.1 dL_law_328 ?_
  refine va_sld C.1 C.2.1 hXs hbl hbA hW.2.2.2.1 h1 dL_law_329 ?_
  refine lv_aload_n C.1 C.2.1 dL_law_330 rfl (lv_at hl 0 rfl) ?_
  refine lv_iload C.1 C.2.1 dL_law_331 (lv_at hl 4 rfl) ?_
  refine lv_iconst (v := 2) C.1 C.2.1 dL_law_333 (by decide) ?_
  refine lv_iadd C.1 C.2.1 dL_law_334 ?_
  refine va_sld C.1 C.2.1 hXs hbl hbA hW.2.2.2.1 h2 dL_law_335 ?_
  refine lv_if_eq (tgt := 343) C.1 C.2.1 dL_law_336 (by decide) (fun c2 => absurd c2 c1) (fun _ => ?_)
  refine lv_iconst (v := 1) C.1 C.2.1 dL_law_339 (by decide) ?_
  refine lv_goto (tgt := 344) C.1 C.2.1 dL_law_340 (by decide) ?_
  refine lv_aload_n C.1 C.2.1 dL_law_344 rfl (lv_at hl 0 rfl) ?_
  refine lv_iload C.1 C.2.1 dL_law_345 (lv_at hl 4 rfl) ?_
  refine lv_iconst (v := 3) C.1 C.2.1 dL_law_347 (by decide) ?_
  refine lv_iadd C.1 C.2.1 dL_law_348 ?_
  refine va_sld C.1 C.2.1 hXs hbl hbA hW.2.2.2.1 h3 dL_law_349 ?_
  refine lv_aload_n C.1 C.2.1 dL_law_350 rfl (lv_at hl 0 rfl) ?_
  refine lv_iload C.1 C.2.1 dL_law_351 (lv_at hl 4 rfl) ?_
  refine lv_iconst (v := 4) C.1 C.2.1 dL_law_353 (by decide) ?_
  refine lv_iadd C.1 C.2.1 dL_law_354 ?_
  refine va_sld C.1 C.2.1 hXs hbl hbA hW.2.2.2.1 h4 dL_law_355 ?_
  obtain ⟨b1, σ1, hq, hX⟩ := bnd2_st hX
  refine X_Vi (w := wM h a cs) (σ := σ) (As := [.int (xs (x4 + 1).toNatClampNeg), .int (1 : Int32), .int (xs (x4 + 3).toNatClampNeg), .int (xs (x4 + 4).toNatClampNeg)]) (rest := [.int r]) C hW (c_M_person l D cs h a σ (xs (x4 + 1).toNatClampNeg) (1 : Int32) (xs (x4 + 3).toNatClampNeg) (xs (x4 + 4).toNatClampNeg) (b1, σ1) hq.symm) (cwV 4 C.2.2.2.2 gL_law_X12_person rfl rfl rfl (by decide +kernel) ⟨(Nat.le_of_ble_eq_true rfl), (Nat.le_of_ble_eq_true rfl)⟩) (M_recv (GX_left hW)) rfl hl.1 rfl (Nat.le_of_ble_eq_true rfl) dL_law_356 ⟨by show cells + 3 + 0 ≤ 601024; omega, by show slots + 39 + 0 ≤ 7293034; omega⟩ (fun r'' u H locs hu hW => ?_)
  obtain ⟨hu1, hu2⟩ := Prod.mk.inj hu
  cases hu1
  cases hu2
  have hW := LW_b hW
  refine lv_icmp_eq (tgt := 868) C.1 C.2.1 dL_law_359 (by decide) (fun cc => ?_) (fun cc => ?_)
  · have hX := br_p hX cc
    cases hX
    refine W.widen (k := cells + 3) (n := slots + 40) (by omega) (by omega) ?_
    exact kk ad1 _ _ _ _ had hW (lv_sub hl [0, 1, 2, 3, 4] rfl)
  have hX := br_n hX cc
  cases hX

def L_run (K : List (Nat × Nat)) (t : TH) (σ : St) (a1 : Int32) : Option (List (Nat × Nat) × TH × St) := bnd2 (C_Run_run K t a1) (fun r t1 => bnd2 (M_run σ a1) (fun b σ1 => if r = b then some (K, t1, σ1) else none))
set_option maxHeartbeats 4000000 in
set_option maxRecDepth 100000 in
theorem l_run {p : Program} {l : Launch} (hst : l.stackTraces = false) {e : Env} {s : State} {m : MethodId} {below : List Frame} {meth : Method} {c : Code} {D : va_G} {cs : Nat → ClassId} {ek ev : Nat → Nat} {tp b L : Nat} {xs : Nat → Int32} {A : Nat → Prop} {Q : State → Prop} (C : Cx p s m #[Value.ref b] c code 7 wsL_law RL) (hXs : va_X b L xs s s.heap) (hbl : b < s.heap.size) (hbA : ¬ A b) {ad : AD} {K : List (Nat × Nat)} (hKS : KS K) {t : TH} {σ : St} {h : Nat} {a : Nat → Nat} {ao : Nat} {f : Nat → Int64} {x4 : Int32} {H : Heap} {locs : List Loc} {ls : Array Slot} {cells slots : Nat} (hc : cells + 3 ≤ 601024) (hs : slots + 40 ≤ 7293034) (h1 : vp_in (x4 + 1) L) (hW : GW (EvA ek ev tp) D (tyC cs) idw A s (oW cs ao f :: (wC cs ad K t ++ wM h a cs σ)) H locs) (hl : lv_has ls 7 [(0, .ref b), (1, .ref (ad 11 0)), (2, .ref h), (3, .ref ao), (4, .int x4)]) {Y : List (Nat × Nat) × TH × St} (hX : some Y = L_run K t σ (xs (x4 + 1).toNatClampNeg))
    (kk : ∀ (ad' : AD) (f' : Nat → Int64) (H : Heap) (locs : List Loc) (ls : Array Slot), ad' 11 0 = ad 11 0 → GW (EvA ek ev tp) D (tyC cs) idw A s (oW cs ao f' :: (wC cs ad' Y.1 Y.2.1 ++ wM h a cs Y.2.2)) H locs → lv_has ls 7 [(0, .ref b), (1, .ref (ad 11 0)), (2, .ref h), (3, .ref ao), (4, .int x4)] → W p l e room_1 s m #[Value.ref b] below meth c H locs (cells + 3) (slots + 40) Q (F0 m 868 ls [])) : W p l e room_1 s m #[Value.ref b] below meth c H locs cells slots Q (F0 m 364 ls []) := by
  have hEv : EvC (EvA ek ev tp) ek ev tp := EvA_c ek ev tp
  unfold L_run at hX
  refine lv_aload_n C.1 C.2.1 dL_law_364 rfl (lv_at hl 1 rfl) ?_
  refine lv_aload_n C.1 C.2.1 dL_law_365 rfl (lv_at hl 0 rfl) ?_
  refine lv_iload C.1 C.2.1 dL_law_366 (lv_at hl 4 rfl) ?_
  refine lv_iconst (v := 1) C.1 C.2.1 dL_law_368 (by decide) ?_
  refine lv_iadd C.1 C.2.1 dL_law_369 ?_
  refine va_sld C.1 C.2.1 hXs hbl hbA hW.2.2.2.1 h1 dL_law_370 ?_
  have hW := LW_c hW
  obtain ⟨r, t1, hq, hX⟩ := bnd2_st hX
  refine X_Vi (w := wC cs ad K) (σ := t) (As := [.int (xs (x4 + 1).toNatClampNeg)]) (rest := []) C hW (c_C_Run_run l D cs ad K hKS hEv t (xs (x4 + 1).toNatClampNeg) (r, t1) hq.symm) (cwV 1 C.2.2.2.2 gL_law_X11_run rfl rfl rfl (by decide +kernel) ⟨(Nat.le_of_ble_eq_true rfl), (Nat.le_of_ble_eq_true rfl)⟩) (C_recv (GX_left hW) 11 hKS.k11_0 rfl rfl) rfl hl.1 rfl (Nat.le_of_ble_eq_true rfl) dL_law_371 ⟨by show cells + 0 ≤ 601024; omega, by show slots + 0 ≤ 7293034; omega⟩ (fun r' u H locs hu hW => ?_)
  obtain ⟨hu1, hu2⟩ := Prod.mk.inj hu
  cases hu1
  cases hu2
  have hW := LW_m hW
  refine lv_aload_n C.1 C.2.1 dL_law_374 rfl (lv_at hl 2 rfl) ?_
  refine lv_aload_n C.1 C.2.1 dL_law_375 rfl (lv_at hl 0 rfl) ?_
  refine lv_iload C.1 C.2.1 dL_law_376 (lv_at hl 4 rfl) ?_
  refine lv_iconst (v := 1) C.1 C.2.1 dL_law_378 (by decide) ?_
  refine lv_iadd C.1 C.2.1 dL_law_379 ?_
  refine va_sld C.1 C.2.1 hXs hbl hbA hW.2.2.2.1 h1 dL_law_380 ?_
  obtain ⟨b1, σ1, hq, hX⟩ := bnd2_st hX
  refine X_Vi (w := wM h a cs) (σ := σ) (As := [.int (xs (x4 + 1).toNatClampNeg)]) (rest := [.int r]) C hW (c_M_run l D cs h a σ (xs (x4 + 1).toNatClampNeg) (b1, σ1) hq.symm) (cwV 1 C.2.2.2.2 gL_law_X12_run rfl rfl rfl (by decide +kernel) ⟨(Nat.le_of_ble_eq_true rfl), (Nat.le_of_ble_eq_true rfl)⟩) (M_recv (GX_left hW)) rfl hl.1 rfl (Nat.le_of_ble_eq_true rfl) dL_law_381 ⟨by show cells + 0 + 0 ≤ 601024; omega, by show slots + 0 + 0 ≤ 7293034; omega⟩ (fun r'' u H locs hu hW => ?_)
  obtain ⟨hu1, hu2⟩ := Prod.mk.inj hu
  cases hu1
  cases hu2
  have hW := LW_b hW
  refine lv_icmp_eq (tgt := 868) C.1 C.2.1 dL_law_384 (by decide) (fun cc => ?_) (fun cc => ?_)
  · have hX := br_p hX cc
    cases hX
    refine W.widen (k := cells + 3) (n := slots + 40) (by omega) (by omega) ?_
    exact kk ad _ _ _ _ rfl hW (lv_sub hl [0, 1, 2, 3, 4] rfl)
  have hX := br_n hX cc
  cases hX

def L_runner (K : List (Nat × Nat)) (t : TH) (σ : St) (a1 : Int32) (a2 : Int32) : Option (List (Nat × Nat) × TH × St) := bnd (C_Run_runner K t a1 a2) (fun o => bnd2 (M_runner σ a1 a2) (fun b σ1 => bnd (M_thrown σ1) (fun h => match o with
  | none => if h = 1 then some (K, t, σ1) else none
  | some v => if h = 0 then (if v = b then some (K, t, σ1) else none) else none)))
set_option maxHeartbeats 4000000 in
set_option maxRecDepth 100000 in
theorem l_runner {p : Program} {l : Launch} (hst : l.stackTraces = false) {e : Env} {s : State} {m : MethodId} {below : List Frame} {meth : Method} {c : Code} {D : va_G} {cs : Nat → ClassId} {ek ev : Nat → Nat} {tp b L : Nat} {xs : Nat → Int32} {A : Nat → Prop} {Q : State → Prop} (C : Cx p s m #[Value.ref b] c code 7 wsL_law RL) (hXs : va_X b L xs s s.heap) (hbl : b < s.heap.size) (hbA : ¬ A b) {ad : AD} {K : List (Nat × Nat)} (hKS : KS K) {t : TH} {σ : St} {h : Nat} {a : Nat → Nat} {ao : Nat} {f : Nat → Int64} {x4 : Int32} {H : Heap} {locs : List Loc} {ls : Array Slot} {cells slots : Nat} (hc : cells + 3 ≤ 601024) (hs : slots + 40 ≤ 7293034) (h1 : vp_in (x4 + 1) L) (h2 : vp_in (x4 + 2) L) (hW : GW (EvA ek ev tp) D (tyC cs) idw A s (oW cs ao f :: (wC cs ad K t ++ wM h a cs σ)) H locs) (hl : lv_has ls 7 [(0, .ref b), (1, .ref (ad 11 0)), (2, .ref h), (3, .ref ao), (4, .int x4)]) {Y : List (Nat × Nat) × TH × St} (hX : some Y = L_runner K t σ (xs (x4 + 1).toNatClampNeg) (xs (x4 + 2).toNatClampNeg))
    (kk : ∀ (ad' : AD) (f' : Nat → Int64) (H : Heap) (locs : List Loc) (ls : Array Slot), ad' 11 0 = ad 11 0 → GW (EvA ek ev tp) D (tyC cs) idw A s (oW cs ao f' :: (wC cs ad' Y.1 Y.2.1 ++ wM h a cs Y.2.2)) H locs → lv_has ls 7 [(0, .ref b), (1, .ref (ad 11 0)), (2, .ref h), (3, .ref ao), (4, .int x4)] → W p l e room_1 s m #[Value.ref b] below meth c H locs (cells + 3) (slots + 40) Q (F0 m 868 ls [])) : W p l e room_1 s m #[Value.ref b] below meth c H locs cells slots Q (F0 m 389 ls []) := by
  have hEv : EvC (EvA ek ev tp) ek ev tp := EvA_c ek ev tp
  unfold L_runner at hX
  refine lv_aload_n C.1 C.2.1 dL_law_389 rfl (lv_at hl 1 rfl) ?_
  refine lv_aload_n C.1 C.2.1 dL_law_390 rfl (lv_at hl 0 rfl) ?_
  refine lv_iload C.1 C.2.1 dL_law_391 (lv_at hl 4 rfl) ?_
  refine lv_iconst (v := 1) C.1 C.2.1 dL_law_393 (by decide) ?_
  refine lv_iadd C.1 C.2.1 dL_law_394 ?_
  refine va_sld C.1 C.2.1 hXs hbl hbA hW.2.2.2.1 h1 dL_law_395 ?_
  refine lv_aload_n C.1 C.2.1 dL_law_396 rfl (lv_at hl 0 rfl) ?_
  refine lv_iload C.1 C.2.1 dL_law_397 (lv_at hl 4 rfl) ?_
  refine lv_iconst (v := 2) C.1 C.2.1 dL_law_399 (by decide) ?_
  refine lv_iadd C.1 C.2.1 dL_law_400 ?_
  refine va_sld C.1 C.2.1 hXs hbl hbA hW.2.2.2.1 h2 dL_law_401 ?_
  refine lv_aload_n C.1 C.2.1 dL_law_402 rfl (lv_at hl 3 rfl) ?_
  obtain ⟨o, hq, hX⟩ := bnd_st hX
  refine vx_calli (vx_runSX (hh := [(0, 10, 13, 13)]) (As := [.ref (ad 11 0), .int (xs (x4 + 1).toNatClampNeg), .int (xs (x4 + 2).toNatClampNeg), .ref ao]) (rest := []) C (c_L_runner l hst D cs ad K hKS hEv (fun _ _ _ hE => hE.2) t (xs (x4 + 1).toNatClampNeg) (xs (x4 + 2).toNatClampNeg) o hq.symm ao f H.size) (vx_cwSW 4 C.2.2.2.2 gL_law_L_runner rfl rfl rfl (by decide +kernel) ⟨(Nat.le_of_ble_eq_true rfl), (Nat.le_of_ble_eq_true rfl)⟩) ⟨gPre_blind, fun U hU hv => ⟨rfl, (GX_left (w := idw) (σ := oW cs ao f :: wC cs ad K t) hW).pre hU hv⟩⟩ rfl rfl hl.1 rfl (lv_room (m := m) (pc := 403) (ls := ls) (rest := [.ref ao, .int (xs (x4 + 2).toNatClampNeg), .int (xs (x4 + 1).toNatClampNeg), .ref (ad 11 0)]) (Nat.le_of_ble_eq_true rfl)) dL_law_403 ⟨by show cells + 1 ≤ 601024; omega, by show slots + 6 ≤ 7293034; omega⟩) hW.2.2.2.1 (fun q _ h9 => (GX_left (w := idw) (σ := oW cs ao f :: wC cs ad K t) hW).sub q h9) (fun q h9 => (GX_left (w := idw) (σ := oW cs ao f :: wC cs ad K t) hW).sub q h9) (fun q _ h9 => (GX_left (w := idw) (σ := oW cs ao f :: wC cs ad K t) hW).sub q h9) ?_ ?_
  · intro E ce q9 u T H1 locs1 ht hvm hp
    exact hp.elim
  intro r u T H1 locs1 ht hvm hp hB hz hkk hS
  have hW := GX_frame (w := idw) (σ := oW cs ao f :: wC cs ad K t) hW ht hB hkk hS
  obtain ⟨f', rfl, hp⟩ := hp
  refine lv_istore (lv' := [(5, .int r), (0, .ref b), (1, .ref (ad 11 0)), (2, .ref h), (3, .ref ao), (4, .int x4)]) C.1 C.2.1 dL_law_406 hl (by decide) rfl (fun ls hl => ?_)
  have hW := LW_m2 hW
  refine lv_aload_n C.1 C.2.1 dL_law_408 rfl (lv_at hl 3 rfl) ?_
  refine lv_aload_n C.1 C.2.1 dL_law_409 rfl (lv_at hl 1 rfl) ?_
  refine lv_iload C.1 C.2.1 dL_law_410 (lv_at hl 5 rfl) ?_
  refine lv_iconst (v := 1) C.1 C.2.1 dL_law_412 (by decide) ?_
  refine lv_iadd C.1 C.2.1 dL_law_413 ?_
  refine va_sld C.1 C.2.1 hXs hbl hbA hW.2.2.2.1 h1 dL_law_414 ?_
  refine lv_aload_n C.1 C.2.1 dL_law_415 rfl (lv_at hl 1 rfl) ?_
  refine lv_iload C.1 C.2.1 dL_law_416 (lv_at hl 5 rfl) ?_
  refine lv_iconst (v := 2) C.1 C.2.1 dL_law_418 (by decide) ?_
  refine lv_iadd C.1 C.2.1 dL_law_419 ?_
  refine va_sld C.1 C.2.1 hXs hbl hbA hW.2.2.2.1 h2 dL_law_420 ?_
  obtain ⟨b1, σ1, hq, hX⟩ := bnd2_st hX
  refine X_Vi (w := wM h a cs) (σ := σ) (As := [.int (xs (x4 + 1).toNatClampNeg), .int (xs (x4 + 2).toNatClampNeg)]) (rest := []) C hW (c_M_runner l D cs h a σ (xs (x4 + 1).toNatClampNeg) (xs (x4 + 2).toNatClampNeg) (b1, σ1) hq.symm) (cwV 2 C.2.2.2.2 gL_law_X12_runner rfl rfl rfl (by decide +kernel) ⟨(Nat.le_of_ble_eq_true rfl), (Nat.le_of_ble_eq_true rfl)⟩) (M_recv (GX_left hW)) rfl hl.1 rfl (Nat.le_of_ble_eq_true rfl) dL_law_421 ⟨by show cells + 1 + 0 ≤ 601024; omega, by show slots + 6 + 0 ≤ 7293034; omega⟩ (fun r'' u H locs hu hW => ?_)
  obtain ⟨hu1, hu2⟩ := Prod.mk.inj hu
  cases hu1
  cases hu2
  refine lv_istore (lv' := [(6, .int b1), (5, .int r), (0, .ref b), (1, .ref (ad 11 0)), (2, .ref h), (3, .ref ao), (4, .int x4)]) C.1 C.2.1 dL_law_424 hl (by decide) rfl (fun ls hl => ?_)
  refine lv_aload_n C.1 C.2.1 dL_law_426 rfl (lv_at hl 4 rfl) ?_
  obtain ⟨hh, hq, hX⟩ := bnd_st hX
  refine X_Vi (w := wM h a cs) (σ := σ1) (As := []) (rest := []) C hW (c_M_thrown l D cs h a σ1 hh hq.symm) (cwV 0 C.2.2.2.2 gL_law_X12_thrown rfl rfl rfl (by decide +kernel) ⟨(Nat.le_of_ble_eq_true rfl), (Nat.le_of_ble_eq_true rfl)⟩) (M_recv (GX_left hW)) rfl hl.1 rfl (Nat.le_of_ble_eq_true rfl) dL_law_427 ⟨by show cells + 1 + 0 + 0 ≤ 601024; omega, by show slots + 6 + 0 + 0 ≤ 7293034; omega⟩ (fun r'' u H locs hu hW => ?_)
  obtain ⟨eu1, eu2⟩ := hu
  rw [eu2] at hW
  rw [eu1]
  have hW := LW_b hW
  refine lv_iload C.1 C.2.1 dL_law_430 (lv_at hl 1 rfl) ?_
  refine lv_icmp_eq (tgt := 437) C.1 C.2.1 dL_law_432 (by decide) (fun cc => ?_) (fun cc => ?_)
  · refine lv_iload C.1 C.2.1 dL_law_437 (lv_at hl 1 rfl) ?_
    rcases hp with ⟨v, rfl, rfl, hv⟩ | ⟨rfl, rfl⟩
    · refine lv_if_ne (tgt := 454) C.1 C.2.1 dL_law_439 (by decide) (fun c2 => absurd rfl c2) (fun _ => ?_)
      have hX := br_p hX cc
      refine lv_aload_n C.1 C.2.1 dL_law_442 rfl (lv_at hl 5 rfl) ?_
      refine lv_iconst (v := 0) C.1 C.2.1 dL_law_443 (by decide) ?_
      refine va_lald C.1 C.2.1 hW.1 hW.2.1 0 2 rfl rfl (show vp_in (0 : Int32) 1 from vp_in_nI (n := 0) (by decide) (by decide)) dL_law_444 ?_
      refine lv_iload C.1 C.2.1 dL_law_445 (lv_at hl 0 rfl) ?_
      refine lv_i2l C.1 C.2.1 dL_law_447 rfl ?_
      refine W.lcmp C.1 C.2.1 dL_law_448 ?_
      refine lv_if_eq (tgt := 454) C.1 C.2.1 dL_law_449 (by decide) (fun c3 => ?_) (fun c3 => ?_)
      · have hX := br_p hX (L_eq hv c3)
        cases hX
        refine lv_goto (tgt := 868) C.1 C.2.1 dL_law_454 (by decide) ?_
        refine W.widen (k := cells + 3) (n := slots + 40) (by omega) (by omega) ?_
        exact kk ad f' _ _ _ rfl hW (lv_sub hl [2, 3, 4, 5, 6] rfl)
      have hX := br_n hX (L_ne hv c3)
      cases hX
    · refine lv_if_ne (tgt := 454) C.1 C.2.1 dL_law_439 (by decide) (fun _ => ?_) (fun c2 => absurd c2 (by decide))
      have hX := br_p hX cc
      cases hX
      refine lv_goto (tgt := 868) C.1 C.2.1 dL_law_454 (by decide) ?_
      refine W.widen (k := cells + 3) (n := slots + 40) (by omega) (by omega) ?_
      exact kk ad f' _ _ _ rfl hW (lv_sub hl [2, 3, 4, 5, 6] rfl)
  rcases hp with ⟨v, rfl, rfl, hv⟩ | ⟨rfl, rfl⟩
  · have hX := br_n hX cc
    cases hX
  have hX := br_n hX cc
  cases hX

def L_staked (K : List (Nat × Nat)) (t : TH) (σ : St) (a1 : Int32) : Option (List (Nat × Nat) × TH × St) := bnd (C_Run_staked K t a1) (fun r => bnd2 (M_staked σ a1) (fun b σ1 => if r = b then some (K, t, σ1) else none))
set_option maxHeartbeats 4000000 in
set_option maxRecDepth 100000 in
theorem l_staked {p : Program} {l : Launch} (hst : l.stackTraces = false) {e : Env} {s : State} {m : MethodId} {below : List Frame} {meth : Method} {c : Code} {D : va_G} {cs : Nat → ClassId} {ek ev : Nat → Nat} {tp b L : Nat} {xs : Nat → Int32} {A : Nat → Prop} {Q : State → Prop} (C : Cx p s m #[Value.ref b] c code 7 wsL_law RL) (hXs : va_X b L xs s s.heap) (hbl : b < s.heap.size) (hbA : ¬ A b) {ad : AD} {K : List (Nat × Nat)} (hKS : KS K) {t : TH} {σ : St} {h : Nat} {a : Nat → Nat} {ao : Nat} {f : Nat → Int64} {x4 : Int32} {H : Heap} {locs : List Loc} {ls : Array Slot} {cells slots : Nat} (hc : cells + 3 ≤ 601024) (hs : slots + 40 ≤ 7293034) (h1 : vp_in (x4 + 1) L) (hW : GW (EvA ek ev tp) D (tyC cs) idw A s (oW cs ao f :: (wC cs ad K t ++ wM h a cs σ)) H locs) (hl : lv_has ls 7 [(0, .ref b), (1, .ref (ad 11 0)), (2, .ref h), (3, .ref ao), (4, .int x4)]) {Y : List (Nat × Nat) × TH × St} (hX : some Y = L_staked K t σ (xs (x4 + 1).toNatClampNeg))
    (kk : ∀ (ad' : AD) (f' : Nat → Int64) (H : Heap) (locs : List Loc) (ls : Array Slot), ad' 11 0 = ad 11 0 → GW (EvA ek ev tp) D (tyC cs) idw A s (oW cs ao f' :: (wC cs ad' Y.1 Y.2.1 ++ wM h a cs Y.2.2)) H locs → lv_has ls 7 [(0, .ref b), (1, .ref (ad 11 0)), (2, .ref h), (3, .ref ao), (4, .int x4)] → W p l e room_1 s m #[Value.ref b] below meth c H locs (cells + 3) (slots + 40) Q (F0 m 868 ls [])) : W p l e room_1 s m #[Value.ref b] below meth c H locs cells slots Q (F0 m 457 ls []) := by
  have hEv : EvC (EvA ek ev tp) ek ev tp := EvA_c ek ev tp
  unfold L_staked at hX
  refine lv_aload_n C.1 C.2.1 dL_law_457 rfl (lv_at hl 1 rfl) ?_
  refine lv_aload_n C.1 C.2.1 dL_law_458 rfl (lv_at hl 0 rfl) ?_
  refine lv_iload C.1 C.2.1 dL_law_459 (lv_at hl 4 rfl) ?_
  refine lv_iconst (v := 1) C.1 C.2.1 dL_law_461 (by decide) ?_
  refine lv_iadd C.1 C.2.1 dL_law_462 ?_
  refine va_sld C.1 C.2.1 hXs hbl hbA hW.2.2.2.1 h1 dL_law_463 ?_
  have hW := LW_c hW
  obtain ⟨r, hq, hX⟩ := bnd_st hX
  refine X_Vi (w := wC cs ad K) (σ := t) (As := [.int (xs (x4 + 1).toNatClampNeg)]) (rest := []) C hW (c_C_Run_staked l D cs ad K hKS hEv t (xs (x4 + 1).toNatClampNeg) r hq.symm) (cwV 1 C.2.2.2.2 gL_law_X11_staked rfl rfl rfl (by decide +kernel) ⟨(Nat.le_of_ble_eq_true rfl), (Nat.le_of_ble_eq_true rfl)⟩) (C_recv (GX_left hW) 11 hKS.k11_0 rfl rfl) rfl hl.1 rfl (Nat.le_of_ble_eq_true rfl) dL_law_464 ⟨by show cells + 0 ≤ 601024; omega, by show slots + 0 ≤ 7293034; omega⟩ (fun r' u H locs hu hW => ?_)
  obtain ⟨eu1, eu2⟩ := hu
  rw [eu2] at hW
  rw [eu1]
  have hW := LW_m hW
  refine lv_aload_n C.1 C.2.1 dL_law_467 rfl (lv_at hl 2 rfl) ?_
  refine lv_aload_n C.1 C.2.1 dL_law_468 rfl (lv_at hl 0 rfl) ?_
  refine lv_iload C.1 C.2.1 dL_law_469 (lv_at hl 4 rfl) ?_
  refine lv_iconst (v := 1) C.1 C.2.1 dL_law_471 (by decide) ?_
  refine lv_iadd C.1 C.2.1 dL_law_472 ?_
  refine va_sld C.1 C.2.1 hXs hbl hbA hW.2.2.2.1 h1 dL_law_473 ?_
  obtain ⟨b1, σ1, hq, hX⟩ := bnd2_st hX
  refine X_Vi (w := wM h a cs) (σ := σ) (As := [.int (xs (x4 + 1).toNatClampNeg)]) (rest := [.int r]) C hW (c_M_staked l D cs h a σ (xs (x4 + 1).toNatClampNeg) (b1, σ1) hq.symm) (cwV 1 C.2.2.2.2 gL_law_X12_staked rfl rfl rfl (by decide +kernel) ⟨(Nat.le_of_ble_eq_true rfl), (Nat.le_of_ble_eq_true rfl)⟩) (M_recv (GX_left hW)) rfl hl.1 rfl (Nat.le_of_ble_eq_true rfl) dL_law_474 ⟨by show cells + 0 + 0 ≤ 601024; omega, by show slots + 0 + 0 ≤ 7293034; omega⟩ (fun r'' u H locs hu hW => ?_)
  obtain ⟨hu1, hu2⟩ := Prod.mk.inj hu
  cases hu1
  cases hu2
  have hW := LW_b hW
  refine lv_icmp_eq (tgt := 868) C.1 C.2.1 dL_law_477 (by decide) (fun cc => ?_) (fun cc => ?_)
  · have hX := br_p hX cc
    cases hX
    refine W.widen (k := cells + 3) (n := slots + 40) (by omega) (by omega) ?_
    exact kk ad _ _ _ _ rfl hW (lv_sub hl [0, 1, 2, 3, 4] rfl)
  have hX := br_n hX cc
  cases hX
