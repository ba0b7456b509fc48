abbrev idw : va_W → va_W := fun ws => ws
theorem va_D_rot {A : Nat → Prop} {ws : va_W} {x : Nat × va_E} (h : va_D A (ws ++ [x])) : va_D A (x :: ws) := by
  refine h.by (fun k => if k = 0 then ws.length else k - 1) (fun k q hk => ?_) (fun i j hi hj e => ?_)
  · cases k with
    | zero => simp at hk; subst hk; simp
    | succ k => simp at hk ⊢; rw [List.getElem?_append_left (List.getElem?_eq_some_iff.mp hk).1]; exact hk
  · simp at hi hj e
    split at e <;> split at e <;> omega
theorem va_P_rot {D : va_G} {cl : List vw_C} {H : Heap} {ws : va_W} {x : Nat × va_E} (h : va_P D cl (ws ++ [x]) H) : va_P D cl (x :: ws) H := by
  refine h.by (fun k => if k = 0 then ws.length else k - 1) (fun k q hk => ?_)
  cases k with
  | zero => simp at hk; subst hk; simp
  | succ k => simp at hk ⊢; rw [List.getElem?_append_left (List.getElem?_eq_some_iff.mp hk).1]; exact hk
theorem va_P_comm {D : va_G} {cl : List vw_C} {H : Heap} {a b : va_W} (h : va_P D cl (a ++ b) H) : va_P D cl (b ++ a) H := by
  refine h.by (fun k => if k < b.length then a.length + k else k - b.length) (fun k q hk => ?_)
  by_cases hb : k < b.length
  · rw [List.getElem?_append_left hb] at hk
    rw [if_pos hb, List.getElem?_append_right (by omega), Nat.add_sub_cancel_left]; exact hk
  · rw [List.getElem?_append_right (by omega)] at hk
    rw [if_neg hb, List.getElem?_append_left (List.getElem?_eq_some_iff.mp hk).1]; exact hk
theorem va_D_comm {A : Nat → Prop} {a b : va_W} (h : va_D A (a ++ b)) : va_D A (b ++ a) := by
  refine h.by (fun k => if k < b.length then a.length + k else k - b.length) (fun k q hk => ?_) (fun i j hi hj e => ?_)
  · by_cases hb : k < b.length
    · rw [List.getElem?_append_left hb] at hk
      rw [if_pos hb, List.getElem?_append_right (by omega), Nat.add_sub_cancel_left]; exact hk
    · rw [List.getElem?_append_right (by omega)] at hk
      rw [if_neg hb, List.getElem?_append_left (List.getElem?_eq_some_iff.mp hk).1]; exact hk
  · rw [List.length_append] at hi hj
    have e : (if i < b.length then a.length + i else i - b.length) = (if j < b.length then a.length + j else j - b.length) := e
    split at e <;> split at e <;> omega
section XR
variable {S : Type} {Ev : EvT} {p : Program} {l : Launch} {e : Env} {R : Room} {s : State} {m : MethodId} {args : Array Value} {below : List Frame} {meth : Method} {c : Code} {H : Heap} {locs : List Loc} {cells slots : Nat} {Q : State → Prop}
variable {cc : ByteArray} {pc : Nat} {ls : Array Slot} {rest : List Value} {D : va_G} {tys : List (ClassId × FieldType)} {w : S → va_W} {A : Nat → Prop} {σ : S} {ws wr : va_W} {cs : Nat → ClassId}
variable {nL : Nat} {Ts : List Cond} {own : String} {y : MethodName} {wy : List Cond} {rm : Room} {mc ms n index : Nat} {bytes : ByteArray} {maxL : Nat} {ret : Option FieldType} {CC : String} {b : Addr} {As : List Value}
theorem GX_comm {a b : va_W} (h : GW Ev D tys idw A s (a ++ b) H locs) : GW Ev D tys idw A s (b ++ a) H locs := ⟨h.1, va_P_comm h.2.1, va_D_comm h.2.2.1, h.2.2.2⟩
theorem va_P_left {D : va_G} {cl : List vw_C} {H : Heap} {a b : va_W} (h : va_P D cl (a ++ b) H) : va_P D cl a H := fun k q hk => h k q (by rw [List.getElem?_append_left (List.getElem?_eq_some_iff.mp hk).1]; exact hk)
theorem va_D_left {A : Nat → Prop} {a b : va_W} (h : va_D A (a ++ b)) : va_D A a := ⟨fun i j x y hx hy e => h.1 i j x y (by rw [List.getElem?_append_left (List.getElem?_eq_some_iff.mp hx).1]; exact hx) (by rw [List.getElem?_append_left (List.getElem?_eq_some_iff.mp hy).1]; exact hy) e, fun k q hk => h.2 k q (by rw [List.getElem?_append_left (List.getElem?_eq_some_iff.mp hk).1]; exact hk)⟩
/-- the first cells of a world are a world -/
theorem GX_left (h : GW Ev D tys idw A s (w σ ++ wr) H locs) : GW Ev D tys w A s σ H locs := ⟨h.1, va_P_left h.2.1, va_D_left h.2.2.1, h.2.2.2⟩
theorem GX_of (h : GW Ev D tys w A s σ H locs) : GW Ev D tys idw A s (w σ) H locs := h
theorem GX_to (h : GW Ev D tys idw A s (w σ) H locs) : GW Ev D tys w A s σ H locs := h
/-- behind a call of a method that has the first cells: the others are as they were -/
theorem GX_frame (h : GW Ev D tys idw A s (w σ ++ wr) H locs) {u : S} {t : State} {H1 : Heap} {locs1 : List Loc} (ht : t.heap = H1) (hB : gPos D tys w σ H.size u t) (hk : ∀ q : Nat, q < H.size → ¬ va_A (w σ) H.size q → H1[q]? = H[q]?) (hS : va_S A s.heap H1 locs1) : GW Ev D tys idw A s (w u ++ wr) H1 locs1 := by
  obtain ⟨b1, b2, b3⟩ := hB
  have hr : va_P D vwCl wr H := va_P_left (va_P_comm h.2.1)
  have hdr : va_D A wr := va_D_left (va_D_comm h.2.2.1)
  have apart : ∀ (k : Nat) (q : Nat × va_E), wr[k]? = some q → q.1 < H.size ∧ ¬ va_A (w σ) H.size q.1 := by
    intro k q hq
    have hl := (hr k q hq).lt
    refine ⟨hl, fun hz => ?_⟩
    rcases hz with ⟨k2, e2, h2⟩ | h2
    · have hk2 : k2 < (w σ).length := (List.getElem?_eq_some_iff.mp h2).1
      have := h.2.2.1.1 ((w σ).length + k) k2 q (q.1, e2) (by show (w σ ++ wr)[_]? = _; rw [List.getElem?_append_right (by omega), Nat.add_sub_cancel_left]; exact hq) (by show (w σ ++ wr)[_]? = _; rw [List.getElem?_append_left hk2]; exact h2) rfl
      omega
    · omega
  refine ⟨h.1, va_P.app (by rw [← ht]; exact b1) (fun k q hq => ?_), va_D.app (b3.weaken (fun _ q _ hq => (GX_left h).sub q.1 hq)) hdr (fun i j x y hx hy e => ?_), hS, h.2.2.2.2⟩
  · obtain ⟨g1, g2⟩ := apart k q hq
    exact (hr k q hq).kept (hk q.1 g1 g2)
  · exact (apart j y hy).2 (by rw [← e]; exact b3.2 i x hx)
theorem X_I {post : S → Prop} {st0 : List Value} (C : Cx p s m args c cc nL Ts own) (hW : GW Ev D tys idw A s (w σ ++ wr) H locs) (hM : cGv Ev l D tys w y wy rm mc ms (.ref b :: As) σ post) (cw : CallB R s args own index y bytes maxL none wy rm mc ms n ∧ y.name = "<init>" ∧ (Cond.instanceMethod y).before args s = true) (hn : As.length = n) (hls : ls.size = nL) (hst : st0 = As.reverse ++ .ref b :: rest) (hW8 : (rest.map fun v => v.category).sum ≤ 8) (hdg : decode cc pc = .ok (.invokespecial index, 3)) (hf : cells + mc ≤ R.cells ∧ slots + ms ≤ R.slots)
    (kk : ∀ (u : S) (H1 : Heap) (locs1 : List Loc), post u → GW Ev D tys idw A s (w u ++ wr) H1 locs1 → W p l e R s m args below meth c H1 locs1 (cells + mc) (slots + ms) Q (F0 m (pc + 3) ls rest)) : W p l e R s m args below meth c H locs cells slots Q (F0 m pc ls st0) :=
  va_callv (va_runI (As := As) (rest := rest) C (hM H.size) cw ⟨gPre_blind, fun U hU hv => ⟨rfl, (GX_left hW).pre hU hv⟩⟩ rfl hn hls hst (lv_room (m := m) (pc := pc) (ls := ls) (rest := st0) hW8) hdg hf) hW.2.2.2.1 (fun q _ h => (GX_left hW).sub q h) (fun q h => (GX_left hW).sub q h) (fun u t H1 locs1 ht hvm hw hB hz1 hk1 hS => kk u H1 locs1 hw (GX_frame hW ht hB hk1 hS))
theorem X_IN {post : S → Prop} {st0 : List Value} {host : String} (C : Cx p s m args c cc nL Ts own) (hW : GW Ev D tys idw A s (w σ ++ wr) H locs) (hM : cGv Ev l D tys w y wy rm mc ms (.ref b :: As) σ post) (cw : va_CN R s args own index y host bytes maxL none wy rm mc ms n ∧ y.name = "<init>" ∧ (Cond.instanceMethod y).before args s = true) (hn : As.length = n) (hls : ls.size = nL) (hst : st0 = As.reverse ++ .ref b :: rest) (hW8 : (rest.map fun v => v.category).sum ≤ 8) (hdg : decode cc pc = .ok (.invokespecial index, 3)) (hf : cells + mc ≤ R.cells ∧ slots + ms ≤ R.slots)
    (kk : ∀ (u : S) (H1 : Heap) (locs1 : List Loc), post u → GW Ev D tys idw A s (w u ++ wr) H1 locs1 → W p l e R s m args below meth c H1 locs1 (cells + mc) (slots + ms) Q (F0 m (pc + 3) ls rest)) : W p l e R s m args below meth c H locs cells slots Q (F0 m pc ls st0) :=
  va_callv (va_runIN (As := As) (rest := rest) C (hM H.size) cw ⟨gPre_blind, fun U hU hv => ⟨rfl, (GX_left hW).pre hU hv⟩⟩ rfl hn hls hst (lv_room (m := m) (pc := pc) (ls := ls) (rest := st0) hW8) hdg hf) hW.2.2.2.1 (fun q _ h => (GX_left hW).sub q h) (fun q h => (GX_left hW).sub q h) (fun u t H1 locs1 ht hvm hw hB hz1 hk1 hS => kk u H1 locs1 hw (GX_frame hW ht hB hk1 hS))
theorem X_Vi {post : Int32 → S → Prop} {st0 : List Value} (C : Cx p s m args c cc nL Ts own) (hW : GW Ev D tys idw A s (w σ ++ wr) H locs) (hM : cGi Ev l D tys w y wy rm mc ms (.ref b :: As) σ post) (cw : CallW R s args own CC index y bytes maxL ret wy rm mc ms n) (hrv : ∃ cellB : Cell, H[b]? = some cellB ∧ cellB.vm.isStatics = false ∧ s.vm.findClass CC = some cellB.cls) (hn : As.length = n) (hls : ls.size = nL) (hst : st0 = As.reverse ++ .ref b :: rest) (hW8 : (rest.map fun v => v.category).sum ≤ 8) (hdg : decode cc pc = .ok (.invokevirtual index, 3)) (hf : cells + mc ≤ R.cells ∧ slots + ms ≤ R.slots)
    (kk : ∀ (r : Int32) (u : S) (H1 : Heap) (locs1 : List Loc), post r u → GW Ev D tys idw A s (w u ++ wr) H1 locs1 → W p l e R s m args below meth c H1 locs1 (cells + mc) (slots + ms) Q (F0 m (pc + 3) ls (.int r :: rest))) : W p l e R s m args below meth c H locs cells slots Q (F0 m pc ls st0) :=
  va_calli (va_runV (As := As) (rest := rest) C (hM H.size) cw ⟨gPre_blind, hrv, fun U hU hv => ⟨rfl, (GX_left hW).pre hU hv⟩⟩ rfl hn hls hst (lv_room (m := m) (pc := pc) (ls := ls) (rest := st0) hW8) hdg hf) hW.2.2.2.1 (fun q _ h => (GX_left hW).sub q h) (fun q h => (GX_left hW).sub q h) (fun r u t H1 locs1 ht hvm hw hB hz1 hk1 hS => kk r u H1 locs1 hw (GX_frame hW ht hB hk1 hS))
theorem X_Vv {post : S → Prop} {st0 : List Value} (C : Cx p s m args c cc nL Ts own) (hW : GW Ev D tys idw A s (w σ ++ wr) H locs) (hM : cGv Ev l D tys w y wy rm mc ms (.ref b :: As) σ post) (cw : CallW R s args own CC index y bytes maxL ret wy rm mc ms n) (hrv : ∃ cellB : Cell, H[b]? = some cellB ∧ cellB.vm.isStatics = false ∧ s.vm.findClass CC = some cellB.cls) (hn : As.length = n) (hls : ls.size = nL) (hst : st0 = As.reverse ++ .ref b :: rest) (hW8 : (rest.map fun v => v.category).sum ≤ 8) (hdg : decode cc pc = .ok (.invokevirtual index, 3)) (hf : cells + mc ≤ R.cells ∧ slots + ms ≤ R.slots)
    (kk : ∀ (u : S) (H1 : Heap) (locs1 : List Loc), post u → GW Ev D tys idw A s (w u ++ wr) H1 locs1 → W p l e R s m args below meth c H1 locs1 (cells + mc) (slots + ms) Q (F0 m (pc + 3) ls (rest))) : W p l e R s m args below meth c H locs cells slots Q (F0 m pc ls st0) :=
  va_callv (va_runV (As := As) (rest := rest) C (hM H.size) cw ⟨gPre_blind, hrv, fun U hU hv => ⟨rfl, (GX_left hW).pre hU hv⟩⟩ rfl hn hls hst (lv_room (m := m) (pc := pc) (ls := ls) (rest := st0) hW8) hdg hf) hW.2.2.2.1 (fun q _ h => (GX_left hW).sub q h) (fun q h => (GX_left hW).sub q h) (fun u t H1 locs1 ht hvm hw hB hz1 hk1 hS => kk u H1 locs1 hw (GX_frame hW ht hB hk1 hS))
theorem X_new (C : Cx p s m args c cc nL Ts own) (hW : GW Ev D tys idw A s ws H locs) (ci : Nat) {Cn : String} {T : u_T} {N : Nat} (hc : vwCl[ci]? = some (Cn, T, N)) (hin : ∀ w ∈ u_ws Cn T N, w ∈ Ts) (ty : Nat → FieldType) (hty : ∀ k, k < N → parseFieldDescriptor (T k).2.2.1 = some (ty k)) (hcl : (Cond.classLink own index Cn).before args s = true) (hinst : (Cond.instantiable Cn N).before args s = true) (hini : (Cond.initialized Cn).before args s = true) {fs : List Value} (hfs : ∀ j, j < N → defaultValue (ty j) = vp_V fs j) (hcells : cells + 1 ≤ R.cells) (hslots : slots + N ≤ R.slots) (hdg : decode cc pc = .ok (.new index, 3))
    (kk : ∀ (q : Nat) (H1 : Heap), GW Ev D tys idw A s ((q, .inr (ci, fs)) :: ws) H1 locs → W p l e R s m args below meth c H1 locs (cells + 1) (slots + N) Q (F0 m (pc + 3) ls (.ref q :: rest))) : W p l e R s m args below meth c H locs cells slots Q (F0 m pc ls rest) :=
  va_new (ci := ci) (fs := fs) (C := Cn) (T := T) (N := N) C.1 C.2.1 C.2.2.2.2 hin ty hty C.2.2.2.1 hcl hinst hini hW.1 hW.2.1 hW.2.2.1 hW.2.2.2.1 hW.2.2.2.2.1 hc hfs hcells hslots hdg (fun q H1 hP hD hS => kk q H1 ⟨hW.1, va_P_rot hP, va_D_rot hD, hS, hW.2.2.2.2⟩)
theorem X_putF (C : Cx p s m args c cc nL Ts own) (hi : meth.name = "<init>") (hW : GW Ev D tys idw A s ws H locs) (k ci : Nat) {a : Nat} {fs : List Value} {Cn : String} {T : u_T} {N : Nat} (hc : vwCl[ci]? = some (Cn, T, N)) (hin : ∀ w ∈ u_ws Cn T N, w ∈ Ts) (ty0 : Nat → FieldType) (hty : ∀ k, k < N → parseFieldDescriptor (T k).2.2.1 = some (ty0 k)) (hnm : ∀ a, a < N → ∀ b, b < N → a ≠ b → (T a).2.1 ≠ (T b).2.1) (he : ws[k]? = some (a, .inr (ci, fs))) (f : Nat) (hf : f < N) {v : Value} (hfin : (T f).2.2.2 = true) (hdecl : (T f).1 = own) (hn : narrow (ty0 f) v = v) (hfit : fits (ty0 f) v = true) (hl : f < fs.length) (hlink : (Cond.fieldLink own index (T f).1 (T f).2.1 (T f).2.2.1).before args s = true) (hdg : decode cc pc = .ok (.putfield index, 3))
    (kk : ∀ (H1 : Heap) (locs1 : List Loc), GW Ev D tys idw A s (ws.set k (a, .inr (ci, fs.set f v))) H1 locs1 → W p l e R s m args below meth c H1 locs1 cells slots Q (F0 m (pc + 3) ls rest)) : W p l e R s m args below meth c H locs cells slots Q (F0 m pc ls (v :: .ref a :: rest)) :=
  va_putF (D := D) (ci := ci) (C := Cn) (T := T) (N := N) (v := v) (ty := ty0 f) C.1 C.2.1 C.2.2.2.2 hin ty0 hty hnm C.2.2.2.1 hW.1 hW.2.1 hW.2.2.1 hW.2.2.2.1 k (fs := fs) he hc f hf hlink (fun _ h9 => h9) hfin hi hdecl (hty f hf) hn hfit hl hdg (fun H1 locs1 hP hD hS => kk H1 locs1 ⟨hW.1, hP, hD, hS, hW.2.2.2.2⟩)
theorem X_put (C : Cx p s m args c cc nL Ts own) (hW : GW Ev D tys idw A s ws H locs) (k ci : Nat) {a : Nat} {fs : List Value} {Cn : String} {T : u_T} {N : Nat} (hc : vwCl[ci]? = some (Cn, T, N)) (hin : ∀ w ∈ u_ws Cn T N, w ∈ Ts) (ty0 : Nat → FieldType) (hty : ∀ k, k < N → parseFieldDescriptor (T k).2.2.1 = some (ty0 k)) (hnm : ∀ a, a < N → ∀ b, b < N → a ≠ b → (T a).2.1 ≠ (T b).2.1) (he : ws[k]? = some (a, .inr (ci, fs))) (f : Nat) (hf : f < N) {v : Value} (hfin : (T f).2.2.2 = false) (hn : narrow (ty0 f) v = v) (hfit : fits (ty0 f) v = true) (hl : f < fs.length) (hlink : (Cond.fieldLink own index (T f).1 (T f).2.1 (T f).2.2.1).before args s = true) (hdg : decode cc pc = .ok (.putfield index, 3))
    (kk : ∀ (H1 : Heap) (locs1 : List Loc), GW Ev D tys idw A s (ws.set k (a, .inr (ci, fs.set f v))) H1 locs1 → W p l e R s m args below meth c H1 locs1 cells slots Q (F0 m (pc + 3) ls rest)) : W p l e R s m args below meth c H locs cells slots Q (F0 m pc ls (v :: .ref a :: rest)) :=
  va_put (D := D) (ci := ci) (C := Cn) (T := T) (N := N) (v := v) (ty := ty0 f) C.1 C.2.1 C.2.2.2.2 hin ty0 hty hnm C.2.2.2.1 hW.1 hW.2.1 hW.2.2.1 hW.2.2.2.1 k (fs := fs) he hc f hf hlink (fun _ h9 => h9) hfin (hty f hf) hn hfit hl hdg (fun H1 locs1 hP hD hS => kk H1 locs1 ⟨hW.1, hP, hD, hS, hW.2.2.2.2⟩)
theorem X_get (C : Cx p s m args c cc nL Ts own) (hW : GW Ev D tys idw A s ws H locs) (k ci : Nat) {a : Nat} {fs : List Value} {Cn : String} {T : u_T} {N : Nat} (hc : vwCl[ci]? = some (Cn, T, N)) (hin : ∀ w ∈ u_ws Cn T N, w ∈ Ts) (he : ws[k]? = some (a, .inr (ci, fs))) (f : Nat) (hf : f < N) {v : Value} (hv : fs[f]? = some v) (hlink : (Cond.fieldLink own index (T f).1 (T f).2.1 (T f).2.2.1).before args s = true) (hdg : decode cc pc = .ok (.getfield index, 3))
    (kk : W p l e R s m args below meth c H locs cells slots Q (F0 m (pc + 3) ls (v :: rest))) : W p l e R s m args below meth c H locs cells slots Q (F0 m pc ls (.ref a :: rest)) :=
  va_get (D := D) (ci := ci) (C := Cn) (T := T) (N := N) C.1 C.2.1 C.2.2.2.2 hin C.2.2.2.1 hW.1 hW.2.1 k (fs := fs) he hc f hf hlink (fun _ h9 => h9) hv hdg kk
theorem X_stI (C : Cx p s m args c cc nL Ts own) (hW : GW Ev D (tyM cs) idw A s ws H locs) (k : Nat) {a n : Nat} {f : Nat → Int32} (he : ws[k]? = some (a, .inl (cs 1, n, .inl f))) {i x : Int32} (hi : vp_in i n) (hdg : decode cc pc = .ok (.iastore, 1))
    (kk : ∀ (H1 : Heap) (locs1 : List Loc), GW Ev D (tyM cs) idw A s (ws.set k (a, .inl (cs 1, n, .inl (upd f i.toNatClampNeg x)))) H1 locs1 → W p l e R s m args below meth c H1 locs1 cells slots Q (F0 m (pc + 1) ls rest)) : W p l e R s m args below meth c H locs cells slots Q (F0 m pc ls (.int x :: .int i :: .ref a :: rest)) :=
  va_iast C.1 C.2.1 hW.1 hW.2.1 hW.2.2.1 hW.2.2.2.1 k 1 he rfl hi hdg (fun H1 locs1 hP hD hS => kk H1 locs1 ⟨hW.1, hP, hD, hS, hW.2.2.2.2⟩)
theorem X_lenI (C : Cx p s m args c cc nL Ts own) (hW : GW Ev D (tyM cs) idw A s ws H locs) (k : Nat) {a n : Nat} {f : Nat → Int32} (he : ws[k]? = some (a, .inl (cs 1, n, .inl f))) (hdg : decode cc pc = .ok (.arraylength, 1))
    (kk : W p l e R s m args below meth c H locs cells slots Q (F0 m (pc + 1) ls (.int (nI n) :: rest))) : W p l e R s m args below meth c H locs cells slots Q (F0 m pc ls (.ref a :: rest)) :=
  va_alen C.1 C.2.1 hW.1 hW.2.1 k 1 he rfl rfl hdg kk
theorem X_newB (C : Cx p s m args c cc nL Ts own) (hW : GW Ev D (tyM cs) idw A s ws H locs) (harr : (Cond.arrayClass .byte).before args s = true) {n : Int32} {N : Nat} (hn : ¬ n < 0) (hN : n.toNatClampNeg = N) (hby : N * 8 ≤ 536870912) (hcells : cells + 1 ≤ R.cells) (hslots : slots + N ≤ R.slots) (hdg : decode cc pc = .ok (.newarray .byte, 2))
    (kk : ∀ (q : Nat) (H1 : Heap), GW Ev D (tyM cs) idw A s ((q, .inl (cs 0, N, .inl (fun _ => 0))) :: ws) H1 locs → W p l e R s m args below meth c H1 locs (cells + 1) (slots + N) Q (F0 m (pc + 2) ls (.ref q :: rest))) : W p l e R s m args below meth c H locs cells slots Q (F0 m pc ls (.int n :: rest)) :=
  va_newa (atype := .byte) (ty := .byte) (a0 := (N, .inl (fun _ => 0))) C.1 C.2.1 harr rfl hW.1 hW.2.1 hW.2.2.1 hW.2.2.2.1 hW.2.2.2.2.1 (fun _ => rfl) hn hN (show N * 1 ≤ 536870912 from Nat.le_trans (Nat.mul_le_mul_left N (by decide)) hby) hcells hslots hdg (fun q cA H1 hK hP hD hS => by
    have e : cA = cs 0 := Option.some.inj (((hK.2 6 _ rfl).2 : s.vm.findClass _ = some cA).symm.trans ((hW.1.2 0 _ rfl).2 : s.vm.findClass _ = some (cs 0)))
    subst e
    exact kk q H1 ⟨hW.1, va_P_rot hP, va_D_rot hD, hS, hW.2.2.2.2⟩)
theorem X_newI (C : Cx p s m args c cc nL Ts own) (hW : GW Ev D (tyM cs) idw A s ws H locs) (harr : (Cond.arrayClass .int).before args s = true) {n : Int32} {N : Nat} (hn : ¬ n < 0) (hN : n.toNatClampNeg = N) (hby : N * 8 ≤ 536870912) (hcells : cells + 1 ≤ R.cells) (hslots : slots + N ≤ R.slots) (hdg : decode cc pc = .ok (.newarray .int, 2))
    (kk : ∀ (q : Nat) (H1 : Heap), GW Ev D (tyM cs) idw A s ((q, .inl (cs 1, N, .inl (fun _ => 0))) :: ws) H1 locs → W p l e R s m args below meth c H1 locs (cells + 1) (slots + N) Q (F0 m (pc + 2) ls (.ref q :: rest))) : W p l e R s m args below meth c H locs cells slots Q (F0 m pc ls (.int n :: rest)) :=
  va_newa (atype := .int) (ty := .int) (a0 := (N, .inl (fun _ => 0))) C.1 C.2.1 harr rfl hW.1 hW.2.1 hW.2.2.1 hW.2.2.2.1 hW.2.2.2.2.1 (fun _ => rfl) hn hN (show N * 4 ≤ 536870912 from Nat.le_trans (Nat.mul_le_mul_left N (by decide)) hby) hcells hslots hdg (fun q cA H1 hK hP hD hS => by
    have e : cA = cs 1 := Option.some.inj (((hK.2 6 _ rfl).2 : s.vm.findClass _ = some cA).symm.trans ((hW.1.2 1 _ rfl).2 : s.vm.findClass _ = some (cs 1)))
    subst e
    exact kk q H1 ⟨hW.1, va_P_rot hP, va_D_rot hD, hS, hW.2.2.2.2⟩)
theorem X_newJ (C : Cx p s m args c cc nL Ts own) (hW : GW Ev D (tyM cs) idw A s ws H locs) (harr : (Cond.arrayClass .long).before args s = true) {n : Int32} {N : Nat} (hn : ¬ n < 0) (hN : n.toNatClampNeg = N) (hby : N * 8 ≤ 536870912) (hcells : cells + 1 ≤ R.cells) (hslots : slots + N ≤ R.slots) (hdg : decode cc pc = .ok (.newarray .long, 2))
    (kk : ∀ (q : Nat) (H1 : Heap), GW Ev D (tyM cs) idw A s ((q, .inl (cs 2, N, .inr (.inl (fun _ => 0)))) :: ws) H1 locs → W p l e R s m args below meth c H1 locs (cells + 1) (slots + N) Q (F0 m (pc + 2) ls (.ref q :: rest))) : W p l e R s m args below meth c H locs cells slots Q (F0 m pc ls (.int n :: rest)) :=
  va_newa (atype := .long) (ty := .long) (a0 := (N, .inr (.inl (fun _ => 0)))) C.1 C.2.1 harr rfl hW.1 hW.2.1 hW.2.2.1 hW.2.2.2.1 hW.2.2.2.2.1 (fun _ => rfl) hn hN (show N * 8 ≤ 536870912 from Nat.le_trans (Nat.mul_le_mul_left N (by decide)) hby) hcells hslots hdg (fun q cA H1 hK hP hD hS => by
    have e : cA = cs 2 := Option.some.inj (((hK.2 6 _ rfl).2 : s.vm.findClass _ = some cA).symm.trans ((hW.1.2 2 _ rfl).2 : s.vm.findClass _ = some (cs 2)))
    subst e
    exact kk q H1 ⟨hW.1, va_P_rot hP, va_D_rot hD, hS, hW.2.2.2.2⟩)
theorem X_newZ (C : Cx p s m args c cc nL Ts own) (hW : GW Ev D (tyM cs) idw A s ws H locs) (harr : (Cond.arrayClass .boolean).before args s = true) {n : Int32} {N : Nat} (hn : ¬ n < 0) (hN : n.toNatClampNeg = N) (hby : N * 8 ≤ 536870912) (hcells : cells + 1 ≤ R.cells) (hslots : slots + N ≤ R.slots) (hdg : decode cc pc = .ok (.newarray .boolean, 2))
    (kk : ∀ (q : Nat) (H1 : Heap), GW Ev D (tyM cs) idw A s ((q, .inl (cs 3, N, .inl (fun _ => 0))) :: ws) H1 locs → W p l e R s m args below meth c H1 locs (cells + 1) (slots + N) Q (F0 m (pc + 2) ls (.ref q :: rest))) : W p l e R s m args below meth c H locs cells slots Q (F0 m pc ls (.int n :: rest)) :=
  va_newa (atype := .boolean) (ty := .boolean) (a0 := (N, .inl (fun _ => 0))) C.1 C.2.1 harr rfl hW.1 hW.2.1 hW.2.2.1 hW.2.2.2.1 hW.2.2.2.2.1 (fun _ => rfl) hn hN (show N * 1 ≤ 536870912 from Nat.le_trans (Nat.mul_le_mul_left N (by decide)) hby) hcells hslots hdg (fun q cA H1 hK hP hD hS => by
    have e : cA = cs 3 := Option.some.inj (((hK.2 6 _ rfl).2 : s.vm.findClass _ = some cA).symm.trans ((hW.1.2 3 _ rfl).2 : s.vm.findClass _ = some (cs 3)))
    subst e
    exact kk q H1 ⟨hW.1, va_P_rot hP, va_D_rot hD, hS, hW.2.2.2.2⟩)
theorem X_newP (C : Cx p s m args c cc nL Ts own) (hW : GW Ev D (tyM cs) idw A s ws H locs) (hcl : (Cond.classLink own index "LandRun$Person").before args s = true) (hover : va_AO "LandRun$Person" s) {n : Int32} {N : Nat} (hn : ¬ n < 0) (hN : n.toNatClampNeg = N) (hby : N * 4 ≤ 536870912) (hcells : cells + 1 ≤ R.cells) (hslots : slots + N ≤ R.slots) (hdg : decode cc pc = .ok (.anewarray index, 3))
    (kk : ∀ (q : Nat) (H1 : Heap), GW Ev D (tyM cs) idw A s ((q, .inl (cs 4, N, .inr (.inr (.inr (.inr (fun _ => none)))))) :: ws) H1 locs → W p l e R s m args below meth c H1 locs (cells + 1) (slots + N) Q (F0 m (pc + 3) ls (.ref q :: rest))) : W p l e R s m args below meth c H locs cells slots Q (F0 m pc ls (.int n :: rest)) :=
  va_newq C.1 C.2.1 C.2.2.2.1 hcl hover hW.1 hW.2.1 hW.2.2.1 hW.2.2.2.1 hW.2.2.2.2.1 hn hN hby hcells hslots hdg (fun q cA H1 hK hP hD hS => by
    obtain ⟨-, -, -, -, -, e1⟩ := (hK.2 6 _ rfl).2
    obtain ⟨-, -, -, -, -, e2⟩ := (hW.1.2 4 _ rfl).2
    have e : cA = cs 4 := Option.some.inj (e1.symm.trans e2)
    subst e
    exact kk q H1 ⟨hW.1, va_P_rot hP, va_D_rot hD, hS, hW.2.2.2.2⟩)
theorem X_newC (C : Cx p s m args c cc nL Ts own) (hW : GW Ev D (tyM cs) idw A s ws H locs) (hcl : (Cond.classLink own index "LandRun$Claim").before args s = true) (hover : va_AO "LandRun$Claim" s) {n : Int32} {N : Nat} (hn : ¬ n < 0) (hN : n.toNatClampNeg = N) (hby : N * 4 ≤ 536870912) (hcells : cells + 1 ≤ R.cells) (hslots : slots + N ≤ R.slots) (hdg : decode cc pc = .ok (.anewarray index, 3))
    (kk : ∀ (q : Nat) (H1 : Heap), GW Ev D (tyM cs) idw A s ((q, .inl (cs 5, N, .inr (.inr (.inr (.inr (fun _ => none)))))) :: ws) H1 locs → W p l e R s m args below meth c H1 locs (cells + 1) (slots + N) Q (F0 m (pc + 3) ls (.ref q :: rest))) : W p l e R s m args below meth c H locs cells slots Q (F0 m pc ls (.int n :: rest)) :=
  va_newq C.1 C.2.1 C.2.2.2.1 hcl hover hW.1 hW.2.1 hW.2.2.1 hW.2.2.2.1 hW.2.2.2.2.1 hn hN hby hcells hslots hdg (fun q cA H1 hK hP hD hS => by
    obtain ⟨-, -, -, -, -, e1⟩ := (hK.2 6 _ rfl).2
    obtain ⟨-, -, -, -, -, e2⟩ := (hW.1.2 5 _ rfl).2
    have e : cA = cs 5 := Option.some.inj (e1.symm.trans e2)
    subst e
    exact kk q H1 ⟨hW.1, va_P_rot hP, va_D_rot hD, hS, hW.2.2.2.2⟩)
end XR
