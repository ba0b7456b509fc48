/-! own rows: names for values, generic worlds and calls -/
def nm {α β : Type} (a : α) (k : α → β) : β := k a
theorem nm_st {α β : Type} {X : β} {a x : α} {k : α → β} (h : X = nm a k) (e : x = a) : X = k x := by subst e; exact h
def nm2 {α β γ : Type} (p : α × β) (k : α → β → γ) : γ := k p.1 p.2
theorem nm2_st {α β γ : Type} {X : γ} {p : α × β} {r : α} {u : β} {k : α → β → γ} (h : X = nm2 p k) (e : (r, u) = p) : X = k r u := by subst e; exact h
theorem br_p {α : Type} {X : α} {c : Prop} {dc : Decidable c} {a b : α} (h : X = @ite α c dc a b) (hc : c) : X = a := by rw [h, if_pos hc]
theorem br_n {α : Type} {X : α} {c : Prop} {dc : Decidable c} {a b : α} (h : X = @ite α c dc a b) (hc : ¬ c) : X = b := by rw [h, if_neg hc]
/-- the world of a state: the tables, the cells, apart, nothing else changed, what is new is free -/
abbrev EvT : Type := (Nat → Prop) → State → Heap → Prop
/-- what is said of the outside goes over to a callee's start: fewer cells may change, the tables have warmed, what may not change has not -/
def EvOK (Ev : EvT) : Prop := (∀ (A B : Nat → Prop) (s U : State) (H H1 : Heap), Ev A s H → (∀ q, B q → A q) → s.WarmedH U.vm → (∀ a : Nat, a < H.size → ¬ A a → H1[a]? = H[a]?) → Ev B U H1) ∧ ∀ (A : Nat → Prop) (s U : State) (H : Heap), s.vm = U.vm → Ev A s H → Ev A U H
def GW {S : Type} (Ev : EvT) (D : va_G) (tys : List (ClassId × FieldType)) (w : S → va_W) (A : Nat → Prop) (s : State) (σ : S) (H : Heap) (locs : List Loc) : Prop :=
  va_K D vwCl tys s ∧ va_P D vwCl (w σ) H ∧ va_D A (w σ) ∧ va_S A s.heap H locs ∧ (∀ q : Nat, s.heap.size ≤ q → A q) ∧ Ev A s s.heap ∧ EvOK Ev
def gPre {S : Type} (Ev : EvT) (D : va_G) (tys : List (ClassId × FieldType)) (w : S → va_W) (σ : S) (sz : Nat) (U : State) : Prop := U.heap.size = sz ∧ va_P D vwCl (w σ) U.heap ∧ va_K D vwCl tys U ∧ va_D (fun _ => True) (w σ) ∧ Ev (va_A (w σ) sz) U U.heap ∧ EvOK Ev
def gPos {S : Type} (D : va_G) (tys : List (ClassId × FieldType)) (w : S → va_W) (σ : S) (sz : Nat) (u : S) (t : State) : Prop := va_P D vwCl (w u) t.heap ∧ va_K D vwCl tys t ∧ va_D (va_A (w σ) sz) (w u)
def cGi {S : Type} (Ev : EvT) (l : Launch) (D : va_G) (tys : List (ClassId × FieldType)) (w : S → va_W) (y : MethodName) (ws : List Cond) (rm : Room) (mc ms : Nat) (av : List Value) (σ : S) (post : Int32 → S → Prop) : Prop :=
  ∀ sz : Nat, Met l y ws rm (va_Pc av (gPre Ev D tys w σ sz)) (va_Qi post (gPos D tys w σ sz) (va_A (w σ) sz)) mc ms (va_A (w σ) sz)
def cGl {S : Type} (Ev : EvT) (l : Launch) (D : va_G) (tys : List (ClassId × FieldType)) (w : S → va_W) (y : MethodName) (ws : List Cond) (rm : Room) (mc ms : Nat) (av : List Value) (σ : S) (post : Int64 → S → Prop) : Prop :=
  ∀ sz : Nat, Met l y ws rm (va_Pc av (gPre Ev D tys w σ sz)) (va_Ql post (gPos D tys w σ sz) (va_A (w σ) sz)) mc ms (va_A (w σ) sz)
def cGq {S : Type} (Ev : EvT) (l : Launch) (D : va_G) (tys : List (ClassId × FieldType)) (w : S → va_W) (y : MethodName) (ws : List Cond) (rm : Room) (mc ms : Nat) (av : List Value) (σ : S) (post : Option Nat → S → Prop) : Prop :=
  ∀ sz : Nat, Met l y ws rm (va_Pc av (gPre Ev D tys w σ sz)) (va_Qq post (gPos D tys w σ sz) (va_A (w σ) sz)) mc ms (va_A (w σ) sz)
def cGv {S : Type} (Ev : EvT) (l : Launch) (D : va_G) (tys : List (ClassId × FieldType)) (w : S → va_W) (y : MethodName) (ws : List Cond) (rm : Room) (mc ms : Nat) (av : List Value) (σ : S) (post : S → Prop) : Prop :=
  ∀ sz : Nat, Met l y ws rm (va_Pc av (gPre Ev D tys w σ sz)) (va_Qv post (gPos D tys w σ sz) (va_A (w σ) sz)) mc ms (va_A (w σ) sz)
theorem gPre_blind {S : Type} {Ev : EvT} {D : va_G} {tys : List (ClassId × FieldType)} {w : S → va_W} {σ : S} {sz : Nat} {av : List Value} : FrameBlind (va_Pc av (gPre Ev D tys w σ sz)) := fun a U g mk q => by
  obtain ⟨q0, q1, qP, qK, qD, qE, qO⟩ := q
  exact ⟨q0, q1, qP, va_K.moved (u := U) (U := U.calling g mk a) (Vm.Alike.refl U.vm) qK, qD, qO.2 _ U _ _ rfl qE, qO⟩
section GR
variable {S : Type} {Ev : EvT} {p : Program} {l : Launch} {e : Env} {R : Room} {s : State} {m : MethodId} {args : Array Value} {below : List Frame} {meth : Method} {c : Code} {H : Heap} {locs : List Loc} {cells slots : Nat} {Q : State → Prop}
variable {cc : ByteArray} {pc : Nat} {ls : Array Slot} {rest : List Value} {D : va_G} {tys : List (ClassId × FieldType)} {w : S → va_W} {A : Nat → Prop} {σ : S}
/-- what a method's body has at hand: the machine, the code, its words, its own class -/
def Cx (p : Program) (s : State) (m : MethodId) (args : Array Value) (c : Code) (cc : ByteArray) (nL : Nat) (Ts : List Cond) (own : String) : Prop :=
  p.tables.exec = Jvm.exec ∧ c.code = cc ∧ c.maxLocals = nL ∧ s.vm.findClass own = some m.cls ∧ ∀ w ∈ Ts, w.before args s = true
theorem GW.sub (h : GW Ev D tys w A s σ H locs) : ∀ q, va_A (w σ) H.size q → A q := fun q hq => hq.elim (fun ⟨k, e, hk⟩ => h.2.2.1.2 k (q, e) hk) (fun hq => h.2.2.2.2.1 q (Nat.le_trans h.2.2.2.1.1 hq))
theorem GW.pre (h : GW Ev D tys w A s σ H locs) {U : State} (hU : U.heap = H) (hv : s.WarmedH U.vm) : gPre Ev D tys w σ H.size U := ⟨by rw [hU], by rw [hU]; exact h.2.1, va_K.moved hv.alike h.1, h.2.2.1.weaken (fun _ _ _ _ => trivial), by rw [hU]; exact h.2.2.2.2.2.2.1 A _ s U s.heap H h.2.2.2.2.2.1 (fun q hq => h.sub q hq) hv h.2.2.2.1.2.1, h.2.2.2.2.2.2⟩
theorem GW.pos (h : GW Ev D tys w A s σ H locs) {u : S} {t : State} {H1 : Heap} {locs1 : List Loc} (ht : t.heap = H1) (hvm : s.vm.Alike t.vm) (hB : gPos D tys w σ H.size u t) (hS : va_S A s.heap H1 locs1) : GW Ev D tys w A s u H1 locs1 := by
  obtain ⟨b1, b2, b3⟩ := hB
  refine ⟨h.1, by rw [← ht]; exact b1, b3.weaken (fun _ q _ hq => h.sub q.1 hq), hS, h.2.2.2.2⟩
theorem GW.ret (h : GW Ev D tys w A s σ H locs) {σ0 : S} (hA : A = va_A (w σ0) s.heap.size) {t : State} (ht : t.heap = H) (hv : s.WarmedH t.vm) : gPos D tys w σ0 s.heap.size σ t := ⟨by rw [ht]; exact h.2.1, va_K.moved hv.alike h.1, by rw [← hA]; exact h.2.2.1⟩
variable {nL : Nat} {Ts : List Cond} {own : String} {y : MethodName} {ws : List Cond} {rm : Room} {mc ms n index : Nat} {bytes : ByteArray} {maxL : Nat} {ret : Option FieldType} {CC : String} {b : Addr} {As : List Value}
theorem G_recv (hW : GW Ev D tys w A s σ H locs) (ci k : Nat) {fs : List Value} {T : u_T} {N : Nat} (he : (w σ)[k]? = some (b, .inr (ci, fs))) (hc : vwCl[ci]? = some (CC, T, N)) : ∃ cellB : Cell, H[b]? = some cellB ∧ cellB.vm.isStatics = false ∧ s.vm.findClass CC = some cellB.cls := va_recv hW.1 hW.2.1 (ci := ci) (q0 := k) hc he

theorem G_Vi {post : Int32 → S → Prop} {st0 : List Value} (C : Cx p s m args c cc nL Ts own) (hW : GW Ev D tys w A s σ H locs) (hM : cGi Ev l D tys w y ws rm mc ms (.ref b :: As) σ post) (cw : CallW R s args own CC index y bytes maxL ret ws rm mc ms n) (hrv : ∃ cellB : Cell, H[b]? = some cellB ∧ cellB.vm.isStatics = false ∧ s.vm.findClass CC = some cellB.cls) (hn : As.length = n) (hls : ls.size = nL) (hst : st0 = As.reverse ++ .ref b :: rest) (hW8 : (rest.map fun v => v.category).sum ≤ 8) (hdg : decode cc pc = .ok (.invokevirtual index, 3)) (hf : cells + mc ≤ R.cells ∧ slots + ms ≤ R.slots)
    (kk : ∀ (r : Int32) (u : S) (H1 : Heap) (locs1 : List Loc), post r u → GW Ev D tys w A s u H1 locs1 → W p l e R s m args below meth c H1 locs1 (cells + mc) (slots + ms) Q (F0 m (pc + 3) ls (.int r :: rest))) : W p l e R s m args below meth c H locs cells slots Q (F0 m pc ls st0) :=
  va_calli (va_runV (As := As) (rest := rest) C (hM H.size) cw ⟨gPre_blind, hrv, fun U hU hv => ⟨rfl, hW.pre hU hv⟩⟩ rfl hn hls hst (lv_room (m := m) (pc := pc) (ls := ls) (rest := st0) hW8) hdg hf) hW.2.2.2.1 (fun q _ h => hW.sub q h) (fun q h => hW.sub q h) (fun r u t H1 locs1 ht hvm hw hB hz1 hk1 hS => kk r u H1 locs1 hw (hW.pos ht hvm hB hS))
theorem G_Si {post : Int32 → S → Prop} {st0 : List Value} (C : Cx p s m args c cc nL Ts own) (hW : GW Ev D tys w A s σ H locs) (hM : cGi Ev l D tys w y ws rm mc ms As σ post) (cw : CallB R s args own index y bytes maxL ret ws rm mc ms n ∧ (Cond.static y).before args s = true) (hn : As.length = n) (hls : ls.size = nL) (hst : st0 = As.reverse ++ rest) (hW8 : (rest.map fun v => v.category).sum ≤ 8) (hdg : decode cc pc = .ok (.invokestatic index, 3)) (hf : cells + mc ≤ R.cells ∧ slots + ms ≤ R.slots)
    (kk : ∀ (r : Int32) (u : S) (H1 : Heap) (locs1 : List Loc), post r u → GW Ev D tys w A s u H1 locs1 → W p l e R s m args below meth c H1 locs1 (cells + mc) (slots + ms) Q (F0 m (pc + 3) ls (.int r :: rest))) : W p l e R s m args below meth c H locs cells slots Q (F0 m pc ls st0) :=
  va_calli (va_runS (As := As) (rest := rest) C (hM H.size) cw ⟨gPre_blind, fun U hU hv => ⟨rfl, hW.pre hU hv⟩⟩ rfl hn hls hst (lv_room (m := m) (pc := pc) (ls := ls) (rest := st0) hW8) hdg hf) hW.2.2.2.1 (fun q _ h => hW.sub q h) (fun q h => hW.sub q h) (fun r u t H1 locs1 ht hvm hw hB hz1 hk1 hS => kk r u H1 locs1 hw (hW.pos ht hvm hB hS))

theorem G_Vl {post : Int64 → S → Prop} {st0 : List Value} (C : Cx p s m args c cc nL Ts own) (hW : GW Ev D tys w A s σ H locs) (hM : cGl Ev l D tys w y ws rm mc ms (.ref b :: As) σ post) (cw : CallW R s args own CC index y bytes maxL ret ws rm mc ms n) (hrv : ∃ cellB : Cell, H[b]? = some cellB ∧ cellB.vm.isStatics = false ∧ s.vm.findClass CC = some cellB.cls) (hn : As.length = n) (hls : ls.size = nL) (hst : st0 = As.reverse ++ .ref b :: rest) (hW8 : (rest.map fun v => v.category).sum ≤ 8) (hdg : decode cc pc = .ok (.invokevirtual index, 3)) (hf : cells + mc ≤ R.cells ∧ slots + ms ≤ R.slots)
    (kk : ∀ (r : Int64) (u : S) (H1 : Heap) (locs1 : List Loc), post r u → GW Ev D tys w A s u H1 locs1 → W p l e R s m args below meth c H1 locs1 (cells + mc) (slots + ms) Q (F0 m (pc + 3) ls (.long r :: rest))) : W p l e R s m args below meth c H locs cells slots Q (F0 m pc ls st0) :=
  va_calll (va_runV (As := As) (rest := rest) C (hM H.size) cw ⟨gPre_blind, hrv, fun U hU hv => ⟨rfl, hW.pre hU hv⟩⟩ rfl hn hls hst (lv_room (m := m) (pc := pc) (ls := ls) (rest := st0) hW8) hdg hf) hW.2.2.2.1 (fun q _ h => hW.sub q h) (fun q h => hW.sub q h) (fun r u t H1 locs1 ht hvm hw hB hz1 hk1 hS => kk r u H1 locs1 hw (hW.pos ht hvm hB hS))
theorem G_Sl {post : Int64 → S → Prop} {st0 : List Value} (C : Cx p s m args c cc nL Ts own) (hW : GW Ev D tys w A s σ H locs) (hM : cGl Ev l D tys w y ws rm mc ms As σ post) (cw : CallB R s args own index y bytes maxL ret ws rm mc ms n ∧ (Cond.static y).before args s = true) (hn : As.length = n) (hls : ls.size = nL) (hst : st0 = As.reverse ++ rest) (hW8 : (rest.map fun v => v.category).sum ≤ 8) (hdg : decode cc pc = .ok (.invokestatic index, 3)) (hf : cells + mc ≤ R.cells ∧ slots + ms ≤ R.slots)
    (kk : ∀ (r : Int64) (u : S) (H1 : Heap) (locs1 : List Loc), post r u → GW Ev D tys w A s u H1 locs1 → W p l e R s m args below meth c H1 locs1 (cells + mc) (slots + ms) Q (F0 m (pc + 3) ls (.long r :: rest))) : W p l e R s m args below meth c H locs cells slots Q (F0 m pc ls st0) :=
  va_calll (va_runS (As := As) (rest := rest) C (hM H.size) cw ⟨gPre_blind, fun U hU hv => ⟨rfl, hW.pre hU hv⟩⟩ rfl hn hls hst (lv_room (m := m) (pc := pc) (ls := ls) (rest := st0) hW8) hdg hf) hW.2.2.2.1 (fun q _ h => hW.sub q h) (fun q h => hW.sub q h) (fun r u t H1 locs1 ht hvm hw hB hz1 hk1 hS => kk r u H1 locs1 hw (hW.pos ht hvm hB hS))

theorem G_Vq {post : Option Nat → S → Prop} {st0 : List Value} (C : Cx p s m args c cc nL Ts own) (hW : GW Ev D tys w A s σ H locs) (hM : cGq Ev l D tys w y ws rm mc ms (.ref b :: As) σ post) (cw : CallW R s args own CC index y bytes maxL ret ws rm mc ms n) (hrv : ∃ cellB : Cell, H[b]? = some cellB ∧ cellB.vm.isStatics = false ∧ s.vm.findClass CC = some cellB.cls) (hn : As.length = n) (hls : ls.size = nL) (hst : st0 = As.reverse ++ .ref b :: rest) (hW8 : (rest.map fun v => v.category).sum ≤ 8) (hdg : decode cc pc = .ok (.invokevirtual index, 3)) (hf : cells + mc ≤ R.cells ∧ slots + ms ≤ R.slots)
    (kk : ∀ (r : Option Nat) (u : S) (H1 : Heap) (locs1 : List Loc), post r u → GW Ev D tys w A s u H1 locs1 → W p l e R s m args below meth c H1 locs1 (cells + mc) (slots + ms) Q (F0 m (pc + 3) ls (va_rf r :: rest))) : W p l e R s m args below meth c H locs cells slots Q (F0 m pc ls st0) :=
  va_callq (va_runV (As := As) (rest := rest) C (hM H.size) cw ⟨gPre_blind, hrv, fun U hU hv => ⟨rfl, hW.pre hU hv⟩⟩ rfl hn hls hst (lv_room (m := m) (pc := pc) (ls := ls) (rest := st0) hW8) hdg hf) hW.2.2.2.1 (fun q _ h => hW.sub q h) (fun q h => hW.sub q h) (fun r u t H1 locs1 ht hvm hw hB hz1 hk1 hS => kk r u H1 locs1 hw (hW.pos ht hvm hB hS))
theorem G_Sq {post : Option Nat → S → Prop} {st0 : List Value} (C : Cx p s m args c cc nL Ts own) (hW : GW Ev D tys w A s σ H locs) (hM : cGq Ev l D tys w y ws rm mc ms As σ post) (cw : CallB R s args own index y bytes maxL ret ws rm mc ms n ∧ (Cond.static y).before args s = true) (hn : As.length = n) (hls : ls.size = nL) (hst : st0 = As.reverse ++ rest) (hW8 : (rest.map fun v => v.category).sum ≤ 8) (hdg : decode cc pc = .ok (.invokestatic index, 3)) (hf : cells + mc ≤ R.cells ∧ slots + ms ≤ R.slots)
    (kk : ∀ (r : Option Nat) (u : S) (H1 : Heap) (locs1 : List Loc), post r u → GW Ev D tys w A s u H1 locs1 → W p l e R s m args below meth c H1 locs1 (cells + mc) (slots + ms) Q (F0 m (pc + 3) ls (va_rf r :: rest))) : W p l e R s m args below meth c H locs cells slots Q (F0 m pc ls st0) :=
  va_callq (va_runS (As := As) (rest := rest) C (hM H.size) cw ⟨gPre_blind, fun U hU hv => ⟨rfl, hW.pre hU hv⟩⟩ rfl hn hls hst (lv_room (m := m) (pc := pc) (ls := ls) (rest := st0) hW8) hdg hf) hW.2.2.2.1 (fun q _ h => hW.sub q h) (fun q h => hW.sub q h) (fun r u t H1 locs1 ht hvm hw hB hz1 hk1 hS => kk r u H1 locs1 hw (hW.pos ht hvm hB hS))

theorem G_Vv {post : S → Prop} {st0 : List Value} (C : Cx p s m args c cc nL Ts own) (hW : GW Ev D tys w A s σ H locs) (hM : cGv Ev l D tys w y ws rm mc ms (.ref b :: As) σ post) (cw : CallW R s args own CC index y bytes maxL ret ws rm mc ms n) (hrv : ∃ cellB : Cell, H[b]? = some cellB ∧ cellB.vm.isStatics = false ∧ s.vm.findClass CC = some cellB.cls) (hn : As.length = n) (hls : ls.size = nL) (hst : st0 = As.reverse ++ .ref b :: rest) (hW8 : (rest.map fun v => v.category).sum ≤ 8) (hdg : decode cc pc = .ok (.invokevirtual index, 3)) (hf : cells + mc ≤ R.cells ∧ slots + ms ≤ R.slots)
    (kk : ∀ (u : S) (H1 : Heap) (locs1 : List Loc), post u → GW Ev D tys w A s u H1 locs1 → W p l e R s m args below meth c H1 locs1 (cells + mc) (slots + ms) Q (F0 m (pc + 3) ls (rest))) : W p l e R s m args below meth c H locs cells slots Q (F0 m pc ls st0) :=
  va_callv (va_runV (As := As) (rest := rest) C (hM H.size) cw ⟨gPre_blind, hrv, fun U hU hv => ⟨rfl, hW.pre hU hv⟩⟩ rfl hn hls hst (lv_room (m := m) (pc := pc) (ls := ls) (rest := st0) hW8) hdg hf) hW.2.2.2.1 (fun q _ h => hW.sub q h) (fun q h => hW.sub q h) (fun u t H1 locs1 ht hvm hw hB hz1 hk1 hS => kk u H1 locs1 hw (hW.pos ht hvm hB hS))
theorem G_Sv {post : S → Prop} {st0 : List Value} (C : Cx p s m args c cc nL Ts own) (hW : GW Ev D tys w A s σ H locs) (hM : cGv Ev l D tys w y ws rm mc ms As σ post) (cw : CallB R s args own index y bytes maxL ret ws rm mc ms n ∧ (Cond.static y).before args s = true) (hn : As.length = n) (hls : ls.size = nL) (hst : st0 = As.reverse ++ rest) (hW8 : (rest.map fun v => v.category).sum ≤ 8) (hdg : decode cc pc = .ok (.invokestatic index, 3)) (hf : cells + mc ≤ R.cells ∧ slots + ms ≤ R.slots)
    (kk : ∀ (u : S) (H1 : Heap) (locs1 : List Loc), post u → GW Ev D tys w A s u H1 locs1 → W p l e R s m args below meth c H1 locs1 (cells + mc) (slots + ms) Q (F0 m (pc + 3) ls (rest))) : W p l e R s m args below meth c H locs cells slots Q (F0 m pc ls st0) :=
  va_callv (va_runS (As := As) (rest := rest) C (hM H.size) cw ⟨gPre_blind, fun U hU hv => ⟨rfl, hW.pre hU hv⟩⟩ rfl hn hls hst (lv_room (m := m) (pc := pc) (ls := ls) (rest := st0) hW8) hdg hf) hW.2.2.2.1 (fun q _ h => hW.sub q h) (fun q h => hW.sub q h) (fun u t H1 locs1 ht hvm hw hB hz1 hk1 hS => kk u H1 locs1 hw (hW.pos ht hvm hB hS))

theorem G_ini {post : Int32 → S → Prop} {ws' : List Cond} {av : List Value} (hy : plainName y.cls = true) (hw : ws = Cond.code y cc maxL ret :: ws') (hlen : (lg_sl av).length ≤ maxL)
    (body : ∀ (p : Program) (e : Env) (s : State) (m : MethodId) (below : List Frame) (meth : Method) (c : Code) (A : Nat → Prop) (ls : Array Slot), Cx p s m av.toArray c cc maxL ws y.cls → meth.sig.returnType = ret → meth.locks = false → (y.name = "<init>" → meth.name = "<init>") → A = va_A (w σ) s.heap.size → GW Ev D tys w A s σ s.heap [] → lv_has ls maxL (lv_args 0 av) →
      W p l e rm s m av.toArray below meth c s.heap [] 0 0 (MQ below (va_Qi post (gPos D tys w σ s.heap.size) A) av.toArray s mc ms A) (F0 m 0 ls [])) : cGi Ev l D tys w y ws rm mc ms av σ post := by
  intro sz
  refine Met.ofW (cc := cc) (maxL := maxL) (ret := ret) hy hw ?_
  intro p e s m args below meth c s₁ B hml hv
  obtain ⟨rfl, hsz, hP, hK, hD0, hE, hO⟩ := hv
  subst hsz
  have hl := lv_entry av (n := maxL) hlen
  rw [lg_entry_eq]
  exact body p e s m below meth c _ _ ⟨B.exec, B.bytes, hml, findClass_of_methodNamed B.named, atoms_spec (ws := ws) B.pre⟩ B.returns B.notSynchronized (fun h => (name_of_methodNamed B.named B.method).1.trans h) rfl ⟨hK, hP, hD0.self, va_S.rf, fun q h => Or.inr h, hE, hO⟩ hl

theorem G_inl {post : Int64 → S → Prop} {ws' : List Cond} {av : List Value} (hy : plainName y.cls = true) (hw : ws = Cond.code y cc maxL ret :: ws') (hlen : (lg_sl av).length ≤ maxL)
    (body : ∀ (p : Program) (e : Env) (s : State) (m : MethodId) (below : List Frame) (meth : Method) (c : Code) (A : Nat → Prop) (ls : Array Slot), Cx p s m av.toArray c cc maxL ws y.cls → meth.sig.returnType = ret → meth.locks = false → (y.name = "<init>" → meth.name = "<init>") → A = va_A (w σ) s.heap.size → GW Ev D tys w A s σ s.heap [] → lv_has ls maxL (lv_args 0 av) →
      W p l e rm s m av.toArray below meth c s.heap [] 0 0 (MQ below (va_Ql post (gPos D tys w σ s.heap.size) A) av.toArray s mc ms A) (F0 m 0 ls [])) : cGl Ev l D tys w y ws rm mc ms av σ post := by
  intro sz
  refine Met.ofW (cc := cc) (maxL := maxL) (ret := ret) hy hw ?_
  intro p e s m args below meth c s₁ B hml hv
  obtain ⟨rfl, hsz, hP, hK, hD0, hE, hO⟩ := hv
  subst hsz
  have hl := lv_entry av (n := maxL) hlen
  rw [lg_entry_eq]
  exact body p e s m below meth c _ _ ⟨B.exec, B.bytes, hml, findClass_of_methodNamed B.named, atoms_spec (ws := ws) B.pre⟩ B.returns B.notSynchronized (fun h => (name_of_methodNamed B.named B.method).1.trans h) rfl ⟨hK, hP, hD0.self, va_S.rf, fun q h => Or.inr h, hE, hO⟩ hl

theorem G_inq {post : Option Nat → S → Prop} {ws' : List Cond} {av : List Value} (hy : plainName y.cls = true) (hw : ws = Cond.code y cc maxL ret :: ws') (hlen : (lg_sl av).length ≤ maxL)
    (body : ∀ (p : Program) (e : Env) (s : State) (m : MethodId) (below : List Frame) (meth : Method) (c : Code) (A : Nat → Prop) (ls : Array Slot), Cx p s m av.toArray c cc maxL ws y.cls → meth.sig.returnType = ret → meth.locks = false → (y.name = "<init>" → meth.name = "<init>") → A = va_A (w σ) s.heap.size → GW Ev D tys w A s σ s.heap [] → lv_has ls maxL (lv_args 0 av) →
      W p l e rm s m av.toArray below meth c s.heap [] 0 0 (MQ below (va_Qq post (gPos D tys w σ s.heap.size) A) av.toArray s mc ms A) (F0 m 0 ls [])) : cGq Ev l D tys w y ws rm mc ms av σ post := by
  intro sz
  refine Met.ofW (cc := cc) (maxL := maxL) (ret := ret) hy hw ?_
  intro p e s m args below meth c s₁ B hml hv
  obtain ⟨rfl, hsz, hP, hK, hD0, hE, hO⟩ := hv
  subst hsz
  have hl := lv_entry av (n := maxL) hlen
  rw [lg_entry_eq]
  exact body p e s m below meth c _ _ ⟨B.exec, B.bytes, hml, findClass_of_methodNamed B.named, atoms_spec (ws := ws) B.pre⟩ B.returns B.notSynchronized (fun h => (name_of_methodNamed B.named B.method).1.trans h) rfl ⟨hK, hP, hD0.self, va_S.rf, fun q h => Or.inr h, hE, hO⟩ hl

theorem G_inv {post : S → Prop} {ws' : List Cond} {av : List Value} (hy : plainName y.cls = true) (hw : ws = Cond.code y cc maxL ret :: ws') (hlen : (lg_sl av).length ≤ maxL)
    (body : ∀ (p : Program) (e : Env) (s : State) (m : MethodId) (below : List Frame) (meth : Method) (c : Code) (A : Nat → Prop) (ls : Array Slot), Cx p s m av.toArray c cc maxL ws y.cls → meth.sig.returnType = ret → meth.locks = false → (y.name = "<init>" → meth.name = "<init>") → A = va_A (w σ) s.heap.size → GW Ev D tys w A s σ s.heap [] → lv_has ls maxL (lv_args 0 av) →
      W p l e rm s m av.toArray below meth c s.heap [] 0 0 (MQ below (va_Qv post (gPos D tys w σ s.heap.size) A) av.toArray s mc ms A) (F0 m 0 ls [])) : cGv Ev l D tys w y ws rm mc ms av σ post := by
  intro sz
  refine Met.ofW (cc := cc) (maxL := maxL) (ret := ret) hy hw ?_
  intro p e s m args below meth c s₁ B hml hv
  obtain ⟨rfl, hsz, hP, hK, hD0, hE, hO⟩ := hv
  subst hsz
  have hl := lv_entry av (n := maxL) hlen
  rw [lg_entry_eq]
  exact body p e s m below meth c _ _ ⟨B.exec, B.bytes, hml, findClass_of_methodNamed B.named, atoms_spec (ws := ws) B.pre⟩ B.returns B.notSynchronized (fun h => (name_of_methodNamed B.named B.method).1.trans h) rfl ⟨hK, hP, hD0.self, va_S.rf, fun q h => Or.inr h, hE, hO⟩ hl

variable {post : Int32 → S → Prop} {σ0 : S}
theorem G_reti {r : Int32} (C : Cx p s m args c cc nL Ts own) (hr : meth.sig.returnType = some .int) (hlk : meth.locks = false) (hA : A = va_A (w σ0) s.heap.size) (hW : GW Ev D tys w A s σ H locs) (hp : post r σ) (hdg : decode cc pc = .ok (.ireturn, 1)) : W p l e R s m args below meth c H locs cells slots (MQ below (va_Qi post (gPos D tys w σ0 s.heap.size) A) args s cells slots A) (F0 m pc ls [.int r]) :=
  W.iret C.1 C.2.1 hr (fun t ht hv => ⟨⟨r, σ, rfl, hp, hW.ret hA ht hv⟩, hW.2.2.2.1.F ht⟩) hW.2.2.2.1.2.2 hdg hlk
theorem G_retz {r : Int32} (C : Cx p s m args c cc nL Ts own) (hr : meth.sig.returnType = some .boolean) (hlk : meth.locks = false) (hA : A = va_A (w σ0) s.heap.size) (hW : GW Ev D tys w A s σ H locs) (hz : narrow .boolean (.int r) = .int r) (hp : post r σ) (hdg : decode cc pc = .ok (.ireturn, 1)) : W p l e R s m args below meth c H locs cells slots (MQ below (va_Qi post (gPos D tys w σ0 s.heap.size) A) args s cells slots A) (F0 m pc ls [.int r]) :=
  W.zret C.1 C.2.1 hr hz (fun t ht hv => ⟨⟨r, σ, rfl, hp, hW.ret hA ht hv⟩, hW.2.2.2.1.F ht⟩) hW.2.2.2.1.2.2 hdg hlk
theorem G_retv {post : S → Prop} (C : Cx p s m args c cc nL Ts own) (hr : meth.sig.returnType = none) (hlk : meth.locks = false) (hA : A = va_A (w σ0) s.heap.size) (hW : GW Ev D tys w A s σ H locs) (hp : post σ) (hdg : decode cc pc = .ok (.return_, 1)) : W p l e R s m args below meth c H locs cells slots (MQ below (va_Qv post (gPos D tys w σ0 s.heap.size) A) args s cells slots A) (F0 m pc ls []) :=
  W.vret C.1 C.2.1 hr (fun t ht hv => ⟨⟨σ, rfl, hp, hW.ret hA ht hv⟩, hW.2.2.2.1.F ht⟩) hW.2.2.2.1.2.2 hdg hlk
end GR
/-! the reference's state and world -/
abbrev St : Type := (Nat → Nat → Int32) × (Nat → Nat → Int64)
def s1 (σ : St) (k i : Nat) (v : Int32) : St := (fun j => if j = k then upd (σ.1 k) i v else σ.1 j, σ.2)
def s2 (σ : St) (k i : Nat) (v : Int64) : St := (σ.1, fun j => if j = k then vp_updL (σ.2 k) i v else σ.2 j)
def kM : Nat → Nat := fun k => match k with
  | 0 => 0
  | 1 => 4
  | 2 => 0
  | 3 => 0
  | 4 => 0
  | 5 => 3
  | 6 => 3
  | 7 => 3
  | 8 => 3
  | 9 => 3
  | 10 => 3
  | 11 => 3
  | 12 => 3
  | 13 => 3
  | 14 => 3
  | 15 => 3
  | 16 => 3
  | 17 => 3
  | 18 => 5
  | 19 => 6
  | 20 => 0
  | 21 => 0
  | 22 => 1
  | 23 => 3
  | 24 => 3
  | 25 => 6
  | 26 => 0
  | 27 => 0
  | 28 => 0
  | 29 => 0
  | 30 => 0
  | 31 => 0
  | 32 => 0
  | 33 => 2
  | 34 => 3
  | 35 => 3
  | 36 => 3
  | 37 => 3
  | 38 => 3
  | 39 => 3
  | 40 => 3
  | 41 => 0
  | 42 => 0
  | 43 => 0
  | 44 => 0
  | 45 => 0
  | 46 => 3
  | 47 => 3
  | 48 => 3
  | 49 => 0
  | 50 => 3
  | 51 => 1
  | 52 => 3
  | 53 => 3
  | 54 => 3
  | 55 => 3
  | 56 => 3
  | 57 => 3
  | 58 => 3
  | 59 => 3
  | 60 => 6
  | 61 => 3
  | _ => 9
def lM : Nat → Nat := fun k => match k with
  | 1 => 200
  | 5 => 64
  | 6 => 64
  | 7 => 64
  | 8 => 30
  | 9 => 30
  | 10 => 30
  | 11 => 30
  | 12 => 30
  | 13 => 30
  | 14 => 30
  | 15 => 30
  | 16 => 360
  | 17 => 30
  | 18 => 30
  | 19 => 30
  | 23 => 5
  | 24 => 5
  | 25 => 5
  | 34 => 60
  | 35 => 60
  | 36 => 60
  | 37 => 200
  | 38 => 200
  | 39 => 200
  | 40 => 200
  | 46 => 60
  | 47 => 60
  | 48 => 60
  | 50 => 30
  | 52 => 576
  | 53 => 72
  | 54 => 9
  | 55 => 73
  | 56 => 73
  | 57 => 73
  | 58 => 73
  | 59 => 8
  | 60 => 73
  | 61 => 360
  | _ => 0
def pM : Nat → Nat := fun k => match k with
  | 1 => 1
  | 5 => 2
  | 6 => 3
  | 7 => 4
  | 8 => 5
  | 9 => 6
  | 10 => 7
  | 11 => 8
  | 12 => 9
  | 13 => 10
  | 14 => 11
  | 15 => 12
  | 16 => 13
  | 17 => 14
  | 18 => 15
  | 19 => 16
  | 23 => 17
  | 24 => 18
  | 25 => 19
  | 34 => 20
  | 35 => 21
  | 36 => 22
  | 37 => 23
  | 38 => 24
  | 39 => 25
  | 40 => 26
  | 46 => 27
  | 47 => 28
  | 48 => 29
  | 50 => 30
  | 52 => 31
  | 53 => 32
  | 54 => 33
  | 55 => 34
  | 56 => 35
  | 57 => 36
  | 58 => 37
  | 59 => 38
  | 60 => 39
  | 61 => 40
  | _ => 0
def fM (a : Nat → Nat) (σ : St) : List Value := [.int (σ.1 0 0), .ref (a 1), .int (σ.1 2 0), .int (σ.1 3 0), .int (σ.1 4 0), .ref (a 5), .ref (a 6), .ref (a 7), .ref (a 8), .ref (a 9), .ref (a 10), .ref (a 11), .ref (a 12), .ref (a 13), .ref (a 14), .ref (a 15), .ref (a 16), .ref (a 17), .ref (a 18), .ref (a 19), .int (σ.1 20 0), .int (σ.1 21 0), .int (σ.1 22 0), .ref (a 23), .ref (a 24), .ref (a 25), .int (σ.1 26 0), .int (σ.1 27 0), .int (σ.1 28 0), .int (σ.1 29 0), .int (σ.1 30 0), .int (σ.1 31 0), .int (σ.1 32 0), .long (σ.2 33 0), .ref (a 34), .ref (a 35), .ref (a 36), .ref (a 37), .ref (a 38), .ref (a 39), .ref (a 40), .int (σ.1 41 0), .int (σ.1 42 0), .int (σ.1 43 0), .int (σ.1 44 0), .int (σ.1 45 0), .ref (a 46), .ref (a 47), .ref (a 48), .int (σ.1 49 0), .ref (a 50), .int (σ.1 51 0), .ref (a 52), .ref (a 53), .ref (a 54), .ref (a 55), .ref (a 56), .ref (a 57), .ref (a 58), .ref (a 59), .ref (a 60), .ref (a 61)]
def wM (h : Nat) (a : Nat → Nat) (cs : Nat → ClassId) (σ : St) : va_W := (h, .inr (12, fM a σ)) :: [(a 1, .inl (cs 0, 200, .inl (σ.1 1))), (a 5, .inl (cs 1, 64, .inl (σ.1 5))), (a 6, .inl (cs 1, 64, .inl (σ.1 6))), (a 7, .inl (cs 1, 64, .inl (σ.1 7))), (a 8, .inl (cs 1, 30, .inl (σ.1 8))), (a 9, .inl (cs 1, 30, .inl (σ.1 9))), (a 10, .inl (cs 1, 30, .inl (σ.1 10))), (a 11, .inl (cs 1, 30, .inl (σ.1 11))), (a 12, .inl (cs 1, 30, .inl (σ.1 12))), (a 13, .inl (cs 1, 30, .inl (σ.1 13))), (a 14, .inl (cs 1, 30, .inl (σ.1 14))), (a 15, .inl (cs 1, 30, .inl (σ.1 15))), (a 16, .inl (cs 1, 360, .inl (σ.1 16))), (a 17, .inl (cs 1, 30, .inl (σ.1 17))), (a 18, .inl (cs 2, 30, .inr (.inl (σ.2 18)))), (a 19, .inl (cs 3, 30, .inl (σ.1 19))), (a 23, .inl (cs 1, 5, .inl (σ.1 23))), (a 24, .inl (cs 1, 5, .inl (σ.1 24))), (a 25, .inl (cs 3, 5, .inl (σ.1 25))), (a 34, .inl (cs 1, 60, .inl (σ.1 34))), (a 35, .inl (cs 1, 60, .inl (σ.1 35))), (a 36, .inl (cs 1, 60, .inl (σ.1 36))), (a 37, .inl (cs 1, 200, .inl (σ.1 37))), (a 38, .inl (cs 1, 200, .inl (σ.1 38))), (a 39, .inl (cs 1, 200, .inl (σ.1 39))), (a 40, .inl (cs 1, 200, .inl (σ.1 40))), (a 46, .inl (cs 1, 60, .inl (σ.1 46))), (a 47, .inl (cs 1, 60, .inl (σ.1 47))), (a 48, .inl (cs 1, 60, .inl (σ.1 48))), (a 50, .inl (cs 1, 30, .inl (σ.1 50))), (a 52, .inl (cs 1, 576, .inl (σ.1 52))), (a 53, .inl (cs 1, 72, .inl (σ.1 53))), (a 54, .inl (cs 1, 9, .inl (σ.1 54))), (a 55, .inl (cs 1, 73, .inl (σ.1 55))), (a 56, .inl (cs 1, 73, .inl (σ.1 56))), (a 57, .inl (cs 1, 73, .inl (σ.1 57))), (a 58, .inl (cs 1, 73, .inl (σ.1 58))), (a 59, .inl (cs 1, 8, .inl (σ.1 59))), (a 60, .inl (cs 3, 73, .inl (σ.1 60))), (a 61, .inl (cs 1, 360, .inl (σ.1 61)))]
def tyM (cs : Nat → ClassId) : List (ClassId × FieldType) := [(cs 0, .byte), (cs 1, .int), (cs 2, .long), (cs 3, .boolean), (cs 4, .object "LandRun$Person"), (cs 5, .object "LandRun$Claim")]
theorem kM_lt : ∀ k : Nat, kM k ≤ 6 → k < 62 := fun k h => by
  rcases Nat.lt_or_ge k 62 with q | q
  · exact q
  · obtain ⟨j, rfl⟩ : ∃ j, k = j + 62 := ⟨k - 62, by omega⟩
    exact absurd (show 9 ≤ 6 from h) (by decide)
theorem fM_i (a : Nat → Nat) (σ : St) : ∀ k : Nat, kM k ≤ 1 → (fM a σ)[k]? = some (.int (σ.1 k 0)) := fun k => match k with
  | 0 => fun h => rfl
  | 1 => fun h => absurd h (by decide)
  | 2 => fun h => rfl
  | 3 => fun h => rfl
  | 4 => fun h => rfl
  | 5 => fun h => absurd h (by decide)
  | 6 => fun h => absurd h (by decide)
  | 7 => fun h => absurd h (by decide)
  | 8 => fun h => absurd h (by decide)
  | 9 => fun h => absurd h (by decide)
  | 10 => fun h => absurd h (by decide)
  | 11 => fun h => absurd h (by decide)
  | 12 => fun h => absurd h (by decide)
  | 13 => fun h => absurd h (by decide)
  | 14 => fun h => absurd h (by decide)
  | 15 => fun h => absurd h (by decide)
  | 16 => fun h => absurd h (by decide)
  | 17 => fun h => absurd h (by decide)
  | 18 => fun h => absurd h (by decide)
  | 19 => fun h => absurd h (by decide)
  | 20 => fun h => rfl
  | 21 => fun h => rfl
  | 22 => fun h => rfl
  | 23 => fun h => absurd h (by decide)
  | 24 => fun h => absurd h (by decide)
  | 25 => fun h => absurd h (by decide)
  | 26 => fun h => rfl
  | 27 => fun h => rfl
  | 28 => fun h => rfl
  | 29 => fun h => rfl
  | 30 => fun h => rfl
  | 31 => fun h => rfl
  | 32 => fun h => rfl
  | 33 => fun h => absurd h (by decide)
  | 34 => fun h => absurd h (by decide)
  | 35 => fun h => absurd h (by decide)
  | 36 => fun h => absurd h (by decide)
  | 37 => fun h => absurd h (by decide)
  | 38 => fun h => absurd h (by decide)
  | 39 => fun h => absurd h (by decide)
  | 40 => fun h => absurd h (by decide)
  | 41 => fun h => rfl
  | 42 => fun h => rfl
  | 43 => fun h => rfl
  | 44 => fun h => rfl
  | 45 => fun h => rfl
  | 46 => fun h => absurd h (by decide)
  | 47 => fun h => absurd h (by decide)
  | 48 => fun h => absurd h (by decide)
  | 49 => fun h => rfl
  | 50 => fun h => absurd h (by decide)
  | 51 => fun h => rfl
  | 52 => fun h => absurd h (by decide)
  | 53 => fun h => absurd h (by decide)
  | 54 => fun h => absurd h (by decide)
  | 55 => fun h => absurd h (by decide)
  | 56 => fun h => absurd h (by decide)
  | 57 => fun h => absurd h (by decide)
  | 58 => fun h => absurd h (by decide)
  | 59 => fun h => absurd h (by decide)
  | 60 => fun h => absurd h (by decide)
  | 61 => fun h => absurd h (by decide)
  | _ + 62 => fun h => absurd (show 9 ≤ 1 from h) (by decide)
theorem fM_l (a : Nat → Nat) (σ : St) : ∀ k : Nat, kM k = 2 → (fM a σ)[k]? = some (.long (σ.2 k 0)) := fun k => match k with
  | 0 => fun h => absurd h (by decide)
  | 1 => fun h => absurd h (by decide)
  | 2 => fun h => absurd h (by decide)
  | 3 => fun h => absurd h (by decide)
  | 4 => fun h => absurd h (by decide)
  | 5 => fun h => absurd h (by decide)
  | 6 => fun h => absurd h (by decide)
  | 7 => fun h => absurd h (by decide)
  | 8 => fun h => absurd h (by decide)
  | 9 => fun h => absurd h (by decide)
  | 10 => fun h => absurd h (by decide)
  | 11 => fun h => absurd h (by decide)
  | 12 => fun h => absurd h (by decide)
  | 13 => fun h => absurd h (by decide)
  | 14 => fun h => absurd h (by decide)
  | 15 => fun h => absurd h (by decide)
  | 16 => fun h => absurd h (by decide)
  | 17 => fun h => absurd h (by decide)
  | 18 => fun h => absurd h (by decide)
  | 19 => fun h => absurd h (by decide)
  | 20 => fun h => absurd h (by decide)
  | 21 => fun h => absurd h (by decide)
  | 22 => fun h => absurd h (by decide)
  | 23 => fun h => absurd h (by decide)
  | 24 => fun h => absurd h (by decide)
  | 25 => fun h => absurd h (by decide)
  | 26 => fun h => absurd h (by decide)
  | 27 => fun h => absurd h (by decide)
  | 28 => fun h => absurd h (by decide)
  | 29 => fun h => absurd h (by decide)
  | 30 => fun h => absurd h (by decide)
  | 31 => fun h => absurd h (by decide)
  | 32 => fun h => absurd h (by decide)
  | 33 => fun h => rfl
  | 34 => fun h => absurd h (by decide)
  | 35 => fun h => absurd h (by decide)
  | 36 => fun h => absurd h (by decide)
  | 37 => fun h => absurd h (by decide)
  | 38 => fun h => absurd h (by decide)
  | 39 => fun h => absurd h (by decide)
  | 40 => fun h => absurd h (by decide)
  | 41 => fun h => absurd h (by decide)
  | 42 => fun h => absurd h (by decide)
  | 43 => fun h => absurd h (by decide)
  | 44 => fun h => absurd h (by decide)
  | 45 => fun h => absurd h (by decide)
  | 46 => fun h => absurd h (by decide)
  | 47 => fun h => absurd h (by decide)
  | 48 => fun h => absurd h (by decide)
  | 49 => fun h => absurd h (by decide)
  | 50 => fun h => absurd h (by decide)
  | 51 => fun h => absurd h (by decide)
  | 52 => fun h => absurd h (by decide)
  | 53 => fun h => absurd h (by decide)
  | 54 => fun h => absurd h (by decide)
  | 55 => fun h => absurd h (by decide)
  | 56 => fun h => absurd h (by decide)
  | 57 => fun h => absurd h (by decide)
  | 58 => fun h => absurd h (by decide)
  | 59 => fun h => absurd h (by decide)
  | 60 => fun h => absurd h (by decide)
  | 61 => fun h => absurd h (by decide)
  | _ + 62 => fun h => absurd (show 9 = 2 from h) (by decide)
def isA (k : Nat) : Bool := Nat.ble 3 (kM k) && Nat.ble (kM k) 6
theorem fM_r (a : Nat → Nat) (σ : St) : ∀ k : Nat, isA k = true → (fM a σ)[k]? = some (.ref (a k)) := fun k => match k with
  | 0 => fun h => absurd h (by decide)
  | 1 => fun h => rfl
  | 2 => fun h => absurd h (by decide)
  | 3 => fun h => absurd h (by decide)
  | 4 => fun h => absurd h (by decide)
  | 5 => fun h => rfl
  | 6 => fun h => rfl
  | 7 => fun h => rfl
  | 8 => fun h => rfl
  | 9 => fun h => rfl
  | 10 => fun h => rfl
  | 11 => fun h => rfl
  | 12 => fun h => rfl
  | 13 => fun h => rfl
  | 14 => fun h => rfl
  | 15 => fun h => rfl
  | 16 => fun h => rfl
  | 17 => fun h => rfl
  | 18 => fun h => rfl
  | 19 => fun h => rfl
  | 20 => fun h => absurd h (by decide)
  | 21 => fun h => absurd h (by decide)
  | 22 => fun h => absurd h (by decide)
  | 23 => fun h => rfl
  | 24 => fun h => rfl
  | 25 => fun h => rfl
  | 26 => fun h => absurd h (by decide)
  | 27 => fun h => absurd h (by decide)
  | 28 => fun h => absurd h (by decide)
  | 29 => fun h => absurd h (by decide)
  | 30 => fun h => absurd h (by decide)
  | 31 => fun h => absurd h (by decide)
  | 32 => fun h => absurd h (by decide)
  | 33 => fun h => absurd h (by decide)
  | 34 => fun h => rfl
  | 35 => fun h => rfl
  | 36 => fun h => rfl
  | 37 => fun h => rfl
  | 38 => fun h => rfl
  | 39 => fun h => rfl
  | 40 => fun h => rfl
  | 41 => fun h => absurd h (by decide)
  | 42 => fun h => absurd h (by decide)
  | 43 => fun h => absurd h (by decide)
  | 44 => fun h => absurd h (by decide)
  | 45 => fun h => absurd h (by decide)
  | 46 => fun h => rfl
  | 47 => fun h => rfl
  | 48 => fun h => rfl
  | 49 => fun h => absurd h (by decide)
  | 50 => fun h => rfl
  | 51 => fun h => absurd h (by decide)
  | 52 => fun h => rfl
  | 53 => fun h => rfl
  | 54 => fun h => rfl
  | 55 => fun h => rfl
  | 56 => fun h => rfl
  | 57 => fun h => rfl
  | 58 => fun h => rfl
  | 59 => fun h => rfl
  | 60 => fun h => rfl
  | 61 => fun h => rfl
  | _ + 62 => fun h => absurd (show false = true from h) (by decide)
theorem fM_len (a : Nat → Nat) (σ : St) : ∀ k : Nat, kM k ≤ 2 → Nat.ble (k + 1) (fM a σ).length = true := fun k => match k with
  | 0 => fun h => rfl
  | 1 => fun h => absurd h (by decide)
  | 2 => fun h => rfl
  | 3 => fun h => rfl
  | 4 => fun h => rfl
  | 5 => fun h => absurd h (by decide)
  | 6 => fun h => absurd h (by decide)
  | 7 => fun h => absurd h (by decide)
  | 8 => fun h => absurd h (by decide)
  | 9 => fun h => absurd h (by decide)
  | 10 => fun h => absurd h (by decide)
  | 11 => fun h => absurd h (by decide)
  | 12 => fun h => absurd h (by decide)
  | 13 => fun h => absurd h (by decide)
  | 14 => fun h => absurd h (by decide)
  | 15 => fun h => absurd h (by decide)
  | 16 => fun h => absurd h (by decide)
  | 17 => fun h => absurd h (by decide)
  | 18 => fun h => absurd h (by decide)
  | 19 => fun h => absurd h (by decide)
  | 20 => fun h => rfl
  | 21 => fun h => rfl
  | 22 => fun h => rfl
  | 23 => fun h => absurd h (by decide)
  | 24 => fun h => absurd h (by decide)
  | 25 => fun h => absurd h (by decide)
  | 26 => fun h => rfl
  | 27 => fun h => rfl
  | 28 => fun h => rfl
  | 29 => fun h => rfl
  | 30 => fun h => rfl
  | 31 => fun h => rfl
  | 32 => fun h => rfl
  | 33 => fun h => rfl
  | 34 => fun h => absurd h (by decide)
  | 35 => fun h => absurd h (by decide)
  | 36 => fun h => absurd h (by decide)
  | 37 => fun h => absurd h (by decide)
  | 38 => fun h => absurd h (by decide)
  | 39 => fun h => absurd h (by decide)
  | 40 => fun h => absurd h (by decide)
  | 41 => fun h => rfl
  | 42 => fun h => rfl
  | 43 => fun h => rfl
  | 44 => fun h => rfl
  | 45 => fun h => rfl
  | 46 => fun h => absurd h (by decide)
  | 47 => fun h => absurd h (by decide)
  | 48 => fun h => absurd h (by decide)
  | 49 => fun h => rfl
  | 50 => fun h => absurd h (by decide)
  | 51 => fun h => rfl
  | 52 => fun h => absurd h (by decide)
  | 53 => fun h => absurd h (by decide)
  | 54 => fun h => absurd h (by decide)
  | 55 => fun h => absurd h (by decide)
  | 56 => fun h => absurd h (by decide)
  | 57 => fun h => absurd h (by decide)
  | 58 => fun h => absurd h (by decide)
  | 59 => fun h => absurd h (by decide)
  | 60 => fun h => absurd h (by decide)
  | 61 => fun h => absurd h (by decide)
  | _ + 62 => fun h => absurd (show 9 ≤ 2 from h) (by decide)
theorem tyM_i : ∀ k : Nat, kM k = 0 → tyX12 k = .int := fun k => match k with
  | 0 => fun h => rfl
  | 1 => fun h => absurd h (by decide)
  | 2 => fun h => rfl
  | 3 => fun h => rfl
  | 4 => fun h => rfl
  | 5 => fun h => absurd h (by decide)
  | 6 => fun h => absurd h (by decide)
  | 7 => fun h => absurd h (by decide)
  | 8 => fun h => absurd h (by decide)
  | 9 => fun h => absurd h (by decide)
  | 10 => fun h => absurd h (by decide)
  | 11 => fun h => absurd h (by decide)
  | 12 => fun h => absurd h (by decide)
  | 13 => fun h => absurd h (by decide)
  | 14 => fun h => absurd h (by decide)
  | 15 => fun h => absurd h (by decide)
  | 16 => fun h => absurd h (by decide)
  | 17 => fun h => absurd h (by decide)
  | 18 => fun h => absurd h (by decide)
  | 19 => fun h => absurd h (by decide)
  | 20 => fun h => rfl
  | 21 => fun h => rfl
  | 22 => fun h => absurd h (by decide)
  | 23 => fun h => absurd h (by decide)
  | 24 => fun h => absurd h (by decide)
  | 25 => fun h => absurd h (by decide)
  | 26 => fun h => rfl
  | 27 => fun h => rfl
  | 28 => fun h => rfl
  | 29 => fun h => rfl
  | 30 => fun h => rfl
  | 31 => fun h => rfl
  | 32 => fun h => rfl
  | 33 => fun h => absurd h (by decide)
  | 34 => fun h => absurd h (by decide)
  | 35 => fun h => absurd h (by decide)
  | 36 => fun h => absurd h (by decide)
  | 37 => fun h => absurd h (by decide)
  | 38 => fun h => absurd h (by decide)
  | 39 => fun h => absurd h (by decide)
  | 40 => fun h => absurd h (by decide)
  | 41 => fun h => rfl
  | 42 => fun h => rfl
  | 43 => fun h => rfl
  | 44 => fun h => rfl
  | 45 => fun h => rfl
  | 46 => fun h => absurd h (by decide)
  | 47 => fun h => absurd h (by decide)
  | 48 => fun h => absurd h (by decide)
  | 49 => fun h => rfl
  | 50 => fun h => absurd h (by decide)
  | 51 => fun h => absurd h (by decide)
  | 52 => fun h => absurd h (by decide)
  | 53 => fun h => absurd h (by decide)
  | 54 => fun h => absurd h (by decide)
  | 55 => fun h => absurd h (by decide)
  | 56 => fun h => absurd h (by decide)
  | 57 => fun h => absurd h (by decide)
  | 58 => fun h => absurd h (by decide)
  | 59 => fun h => absurd h (by decide)
  | 60 => fun h => absurd h (by decide)
  | 61 => fun h => absurd h (by decide)
  | _ + 62 => fun h => absurd (show 9 = 0 from h) (by decide)
theorem tyM_z : ∀ k : Nat, kM k = 1 → tyX12 k = .boolean := fun k => match k with
  | 0 => fun h => absurd h (by decide)
  | 1 => fun h => absurd h (by decide)
  | 2 => fun h => absurd h (by decide)
  | 3 => fun h => absurd h (by decide)
  | 4 => fun h => absurd h (by decide)
  | 5 => fun h => absurd h (by decide)
  | 6 => fun h => absurd h (by decide)
  | 7 => fun h => absurd h (by decide)
  | 8 => fun h => absurd h (by decide)
  | 9 => fun h => absurd h (by decide)
  | 10 => fun h => absurd h (by decide)
  | 11 => fun h => absurd h (by decide)
  | 12 => fun h => absurd h (by decide)
  | 13 => fun h => absurd h (by decide)
  | 14 => fun h => absurd h (by decide)
  | 15 => fun h => absurd h (by decide)
  | 16 => fun h => absurd h (by decide)
  | 17 => fun h => absurd h (by decide)
  | 18 => fun h => absurd h (by decide)
  | 19 => fun h => absurd h (by decide)
  | 20 => fun h => absurd h (by decide)
  | 21 => fun h => absurd h (by decide)
  | 22 => fun h => rfl
  | 23 => fun h => absurd h (by decide)
  | 24 => fun h => absurd h (by decide)
  | 25 => fun h => absurd h (by decide)
  | 26 => fun h => absurd h (by decide)
  | 27 => fun h => absurd h (by decide)
  | 28 => fun h => absurd h (by decide)
  | 29 => fun h => absurd h (by decide)
  | 30 => fun h => absurd h (by decide)
  | 31 => fun h => absurd h (by decide)
  | 32 => fun h => absurd h (by decide)
  | 33 => fun h => absurd h (by decide)
  | 34 => fun h => absurd h (by decide)
  | 35 => fun h => absurd h (by decide)
  | 36 => fun h => absurd h (by decide)
  | 37 => fun h => absurd h (by decide)
  | 38 => fun h => absurd h (by decide)
  | 39 => fun h => absurd h (by decide)
  | 40 => fun h => absurd h (by decide)
  | 41 => fun h => absurd h (by decide)
  | 42 => fun h => absurd h (by decide)
  | 43 => fun h => absurd h (by decide)
  | 44 => fun h => absurd h (by decide)
  | 45 => fun h => absurd h (by decide)
  | 46 => fun h => absurd h (by decide)
  | 47 => fun h => absurd h (by decide)
  | 48 => fun h => absurd h (by decide)
  | 49 => fun h => absurd h (by decide)
  | 50 => fun h => absurd h (by decide)
  | 51 => fun h => rfl
  | 52 => fun h => absurd h (by decide)
  | 53 => fun h => absurd h (by decide)
  | 54 => fun h => absurd h (by decide)
  | 55 => fun h => absurd h (by decide)
  | 56 => fun h => absurd h (by decide)
  | 57 => fun h => absurd h (by decide)
  | 58 => fun h => absurd h (by decide)
  | 59 => fun h => absurd h (by decide)
  | 60 => fun h => absurd h (by decide)
  | 61 => fun h => absurd h (by decide)
  | _ + 62 => fun h => absurd (show 9 = 1 from h) (by decide)
theorem tyM_l : ∀ k : Nat, kM k = 2 → tyX12 k = .long := fun k => match k with
  | 0 => fun h => absurd h (by decide)
  | 1 => fun h => absurd h (by decide)
  | 2 => fun h => absurd h (by decide)
  | 3 => fun h => absurd h (by decide)
  | 4 => fun h => absurd h (by decide)
  | 5 => fun h => absurd h (by decide)
  | 6 => fun h => absurd h (by decide)
  | 7 => fun h => absurd h (by decide)
  | 8 => fun h => absurd h (by decide)
  | 9 => fun h => absurd h (by decide)
  | 10 => fun h => absurd h (by decide)
  | 11 => fun h => absurd h (by decide)
  | 12 => fun h => absurd h (by decide)
  | 13 => fun h => absurd h (by decide)
  | 14 => fun h => absurd h (by decide)
  | 15 => fun h => absurd h (by decide)
  | 16 => fun h => absurd h (by decide)
  | 17 => fun h => absurd h (by decide)
  | 18 => fun h => absurd h (by decide)
  | 19 => fun h => absurd h (by decide)
  | 20 => fun h => absurd h (by decide)
  | 21 => fun h => absurd h (by decide)
  | 22 => fun h => absurd h (by decide)
  | 23 => fun h => absurd h (by decide)
  | 24 => fun h => absurd h (by decide)
  | 25 => fun h => absurd h (by decide)
  | 26 => fun h => absurd h (by decide)
  | 27 => fun h => absurd h (by decide)
  | 28 => fun h => absurd h (by decide)
  | 29 => fun h => absurd h (by decide)
  | 30 => fun h => absurd h (by decide)
  | 31 => fun h => absurd h (by decide)
  | 32 => fun h => absurd h (by decide)
  | 33 => fun h => rfl
  | 34 => fun h => absurd h (by decide)
  | 35 => fun h => absurd h (by decide)
  | 36 => fun h => absurd h (by decide)
  | 37 => fun h => absurd h (by decide)
  | 38 => fun h => absurd h (by decide)
  | 39 => fun h => absurd h (by decide)
  | 40 => fun h => absurd h (by decide)
  | 41 => fun h => absurd h (by decide)
  | 42 => fun h => absurd h (by decide)
  | 43 => fun h => absurd h (by decide)
  | 44 => fun h => absurd h (by decide)
  | 45 => fun h => absurd h (by decide)
  | 46 => fun h => absurd h (by decide)
  | 47 => fun h => absurd h (by decide)
  | 48 => fun h => absurd h (by decide)
  | 49 => fun h => absurd h (by decide)
  | 50 => fun h => absurd h (by decide)
  | 51 => fun h => absurd h (by decide)
  | 52 => fun h => absurd h (by decide)
  | 53 => fun h => absurd h (by decide)
  | 54 => fun h => absurd h (by decide)
  | 55 => fun h => absurd h (by decide)
  | 56 => fun h => absurd h (by decide)
  | 57 => fun h => absurd h (by decide)
  | 58 => fun h => absurd h (by decide)
  | 59 => fun h => absurd h (by decide)
  | 60 => fun h => absurd h (by decide)
  | 61 => fun h => absurd h (by decide)
  | _ + 62 => fun h => absurd (show 9 = 2 from h) (by decide)
theorem finM : ∀ k : Nat, kM k ≤ 2 → (TX12 k).2.2.2 = false := fun k => match k with
  | 0 => fun h => rfl
  | 1 => fun h => absurd h (by decide)
  | 2 => fun h => rfl
  | 3 => fun h => rfl
  | 4 => fun h => rfl
  | 5 => fun h => absurd h (by decide)
  | 6 => fun h => absurd h (by decide)
  | 7 => fun h => absurd h (by decide)
  | 8 => fun h => absurd h (by decide)
  | 9 => fun h => absurd h (by decide)
  | 10 => fun h => absurd h (by decide)
  | 11 => fun h => absurd h (by decide)
  | 12 => fun h => absurd h (by decide)
  | 13 => fun h => absurd h (by decide)
  | 14 => fun h => absurd h (by decide)
  | 15 => fun h => absurd h (by decide)
  | 16 => fun h => absurd h (by decide)
  | 17 => fun h => absurd h (by decide)
  | 18 => fun h => absurd h (by decide)
  | 19 => fun h => absurd h (by decide)
  | 20 => fun h => rfl
  | 21 => fun h => rfl
  | 22 => fun h => rfl
  | 23 => fun h => absurd h (by decide)
  | 24 => fun h => absurd h (by decide)
  | 25 => fun h => absurd h (by decide)
  | 26 => fun h => rfl
  | 27 => fun h => rfl
  | 28 => fun h => rfl
  | 29 => fun h => rfl
  | 30 => fun h => rfl
  | 31 => fun h => rfl
  | 32 => fun h => rfl
  | 33 => fun h => rfl
  | 34 => fun h => absurd h (by decide)
  | 35 => fun h => absurd h (by decide)
  | 36 => fun h => absurd h (by decide)
  | 37 => fun h => absurd h (by decide)
  | 38 => fun h => absurd h (by decide)
  | 39 => fun h => absurd h (by decide)
  | 40 => fun h => absurd h (by decide)
  | 41 => fun h => rfl
  | 42 => fun h => rfl
  | 43 => fun h => rfl
  | 44 => fun h => rfl
  | 45 => fun h => rfl
  | 46 => fun h => absurd h (by decide)
  | 47 => fun h => absurd h (by decide)
  | 48 => fun h => absurd h (by decide)
  | 49 => fun h => rfl
  | 50 => fun h => absurd h (by decide)
  | 51 => fun h => rfl
  | 52 => fun h => absurd h (by decide)
  | 53 => fun h => absurd h (by decide)
  | 54 => fun h => absurd h (by decide)
  | 55 => fun h => absurd h (by decide)
  | 56 => fun h => absurd h (by decide)
  | 57 => fun h => absurd h (by decide)
  | 58 => fun h => absurd h (by decide)
  | 59 => fun h => absurd h (by decide)
  | 60 => fun h => absurd h (by decide)
  | 61 => fun h => absurd h (by decide)
  | _ + 62 => fun h => absurd (show 9 ≤ 2 from h) (by decide)
theorem wM_pi (h : Nat) (a : Nat → Nat) (cs : Nat → ClassId) (σ : St) (v : Int32) : ∀ k : Nat, kM k ≤ 1 → (wM h a cs σ).set 0 (h, .inr (12, (fM a σ).set k (.int v))) = wM h a cs (s1 σ k 0 v) := fun k => match k with
  | 0 => fun h => rfl
  | 1 => fun h => absurd h (by decide)
  | 2 => fun h => rfl
  | 3 => fun h => rfl
  | 4 => fun h => rfl
  | 5 => fun h => absurd h (by decide)
  | 6 => fun h => absurd h (by decide)
  | 7 => fun h => absurd h (by decide)
  | 8 => fun h => absurd h (by decide)
  | 9 => fun h => absurd h (by decide)
  | 10 => fun h => absurd h (by decide)
  | 11 => fun h => absurd h (by decide)
  | 12 => fun h => absurd h (by decide)
  | 13 => fun h => absurd h (by decide)
  | 14 => fun h => absurd h (by decide)
  | 15 => fun h => absurd h (by decide)
  | 16 => fun h => absurd h (by decide)
  | 17 => fun h => absurd h (by decide)
  | 18 => fun h => absurd h (by decide)
  | 19 => fun h => absurd h (by decide)
  | 20 => fun h => rfl
  | 21 => fun h => rfl
  | 22 => fun h => rfl
  | 23 => fun h => absurd h (by decide)
  | 24 => fun h => absurd h (by decide)
  | 25 => fun h => absurd h (by decide)
  | 26 => fun h => rfl
  | 27 => fun h => rfl
  | 28 => fun h => rfl
  | 29 => fun h => rfl
  | 30 => fun h => rfl
  | 31 => fun h => rfl
  | 32 => fun h => rfl
  | 33 => fun h => absurd h (by decide)
  | 34 => fun h => absurd h (by decide)
  | 35 => fun h => absurd h (by decide)
  | 36 => fun h => absurd h (by decide)
  | 37 => fun h => absurd h (by decide)
  | 38 => fun h => absurd h (by decide)
  | 39 => fun h => absurd h (by decide)
  | 40 => fun h => absurd h (by decide)
  | 41 => fun h => rfl
  | 42 => fun h => rfl
  | 43 => fun h => rfl
  | 44 => fun h => rfl
  | 45 => fun h => rfl
  | 46 => fun h => absurd h (by decide)
  | 47 => fun h => absurd h (by decide)
  | 48 => fun h => absurd h (by decide)
  | 49 => fun h => rfl
  | 50 => fun h => absurd h (by decide)
  | 51 => fun h => rfl
  | 52 => fun h => absurd h (by decide)
  | 53 => fun h => absurd h (by decide)
  | 54 => fun h => absurd h (by decide)
  | 55 => fun h => absurd h (by decide)
  | 56 => fun h => absurd h (by decide)
  | 57 => fun h => absurd h (by decide)
  | 58 => fun h => absurd h (by decide)
  | 59 => fun h => absurd h (by decide)
  | 60 => fun h => absurd h (by decide)
  | 61 => fun h => absurd h (by decide)
  | _ + 62 => fun h => absurd (show 9 ≤ 1 from h) (by decide)
theorem wM_pl (h : Nat) (a : Nat → Nat) (cs : Nat → ClassId) (σ : St) (v : Int64) : ∀ k : Nat, kM k = 2 → (wM h a cs σ).set 0 (h, .inr (12, (fM a σ).set k (.long v))) = wM h a cs (s2 σ k 0 v) := fun k => match k with
  | 0 => fun h => absurd h (by decide)
  | 1 => fun h => absurd h (by decide)
  | 2 => fun h => absurd h (by decide)
  | 3 => fun h => absurd h (by decide)
  | 4 => fun h => absurd h (by decide)
  | 5 => fun h => absurd h (by decide)
  | 6 => fun h => absurd h (by decide)
  | 7 => fun h => absurd h (by decide)
  | 8 => fun h => absurd h (by decide)
  | 9 => fun h => absurd h (by decide)
  | 10 => fun h => absurd h (by decide)
  | 11 => fun h => absurd h (by decide)
  | 12 => fun h => absurd h (by decide)
  | 13 => fun h => absurd h (by decide)
  | 14 => fun h => absurd h (by decide)
  | 15 => fun h => absurd h (by decide)
  | 16 => fun h => absurd h (by decide)
  | 17 => fun h => absurd h (by decide)
  | 18 => fun h => absurd h (by decide)
  | 19 => fun h => absurd h (by decide)
  | 20 => fun h => absurd h (by decide)
  | 21 => fun h => absurd h (by decide)
  | 22 => fun h => absurd h (by decide)
  | 23 => fun h => absurd h (by decide)
  | 24 => fun h => absurd h (by decide)
  | 25 => fun h => absurd h (by decide)
  | 26 => fun h => absurd h (by decide)
  | 27 => fun h => absurd h (by decide)
  | 28 => fun h => absurd h (by decide)
  | 29 => fun h => absurd h (by decide)
  | 30 => fun h => absurd h (by decide)
  | 31 => fun h => absurd h (by decide)
  | 32 => fun h => absurd h (by decide)
  | 33 => fun h => rfl
  | 34 => fun h => absurd h (by decide)
  | 35 => fun h => absurd h (by decide)
  | 36 => fun h => absurd h (by decide)
  | 37 => fun h => absurd h (by decide)
  | 38 => fun h => absurd h (by decide)
  | 39 => fun h => absurd h (by decide)
  | 40 => fun h => absurd h (by decide)
  | 41 => fun h => absurd h (by decide)
  | 42 => fun h => absurd h (by decide)
  | 43 => fun h => absurd h (by decide)
  | 44 => fun h => absurd h (by decide)
  | 45 => fun h => absurd h (by decide)
  | 46 => fun h => absurd h (by decide)
  | 47 => fun h => absurd h (by decide)
  | 48 => fun h => absurd h (by decide)
  | 49 => fun h => absurd h (by decide)
  | 50 => fun h => absurd h (by decide)
  | 51 => fun h => absurd h (by decide)
  | 52 => fun h => absurd h (by decide)
  | 53 => fun h => absurd h (by decide)
  | 54 => fun h => absurd h (by decide)
  | 55 => fun h => absurd h (by decide)
  | 56 => fun h => absurd h (by decide)
  | 57 => fun h => absurd h (by decide)
  | 58 => fun h => absurd h (by decide)
  | 59 => fun h => absurd h (by decide)
  | 60 => fun h => absurd h (by decide)
  | 61 => fun h => absurd h (by decide)
  | _ + 62 => fun h => absurd (show 9 = 2 from h) (by decide)
theorem wM_aI (h : Nat) (a : Nat → Nat) (cs : Nat → ClassId) (σ : St) : ∀ k : Nat, kM k = 3 → (wM h a cs σ)[pM k]? = some (a k, .inl (cs 1, lM k, .inl (σ.1 k))) := fun k => match k with
  | 0 => fun h => absurd h (by decide)
  | 1 => fun h => absurd h (by decide)
  | 2 => fun h => absurd h (by decide)
  | 3 => fun h => absurd h (by decide)
  | 4 => fun h => absurd h (by decide)
  | 5 => fun h => rfl
  | 6 => fun h => rfl
  | 7 => fun h => rfl
  | 8 => fun h => rfl
  | 9 => fun h => rfl
  | 10 => fun h => rfl
  | 11 => fun h => rfl
  | 12 => fun h => rfl
  | 13 => fun h => rfl
  | 14 => fun h => rfl
  | 15 => fun h => rfl
  | 16 => fun h => rfl
  | 17 => fun h => rfl
  | 18 => fun h => absurd h (by decide)
  | 19 => fun h => absurd h (by decide)
  | 20 => fun h => absurd h (by decide)
  | 21 => fun h => absurd h (by decide)
  | 22 => fun h => absurd h (by decide)
  | 23 => fun h => rfl
  | 24 => fun h => rfl
  | 25 => fun h => absurd h (by decide)
  | 26 => fun h => absurd h (by decide)
  | 27 => fun h => absurd h (by decide)
  | 28 => fun h => absurd h (by decide)
  | 29 => fun h => absurd h (by decide)
  | 30 => fun h => absurd h (by decide)
  | 31 => fun h => absurd h (by decide)
  | 32 => fun h => absurd h (by decide)
  | 33 => fun h => absurd h (by decide)
  | 34 => fun h => rfl
  | 35 => fun h => rfl
  | 36 => fun h => rfl
  | 37 => fun h => rfl
  | 38 => fun h => rfl
  | 39 => fun h => rfl
  | 40 => fun h => rfl
  | 41 => fun h => absurd h (by decide)
  | 42 => fun h => absurd h (by decide)
  | 43 => fun h => absurd h (by decide)
  | 44 => fun h => absurd h (by decide)
  | 45 => fun h => absurd h (by decide)
  | 46 => fun h => rfl
  | 47 => fun h => rfl
  | 48 => fun h => rfl
  | 49 => fun h => absurd h (by decide)
  | 50 => fun h => rfl
  | 51 => fun h => absurd h (by decide)
  | 52 => fun h => rfl
  | 53 => fun h => rfl
  | 54 => fun h => rfl
  | 55 => fun h => rfl
  | 56 => fun h => rfl
  | 57 => fun h => rfl
  | 58 => fun h => rfl
  | 59 => fun h => rfl
  | 60 => fun h => absurd h (by decide)
  | 61 => fun h => rfl
  | _ + 62 => fun h => absurd (show 9 = 3 from h) (by decide)
theorem wM_sI (h : Nat) (a : Nat → Nat) (cs : Nat → ClassId) (σ : St) (i : Nat) (v : Int32) : ∀ k : Nat, kM k = 3 → (wM h a cs σ).set (pM k) (a k, .inl (cs 1, lM k, .inl (upd (σ.1 k) i v))) = wM h a cs (s1 σ k i v) := fun k => match k with
  | 0 => fun h => absurd h (by decide)
  | 1 => fun h => absurd h (by decide)
  | 2 => fun h => absurd h (by decide)
  | 3 => fun h => absurd h (by decide)
  | 4 => fun h => absurd h (by decide)
  | 5 => fun h => rfl
  | 6 => fun h => rfl
  | 7 => fun h => rfl
  | 8 => fun h => rfl
  | 9 => fun h => rfl
  | 10 => fun h => rfl
  | 11 => fun h => rfl
  | 12 => fun h => rfl
  | 13 => fun h => rfl
  | 14 => fun h => rfl
  | 15 => fun h => rfl
  | 16 => fun h => rfl
  | 17 => fun h => rfl
  | 18 => fun h => absurd h (by decide)
  | 19 => fun h => absurd h (by decide)
  | 20 => fun h => absurd h (by decide)
  | 21 => fun h => absurd h (by decide)
  | 22 => fun h => absurd h (by decide)
  | 23 => fun h => rfl
  | 24 => fun h => rfl
  | 25 => fun h => absurd h (by decide)
  | 26 => fun h => absurd h (by decide)
  | 27 => fun h => absurd h (by decide)
  | 28 => fun h => absurd h (by decide)
  | 29 => fun h => absurd h (by decide)
  | 30 => fun h => absurd h (by decide)
  | 31 => fun h => absurd h (by decide)
  | 32 => fun h => absurd h (by decide)
  | 33 => fun h => absurd h (by decide)
  | 34 => fun h => rfl
  | 35 => fun h => rfl
  | 36 => fun h => rfl
  | 37 => fun h => rfl
  | 38 => fun h => rfl
  | 39 => fun h => rfl
  | 40 => fun h => rfl
  | 41 => fun h => absurd h (by decide)
  | 42 => fun h => absurd h (by decide)
  | 43 => fun h => absurd h (by decide)
  | 44 => fun h => absurd h (by decide)
  | 45 => fun h => absurd h (by decide)
  | 46 => fun h => rfl
  | 47 => fun h => rfl
  | 48 => fun h => rfl
  | 49 => fun h => absurd h (by decide)
  | 50 => fun h => rfl
  | 51 => fun h => absurd h (by decide)
  | 52 => fun h => rfl
  | 53 => fun h => rfl
  | 54 => fun h => rfl
  | 55 => fun h => rfl
  | 56 => fun h => rfl
  | 57 => fun h => rfl
  | 58 => fun h => rfl
  | 59 => fun h => rfl
  | 60 => fun h => absurd h (by decide)
  | 61 => fun h => rfl
  | _ + 62 => fun h => absurd (show 9 = 3 from h) (by decide)
theorem wM_aB (h : Nat) (a : Nat → Nat) (cs : Nat → ClassId) (σ : St) : ∀ k : Nat, kM k = 4 → (wM h a cs σ)[pM k]? = some (a k, .inl (cs 0, lM k, .inl (σ.1 k))) := fun k => match k with
  | 0 => fun h => absurd h (by decide)
  | 1 => fun h => rfl
  | 2 => fun h => absurd h (by decide)
  | 3 => fun h => absurd h (by decide)
  | 4 => fun h => absurd h (by decide)
  | 5 => fun h => absurd h (by decide)
  | 6 => fun h => absurd h (by decide)
  | 7 => fun h => absurd h (by decide)
  | 8 => fun h => absurd h (by decide)
  | 9 => fun h => absurd h (by decide)
  | 10 => fun h => absurd h (by decide)
  | 11 => fun h => absurd h (by decide)
  | 12 => fun h => absurd h (by decide)
  | 13 => fun h => absurd h (by decide)
  | 14 => fun h => absurd h (by decide)
  | 15 => fun h => absurd h (by decide)
  | 16 => fun h => absurd h (by decide)
  | 17 => fun h => absurd h (by decide)
  | 18 => fun h => absurd h (by decide)
  | 19 => fun h => absurd h (by decide)
  | 20 => fun h => absurd h (by decide)
  | 21 => fun h => absurd h (by decide)
  | 22 => fun h => absurd h (by decide)
  | 23 => fun h => absurd h (by decide)
  | 24 => fun h => absurd h (by decide)
  | 25 => fun h => absurd h (by decide)
  | 26 => fun h => absurd h (by decide)
  | 27 => fun h => absurd h (by decide)
  | 28 => fun h => absurd h (by decide)
  | 29 => fun h => absurd h (by decide)
  | 30 => fun h => absurd h (by decide)
  | 31 => fun h => absurd h (by decide)
  | 32 => fun h => absurd h (by decide)
  | 33 => fun h => absurd h (by decide)
  | 34 => fun h => absurd h (by decide)
  | 35 => fun h => absurd h (by decide)
  | 36 => fun h => absurd h (by decide)
  | 37 => fun h => absurd h (by decide)
  | 38 => fun h => absurd h (by decide)
  | 39 => fun h => absurd h (by decide)
  | 40 => fun h => absurd h (by decide)
  | 41 => fun h => absurd h (by decide)
  | 42 => fun h => absurd h (by decide)
  | 43 => fun h => absurd h (by decide)
  | 44 => fun h => absurd h (by decide)
  | 45 => fun h => absurd h (by decide)
  | 46 => fun h => absurd h (by decide)
  | 47 => fun h => absurd h (by decide)
  | 48 => fun h => absurd h (by decide)
  | 49 => fun h => absurd h (by decide)
  | 50 => fun h => absurd h (by decide)
  | 51 => fun h => absurd h (by decide)
  | 52 => fun h => absurd h (by decide)
  | 53 => fun h => absurd h (by decide)
  | 54 => fun h => absurd h (by decide)
  | 55 => fun h => absurd h (by decide)
  | 56 => fun h => absurd h (by decide)
  | 57 => fun h => absurd h (by decide)
  | 58 => fun h => absurd h (by decide)
  | 59 => fun h => absurd h (by decide)
  | 60 => fun h => absurd h (by decide)
  | 61 => fun h => absurd h (by decide)
  | _ + 62 => fun h => absurd (show 9 = 4 from h) (by decide)
theorem wM_sB (h : Nat) (a : Nat → Nat) (cs : Nat → ClassId) (σ : St) (i : Nat) (v : Int32) : ∀ k : Nat, kM k = 4 → (wM h a cs σ).set (pM k) (a k, .inl (cs 0, lM k, .inl (upd (σ.1 k) i v))) = wM h a cs (s1 σ k i v) := fun k => match k with
  | 0 => fun h => absurd h (by decide)
  | 1 => fun h => rfl
  | 2 => fun h => absurd h (by decide)
  | 3 => fun h => absurd h (by decide)
  | 4 => fun h => absurd h (by decide)
  | 5 => fun h => absurd h (by decide)
  | 6 => fun h => absurd h (by decide)
  | 7 => fun h => absurd h (by decide)
  | 8 => fun h => absurd h (by decide)
  | 9 => fun h => absurd h (by decide)
  | 10 => fun h => absurd h (by decide)
  | 11 => fun h => absurd h (by decide)
  | 12 => fun h => absurd h (by decide)
  | 13 => fun h => absurd h (by decide)
  | 14 => fun h => absurd h (by decide)
  | 15 => fun h => absurd h (by decide)
  | 16 => fun h => absurd h (by decide)
  | 17 => fun h => absurd h (by decide)
  | 18 => fun h => absurd h (by decide)
  | 19 => fun h => absurd h (by decide)
  | 20 => fun h => absurd h (by decide)
  | 21 => fun h => absurd h (by decide)
  | 22 => fun h => absurd h (by decide)
  | 23 => fun h => absurd h (by decide)
  | 24 => fun h => absurd h (by decide)
  | 25 => fun h => absurd h (by decide)
  | 26 => fun h => absurd h (by decide)
  | 27 => fun h => absurd h (by decide)
  | 28 => fun h => absurd h (by decide)
  | 29 => fun h => absurd h (by decide)
  | 30 => fun h => absurd h (by decide)
  | 31 => fun h => absurd h (by decide)
  | 32 => fun h => absurd h (by decide)
  | 33 => fun h => absurd h (by decide)
  | 34 => fun h => absurd h (by decide)
  | 35 => fun h => absurd h (by decide)
  | 36 => fun h => absurd h (by decide)
  | 37 => fun h => absurd h (by decide)
  | 38 => fun h => absurd h (by decide)
  | 39 => fun h => absurd h (by decide)
  | 40 => fun h => absurd h (by decide)
  | 41 => fun h => absurd h (by decide)
  | 42 => fun h => absurd h (by decide)
  | 43 => fun h => absurd h (by decide)
  | 44 => fun h => absurd h (by decide)
  | 45 => fun h => absurd h (by decide)
  | 46 => fun h => absurd h (by decide)
  | 47 => fun h => absurd h (by decide)
  | 48 => fun h => absurd h (by decide)
  | 49 => fun h => absurd h (by decide)
  | 50 => fun h => absurd h (by decide)
  | 51 => fun h => absurd h (by decide)
  | 52 => fun h => absurd h (by decide)
  | 53 => fun h => absurd h (by decide)
  | 54 => fun h => absurd h (by decide)
  | 55 => fun h => absurd h (by decide)
  | 56 => fun h => absurd h (by decide)
  | 57 => fun h => absurd h (by decide)
  | 58 => fun h => absurd h (by decide)
  | 59 => fun h => absurd h (by decide)
  | 60 => fun h => absurd h (by decide)
  | 61 => fun h => absurd h (by decide)
  | _ + 62 => fun h => absurd (show 9 = 4 from h) (by decide)
theorem wM_aZ (h : Nat) (a : Nat → Nat) (cs : Nat → ClassId) (σ : St) : ∀ k : Nat, kM k = 6 → (wM h a cs σ)[pM k]? = some (a k, .inl (cs 3, lM k, .inl (σ.1 k))) := fun k => match k with
  | 0 => fun h => absurd h (by decide)
  | 1 => fun h => absurd h (by decide)
  | 2 => fun h => absurd h (by decide)
  | 3 => fun h => absurd h (by decide)
  | 4 => fun h => absurd h (by decide)
  | 5 => fun h => absurd h (by decide)
  | 6 => fun h => absurd h (by decide)
  | 7 => fun h => absurd h (by decide)
  | 8 => fun h => absurd h (by decide)
  | 9 => fun h => absurd h (by decide)
  | 10 => fun h => absurd h (by decide)
  | 11 => fun h => absurd h (by decide)
  | 12 => fun h => absurd h (by decide)
  | 13 => fun h => absurd h (by decide)
  | 14 => fun h => absurd h (by decide)
  | 15 => fun h => absurd h (by decide)
  | 16 => fun h => absurd h (by decide)
  | 17 => fun h => absurd h (by decide)
  | 18 => fun h => absurd h (by decide)
  | 19 => fun h => rfl
  | 20 => fun h => absurd h (by decide)
  | 21 => fun h => absurd h (by decide)
  | 22 => fun h => absurd h (by decide)
  | 23 => fun h => absurd h (by decide)
  | 24 => fun h => absurd h (by decide)
  | 25 => fun h => rfl
  | 26 => fun h => absurd h (by decide)
  | 27 => fun h => absurd h (by decide)
  | 28 => fun h => absurd h (by decide)
  | 29 => fun h => absurd h (by decide)
  | 30 => fun h => absurd h (by decide)
  | 31 => fun h => absurd h (by decide)
  | 32 => fun h => absurd h (by decide)
  | 33 => fun h => absurd h (by decide)
  | 34 => fun h => absurd h (by decide)
  | 35 => fun h => absurd h (by decide)
  | 36 => fun h => absurd h (by decide)
  | 37 => fun h => absurd h (by decide)
  | 38 => fun h => absurd h (by decide)
  | 39 => fun h => absurd h (by decide)
  | 40 => fun h => absurd h (by decide)
  | 41 => fun h => absurd h (by decide)
  | 42 => fun h => absurd h (by decide)
  | 43 => fun h => absurd h (by decide)
  | 44 => fun h => absurd h (by decide)
  | 45 => fun h => absurd h (by decide)
  | 46 => fun h => absurd h (by decide)
  | 47 => fun h => absurd h (by decide)
  | 48 => fun h => absurd h (by decide)
  | 49 => fun h => absurd h (by decide)
  | 50 => fun h => absurd h (by decide)
  | 51 => fun h => absurd h (by decide)
  | 52 => fun h => absurd h (by decide)
  | 53 => fun h => absurd h (by decide)
  | 54 => fun h => absurd h (by decide)
  | 55 => fun h => absurd h (by decide)
  | 56 => fun h => absurd h (by decide)
  | 57 => fun h => absurd h (by decide)
  | 58 => fun h => absurd h (by decide)
  | 59 => fun h => absurd h (by decide)
  | 60 => fun h => rfl
  | 61 => fun h => absurd h (by decide)
  | _ + 62 => fun h => absurd (show 9 = 6 from h) (by decide)
theorem wM_sZ (h : Nat) (a : Nat → Nat) (cs : Nat → ClassId) (σ : St) (i : Nat) (v : Int32) : ∀ k : Nat, kM k = 6 → (wM h a cs σ).set (pM k) (a k, .inl (cs 3, lM k, .inl (upd (σ.1 k) i v))) = wM h a cs (s1 σ k i v) := fun k => match k with
  | 0 => fun h => absurd h (by decide)
  | 1 => fun h => absurd h (by decide)
  | 2 => fun h => absurd h (by decide)
  | 3 => fun h => absurd h (by decide)
  | 4 => fun h => absurd h (by decide)
  | 5 => fun h => absurd h (by decide)
  | 6 => fun h => absurd h (by decide)
  | 7 => fun h => absurd h (by decide)
  | 8 => fun h => absurd h (by decide)
  | 9 => fun h => absurd h (by decide)
  | 10 => fun h => absurd h (by decide)
  | 11 => fun h => absurd h (by decide)
  | 12 => fun h => absurd h (by decide)
  | 13 => fun h => absurd h (by decide)
  | 14 => fun h => absurd h (by decide)
  | 15 => fun h => absurd h (by decide)
  | 16 => fun h => absurd h (by decide)
  | 17 => fun h => absurd h (by decide)
  | 18 => fun h => absurd h (by decide)
  | 19 => fun h => rfl
  | 20 => fun h => absurd h (by decide)
  | 21 => fun h => absurd h (by decide)
  | 22 => fun h => absurd h (by decide)
  | 23 => fun h => absurd h (by decide)
  | 24 => fun h => absurd h (by decide)
  | 25 => fun h => rfl
  | 26 => fun h => absurd h (by decide)
  | 27 => fun h => absurd h (by decide)
  | 28 => fun h => absurd h (by decide)
  | 29 => fun h => absurd h (by decide)
  | 30 => fun h => absurd h (by decide)
  | 31 => fun h => absurd h (by decide)
  | 32 => fun h => absurd h (by decide)
  | 33 => fun h => absurd h (by decide)
  | 34 => fun h => absurd h (by decide)
  | 35 => fun h => absurd h (by decide)
  | 36 => fun h => absurd h (by decide)
  | 37 => fun h => absurd h (by decide)
  | 38 => fun h => absurd h (by decide)
  | 39 => fun h => absurd h (by decide)
  | 40 => fun h => absurd h (by decide)
  | 41 => fun h => absurd h (by decide)
  | 42 => fun h => absurd h (by decide)
  | 43 => fun h => absurd h (by decide)
  | 44 => fun h => absurd h (by decide)
  | 45 => fun h => absurd h (by decide)
  | 46 => fun h => absurd h (by decide)
  | 47 => fun h => absurd h (by decide)
  | 48 => fun h => absurd h (by decide)
  | 49 => fun h => absurd h (by decide)
  | 50 => fun h => absurd h (by decide)
  | 51 => fun h => absurd h (by decide)
  | 52 => fun h => absurd h (by decide)
  | 53 => fun h => absurd h (by decide)
  | 54 => fun h => absurd h (by decide)
  | 55 => fun h => absurd h (by decide)
  | 56 => fun h => absurd h (by decide)
  | 57 => fun h => absurd h (by decide)
  | 58 => fun h => absurd h (by decide)
  | 59 => fun h => absurd h (by decide)
  | 60 => fun h => rfl
  | 61 => fun h => absurd h (by decide)
  | _ + 62 => fun h => absurd (show 9 = 6 from h) (by decide)
theorem wM_aJ (h : Nat) (a : Nat → Nat) (cs : Nat → ClassId) (σ : St) : ∀ k : Nat, kM k = 5 → (wM h a cs σ)[pM k]? = some (a k, .inl (cs 2, lM k, .inr (.inl (σ.2 k)))) := fun k => match k with
  | 0 => fun h => absurd h (by decide)
  | 1 => fun h => absurd h (by decide)
  | 2 => fun h => absurd h (by decide)
  | 3 => fun h => absurd h (by decide)
  | 4 => fun h => absurd h (by decide)
  | 5 => fun h => absurd h (by decide)
  | 6 => fun h => absurd h (by decide)
  | 7 => fun h => absurd h (by decide)
  | 8 => fun h => absurd h (by decide)
  | 9 => fun h => absurd h (by decide)
  | 10 => fun h => absurd h (by decide)
  | 11 => fun h => absurd h (by decide)
  | 12 => fun h => absurd h (by decide)
  | 13 => fun h => absurd h (by decide)
  | 14 => fun h => absurd h (by decide)
  | 15 => fun h => absurd h (by decide)
  | 16 => fun h => absurd h (by decide)
  | 17 => fun h => absurd h (by decide)
  | 18 => fun h => rfl
  | 19 => fun h => absurd h (by decide)
  | 20 => fun h => absurd h (by decide)
  | 21 => fun h => absurd h (by decide)
  | 22 => fun h => absurd h (by decide)
  | 23 => fun h => absurd h (by decide)
  | 24 => fun h => absurd h (by decide)
  | 25 => fun h => absurd h (by decide)
  | 26 => fun h => absurd h (by decide)
  | 27 => fun h => absurd h (by decide)
  | 28 => fun h => absurd h (by decide)
  | 29 => fun h => absurd h (by decide)
  | 30 => fun h => absurd h (by decide)
  | 31 => fun h => absurd h (by decide)
  | 32 => fun h => absurd h (by decide)
  | 33 => fun h => absurd h (by decide)
  | 34 => fun h => absurd h (by decide)
  | 35 => fun h => absurd h (by decide)
  | 36 => fun h => absurd h (by decide)
  | 37 => fun h => absurd h (by decide)
  | 38 => fun h => absurd h (by decide)
  | 39 => fun h => absurd h (by decide)
  | 40 => fun h => absurd h (by decide)
  | 41 => fun h => absurd h (by decide)
  | 42 => fun h => absurd h (by decide)
  | 43 => fun h => absurd h (by decide)
  | 44 => fun h => absurd h (by decide)
  | 45 => fun h => absurd h (by decide)
  | 46 => fun h => absurd h (by decide)
  | 47 => fun h => absurd h (by decide)
  | 48 => fun h => absurd h (by decide)
  | 49 => fun h => absurd h (by decide)
  | 50 => fun h => absurd h (by decide)
  | 51 => fun h => absurd h (by decide)
  | 52 => fun h => absurd h (by decide)
  | 53 => fun h => absurd h (by decide)
  | 54 => fun h => absurd h (by decide)
  | 55 => fun h => absurd h (by decide)
  | 56 => fun h => absurd h (by decide)
  | 57 => fun h => absurd h (by decide)
  | 58 => fun h => absurd h (by decide)
  | 59 => fun h => absurd h (by decide)
  | 60 => fun h => absurd h (by decide)
  | 61 => fun h => absurd h (by decide)
  | _ + 62 => fun h => absurd (show 9 = 5 from h) (by decide)
theorem wM_sJ (h : Nat) (a : Nat → Nat) (cs : Nat → ClassId) (σ : St) (i : Nat) (v : Int64) : ∀ k : Nat, kM k = 5 → (wM h a cs σ).set (pM k) (a k, .inl (cs 2, lM k, .inr (.inl (vp_updL (σ.2 k) i v)))) = wM h a cs (s2 σ k i v) := fun k => match k with
  | 0 => fun h => absurd h (by decide)
  | 1 => fun h => absurd h (by decide)
  | 2 => fun h => absurd h (by decide)
  | 3 => fun h => absurd h (by decide)
  | 4 => fun h => absurd h (by decide)
  | 5 => fun h => absurd h (by decide)
  | 6 => fun h => absurd h (by decide)
  | 7 => fun h => absurd h (by decide)
  | 8 => fun h => absurd h (by decide)
  | 9 => fun h => absurd h (by decide)
  | 10 => fun h => absurd h (by decide)
  | 11 => fun h => absurd h (by decide)
  | 12 => fun h => absurd h (by decide)
  | 13 => fun h => absurd h (by decide)
  | 14 => fun h => absurd h (by decide)
  | 15 => fun h => absurd h (by decide)
  | 16 => fun h => absurd h (by decide)
  | 17 => fun h => absurd h (by decide)
  | 18 => fun h => rfl
  | 19 => fun h => absurd h (by decide)
  | 20 => fun h => absurd h (by decide)
  | 21 => fun h => absurd h (by decide)
  | 22 => fun h => absurd h (by decide)
  | 23 => fun h => absurd h (by decide)
  | 24 => fun h => absurd h (by decide)
  | 25 => fun h => absurd h (by decide)
  | 26 => fun h => absurd h (by decide)
  | 27 => fun h => absurd h (by decide)
  | 28 => fun h => absurd h (by decide)
  | 29 => fun h => absurd h (by decide)
  | 30 => fun h => absurd h (by decide)
  | 31 => fun h => absurd h (by decide)
  | 32 => fun h => absurd h (by decide)
  | 33 => fun h => absurd h (by decide)
  | 34 => fun h => absurd h (by decide)
  | 35 => fun h => absurd h (by decide)
  | 36 => fun h => absurd h (by decide)
  | 37 => fun h => absurd h (by decide)
  | 38 => fun h => absurd h (by decide)
  | 39 => fun h => absurd h (by decide)
  | 40 => fun h => absurd h (by decide)
  | 41 => fun h => absurd h (by decide)
  | 42 => fun h => absurd h (by decide)
  | 43 => fun h => absurd h (by decide)
  | 44 => fun h => absurd h (by decide)
  | 45 => fun h => absurd h (by decide)
  | 46 => fun h => absurd h (by decide)
  | 47 => fun h => absurd h (by decide)
  | 48 => fun h => absurd h (by decide)
  | 49 => fun h => absurd h (by decide)
  | 50 => fun h => absurd h (by decide)
  | 51 => fun h => absurd h (by decide)
  | 52 => fun h => absurd h (by decide)
  | 53 => fun h => absurd h (by decide)
  | 54 => fun h => absurd h (by decide)
  | 55 => fun h => absurd h (by decide)
  | 56 => fun h => absurd h (by decide)
  | 57 => fun h => absurd h (by decide)
  | 58 => fun h => absurd h (by decide)
  | 59 => fun h => absurd h (by decide)
  | 60 => fun h => absurd h (by decide)
  | 61 => fun h => absurd h (by decide)
  | _ + 62 => fun h => absurd (show 9 = 5 from h) (by decide)
section MR
variable {Ev : EvT} {p : Program} {l : Launch} {e : Env} {R : Room} {s : State} {m : MethodId} {args : Array Value} {below : List Frame} {meth : Method} {c : Code} {H : Heap} {locs : List Loc} {cells slots : Nat} {Q : State → Prop}
variable {cc : ByteArray} {pc : Nat} {ls : Array Slot} {rest : List Value} {D : va_G} {A : Nat → Prop} {σ : St} {h : Nat} {a : Nat → Nat} {cs : Nat → ClassId} {nL : Nat} {Ts : List Cond} {index : Nat}
theorem M_recv (hW : GW Ev D (tyM cs) (wM h a cs) A s σ H locs) : ∃ cellB : Cell, H[h]? = some cellB ∧ cellB.vm.isStatics = false ∧ s.vm.findClass RX12 = some cellB.cls := G_recv hW 12 0 rfl rfl
theorem M_geti (C : Cx p s m args c cc nL Ts RX12) (hin : ∀ w ∈ wsX120, w ∈ Ts) (hW : GW Ev D (tyM cs) (wM h a cs) A s σ H locs) (k : Nat) (hk : kM k ≤ 1) (hlink : (Cond.fieldLink RX12 index (TX12 k).1 (TX12 k).2.1 (TX12 k).2.2.1).before args s = true) (hdg : decode cc pc = .ok (.getfield index, 3))
    (kk : W p l e R s m args below meth c H locs cells slots Q (F0 m (pc + 3) ls (.int (σ.1 k 0) :: rest))) : W p l e R s m args below meth c H locs cells slots Q (F0 m pc ls (.ref h :: rest)) :=
  va_get (D := D) (ci := 12) (C := RX12) (T := TX12) (N := 62) C.1 C.2.1 C.2.2.2.2 hin C.2.2.2.1 hW.1 hW.2.1 0 (fs := fM a σ) rfl rfl k (kM_lt k (Nat.le_trans hk (by decide))) hlink (fun _ h9 => h9) (fM_i a σ k hk) hdg kk
theorem M_getl (C : Cx p s m args c cc nL Ts RX12) (hin : ∀ w ∈ wsX120, w ∈ Ts) (hW : GW Ev D (tyM cs) (wM h a cs) A s σ H locs) (k : Nat) (hk : kM k = 2) (hlink : (Cond.fieldLink RX12 index (TX12 k).1 (TX12 k).2.1 (TX12 k).2.2.1).before args s = true) (hdg : decode cc pc = .ok (.getfield index, 3))
    (kk : W p l e R s m args below meth c H locs cells slots Q (F0 m (pc + 3) ls (.long (σ.2 k 0) :: rest))) : W p l e R s m args below meth c H locs cells slots Q (F0 m pc ls (.ref h :: rest)) :=
  va_get (D := D) (ci := 12) (C := RX12) (T := TX12) (N := 62) C.1 C.2.1 C.2.2.2.2 hin C.2.2.2.1 hW.1 hW.2.1 0 (fs := fM a σ) rfl rfl k (kM_lt k (by rw [hk]; decide)) hlink (fun _ h9 => h9) (fM_l a σ k hk) hdg kk
theorem M_geta (C : Cx p s m args c cc nL Ts RX12) (hin : ∀ w ∈ wsX120, w ∈ Ts) (hW : GW Ev D (tyM cs) (wM h a cs) A s σ H locs) (k : Nat) (hk : isA k = true) (hlt : k < 62) (hlink : (Cond.fieldLink RX12 index (TX12 k).1 (TX12 k).2.1 (TX12 k).2.2.1).before args s = true) (hdg : decode cc pc = .ok (.getfield index, 3))
    (kk : W p l e R s m args below meth c H locs cells slots Q (F0 m (pc + 3) ls (.ref (a k) :: rest))) : W p l e R s m args below meth c H locs cells slots Q (F0 m pc ls (.ref h :: rest)) :=
  va_get (D := D) (ci := 12) (C := RX12) (T := TX12) (N := 62) C.1 C.2.1 C.2.2.2.2 hin C.2.2.2.1 hW.1 hW.2.1 0 (fs := fM a σ) rfl rfl k hlt hlink (fun _ h9 => h9) (fM_r a σ k hk) hdg kk
theorem M_puti (C : Cx p s m args c cc nL Ts RX12) (hin : ∀ w ∈ wsX120, w ∈ Ts) (hW : GW Ev D (tyM cs) (wM h a cs) A s σ H locs) (k : Nat) {v : Int32} (hk : kM k = 0) (hlink : (Cond.fieldLink RX12 index (TX12 k).1 (TX12 k).2.1 (TX12 k).2.2.1).before args s = true) (hdg : decode cc pc = .ok (.putfield index, 3))
    (kk : ∀ (H1 : Heap) (locs1 : List Loc) (σ1 : St), σ1 = s1 σ k 0 v → GW Ev D (tyM cs) (wM h a cs) A s σ1 H1 locs1 → W p l e R s m args below meth c H1 locs1 cells slots Q (F0 m (pc + 3) ls rest)) : W p l e R s m args below meth c H locs cells slots Q (F0 m pc ls (.int v :: .ref h :: rest)) :=
  va_put (D := D) (ci := 12) (C := RX12) (T := TX12) (N := 62) (v := .int v) (ty := .int) C.1 C.2.1 C.2.2.2.2 hin tyX12 tyX12_ok nmX12 C.2.2.2.1 hW.1 hW.2.1 hW.2.2.1 hW.2.2.2.1 0 (fs := fM a σ) rfl rfl k (kM_lt k (by rw [hk]; decide)) hlink (fun _ h9 => h9) (finM k (by rw [hk]; decide)) ((tyX12_ok k (kM_lt k (by rw [hk]; decide))).trans (congrArg some (tyM_i k hk))) rfl rfl (Nat.le_of_ble_eq_true (fM_len a σ k (by rw [hk]; decide))) hdg
    (fun H1 locs1 hP hD hS => kk H1 locs1 _ rfl ⟨hW.1, by rw [← wM_pi h a cs σ v k (by rw [hk]; decide)]; exact hP, by rw [← wM_pi h a cs σ v k (by rw [hk]; decide)]; exact hD, hS, hW.2.2.2.2⟩)
theorem M_putz (C : Cx p s m args c cc nL Ts RX12) (hin : ∀ w ∈ wsX120, w ∈ Ts) (hW : GW Ev D (tyM cs) (wM h a cs) A s σ H locs) (k : Nat) {v : Int32} (hk : kM k = 1) (hz : narrow .boolean (.int v) = .int v) (hf : fits .boolean (.int v) = true) (hlink : (Cond.fieldLink RX12 index (TX12 k).1 (TX12 k).2.1 (TX12 k).2.2.1).before args s = true) (hdg : decode cc pc = .ok (.putfield index, 3))
    (kk : ∀ (H1 : Heap) (locs1 : List Loc) (σ1 : St), σ1 = s1 σ k 0 v → GW Ev D (tyM cs) (wM h a cs) A s σ1 H1 locs1 → W p l e R s m args below meth c H1 locs1 cells slots Q (F0 m (pc + 3) ls rest)) : W p l e R s m args below meth c H locs cells slots Q (F0 m pc ls (.int v :: .ref h :: rest)) :=
  va_put (D := D) (ci := 12) (C := RX12) (T := TX12) (N := 62) (v := .int v) (ty := .boolean) C.1 C.2.1 C.2.2.2.2 hin tyX12 tyX12_ok nmX12 C.2.2.2.1 hW.1 hW.2.1 hW.2.2.1 hW.2.2.2.1 0 (fs := fM a σ) rfl rfl k (kM_lt k (by rw [hk]; decide)) hlink (fun _ h9 => h9) (finM k (by rw [hk]; decide)) ((tyX12_ok k (kM_lt k (by rw [hk]; decide))).trans (congrArg some (tyM_z k hk))) hz hf (Nat.le_of_ble_eq_true (fM_len a σ k (by rw [hk]; decide))) hdg
    (fun H1 locs1 hP hD hS => kk H1 locs1 _ rfl ⟨hW.1, by rw [← wM_pi h a cs σ v k (by rw [hk]; decide)]; exact hP, by rw [← wM_pi h a cs σ v k (by rw [hk]; decide)]; exact hD, hS, hW.2.2.2.2⟩)
theorem M_putl (C : Cx p s m args c cc nL Ts RX12) (hin : ∀ w ∈ wsX120, w ∈ Ts) (hW : GW Ev D (tyM cs) (wM h a cs) A s σ H locs) (k : Nat) {v : Int64} (hk : kM k = 2) (hlink : (Cond.fieldLink RX12 index (TX12 k).1 (TX12 k).2.1 (TX12 k).2.2.1).before args s = true) (hdg : decode cc pc = .ok (.putfield index, 3))
    (kk : ∀ (H1 : Heap) (locs1 : List Loc) (σ1 : St), σ1 = s2 σ k 0 v → GW Ev D (tyM cs) (wM h a cs) A s σ1 H1 locs1 → W p l e R s m args below meth c H1 locs1 cells slots Q (F0 m (pc + 3) ls rest)) : W p l e R s m args below meth c H locs cells slots Q (F0 m pc ls (.long v :: .ref h :: rest)) :=
  va_put (D := D) (ci := 12) (C := RX12) (T := TX12) (N := 62) (v := .long v) (ty := .long) C.1 C.2.1 C.2.2.2.2 hin tyX12 tyX12_ok nmX12 C.2.2.2.1 hW.1 hW.2.1 hW.2.2.1 hW.2.2.2.1 0 (fs := fM a σ) rfl rfl k (kM_lt k (by rw [hk]; decide)) hlink (fun _ h9 => h9) (finM k (by rw [hk]; decide)) ((tyX12_ok k (kM_lt k (by rw [hk]; decide))).trans (congrArg some (tyM_l k hk))) rfl rfl (Nat.le_of_ble_eq_true (fM_len a σ k (by rw [hk]; decide))) hdg
    (fun H1 locs1 hP hD hS => kk H1 locs1 _ rfl ⟨hW.1, by rw [← wM_pl h a cs σ v k hk]; exact hP, by rw [← wM_pl h a cs σ v k hk]; exact hD, hS, hW.2.2.2.2⟩)
theorem M_ldI (C : Cx p s m args c cc nL Ts RX12) (hW : GW Ev D (tyM cs) (wM h a cs) A s σ H locs) (k : Nat) (hk : kM k = 3) {i : Int32} (hi : vp_in i (lM k)) (hdg : decode cc pc = .ok (.iaload, 1))
    (kk : W p l e R s m args below meth c H locs cells slots Q (F0 m (pc + 1) ls (.int (σ.1 k i.toNatClampNeg) :: rest))) : W p l e R s m args below meth c H locs cells slots Q (F0 m pc ls (.int i :: .ref (a k) :: rest)) :=
  va_iald C.1 C.2.1 hW.1 hW.2.1 (pM k) 1 (wM_aI h a cs σ k hk) rfl hi hdg kk
theorem M_stI (C : Cx p s m args c cc nL Ts RX12) (hW : GW Ev D (tyM cs) (wM h a cs) A s σ H locs) (k : Nat) (hk : kM k = 3) {i x : Int32} (hi : vp_in i (lM k)) (hdg : decode cc pc = .ok (.iastore, 1))
    (kk : ∀ (H1 : Heap) (locs1 : List Loc) (σ1 : St), σ1 = s1 σ k i.toNatClampNeg x → GW Ev D (tyM cs) (wM h a cs) A s σ1 H1 locs1 → W p l e R s m args below meth c H1 locs1 cells slots Q (F0 m (pc + 1) ls rest)) : W p l e R s m args below meth c H locs cells slots Q (F0 m pc ls (.int x :: .int i :: .ref (a k) :: rest)) :=
  va_iast C.1 C.2.1 hW.1 hW.2.1 hW.2.2.1 hW.2.2.2.1 (pM k) 1 (wM_aI h a cs σ k hk) rfl hi hdg
    (fun H1 locs1 hP hD hS => kk H1 locs1 _ rfl ⟨hW.1, by rw [← wM_sI h a cs σ i.toNatClampNeg x k hk]; exact hP, by rw [← wM_sI h a cs σ i.toNatClampNeg x k hk]; exact hD, hS, hW.2.2.2.2⟩)
theorem M_ldB (C : Cx p s m args c cc nL Ts RX12) (hW : GW Ev D (tyM cs) (wM h a cs) A s σ H locs) (k : Nat) (hk : kM k = 4) {i : Int32} (hi : vp_in i (lM k)) (hdg : decode cc pc = .ok (.baload, 1))
    (kk : W p l e R s m args below meth c H locs cells slots Q (F0 m (pc + 1) ls (.int (σ.1 k i.toNatClampNeg) :: rest))) : W p l e R s m args below meth c H locs cells slots Q (F0 m pc ls (.int i :: .ref (a k) :: rest)) :=
  va_bald C.1 C.2.1 hW.1 hW.2.1 (pM k) 0 (wM_aB h a cs σ k hk) rfl hi hdg kk
theorem M_stB (C : Cx p s m args c cc nL Ts RX12) (hW : GW Ev D (tyM cs) (wM h a cs) A s σ H locs) (k : Nat) (hk : kM k = 4) {i x : Int32} (hi : vp_in i (lM k)) (hdg : decode cc pc = .ok (.bastore, 1))
    (kk : ∀ (H1 : Heap) (locs1 : List Loc) (σ1 : St), σ1 = s1 σ k i.toNatClampNeg (vp_nar .byte x) → GW Ev D (tyM cs) (wM h a cs) A s σ1 H1 locs1 → W p l e R s m args below meth c H1 locs1 cells slots Q (F0 m (pc + 1) ls rest)) : W p l e R s m args below meth c H locs cells slots Q (F0 m pc ls (.int x :: .int i :: .ref (a k) :: rest)) :=
  va_bast C.1 C.2.1 hW.1 hW.2.1 hW.2.2.1 hW.2.2.2.1 (pM k) 0 (wM_aB h a cs σ k hk) rfl hi hdg
    (fun H1 locs1 hP hD hS => kk H1 locs1 _ rfl ⟨hW.1, by rw [← wM_sB h a cs σ i.toNatClampNeg (vp_nar .byte x) k hk]; exact hP, by rw [← wM_sB h a cs σ i.toNatClampNeg (vp_nar .byte x) k hk]; exact hD, hS, hW.2.2.2.2⟩)
theorem M_ldZ (C : Cx p s m args c cc nL Ts RX12) (hW : GW Ev D (tyM cs) (wM h a cs) A s σ H locs) (k : Nat) (hk : kM k = 6) {i : Int32} (hi : vp_in i (lM k)) (hdg : decode cc pc = .ok (.baload, 1))
    (kk : W p l e R s m args below meth c H locs cells slots Q (F0 m (pc + 1) ls (.int (σ.1 k i.toNatClampNeg) :: rest))) : W p l e R s m args below meth c H locs cells slots Q (F0 m pc ls (.int i :: .ref (a k) :: rest)) :=
  va_zald C.1 C.2.1 hW.1 hW.2.1 (pM k) 3 (wM_aZ h a cs σ k hk) rfl hi hdg kk
theorem M_stZ (C : Cx p s m args c cc nL Ts RX12) (hW : GW Ev D (tyM cs) (wM h a cs) A s σ H locs) (k : Nat) (hk : kM k = 6) {i x : Int32} (hi : vp_in i (lM k)) (hdg : decode cc pc = .ok (.bastore, 1))
    (kk : ∀ (H1 : Heap) (locs1 : List Loc) (σ1 : St), σ1 = s1 σ k i.toNatClampNeg (vp_nar .boolean x) → GW Ev D (tyM cs) (wM h a cs) A s σ1 H1 locs1 → W p l e R s m args below meth c H1 locs1 cells slots Q (F0 m (pc + 1) ls rest)) : W p l e R s m args below meth c H locs cells slots Q (F0 m pc ls (.int x :: .int i :: .ref (a k) :: rest)) :=
  va_zast C.1 C.2.1 hW.1 hW.2.1 hW.2.2.1 hW.2.2.2.1 (pM k) 3 (wM_aZ h a cs σ k hk) rfl hi hdg
    (fun H1 locs1 hP hD hS => kk H1 locs1 _ rfl ⟨hW.1, by rw [← wM_sZ h a cs σ i.toNatClampNeg (vp_nar .boolean x) k hk]; exact hP, by rw [← wM_sZ h a cs σ i.toNatClampNeg (vp_nar .boolean x) k hk]; exact hD, hS, hW.2.2.2.2⟩)
theorem M_ldJ (C : Cx p s m args c cc nL Ts RX12) (hW : GW Ev D (tyM cs) (wM h a cs) A s σ H locs) (k : Nat) (hk : kM k = 5) {i : Int32} (hi : vp_in i (lM k)) (hdg : decode cc pc = .ok (.laload, 1))
    (kk : W p l e R s m args below meth c H locs cells slots Q (F0 m (pc + 1) ls (.long (σ.2 k i.toNatClampNeg) :: rest))) : W p l e R s m args below meth c H locs cells slots Q (F0 m pc ls (.int i :: .ref (a k) :: rest)) :=
  va_lald C.1 C.2.1 hW.1 hW.2.1 (pM k) 2 (wM_aJ h a cs σ k hk) rfl hi hdg kk
theorem M_stJ (C : Cx p s m args c cc nL Ts RX12) (hW : GW Ev D (tyM cs) (wM h a cs) A s σ H locs) (k : Nat) (hk : kM k = 5) {i : Int32} {x : Int64} (hi : vp_in i (lM k)) (hdg : decode cc pc = .ok (.lastore, 1))
    (kk : ∀ (H1 : Heap) (locs1 : List Loc) (σ1 : St), σ1 = s2 σ k i.toNatClampNeg x → GW Ev D (tyM cs) (wM h a cs) A s σ1 H1 locs1 → W p l e R s m args below meth c H1 locs1 cells slots Q (F0 m (pc + 1) ls rest)) : W p l e R s m args below meth c H locs cells slots Q (F0 m pc ls (.long x :: .int i :: .ref (a k) :: rest)) :=
  va_last C.1 C.2.1 hW.1 hW.2.1 hW.2.2.1 hW.2.2.2.1 (pM k) 2 (wM_aJ h a cs σ k hk) rfl hi hdg
    (fun H1 locs1 hP hD hS => kk H1 locs1 _ rfl ⟨hW.1, by rw [← wM_sJ h a cs σ i.toNatClampNeg x k hk]; exact hP, by rw [← wM_sJ h a cs σ i.toNatClampNeg x k hk]; exact hD, hS, hW.2.2.2.2⟩)
end MR
