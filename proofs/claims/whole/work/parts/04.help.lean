theorem ts_n {x k : Int32} {z : Int} (hz : k.toInt = z) (h : ¬ x = k) : ¬ x.toInt = z := fun q => h (Int32.toInt_inj.mp (q.trans hz.symm))
def bnd {α β : Type} (o : Option α) (k : α → Option β) : Option β := match o with
  | none => none
  | some q => k q
theorem bnd_st {α β : Type} {X : β} {o : Option α} {k : α → Option β} (h : some X = bnd o k) : ∃ q, o = some q ∧ some X = k q := by
  cases o with
  | none => cases h
  | some q => exact ⟨q, rfl, h⟩
def bnd2 {α β γ : Type} (o : Option (α × β)) (k : α → β → Option γ) : Option γ := match o with
  | none => none
  | some q => k q.1 q.2
theorem bnd2_st {α β γ : Type} {X : γ} {o : Option (α × β)} {k : α → β → Option γ} (h : some X = bnd2 o k) : ∃ r u, o = some (r, u) ∧ some X = k r u := by
  cases o with
  | none => cases h
  | some q => exact ⟨q.1, q.2, rfl, h⟩
def chkI {β : Type} (i : Int32) (n : Nat) (k : Option β) : Option β := if ¬ i < 0 ∧ i.toNatClampNeg < n then k else none
theorem chkI_st {β : Type} {X : β} {i : Int32} {n : Nat} {k : Option β} (h : some X = chkI i n k) : vp_in i n ∧ some X = k := by
  unfold chkI at h
  by_cases q : ¬ i < 0 ∧ i.toNatClampNeg < n
  · rw [if_pos q] at h
    exact ⟨fun z => z.elim q.1 (fun z => absurd q.2 (Nat.not_lt.mpr z)), h⟩
  · rw [if_neg q] at h
    cases h
def chkP {β : Type} (c : Prop) [Decidable c] (k : Option β) : Option β := if c then k else none
theorem chkP_st {β : Type} {X : β} {c : Prop} {dc : Decidable c} {k : Option β} (h : some X = @chkP β c dc k) : c ∧ some X = k := by
  unfold chkP at h
  by_cases q : c
  · rw [if_pos q] at h
    exact ⟨q, h⟩
  · rw [if_neg q] at h
    cases h
def chkZ {β : Type} (v : Int32) (k : Option β) : Option β := if v = 0 ∨ v = 1 then k else none
theorem chkZ_st {β : Type} {X : β} {v : Int32} {k : Option β} (h : some X = chkZ v k) : (narrow .boolean (.int v) = .int v ∧ fits .boolean (.int v) = true) ∧ some X = k := by
  unfold chkZ at h
  by_cases q : v = 0 ∨ v = 1
  · rw [if_pos q] at h
    refine ⟨?_, h⟩
    rcases q with rfl | rfl
    · exact ⟨rfl, rfl⟩
    · exact ⟨rfl, rfl⟩
  · rw [if_neg q] at h
    cases h
section GR0
variable {S : Type} {Ev : EvT} {p : Program} {l : Launch} {e : Env} {R : Room} {s : State} {m : MethodId} {args : Array Value} {below : List Frame} {meth : Method} {c : Code} {H : Heap} {locs : List Loc} {cells slots : Nat} {Q : State → Prop}
variable {cc : ByteArray} {pc : Nat} {ls : Array Slot} {rest : List Value} {D : va_G} {tys : List (ClassId × FieldType)} {w : S → va_W} {A : Nat → Prop} {σ : S}
variable {nL : Nat} {Ts : List Cond} {own : String} {y : MethodName} {ws : List Cond} {rm : Room} {n index : Nat} {bytes : ByteArray} {maxL : Nat} {ret : Option FieldType} {CC : String} {b : Addr} {As : List Value}
theorem G_V0i {post : Int32 → S → Prop} {st0 : List Value} (C : Cx p s m args c cc nL Ts own) (hW : GW Ev D tys w A s σ H locs) (hM : cGi Ev l D tys w y ws rm 0 0 (.ref b :: As) σ post) (cw : CallW R s args own CC index y bytes maxL ret ws rm 0 0 n) (hrv : ∃ cellB : Cell, H[b]? = some cellB ∧ cellB.vm.isStatics = false ∧ s.vm.findClass CC = some cellB.cls) (hn : As.length = n) (hls : ls.size = nL) (hst : st0 = As.reverse ++ .ref b :: rest) (hW8 : (rest.map fun v => v.category).sum ≤ 8) (hdg : decode cc pc = .ok (.invokevirtual index, 3))
    (kk : ∀ (r : Int32) (u : S) (H1 : Heap) (locs1 : List Loc), post r u → GW Ev D tys w A s u H1 locs1 → W p l e R s m args below meth c H1 locs1 0 0 Q (F0 m (pc + 3) ls (.int r :: rest))) : W p l e R s m args below meth c H locs 0 0 Q (F0 m pc ls st0) := G_Vi C hW hM cw hrv hn hls hst hW8 hdg ⟨Nat.zero_le _, Nat.zero_le _⟩ kk
theorem G_S0i {post : Int32 → S → Prop} {st0 : List Value} (C : Cx p s m args c cc nL Ts own) (hW : GW Ev D tys w A s σ H locs) (hM : cGi Ev l D tys w y ws rm 0 0 As σ post) (cw : CallB R s args own index y bytes maxL ret ws rm 0 0 n ∧ (Cond.static y).before args s = true) (hn : As.length = n) (hls : ls.size = nL) (hst : st0 = As.reverse ++ rest) (hW8 : (rest.map fun v => v.category).sum ≤ 8) (hdg : decode cc pc = .ok (.invokestatic index, 3))
    (kk : ∀ (r : Int32) (u : S) (H1 : Heap) (locs1 : List Loc), post r u → GW Ev D tys w A s u H1 locs1 → W p l e R s m args below meth c H1 locs1 0 0 Q (F0 m (pc + 3) ls (.int r :: rest))) : W p l e R s m args below meth c H locs 0 0 Q (F0 m pc ls st0) := G_Si C hW hM cw hn hls hst hW8 hdg ⟨Nat.zero_le _, Nat.zero_le _⟩ kk
theorem G_V0l {post : Int64 → S → Prop} {st0 : List Value} (C : Cx p s m args c cc nL Ts own) (hW : GW Ev D tys w A s σ H locs) (hM : cGl Ev l D tys w y ws rm 0 0 (.ref b :: As) σ post) (cw : CallW R s args own CC index y bytes maxL ret ws rm 0 0 n) (hrv : ∃ cellB : Cell, H[b]? = some cellB ∧ cellB.vm.isStatics = false ∧ s.vm.findClass CC = some cellB.cls) (hn : As.length = n) (hls : ls.size = nL) (hst : st0 = As.reverse ++ .ref b :: rest) (hW8 : (rest.map fun v => v.category).sum ≤ 8) (hdg : decode cc pc = .ok (.invokevirtual index, 3))
    (kk : ∀ (r : Int64) (u : S) (H1 : Heap) (locs1 : List Loc), post r u → GW Ev D tys w A s u H1 locs1 → W p l e R s m args below meth c H1 locs1 0 0 Q (F0 m (pc + 3) ls (.long r :: rest))) : W p l e R s m args below meth c H locs 0 0 Q (F0 m pc ls st0) := G_Vl C hW hM cw hrv hn hls hst hW8 hdg ⟨Nat.zero_le _, Nat.zero_le _⟩ kk
theorem G_S0l {post : Int64 → S → Prop} {st0 : List Value} (C : Cx p s m args c cc nL Ts own) (hW : GW Ev D tys w A s σ H locs) (hM : cGl Ev l D tys w y ws rm 0 0 As σ post) (cw : CallB R s args own index y bytes maxL ret ws rm 0 0 n ∧ (Cond.static y).before args s = true) (hn : As.length = n) (hls : ls.size = nL) (hst : st0 = As.reverse ++ rest) (hW8 : (rest.map fun v => v.category).sum ≤ 8) (hdg : decode cc pc = .ok (.invokestatic index, 3))
    (kk : ∀ (r : Int64) (u : S) (H1 : Heap) (locs1 : List Loc), post r u → GW Ev D tys w A s u H1 locs1 → W p l e R s m args below meth c H1 locs1 0 0 Q (F0 m (pc + 3) ls (.long r :: rest))) : W p l e R s m args below meth c H locs 0 0 Q (F0 m pc ls st0) := G_Sl C hW hM cw hn hls hst hW8 hdg ⟨Nat.zero_le _, Nat.zero_le _⟩ kk
theorem G_V0q {post : Option Nat → S → Prop} {st0 : List Value} (C : Cx p s m args c cc nL Ts own) (hW : GW Ev D tys w A s σ H locs) (hM : cGq Ev l D tys w y ws rm 0 0 (.ref b :: As) σ post) (cw : CallW R s args own CC index y bytes maxL ret ws rm 0 0 n) (hrv : ∃ cellB : Cell, H[b]? = some cellB ∧ cellB.vm.isStatics = false ∧ s.vm.findClass CC = some cellB.cls) (hn : As.length = n) (hls : ls.size = nL) (hst : st0 = As.reverse ++ .ref b :: rest) (hW8 : (rest.map fun v => v.category).sum ≤ 8) (hdg : decode cc pc = .ok (.invokevirtual index, 3))
    (kk : ∀ (r : Option Nat) (u : S) (H1 : Heap) (locs1 : List Loc), post r u → GW Ev D tys w A s u H1 locs1 → W p l e R s m args below meth c H1 locs1 0 0 Q (F0 m (pc + 3) ls (va_rf r :: rest))) : W p l e R s m args below meth c H locs 0 0 Q (F0 m pc ls st0) := G_Vq C hW hM cw hrv hn hls hst hW8 hdg ⟨Nat.zero_le _, Nat.zero_le _⟩ kk
theorem G_S0q {post : Option Nat → S → Prop} {st0 : List Value} (C : Cx p s m args c cc nL Ts own) (hW : GW Ev D tys w A s σ H locs) (hM : cGq Ev l D tys w y ws rm 0 0 As σ post) (cw : CallB R s args own index y bytes maxL ret ws rm 0 0 n ∧ (Cond.static y).before args s = true) (hn : As.length = n) (hls : ls.size = nL) (hst : st0 = As.reverse ++ rest) (hW8 : (rest.map fun v => v.category).sum ≤ 8) (hdg : decode cc pc = .ok (.invokestatic index, 3))
    (kk : ∀ (r : Option Nat) (u : S) (H1 : Heap) (locs1 : List Loc), post r u → GW Ev D tys w A s u H1 locs1 → W p l e R s m args below meth c H1 locs1 0 0 Q (F0 m (pc + 3) ls (va_rf r :: rest))) : W p l e R s m args below meth c H locs 0 0 Q (F0 m pc ls st0) := G_Sq C hW hM cw hn hls hst hW8 hdg ⟨Nat.zero_le _, Nat.zero_le _⟩ kk
theorem G_V0v {post : S → Prop} {st0 : List Value} (C : Cx p s m args c cc nL Ts own) (hW : GW Ev D tys w A s σ H locs) (hM : cGv Ev l D tys w y ws rm 0 0 (.ref b :: As) σ post) (cw : CallW R s args own CC index y bytes maxL ret ws rm 0 0 n) (hrv : ∃ cellB : Cell, H[b]? = some cellB ∧ cellB.vm.isStatics = false ∧ s.vm.findClass CC = some cellB.cls) (hn : As.length = n) (hls : ls.size = nL) (hst : st0 = As.reverse ++ .ref b :: rest) (hW8 : (rest.map fun v => v.category).sum ≤ 8) (hdg : decode cc pc = .ok (.invokevirtual index, 3))
    (kk : ∀ (u : S) (H1 : Heap) (locs1 : List Loc), post u → GW Ev D tys w A s u H1 locs1 → W p l e R s m args below meth c H1 locs1 0 0 Q (F0 m (pc + 3) ls (rest))) : W p l e R s m args below meth c H locs 0 0 Q (F0 m pc ls st0) := G_Vv C hW hM cw hrv hn hls hst hW8 hdg ⟨Nat.zero_le _, Nat.zero_le _⟩ kk
theorem G_S0v {post : S → Prop} {st0 : List Value} (C : Cx p s m args c cc nL Ts own) (hW : GW Ev D tys w A s σ H locs) (hM : cGv Ev l D tys w y ws rm 0 0 As σ post) (cw : CallB R s args own index y bytes maxL ret ws rm 0 0 n ∧ (Cond.static y).before args s = true) (hn : As.length = n) (hls : ls.size = nL) (hst : st0 = As.reverse ++ rest) (hW8 : (rest.map fun v => v.category).sum ≤ 8) (hdg : decode cc pc = .ok (.invokestatic index, 3))
    (kk : ∀ (u : S) (H1 : Heap) (locs1 : List Loc), post u → GW Ev D tys w A s u H1 locs1 → W p l e R s m args below meth c H1 locs1 0 0 Q (F0 m (pc + 3) ls (rest))) : W p l e R s m args below meth c H locs 0 0 Q (F0 m pc ls st0) := G_Sv C hW hM cw hn hls hst hW8 hdg ⟨Nat.zero_le _, Nat.zero_le _⟩ kk
theorem G_S0s {x : Int32} {st0 : List Value} (C : Cx p s m args c cc nL Ts own) (hW : GW Ev D tys w A s σ H locs) (hM : cGi Ev l D tys w y ws rm 0 0 As σ (fun r u => r = x ∧ u = σ)) (cw : CallB R s args own index y bytes maxL ret ws rm 0 0 n ∧ (Cond.static y).before args s = true) (hn : As.length = n) (hls : ls.size = nL) (hst : st0 = As.reverse ++ rest) (hW8 : (rest.map fun v => v.category).sum ≤ 8) (hdg : decode cc pc = .ok (.invokestatic index, 3))
    (kk : ∀ (H1 : Heap) (locs1 : List Loc), GW Ev D tys w A s σ H1 locs1 → W p l e R s m args below meth c H1 locs1 0 0 Q (F0 m (pc + 3) ls (.int x :: rest))) : W p l e R s m args below meth c H locs 0 0 Q (F0 m pc ls st0) := G_S0i C hW hM cw hn hls hst hW8 hdg (fun r u H1 locs1 hu h1 => by obtain ⟨h2, h3⟩ := hu; subst h2; rw [h3] at h1; exact kk H1 locs1 h1)
theorem G_V0e {x : Int32} {v : S} {st0 : List Value} (C : Cx p s m args c cc nL Ts own) (hW : GW Ev D tys w A s σ H locs) (hM : cGi Ev l D tys w y ws rm 0 0 (.ref b :: As) σ (fun r u => (r, u) = (x, v))) (cw : CallW R s args own CC index y bytes maxL ret ws rm 0 0 n) (hrv : ∃ cellB : Cell, H[b]? = some cellB ∧ cellB.vm.isStatics = false ∧ s.vm.findClass CC = some cellB.cls) (hn : As.length = n) (hls : ls.size = nL) (hst : st0 = As.reverse ++ .ref b :: rest) (hW8 : (rest.map fun v => v.category).sum ≤ 8) (hdg : decode cc pc = .ok (.invokevirtual index, 3))
    (kk : ∀ (H1 : Heap) (locs1 : List Loc), GW Ev D tys w A s v H1 locs1 → W p l e R s m args below meth c H1 locs1 0 0 Q (F0 m (pc + 3) ls (.int x :: rest))) : W p l e R s m args below meth c H locs 0 0 Q (F0 m pc ls st0) := G_V0i C hW hM cw hrv hn hls hst hW8 hdg (fun r u H1 locs1 hu h1 => by obtain ⟨h2, h3⟩ := Prod.mk.inj hu; subst h2; rw [h3] at h1; exact kk H1 locs1 h1)
theorem G_V0p {x : Int32} {st0 : List Value} (C : Cx p s m args c cc nL Ts own) (hW : GW Ev D tys w A s σ H locs) (hM : cGi Ev l D tys w y ws rm 0 0 (.ref b :: As) σ (fun r u => r = x ∧ u = σ)) (cw : CallW R s args own CC index y bytes maxL ret ws rm 0 0 n) (hrv : ∃ cellB : Cell, H[b]? = some cellB ∧ cellB.vm.isStatics = false ∧ s.vm.findClass CC = some cellB.cls) (hn : As.length = n) (hls : ls.size = nL) (hst : st0 = As.reverse ++ .ref b :: rest) (hW8 : (rest.map fun v => v.category).sum ≤ 8) (hdg : decode cc pc = .ok (.invokevirtual index, 3))
    (kk : ∀ (H1 : Heap) (locs1 : List Loc), GW Ev D tys w A s σ H1 locs1 → W p l e R s m args below meth c H1 locs1 0 0 Q (F0 m (pc + 3) ls (.int x :: rest))) : W p l e R s m args below meth c H locs 0 0 Q (F0 m pc ls st0) := G_V0i C hW hM cw hrv hn hls hst hW8 hdg (fun r u H1 locs1 hu h1 => by obtain ⟨h2, h3⟩ := hu; subst h2; rw [h3] at h1; exact kk H1 locs1 h1)
theorem G_V0u {v : S} {st0 : List Value} (C : Cx p s m args c cc nL Ts own) (hW : GW Ev D tys w A s σ H locs) (hM : cGv Ev l D tys w y ws rm 0 0 (.ref b :: As) σ (fun u => u = v)) (cw : CallW R s args own CC index y bytes maxL ret ws rm 0 0 n) (hrv : ∃ cellB : Cell, H[b]? = some cellB ∧ cellB.vm.isStatics = false ∧ s.vm.findClass CC = some cellB.cls) (hn : As.length = n) (hls : ls.size = nL) (hst : st0 = As.reverse ++ .ref b :: rest) (hW8 : (rest.map fun v => v.category).sum ≤ 8) (hdg : decode cc pc = .ok (.invokevirtual index, 3))
    (kk : ∀ (H1 : Heap) (locs1 : List Loc), GW Ev D tys w A s v H1 locs1 → W p l e R s m args below meth c H1 locs1 0 0 Q (F0 m (pc + 3) ls rest)) : W p l e R s m args below meth c H locs 0 0 Q (F0 m pc ls st0) := G_V0v C hW hM cw hrv hn hls hst hW8 hdg (fun u H1 locs1 hu h1 => by rw [hu] at h1; exact kk H1 locs1 h1)
end GR0
