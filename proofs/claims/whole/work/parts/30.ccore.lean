/-! the class's state: numbers, longs and references by class, field and object (of a row: by class, row and place), lengths of rows -/
abbrev TH : Type := (Nat → Nat → Nat → Int32) × (Nat → Nat → Nat → Int64) × (Nat → Nat → Nat → Option Nat) × (Nat → Nat → Nat)
def tS (t : TH) : Nat → Nat → Nat → Int32 := t.1
def tL (t : TH) : Nat → Nat → Nat → Int64 := t.2.1
def tP (t : TH) : Nat → Nat → Nat → Option Nat := t.2.2.1
def tN (t : TH) : Nat → Nat → Nat := t.2.2.2
def up3 {α : Type} (g : Nat → Nat → Nat → α) (c f i : Nat) (v : α) : Nat → Nat → Nat → α := fun c' => if c' = c then (fun f' => if f' = f then va_up (g c f) i v else g c f') else g c'
def uS (t : TH) (c f i : Nat) (v : Int32) : TH := (up3 (tS t) c f i v, t.2)
def uL (t : TH) (c f i : Nat) (v : Int64) : TH := (t.1, up3 (tL t) c f i v, t.2.2)
def uP (t : TH) (c f i : Nat) (v : Option Nat) : TH := (t.1, t.2.1, up3 (tP t) c f i v, t.2.2.2)
abbrev AD : Type := Nat → Nat → Nat
theorem up3_ne {α : Type} {g : Nat → Nat → Nat → α} {c f i c' : Nat} {v : α} (h : ¬ c' = c) : up3 g c f i v c' = g c' := by simp [up3, h]
theorem up3_eq {α : Type} {g : Nat → Nat → Nat → α} {c f i : Nat} {v : α} : up3 g c f i v c f i = v := by simp [up3, va_up]
theorem up3_nf {α : Type} {g : Nat → Nat → Nat → α} {c f i f' : Nat} {v : α} (h : ¬ f' = f) : up3 g c f i v c f' = g c f' := by simp [up3, h]
theorem up3_ni {α : Type} {g : Nat → Nat → Nat → α} {c f i f' i' : Nat} {v : α} (h : ¬ i' = i) : up3 g c f i v c f' i' = g c f' i' := by
  by_cases q : f' = f
  · subst q; simp [up3, va_up, h]
  · rw [up3_nf q]
theorem up3_row {α : Type} {g : Nat → Nat → Nat → α} {c f i : Nat} {v : α} : up3 g c f i v c f = va_up (g c f) i v := by simp [up3]
def fC0 (ad : AD) (t : TH) (i : Nat) : List Value := [.ref (ad 6 0), .ref (ad 14 0), .ref (ad 14 1)]
def fC1 (ad : AD) (t : TH) (i : Nat) : List Value := [.int (tS t 1 0 i), va_re (ad 7) (tP t 1 1 i), .int (tS t 1 2 i), .int (tS t 1 3 i), .int (tS t 1 4 i), va_re (ad 10) (tP t 1 5 i), .int (tS t 1 6 i), .int (tS t 1 7 i), .int (tS t 1 8 i), .int (tS t 1 9 i)]
def fC2 (ad : AD) (t : TH) (i : Nat) : List Value := [.ref (ad 4 0), .ref (ad 16 0), .ref (ad 16 1), .int (tS t 2 3 i), .int (tS t 2 4 i), .int (tS t 2 5 i)]
def fC3 (ad : AD) (t : TH) (i : Nat) : List Value := [.ref (ad 13 1), .ref (ad 13 2), .ref (ad 15 0), .int (tS t 3 3 i)]
def fC4 (ad : AD) (t : TH) (i : Nat) : List Value := [.int (tS t 4 0 i), .int (tS t 4 1 i), .int (tS t 4 2 i), .int (tS t 4 3 i), .int (tS t 4 4 i), .int (tS t 4 5 i)]
def fC5 (ad : AD) (t : TH) (i : Nat) : List Value := [.ref (ad 9 0), .ref (ad 4 1), .int (tS t 5 2 i), .int (tS t 5 3 i), .int (tS t 5 4 i), .int (tS t 5 5 i), .int (tS t 5 6 i), .int (tS t 5 7 i), .int (tS t 5 8 i)]
def fC6 (ad : AD) (t : TH) (i : Nat) : List Value := [.ref (ad 15 1), .int (tS t 6 1 i)]
def fC7 (ad : AD) (t : TH) (i : Nat) : List Value := [.int (tS t 7 0 i), .int (tS t 7 1 i), .int (tS t 7 2 i), .int (tS t 7 3 i), .ref (ad 17 i), .ref (ad 18 i), .int (tS t 7 6 i), .int (tS t 7 7 i), .int (tS t 7 8 i), .int (tS t 7 9 i), .int (tS t 7 10 i), .int (tS t 7 11 i), .long (tL t 7 12 i), .int (tS t 7 13 i), .int (tS t 7 14 i)]
def fC8 (ad : AD) (t : TH) (i : Nat) : List Value := [.ref (ad 3 0), .ref (ad 6 0), .int (tS t 8 2 i), .int (tS t 8 3 i)]
def fC9 (ad : AD) (t : TH) (i : Nat) : List Value := [.ref (ad 13 0), .int (tS t 9 1 i)]
def fC10 (ad : AD) (t : TH) (i : Nat) : List Value := [.int (tS t 10 0 i), .int (tS t 10 1 i), .int (tS t 10 2 i), va_re (ad 10) (tP t 10 3 i)]
def fC11 (ad : AD) (t : TH) (i : Nat) : List Value := [.ref (ad 9 0), .ref (ad 3 0), .ref (ad 6 0), .ref (ad 8 0), .ref (ad 4 0), .ref (ad 5 0), .ref (ad 2 0), .ref (ad 0 0), .int (tS t 11 8 i)]
def cellC (cs : Nat → ClassId) (ad : AD) (t : TH) (c i : Nat) : va_E := match c with
  | 0 => .inr (0, fC0 ad t i)
  | 1 => .inr (1, fC1 ad t i)
  | 2 => .inr (2, fC2 ad t i)
  | 3 => .inr (3, fC3 ad t i)
  | 4 => .inr (4, fC4 ad t i)
  | 5 => .inr (5, fC5 ad t i)
  | 6 => .inr (6, fC6 ad t i)
  | 7 => .inr (7, fC7 ad t i)
  | 8 => .inr (8, fC8 ad t i)
  | 9 => .inr (9, fC9 ad t i)
  | 10 => .inr (10, fC10 ad t i)
  | 11 => .inr (11, fC11 ad t i)
  | 13 => .inl (cs 1, tN t 13 i, .inl (tS t 13 i))
  | 14 => .inl (cs 2, tN t 14 i, .inr (.inl (tL t 14 i)))
  | 15 => .inl (cs 4, tN t 15 i, .inr (.inr (.inr (.inr (fun e => (tP t 15 i e).map (ad 7))))))
  | 16 => .inl (cs 5, tN t 16 i, .inr (.inr (.inr (.inr (fun e => (tP t 16 i e).map (ad 1))))))
  | 17 => .inl (cs 1, tN t 17 i, .inl (tS t 17 i))
  | 18 => .inl (cs 1, tN t 18 i, .inl (tS t 18 i))
  | _ => .inr (0, [])
def wC (cs : Nat → ClassId) (ad : AD) (K : List (Nat × Nat)) (t : TH) : va_W := K.map (fun k => (ad k.1 k.2, cellC cs ad t k.1 k.2))
abbrev tyC (cs : Nat → ClassId) : List (ClassId × FieldType) := tyM cs
def fixK : List (Nat × Nat) := [(0, 0), (2, 0), (3, 0), (4, 0), (4, 1), (5, 0), (6, 0), (8, 0), (9, 0), (11, 0), (13, 0), (13, 1), (13, 2), (14, 0), (14, 1), (15, 0), (15, 1), (16, 0), (16, 1)]
def KS (K : List (Nat × Nat)) : Prop := (∀ k ∈ fixK, k ∈ K) ∧ ∀ j, (7, j) ∈ K → (17, j) ∈ K ∧ (18, j) ∈ K
theorem KS.k0_0 {K : List (Nat × Nat)} (h : KS K) : (0, 0) ∈ K := h.1 _ (List.mem_of_getElem? (i := 0) rfl)
theorem KS.k2_0 {K : List (Nat × Nat)} (h : KS K) : (2, 0) ∈ K := h.1 _ (List.mem_of_getElem? (i := 1) rfl)
theorem KS.k3_0 {K : List (Nat × Nat)} (h : KS K) : (3, 0) ∈ K := h.1 _ (List.mem_of_getElem? (i := 2) rfl)
theorem KS.k4_0 {K : List (Nat × Nat)} (h : KS K) : (4, 0) ∈ K := h.1 _ (List.mem_of_getElem? (i := 3) rfl)
theorem KS.k4_1 {K : List (Nat × Nat)} (h : KS K) : (4, 1) ∈ K := h.1 _ (List.mem_of_getElem? (i := 4) rfl)
theorem KS.k5_0 {K : List (Nat × Nat)} (h : KS K) : (5, 0) ∈ K := h.1 _ (List.mem_of_getElem? (i := 5) rfl)
theorem KS.k6_0 {K : List (Nat × Nat)} (h : KS K) : (6, 0) ∈ K := h.1 _ (List.mem_of_getElem? (i := 6) rfl)
theorem KS.k8_0 {K : List (Nat × Nat)} (h : KS K) : (8, 0) ∈ K := h.1 _ (List.mem_of_getElem? (i := 7) rfl)
theorem KS.k9_0 {K : List (Nat × Nat)} (h : KS K) : (9, 0) ∈ K := h.1 _ (List.mem_of_getElem? (i := 8) rfl)
theorem KS.k11_0 {K : List (Nat × Nat)} (h : KS K) : (11, 0) ∈ K := h.1 _ (List.mem_of_getElem? (i := 9) rfl)
theorem KS.k13_0 {K : List (Nat × Nat)} (h : KS K) : (13, 0) ∈ K := h.1 _ (List.mem_of_getElem? (i := 10) rfl)
theorem KS.k13_1 {K : List (Nat × Nat)} (h : KS K) : (13, 1) ∈ K := h.1 _ (List.mem_of_getElem? (i := 11) rfl)
theorem KS.k13_2 {K : List (Nat × Nat)} (h : KS K) : (13, 2) ∈ K := h.1 _ (List.mem_of_getElem? (i := 12) rfl)
theorem KS.k14_0 {K : List (Nat × Nat)} (h : KS K) : (14, 0) ∈ K := h.1 _ (List.mem_of_getElem? (i := 13) rfl)
theorem KS.k14_1 {K : List (Nat × Nat)} (h : KS K) : (14, 1) ∈ K := h.1 _ (List.mem_of_getElem? (i := 14) rfl)
theorem KS.k15_0 {K : List (Nat × Nat)} (h : KS K) : (15, 0) ∈ K := h.1 _ (List.mem_of_getElem? (i := 15) rfl)
theorem KS.k15_1 {K : List (Nat × Nat)} (h : KS K) : (15, 1) ∈ K := h.1 _ (List.mem_of_getElem? (i := 16) rfl)
theorem KS.k16_0 {K : List (Nat × Nat)} (h : KS K) : (16, 0) ∈ K := h.1 _ (List.mem_of_getElem? (i := 17) rfl)
theorem KS.k16_1 {K : List (Nat × Nat)} (h : KS K) : (16, 1) ∈ K := h.1 _ (List.mem_of_getElem? (i := 18) rfl)
theorem wC_pos {cs : Nat → ClassId} {ad : AD} {K : List (Nat × Nat)} {t : TH} {c i : Nat} (h : (c, i) ∈ K) : ∃ k : Nat, K[k]? = some (c, i) ∧ (wC cs ad K t)[k]? = some (ad c i, cellC cs ad t c i) := by
  obtain ⟨k, hk⟩ := List.getElem?_of_mem h
  exact ⟨k, hk, by rw [wC, List.getElem?_map, hk]; rfl⟩
theorem wC_set {cs : Nat → ClassId} {ad : AD} {K : List (Nat × Nat)} {t t' : TH} {A : Nat → Prop} {c i k : Nat} (hD : va_D A (wC cs ad K t)) (hk : K[k]? = some (c, i)) (ho : ∀ c' i', ¬ (c' = c ∧ i' = i) → cellC cs ad t' c' i' = cellC cs ad t c' i') : (wC cs ad K t).set k (ad c i, cellC cs ad t' c i) = wC cs ad K t' := by
  apply List.ext_getElem?
  intro j
  rw [List.getElem?_set]
  have hlt : k < K.length := (List.getElem?_eq_some_iff.mp hk).1
  by_cases hj : k = j
  · subst hj
    rw [if_pos rfl, if_pos (by rw [wC, List.length_map]; exact hlt), wC, List.getElem?_map, hk]
    rfl
  · rw [if_neg hj, wC, wC, List.getElem?_map, List.getElem?_map]
    cases hq : K[j]? with
    | none => rfl
    | some q =>
      have hne : ¬ (q.1 = c ∧ q.2 = i) := fun e => by
        have e2 : q = (c, i) := Prod.ext e.1 e.2
        subst e2
        refine hj (hD.1 k j (ad c i, cellC cs ad t c i) (ad c i, cellC cs ad t c i) ?_ ?_ rfl)
        · rw [wC, List.getElem?_map, hk]; rfl
        · rw [wC, List.getElem?_map, hq]; rfl
      show some (ad q.1 q.2, cellC cs ad t q.1 q.2) = some (ad q.1 q.2, cellC cs ad t' q.1 q.2)
      rw [ho q.1 q.2 hne]
/-- a cell reads what its class has -/
theorem cell_c {cs : Nat → ClassId} {ad : AD} {t t' : TH} {c i : Nat} (h1 : tS t' c = tS t c) (h2 : tL t' c = tL t c) (h3 : tP t' c = tP t c) (h4 : tN t' c = tN t c) : cellC cs ad t' c i = cellC cs ad t c i := by
  unfold cellC
  split
  · simp only [fC0, h1, h2, h3]
  · simp only [fC1, h1, h2, h3]
  · simp only [fC2, h1, h2, h3]
  · simp only [fC3, h1, h2, h3]
  · simp only [fC4, h1, h2, h3]
  · simp only [fC5, h1, h2, h3]
  · simp only [fC6, h1, h2, h3]
  · simp only [fC7, h1, h2, h3]
  · simp only [fC8, h1, h2, h3]
  · simp only [fC9, h1, h2, h3]
  · simp only [fC10, h1, h2, h3]
  · simp only [fC11, h1, h2, h3]
  · rw [h1, h4]
  · rw [h2, h4]
  · rw [h3, h4]
  · rw [h3, h4]
  · rw [h1, h4]
  · rw [h1, h4]
  · rfl
/-- an object reads what is its own -/
theorem cell_o {cs : Nat → ClassId} {ad : AD} {t t' : TH} {c i : Nat} (hc : c < 12) (h1 : ∀ f, tS t' c f i = tS t c f i) (h2 : ∀ f, tL t' c f i = tL t c f i) (h3 : ∀ f, tP t' c f i = tP t c f i) : cellC cs ad t' c i = cellC cs ad t c i := by
  unfold cellC
  split
  · simp only [fC0, h1, h2, h3]
  · simp only [fC1, h1, h2, h3]
  · simp only [fC2, h1, h2, h3]
  · simp only [fC3, h1, h2, h3]
  · simp only [fC4, h1, h2, h3]
  · simp only [fC5, h1, h2, h3]
  · simp only [fC6, h1, h2, h3]
  · simp only [fC7, h1, h2, h3]
  · simp only [fC8, h1, h2, h3]
  · simp only [fC9, h1, h2, h3]
  · simp only [fC10, h1, h2, h3]
  · simp only [fC11, h1, h2, h3]
  all_goals first | omega | rfl
/-- a row reads what is its own -/
theorem cell_r {cs : Nat → ClassId} {ad : AD} {t t' : TH} {c i : Nat} (hc : 13 ≤ c) (h1 : tS t' c i = tS t c i) (h2 : tL t' c i = tL t c i) (h3 : tP t' c i = tP t c i) (h4 : tN t' c i = tN t c i) : cellC cs ad t' c i = cellC cs ad t c i := by
  unfold cellC
  split
  · omega
  · omega
  · omega
  · omega
  · omega
  · omega
  · omega
  · omega
  · omega
  · omega
  · omega
  · omega
  · rw [h1, h4]
  · rw [h2, h4]
  · simp only [h3, h4]
  · simp only [h3, h4]
  · rw [h1, h4]
  · rw [h1, h4]
  · rfl
theorem ho_S {cs : Nat → ClassId} {ad : AD} {t : TH} {c f i : Nat} {v : Int32} (hc : c < 12) : ∀ c' i', ¬ (c' = c ∧ i' = i) → cellC cs ad (uS t c f i v) c' i' = cellC cs ad t c' i' := fun c' i' h => by
  by_cases q : c' = c
  · subst q
    exact cell_o hc (fun f' => up3_ni (fun z => h ⟨rfl, z⟩)) (fun _ => rfl) (fun _ => rfl)
  · exact cell_c (up3_ne q) rfl rfl rfl
theorem ho_L {cs : Nat → ClassId} {ad : AD} {t : TH} {c f i : Nat} {v : Int64} (hc : c < 12) : ∀ c' i', ¬ (c' = c ∧ i' = i) → cellC cs ad (uL t c f i v) c' i' = cellC cs ad t c' i' := fun c' i' h => by
  by_cases q : c' = c
  · subst q
    exact cell_o hc (fun _ => rfl) (fun f' => up3_ni (fun z => h ⟨rfl, z⟩)) (fun _ => rfl)
  · exact cell_c rfl (up3_ne q) rfl rfl
theorem ho_P {cs : Nat → ClassId} {ad : AD} {t : TH} {c f i : Nat} {v : Option Nat} (hc : c < 12) : ∀ c' i', ¬ (c' = c ∧ i' = i) → cellC cs ad (uP t c f i v) c' i' = cellC cs ad t c' i' := fun c' i' h => by
  by_cases q : c' = c
  · subst q
    exact cell_o hc (fun _ => rfl) (fun _ => rfl) (fun f' => up3_ni (fun z => h ⟨rfl, z⟩))
  · exact cell_c rfl rfl (up3_ne q) rfl
theorem hr_S {cs : Nat → ClassId} {ad : AD} {t : TH} {c j e : Nat} {v : Int32} (hc : 13 ≤ c) : ∀ c' i', ¬ (c' = c ∧ i' = j) → cellC cs ad (uS t c j e v) c' i' = cellC cs ad t c' i' := fun c' i' h => by
  by_cases q : c' = c
  · subst q
    exact cell_r hc (up3_nf (fun z => h ⟨rfl, z⟩)) rfl rfl rfl
  · exact cell_c (up3_ne q) rfl rfl rfl
theorem hr_L {cs : Nat → ClassId} {ad : AD} {t : TH} {c j e : Nat} {v : Int64} (hc : 13 ≤ c) : ∀ c' i', ¬ (c' = c ∧ i' = j) → cellC cs ad (uL t c j e v) c' i' = cellC cs ad t c' i' := fun c' i' h => by
  by_cases q : c' = c
  · subst q
    exact cell_r hc rfl (up3_nf (fun z => h ⟨rfl, z⟩)) rfl rfl
  · exact cell_c rfl (up3_ne q) rfl rfl
theorem hr_P {cs : Nat → ClassId} {ad : AD} {t : TH} {c j e : Nat} {v : Option Nat} (hc : 13 ≤ c) : ∀ c' i', ¬ (c' = c ∧ i' = j) → cellC cs ad (uP t c j e v) c' i' = cellC cs ad t c' i' := fun c' i' h => by
  by_cases q : c' = c
  · subst q
    exact cell_r hc rfl rfl (up3_nf (fun z => h ⟨rfl, z⟩)) rfl
  · exact cell_c rfl rfl (up3_ne q) rfl
theorem re_cat (ad : Nat → Nat) (o : Option Nat) : (va_re ad o).category = 1 := by cases o <;> rfl
def opt {β : Type} (o : Option Nat) (a : β) (b : Nat → β) : β := match o with
  | none => a
  | some j => b j
theorem opt_n {β : Type} {X : β} {o : Option Nat} {a : β} {b : Nat → β} (h : X = opt o a b) (ho : o = none) : X = a := by subst ho; exact h
theorem opt_s {β : Type} {X : β} {o : Option Nat} {a : β} {b : Nat → β} {j : Nat} (h : X = opt o a b) (ho : o = some j) : X = b j := by subst ho; exact h
theorem nn_st {β : Type} {X : β} {o : Option Nat} {k : Nat → Option β} (h : some X = opt o none k) : ∃ j, o = some j ∧ some X = k j := by
  cases o with
  | none => cases h
  | some j => exact ⟨j, rfl, h⟩
/-- a method that answers a reference, by its number -/
def cGe {S : Type} (Ev : EvT) (ad : Nat → Nat) (l : Launch) (D : va_G) (tys : List (ClassId × FieldType)) (w : S → va_W) (y : MethodName) (ws : List Cond) (rm : Room) (mc ms : Nat) (av : List Value) (σ : S) (post : Option Nat → S → Prop) : Prop :=
  ∀ sz : Nat, Met l y ws rm (va_Pc av (gPre Ev D tys w σ sz)) (va_Qe ad post (gPos D tys w σ sz) (va_A (w σ) sz)) mc ms (va_A (w σ) sz)
section CR
variable {Ev : EvT} {p : Program} {l : Launch} {e : Env} {R : Room} {s : State} {m : MethodId} {args : Array Value} {below : List Frame} {meth : Method} {c : Code} {H : Heap} {locs : List Loc} {cells slots : Nat} {Q : State → Prop}
variable {cc : ByteArray} {pc : Nat} {ls : Array Slot} {rest : List Value} {D : va_G} {A : Nat → Prop} {t : TH} {ad : AD} {cs : Nat → ClassId} {K : List (Nat × Nat)} {nL : Nat} {Ts : List Cond} {index : Nat} {own : String}
theorem C_recv (hW : GW Ev D (tyC cs) (wC cs ad K) A s t H locs) (ci : Nat) {i : Nat} (hk : (ci, i) ∈ K) {fs : List Value} (hcl : cellC cs ad t ci i = .inr (ci, fs)) {CC : String} {T : u_T} {N : Nat} (hc : vwCl[ci]? = some (CC, T, N)) : ∃ cellB : Cell, H[ad ci i]? = some cellB ∧ cellB.vm.isStatics = false ∧ s.vm.findClass CC = some cellB.cls := by
  obtain ⟨k, -, h2⟩ := wC_pos (cs := cs) (ad := ad) (t := t) hk
  exact G_recv hW ci k (h2.trans (by rw [hcl])) hc
theorem C_get (C : Cx p s m args c cc nL Ts own) (hW : GW Ev D (tyC cs) (wC cs ad K) A s t H locs) (ci : Nat) {Cn : String} {T : u_T} {N : Nat} (hc : vwCl[ci]? = some (Cn, T, N)) (hin : ∀ w ∈ u_ws Cn T N, w ∈ Ts) {i : Nat} (hk : (ci, i) ∈ K) {fs : List Value} (hcl : cellC cs ad t ci i = .inr (ci, fs)) (f : Nat) (hf : f < N) {v : Value} (hv : fs[f]? = some v) (hlink : (Cond.fieldLink own index (T f).1 (T f).2.1 (T f).2.2.1).before args s = true) (hdg : decode cc pc = .ok (.getfield index, 3))
    (kk : W p l e R s m args below meth c H locs cells slots Q (F0 m (pc + 3) ls (v :: rest))) : W p l e R s m args below meth c H locs cells slots Q (F0 m pc ls (.ref (ad ci i) :: rest)) := by
  obtain ⟨k, -, h2⟩ := wC_pos (cs := cs) (ad := ad) (t := t) hk
  exact va_get (D := D) (ci := ci) (C := Cn) (T := T) (N := N) C.1 C.2.1 C.2.2.2.2 hin C.2.2.2.1 hW.1 hW.2.1 k (fs := fs) (h2.trans (by rw [hcl])) hc f hf hlink (fun _ h9 => h9) hv hdg kk
theorem C_put (C : Cx p s m args c cc nL Ts own) (hW : GW Ev D (tyC cs) (wC cs ad K) A s t H locs) (ci : Nat) {Cn : String} {T : u_T} {N : Nat} (hc : vwCl[ci]? = some (Cn, T, N)) (hin : ∀ w ∈ u_ws Cn T N, w ∈ Ts) (ty0 : Nat → FieldType) (hty : ∀ k, k < N → parseFieldDescriptor (T k).2.2.1 = some (ty0 k)) (hnm : ∀ a, a < N → ∀ b, b < N → a ≠ b → (T a).2.1 ≠ (T b).2.1) {i : Nat} (hk : (ci, i) ∈ K) {fs : List Value} (hcl : cellC cs ad t ci i = .inr (ci, fs)) (f : Nat) (hf : f < N) {v : Value} (hfin : (T f).2.2.2 = false) (hn : narrow (ty0 f) v = v) (hfit : fits (ty0 f) v = true) (hl : f < fs.length) (hlink : (Cond.fieldLink own index (T f).1 (T f).2.1 (T f).2.2.1).before args s = true) (hdg : decode cc pc = .ok (.putfield index, 3))
    {t' : TH} (hcl' : cellC cs ad t' ci i = .inr (ci, fs.set f v)) (ho : ∀ c' i', ¬ (c' = ci ∧ i' = i) → cellC cs ad t' c' i' = cellC cs ad t c' i')
    (kk : ∀ (H1 : Heap) (locs1 : List Loc), GW Ev D (tyC cs) (wC cs ad K) A s t' H1 locs1 → W p l e R s m args below meth c H1 locs1 cells slots Q (F0 m (pc + 3) ls rest)) : W p l e R s m args below meth c H locs cells slots Q (F0 m pc ls (v :: .ref (ad ci i) :: rest)) := by
  obtain ⟨k, h1, h2⟩ := wC_pos (cs := cs) (ad := ad) (t := t) hk
  have e := wC_set (t' := t') hW.2.2.1 h1 ho
  rw [hcl'] at e
  refine va_put (D := D) (ci := ci) (C := Cn) (T := T) (N := N) (v := v) (ty := ty0 f) C.1 C.2.1 C.2.2.2.2 hin ty0 hty hnm C.2.2.2.1 hW.1 hW.2.1 hW.2.2.1 hW.2.2.2.1 k (fs := fs) (h2.trans (by rw [hcl])) hc f hf hlink (fun _ h9 => h9) hfin (hty f hf) hn hfit hl hdg (fun H1 locs1 hP hD hS => kk H1 locs1 ⟨hW.1, ?_, ?_, hS, hW.2.2.2.2⟩)
  · rw [← e]; exact hP
  · rw [← e]; exact hD
theorem C_alen (C : Cx p s m args c cc nL Ts own) (hW : GW Ev D (tyC cs) (wC cs ad K) A s t H locs) {ci i : Nat} (hk : (ci, i) ∈ K) {cA : ClassId} {x : vp_A} (hcl : cellC cs ad t ci i = .inl (cA, x)) (t0 : Nat) {ty : FieldType} (ht : (tyC cs)[t0]? = some (cA, ty)) (hdg : decode cc pc = .ok (.arraylength, 1))
    (kk : W p l e R s m args below meth c H locs cells slots Q (F0 m (pc + 1) ls (.int (nI x.1) :: rest))) : W p l e R s m args below meth c H locs cells slots Q (F0 m pc ls (.ref (ad ci i) :: rest)) := by
  obtain ⟨k, -, h2⟩ := wC_pos (cs := cs) (ad := ad) (t := t) hk
  exact va_alen C.1 C.2.1 hW.1 hW.2.1 k t0 (h2.trans (by rw [hcl])) ht rfl hdg kk
theorem C_ldI (C : Cx p s m args c cc nL Ts own) (hW : GW Ev D (tyC cs) (wC cs ad K) A s t H locs) {ci j : Nat} (hk : (ci, j) ∈ K) {n : Nat} {f : Nat → Int32} (hcl : cellC cs ad t ci j = .inl (cs 1, n, .inl f)) {i : Int32} (hi : vp_in i n) (hdg : decode cc pc = .ok (.iaload, 1))
    (kk : W p l e R s m args below meth c H locs cells slots Q (F0 m (pc + 1) ls (.int (f i.toNatClampNeg) :: rest))) : W p l e R s m args below meth c H locs cells slots Q (F0 m pc ls (.int i :: .ref (ad ci j) :: rest)) := by
  obtain ⟨k, -, h2⟩ := wC_pos (cs := cs) (ad := ad) (t := t) hk
  exact va_iald C.1 C.2.1 hW.1 hW.2.1 k 1 (h2.trans (by rw [hcl])) rfl hi hdg kk
theorem C_ldJ (C : Cx p s m args c cc nL Ts own) (hW : GW Ev D (tyC cs) (wC cs ad K) A s t H locs) {ci j : Nat} (hk : (ci, j) ∈ K) {n : Nat} {f : Nat → Int64} (hcl : cellC cs ad t ci j = .inl (cs 2, n, .inr (.inl f))) {i : Int32} (hi : vp_in i n) (hdg : decode cc pc = .ok (.laload, 1))
    (kk : W p l e R s m args below meth c H locs cells slots Q (F0 m (pc + 1) ls (.long (f i.toNatClampNeg) :: rest))) : W p l e R s m args below meth c H locs cells slots Q (F0 m pc ls (.int i :: .ref (ad ci j) :: rest)) := by
  obtain ⟨k, -, h2⟩ := wC_pos (cs := cs) (ad := ad) (t := t) hk
  exact va_lald C.1 C.2.1 hW.1 hW.2.1 k 2 (h2.trans (by rw [hcl])) rfl hi hdg kk
theorem C_ldQ (C : Cx p s m args c cc nL Ts own) (hW : GW Ev D (tyC cs) (wC cs ad K) A s t H locs) {ci j : Nat} (hk : (ci, j) ∈ K) {n k3 : Nat} {f : Nat → Option Nat} {cA : ClassId} {Cn : String} (hcl : cellC cs ad t ci j = .inl (cA, n, .inr (.inr (.inr (.inr (fun e => (f e).map (ad k3))))))) (t0 : Nat) (ht : (tyC cs)[t0]? = some (cA, .object Cn)) {i : Int32} (hi : vp_in i n) (hdg : decode cc pc = .ok (.aaload, 1))
    (kk : ∀ o : Option Nat, o = f i.toNatClampNeg → W p l e R s m args below meth c H locs cells slots Q (F0 m (pc + 1) ls (va_re (ad k3) o :: rest))) : W p l e R s m args below meth c H locs cells slots Q (F0 m pc ls (.int i :: .ref (ad ci j) :: rest)) := by
  obtain ⟨k, -, h2⟩ := wC_pos (cs := cs) (ad := ad) (t := t) hk
  exact va_aldq (f := fun e => (f e).map (ad k3)) C.1 C.2.1 hW.1 hW.2.1 k t0 (h2.trans (by rw [hcl])) ht hi hdg (kk _ rfl)
theorem C_stI (C : Cx p s m args c cc nL Ts own) (hW : GW Ev D (tyC cs) (wC cs ad K) A s t H locs) {ci j : Nat} (hk : (ci, j) ∈ K) {n : Nat} {f : Nat → Int32} (hcl : cellC cs ad t ci j = .inl (cs 1, n, .inl f)) {i x : Int32} (hi : vp_in i n) (hdg : decode cc pc = .ok (.iastore, 1))
    {t' : TH} (hcl' : cellC cs ad t' ci j = .inl (cs 1, n, .inl (upd f i.toNatClampNeg x))) (ho : ∀ c' i', ¬ (c' = ci ∧ i' = j) → cellC cs ad t' c' i' = cellC cs ad t c' i')
    (kk : ∀ (H1 : Heap) (locs1 : List Loc), GW Ev D (tyC cs) (wC cs ad K) A s t' H1 locs1 → W p l e R s m args below meth c H1 locs1 cells slots Q (F0 m (pc + 1) ls rest)) : W p l e R s m args below meth c H locs cells slots Q (F0 m pc ls (.int x :: .int i :: .ref (ad ci j) :: rest)) := by
  obtain ⟨k, h1, h2⟩ := wC_pos (cs := cs) (ad := ad) (t := t) hk
  have e := wC_set (t' := t') hW.2.2.1 h1 ho
  rw [hcl'] at e
  refine va_iast C.1 C.2.1 hW.1 hW.2.1 hW.2.2.1 hW.2.2.2.1 k 1 (h2.trans (by rw [hcl])) rfl hi hdg (fun H1 locs1 hP hD hS => kk H1 locs1 ⟨hW.1, ?_, ?_, hS, hW.2.2.2.2⟩)
  · rw [← e]; exact hP
  · rw [← e]; exact hD
theorem C_stJ (C : Cx p s m args c cc nL Ts own) (hW : GW Ev D (tyC cs) (wC cs ad K) A s t H locs) {ci j : Nat} (hk : (ci, j) ∈ K) {n : Nat} {f : Nat → Int64} (hcl : cellC cs ad t ci j = .inl (cs 2, n, .inr (.inl f))) {i : Int32} {x : Int64} (hi : vp_in i n) (hdg : decode cc pc = .ok (.lastore, 1))
    {t' : TH} (hcl' : cellC cs ad t' ci j = .inl (cs 2, n, .inr (.inl (vp_updL f i.toNatClampNeg x)))) (ho : ∀ c' i', ¬ (c' = ci ∧ i' = j) → cellC cs ad t' c' i' = cellC cs ad t c' i')
    (kk : ∀ (H1 : Heap) (locs1 : List Loc), GW Ev D (tyC cs) (wC cs ad K) A s t' H1 locs1 → W p l e R s m args below meth c H1 locs1 cells slots Q (F0 m (pc + 1) ls rest)) : W p l e R s m args below meth c H locs cells slots Q (F0 m pc ls (.long x :: .int i :: .ref (ad ci j) :: rest)) := by
  obtain ⟨k, h1, h2⟩ := wC_pos (cs := cs) (ad := ad) (t := t) hk
  have e := wC_set (t' := t') hW.2.2.1 h1 ho
  rw [hcl'] at e
  refine va_last C.1 C.2.1 hW.1 hW.2.1 hW.2.2.1 hW.2.2.2.1 k 2 (h2.trans (by rw [hcl])) rfl hi hdg (fun H1 locs1 hP hD hS => kk H1 locs1 ⟨hW.1, ?_, ?_, hS, hW.2.2.2.2⟩)
  · rw [← e]; exact hP
  · rw [← e]; exact hD
theorem C_stQ (C : Cx p s m args c cc nL Ts own) (hW : GW Ev D (tyC cs) (wC cs ad K) A s t H locs) {ci j : Nat} (hk : (ci, j) ∈ K) {n k3 : Nat} {f : Nat → Option Nat} {cA : ClassId} (hcl : cellC cs ad t ci j = .inl (cA, n, .inr (.inr (.inr (.inr (fun e => (f e).map (ad k3))))))) (t0 : Nat) {rc : vw_C} (ht : (tyC cs)[t0]? = some (cA, .object rc.1)) (hc : vwCl[k3]? = some rc) {v : Nat} (hkv : (k3, v) ∈ K) {vs : List Value} (hcv : cellC cs ad t k3 v = .inr (k3, vs)) {i : Int32} (hi : vp_in i n) (hdg : decode cc pc = .ok (.aastore, 1))
    {t' : TH} (hcl' : cellC cs ad t' ci j = .inl (cA, n, .inr (.inr (.inr (.inr (fun e => (va_up f i.toNatClampNeg (some v) e).map (ad k3))))))) (ho : ∀ c' i', ¬ (c' = ci ∧ i' = j) → cellC cs ad t' c' i' = cellC cs ad t c' i')
    (kk : ∀ (H1 : Heap) (locs1 : List Loc), GW Ev D (tyC cs) (wC cs ad K) A s t' H1 locs1 → W p l e R s m args below meth c H1 locs1 cells slots Q (F0 m (pc + 1) ls rest)) : W p l e R s m args below meth c H locs cells slots Q (F0 m pc ls (.ref (ad k3 v) :: .int i :: .ref (ad ci j) :: rest)) := by
  obtain ⟨k, h1, h2⟩ := wC_pos (cs := cs) (ad := ad) (t := t) hk
  obtain ⟨k2, -, h4⟩ := wC_pos (cs := cs) (ad := ad) (t := t) hkv
  have e := wC_set (t' := t') hW.2.2.1 h1 ho
  have e2 : (fun e => (va_up f i.toNatClampNeg (some v) e).map (ad k3)) = va_up (fun e => (f e).map (ad k3)) i.toNatClampNeg (some (ad k3 v)) := by
    funext x
    by_cases q : x = i.toNatClampNeg
    · subst q; simp [va_up]
    · simp [va_up, q]
  rw [hcl', e2] at e
  refine va_astq C.1 C.2.1 hW.1 hW.2.1 hW.2.2.1 hW.2.2.2.1 k t0 k2 k3 (h2.trans (by rw [hcl])) ht (h4.trans (by rw [hcv])) hc hi hdg (fun H1 locs1 hP hD hS => kk H1 locs1 ⟨hW.1, ?_, ?_, hS, hW.2.2.2.2⟩)
  · rw [← e]; exact hP
  · rw [← e]; exact hD
theorem lv_aload_nQ (hexec : p.tables.exec = Jvm.exec) (hb : c.code = cc) {k : Fin 4} {i : Nat} {g : Nat → Nat} {o : Option Nat} (hdg : decode cc pc = .ok (.aload_n k, 1)) (hi : (k : Nat) = i) (hl : ls[i]? = some (.val (va_re g o))) (kk : W p l e R s m args below meth c H locs cells slots Q (F0 m (pc + 1) ls (va_re g o :: rest))) : W p l e R s m args below meth c H locs cells slots Q (F0 m pc ls rest) := by
  cases o with
  | none => exact lv_aload_nN hexec hb hdg hi hl kk
  | some j => exact lv_aload_n hexec hb hdg hi hl kk
theorem lv_aloadQ (hexec : p.tables.exec = Jvm.exec) (hb : c.code = cc) {i : Nat} {g : Nat → Nat} {o : Option Nat} (hdg : decode cc pc = .ok (.aload i, 2)) (hl : ls[i]? = some (.val (va_re g o))) (kk : W p l e R s m args below meth c H locs cells slots Q (F0 m (pc + 2) ls (va_re g o :: rest))) : W p l e R s m args below meth c H locs cells slots Q (F0 m pc ls rest) := by
  cases o with
  | none => exact lv_aloadN hexec hb hdg hl kk
  | some j => exact lv_aload hexec hb hdg hl kk
theorem lv_astore_nQ (hexec : p.tables.exec = Jvm.exec) (hb : c.code = cc) {k : Fin 4} {i nL : Nat} {g : Nat → Nat} {o : Option Nat} {lv lv' : List (Nat × Value)} (hdg : decode cc pc = .ok (.astore_n k, 1)) (hi : (k : Nat) = i) (h : lv_has ls nL lv) (hn : i < nL) (hl : (i, va_re g o) :: lv.filter (fun q => !(q.1 == i) && !(q.1 + 1 == i && q.2.category == 2)) = lv')
    (kk : ∀ ls' : Array Slot, lv_has ls' nL lv' → W p l e R s m args below meth c H locs cells slots Q (F0 m (pc + 1) ls' rest)) : W p l e R s m args below meth c H locs cells slots Q (F0 m pc ls (va_re g o :: rest)) := by
  cases o with
  | none => exact lv_astore_nN hexec hb hdg hi h hn hl kk
  | some j => exact lv_astore_n hexec hb hdg hi h hn hl kk
theorem lv_astoreQ (hexec : p.tables.exec = Jvm.exec) (hb : c.code = cc) {i nL : Nat} {g : Nat → Nat} {o : Option Nat} {lv lv' : List (Nat × Value)} (hdg : decode cc pc = .ok (.astore i, 2)) (h : lv_has ls nL lv) (hn : i < nL) (hl : (i, va_re g o) :: lv.filter (fun q => !(q.1 == i) && !(q.1 + 1 == i && q.2.category == 2)) = lv')
    (kk : ∀ ls' : Array Slot, lv_has ls' nL lv' → W p l e R s m args below meth c H locs cells slots Q (F0 m (pc + 2) ls' rest)) : W p l e R s m args below meth c H locs cells slots Q (F0 m pc ls (va_re g o :: rest)) := by
  cases o with
  | none => exact lv_astoreN hexec hb hdg h hn hl kk
  | some j => exact lv_astore hexec hb hdg h hn hl kk
theorem lv_ifnullQ (hexec : p.tables.exec = Jvm.exec) (hb : c.code = cc) {g : Nat → Nat} {o : Option Nat} {off : Int} {tgt : Nat} (hdg : decode cc pc = .ok (.ifnull off, 3)) (ht : (pc : Int) + off = (tgt : Int)) (kt : o = none → W p l e R s m args below meth c H locs cells slots Q (F0 m tgt ls rest)) (kf : ∀ j, o = some j → W p l e R s m args below meth c H locs cells slots Q (F0 m (pc + 3) ls rest)) : W p l e R s m args below meth c H locs cells slots Q (F0 m pc ls (va_re g o :: rest)) := by
  cases o with
  | none => exact lv_ifnullN hexec hb hdg ht (kt rfl)
  | some j => exact lv_ifnull hexec hb hdg (kf j rfl)
theorem lv_ifnonnullQ (hexec : p.tables.exec = Jvm.exec) (hb : c.code = cc) {g : Nat → Nat} {o : Option Nat} {off : Int} {tgt : Nat} (hdg : decode cc pc = .ok (.ifnonnull off, 3)) (ht : (pc : Int) + off = (tgt : Int)) (kt : ∀ j, o = some j → W p l e R s m args below meth c H locs cells slots Q (F0 m tgt ls rest)) (kf : o = none → W p l e R s m args below meth c H locs cells slots Q (F0 m (pc + 3) ls rest)) : W p l e R s m args below meth c H locs cells slots Q (F0 m pc ls (va_re g o :: rest)) := by
  cases o with
  | none => exact lv_ifnonnullN hexec hb hdg (kf rfl)
  | some j => exact lv_ifnonnull hexec hb hdg ht (kt j rfl)
theorem lv_topq {g : Nat → Nat} {o : Option Nat} {j : Nat} (ho : o = some j) (kk : W p l e R s m args below meth c H locs cells slots Q (F0 m pc ls (.ref (g j) :: rest))) : W p l e R s m args below meth c H locs cells slots Q (F0 m pc ls (va_re g o :: rest)) := by subst ho; exact kk
theorem lv_topn {v : Value} (k : ∀ y : Value, y = v → W p l e R s m args below meth c H locs cells slots Q (F0 m pc ls (y :: rest))) : W p l e R s m args below meth c H locs cells slots Q (F0 m pc ls (v :: rest)) := k _ rfl
theorem lv_topo {g : Nat → Nat} {x : Option Nat} (k : ∀ o : Option Nat, o = x → W p l e R s m args below meth c H locs cells slots Q (F0 m pc ls (va_re g o :: rest))) : W p l e R s m args below meth c H locs cells slots Q (F0 m pc ls (va_re g x :: rest)) := k _ rfl
end CR
section CE
variable {S : Type} {Ev : EvT} {p : Program} {l : Launch} {e : Env} {R : Room} {s : State} {m : MethodId} {args : Array Value} {below : List Frame} {meth : Method} {c : Code} {H : Heap} {locs : List Loc} {cells slots : Nat} {Q : State → Prop}
variable {cc : ByteArray} {pc : Nat} {ls : Array Slot} {rest : List Value} {D : va_G} {tys : List (ClassId × FieldType)} {w : S → va_W} {A : Nat → Prop} {σ σ0 : S}
variable {nL : Nat} {Ts : List Cond} {own : String} {y : MethodName} {ws : List Cond} {rm : Room} {n index mc ms : Nat} {bytes : ByteArray} {maxL : Nat} {ret : Option FieldType} {CC : String} {b : Addr} {As : List Value} {g : Nat → Nat}
theorem G_ine {post : Option Nat → S → Prop} {ws' : List Cond} {av : List Value} (hy : plainName y.cls = true) (hw : ws = Cond.code y cc maxL ret :: ws') (hlen : (lg_sl av).length ≤ maxL)
    (body : ∀ (p : Program) (e : Env) (s : State) (m : MethodId) (below : List Frame) (meth : Method) (c : Code) (A : Nat → Prop) (ls : Array Slot), Cx p s m av.toArray c cc maxL ws y.cls → meth.sig.returnType = ret → meth.locks = false → (y.name = "<init>" → meth.name = "<init>") → A = va_A (w σ) s.heap.size → GW Ev D tys w A s σ s.heap [] → lv_has ls maxL (lv_args 0 av) →
      W p l e rm s m av.toArray below meth c s.heap [] 0 0 (MQ below (va_Qe g post (gPos D tys w σ s.heap.size) A) av.toArray s mc ms A) (F0 m 0 ls [])) : cGe Ev g l D tys w y ws rm mc ms av σ post := by
  intro sz
  refine Met.ofW (cc := cc) (maxL := maxL) (ret := ret) hy hw ?_
  intro p e s m args below meth c s₁ B hml hv
  obtain ⟨rfl, hsz, hP, hK, hD0, hE, hO⟩ := hv
  subst hsz
  have hl := lv_entry av (n := maxL) hlen
  rw [lg_entry_eq]
  exact body p e s m below meth c _ _ ⟨B.exec, B.bytes, hml, findClass_of_methodNamed B.named, atoms_spec (ws := ws) B.pre⟩ B.returns B.notSynchronized (fun h => (name_of_methodNamed B.named B.method).1.trans h) rfl ⟨hK, hP, hD0.self, va_S.rf, fun q h => Or.inr h, hE, hO⟩ hl
theorem G_inJ {post : Int32 → S → Prop} {ws' : List Cond} {av : List Value} (hy : plainFor y = true) (hw : ws = Cond.code y cc maxL ret :: ws') (hlen : (lg_sl av).length ≤ maxL)
    (body : ∀ (p : Program) (e : Env) (s : State) (m : MethodId) (below : List Frame) (meth : Method) (c : Code) (A : Nat → Prop) (ls : Array Slot), Cx p s m av.toArray c cc maxL ws y.cls → meth.sig.returnType = ret → meth.locks = false → (y.name = "<init>" → meth.name = "<init>") → A = va_A (w σ) s.heap.size → GW Ev D tys w A s σ s.heap [] → lv_has ls maxL (lv_args 0 av) →
      W p l e rm s m av.toArray below meth c s.heap [] 0 0 (MQ below (va_Qi post (gPos D tys w σ s.heap.size) A) av.toArray s mc ms A) (F0 m 0 ls [])) : cGi Ev l D tys w y ws rm mc ms av σ post := by
  intro sz
  refine va_MetF (cc := cc) (maxL := maxL) (ret := ret) hy hw ?_
  intro p e s m args below meth c s₁ B hml hv
  obtain ⟨rfl, hsz, hP, hK, hD0, hE, hO⟩ := hv
  subst hsz
  have hl := lv_entry av (n := maxL) hlen
  rw [lg_entry_eq]
  exact body p e s m below meth c _ _ ⟨B.exec, B.bytes, hml, findClass_of_methodNamed B.named, atoms_spec (ws := ws) B.pre⟩ B.returns B.notSynchronized (fun h => (name_of_methodNamed B.named B.method).1.trans h) rfl ⟨hK, hP, hD0.self, va_S.rf, fun q h => Or.inr h, hE, hO⟩ hl
theorem G_rete {post : Option Nat → S → Prop} {r : Option Nat} {rt : FieldType} (C : Cx p s m args c cc nL Ts own) (hr : meth.sig.returnType = some rt) (hrt : (∃ n, rt = .object n) ∨ ∃ t, rt = .array t) (hlk : meth.locks = false) (hA : A = va_A (w σ0) s.heap.size) (hW : GW Ev D tys w A s σ H locs) (hp : post r σ) (hdg : decode cc pc = .ok (.areturn, 1)) : W p l e R s m args below meth c H locs cells slots (MQ below (va_Qe g post (gPos D tys w σ0 s.heap.size) A) args s cells slots A) (F0 m pc ls [va_re g r]) :=
  W.aret C.1 C.2.1 hr hrt (va_re_or g r) (fun t ht hv => ⟨⟨r, σ, rfl, hp, hW.ret hA ht hv⟩, hW.2.2.2.1.F ht⟩) hW.2.2.2.1.2.2 hdg hlk
theorem G_V0r {o : Option Nat} {st0 : List Value} (C : Cx p s m args c cc nL Ts own) (hW : GW Ev D tys w A s σ H locs) (hM : cGe Ev g l D tys w y ws rm 0 0 (.ref b :: As) σ (fun r u => r = o ∧ u = σ)) (cw : CallW R s args own CC index y bytes maxL ret ws rm 0 0 n) (hrv : ∃ cellB : Cell, H[b]? = some cellB ∧ cellB.vm.isStatics = false ∧ s.vm.findClass CC = some cellB.cls) (hn : As.length = n) (hls : ls.size = nL) (hst : st0 = As.reverse ++ .ref b :: rest) (hW8 : (rest.map fun v => v.category).sum ≤ 8) (hdg : decode cc pc = .ok (.invokevirtual index, 3))
    (kk : ∀ (H1 : Heap) (locs1 : List Loc), GW Ev D tys w A s σ H1 locs1 → W p l e R s m args below meth c H1 locs1 0 0 Q (F0 m (pc + 3) ls (va_re g o :: rest))) : W p l e R s m args below meth c H locs 0 0 Q (F0 m pc ls st0) :=
  va_calle (ad := g) (va_runV (As := As) (rest := rest) C (hM H.size) cw ⟨gPre_blind, hrv, fun U hU hv => ⟨rfl, hW.pre hU hv⟩⟩ rfl hn hls hst (lv_room (m := m) (pc := pc) (ls := ls) (rest := st0) hW8) hdg ⟨Nat.zero_le _, Nat.zero_le _⟩) hW.2.2.2.1 (fun q _ h => hW.sub q h) (fun q h => hW.sub q h) (fun r u t H1 locs1 ht hvm hw hB hz1 hk1 hS => by
    obtain ⟨h2, h3⟩ := hw
    have h1 := hW.pos ht hvm hB hS
    rw [h3] at h1
    rw [h2]
    exact kk H1 locs1 h1)
end CE
/-! what the cells are behind a write -/
theorem wr1_5 {cs : Nat → ClassId} {ad : AD} {t : TH} {i : Nat} {v : Option Nat} : cellC cs ad (uP t 1 5 i v) 1 i = .inr (1, (fC1 ad t i).set 5 (va_re (ad 10) v)) := by
  show Sum.inr (1, _) = _
  simp [fC1, uP, tS, tL, tP, up3, va_up]
theorem wr1_6 {cs : Nat → ClassId} {ad : AD} {t : TH} {i : Nat} {v : Int32} : cellC cs ad (uS t 1 6 i v) 1 i = .inr (1, (fC1 ad t i).set 6 (.int v)) := by
  show Sum.inr (1, _) = _
  simp [fC1, uS, tS, tL, tP, up3, va_up]
theorem wr1_7 {cs : Nat → ClassId} {ad : AD} {t : TH} {i : Nat} {v : Int32} : cellC cs ad (uS t 1 7 i v) 1 i = .inr (1, (fC1 ad t i).set 7 (.int v)) := by
  show Sum.inr (1, _) = _
  simp [fC1, uS, tS, tL, tP, up3, va_up]
theorem wr1_8 {cs : Nat → ClassId} {ad : AD} {t : TH} {i : Nat} {v : Int32} : cellC cs ad (uS t 1 8 i v) 1 i = .inr (1, (fC1 ad t i).set 8 (.int v)) := by
  show Sum.inr (1, _) = _
  simp [fC1, uS, tS, tL, tP, up3, va_up]
theorem wr1_9 {cs : Nat → ClassId} {ad : AD} {t : TH} {i : Nat} {v : Int32} : cellC cs ad (uS t 1 9 i v) 1 i = .inr (1, (fC1 ad t i).set 9 (.int v)) := by
  show Sum.inr (1, _) = _
  simp [fC1, uS, tS, tL, tP, up3, va_up]
theorem wr2_3 {cs : Nat → ClassId} {ad : AD} {t : TH} {i : Nat} {v : Int32} : cellC cs ad (uS t 2 3 i v) 2 i = .inr (2, (fC2 ad t i).set 3 (.int v)) := by
  show Sum.inr (2, _) = _
  simp [fC2, uS, tS, tL, tP, up3, va_up]
theorem wr2_4 {cs : Nat → ClassId} {ad : AD} {t : TH} {i : Nat} {v : Int32} : cellC cs ad (uS t 2 4 i v) 2 i = .inr (2, (fC2 ad t i).set 4 (.int v)) := by
  show Sum.inr (2, _) = _
  simp [fC2, uS, tS, tL, tP, up3, va_up]
theorem wr2_5 {cs : Nat → ClassId} {ad : AD} {t : TH} {i : Nat} {v : Int32} : cellC cs ad (uS t 2 5 i v) 2 i = .inr (2, (fC2 ad t i).set 5 (.int v)) := by
  show Sum.inr (2, _) = _
  simp [fC2, uS, tS, tL, tP, up3, va_up]
theorem wr3_3 {cs : Nat → ClassId} {ad : AD} {t : TH} {i : Nat} {v : Int32} : cellC cs ad (uS t 3 3 i v) 3 i = .inr (3, (fC3 ad t i).set 3 (.int v)) := by
  show Sum.inr (3, _) = _
  simp [fC3, uS, tS, tL, tP, up3, va_up]
theorem wr4_0 {cs : Nat → ClassId} {ad : AD} {t : TH} {i : Nat} {v : Int32} : cellC cs ad (uS t 4 0 i v) 4 i = .inr (4, (fC4 ad t i).set 0 (.int v)) := by
  show Sum.inr (4, _) = _
  simp [fC4, uS, tS, tL, tP, up3, va_up]
theorem wr4_1 {cs : Nat → ClassId} {ad : AD} {t : TH} {i : Nat} {v : Int32} : cellC cs ad (uS t 4 1 i v) 4 i = .inr (4, (fC4 ad t i).set 1 (.int v)) := by
  show Sum.inr (4, _) = _
  simp [fC4, uS, tS, tL, tP, up3, va_up]
theorem wr4_2 {cs : Nat → ClassId} {ad : AD} {t : TH} {i : Nat} {v : Int32} : cellC cs ad (uS t 4 2 i v) 4 i = .inr (4, (fC4 ad t i).set 2 (.int v)) := by
  show Sum.inr (4, _) = _
  simp [fC4, uS, tS, tL, tP, up3, va_up]
theorem wr4_3 {cs : Nat → ClassId} {ad : AD} {t : TH} {i : Nat} {v : Int32} : cellC cs ad (uS t 4 3 i v) 4 i = .inr (4, (fC4 ad t i).set 3 (.int v)) := by
  show Sum.inr (4, _) = _
  simp [fC4, uS, tS, tL, tP, up3, va_up]
theorem wr4_4 {cs : Nat → ClassId} {ad : AD} {t : TH} {i : Nat} {v : Int32} : cellC cs ad (uS t 4 4 i v) 4 i = .inr (4, (fC4 ad t i).set 4 (.int v)) := by
  show Sum.inr (4, _) = _
  simp [fC4, uS, tS, tL, tP, up3, va_up]
theorem wr4_5 {cs : Nat → ClassId} {ad : AD} {t : TH} {i : Nat} {v : Int32} : cellC cs ad (uS t 4 5 i v) 4 i = .inr (4, (fC4 ad t i).set 5 (.int v)) := by
  show Sum.inr (4, _) = _
  simp [fC4, uS, tS, tL, tP, up3, va_up]
theorem wr5_2 {cs : Nat → ClassId} {ad : AD} {t : TH} {i : Nat} {v : Int32} : cellC cs ad (uS t 5 2 i v) 5 i = .inr (5, (fC5 ad t i).set 2 (.int v)) := by
  show Sum.inr (5, _) = _
  simp [fC5, uS, tS, tL, tP, up3, va_up]
theorem wr5_3 {cs : Nat → ClassId} {ad : AD} {t : TH} {i : Nat} {v : Int32} : cellC cs ad (uS t 5 3 i v) 5 i = .inr (5, (fC5 ad t i).set 3 (.int v)) := by
  show Sum.inr (5, _) = _
  simp [fC5, uS, tS, tL, tP, up3, va_up]
theorem wr5_4 {cs : Nat → ClassId} {ad : AD} {t : TH} {i : Nat} {v : Int32} : cellC cs ad (uS t 5 4 i v) 5 i = .inr (5, (fC5 ad t i).set 4 (.int v)) := by
  show Sum.inr (5, _) = _
  simp [fC5, uS, tS, tL, tP, up3, va_up]
theorem wr5_5 {cs : Nat → ClassId} {ad : AD} {t : TH} {i : Nat} {v : Int32} : cellC cs ad (uS t 5 5 i v) 5 i = .inr (5, (fC5 ad t i).set 5 (.int v)) := by
  show Sum.inr (5, _) = _
  simp [fC5, uS, tS, tL, tP, up3, va_up]
theorem wr5_6 {cs : Nat → ClassId} {ad : AD} {t : TH} {i : Nat} {v : Int32} : cellC cs ad (uS t 5 6 i v) 5 i = .inr (5, (fC5 ad t i).set 6 (.int v)) := by
  show Sum.inr (5, _) = _
  simp [fC5, uS, tS, tL, tP, up3, va_up]
theorem wr5_7 {cs : Nat → ClassId} {ad : AD} {t : TH} {i : Nat} {v : Int32} : cellC cs ad (uS t 5 7 i v) 5 i = .inr (5, (fC5 ad t i).set 7 (.int v)) := by
  show Sum.inr (5, _) = _
  simp [fC5, uS, tS, tL, tP, up3, va_up]
theorem wr5_8 {cs : Nat → ClassId} {ad : AD} {t : TH} {i : Nat} {v : Int32} : cellC cs ad (uS t 5 8 i v) 5 i = .inr (5, (fC5 ad t i).set 8 (.int v)) := by
  show Sum.inr (5, _) = _
  simp [fC5, uS, tS, tL, tP, up3, va_up]
theorem wr6_1 {cs : Nat → ClassId} {ad : AD} {t : TH} {i : Nat} {v : Int32} : cellC cs ad (uS t 6 1 i v) 6 i = .inr (6, (fC6 ad t i).set 1 (.int v)) := by
  show Sum.inr (6, _) = _
  simp [fC6, uS, tS, tL, tP, up3, va_up]
theorem wr7_0 {cs : Nat → ClassId} {ad : AD} {t : TH} {i : Nat} {v : Int32} : cellC cs ad (uS t 7 0 i v) 7 i = .inr (7, (fC7 ad t i).set 0 (.int v)) := by
  show Sum.inr (7, _) = _
  simp [fC7, uS, tS, tL, tP, up3, va_up]
theorem wr7_6 {cs : Nat → ClassId} {ad : AD} {t : TH} {i : Nat} {v : Int32} : cellC cs ad (uS t 7 6 i v) 7 i = .inr (7, (fC7 ad t i).set 6 (.int v)) := by
  show Sum.inr (7, _) = _
  simp [fC7, uS, tS, tL, tP, up3, va_up]
theorem wr7_7 {cs : Nat → ClassId} {ad : AD} {t : TH} {i : Nat} {v : Int32} : cellC cs ad (uS t 7 7 i v) 7 i = .inr (7, (fC7 ad t i).set 7 (.int v)) := by
  show Sum.inr (7, _) = _
  simp [fC7, uS, tS, tL, tP, up3, va_up]
theorem wr7_8 {cs : Nat → ClassId} {ad : AD} {t : TH} {i : Nat} {v : Int32} : cellC cs ad (uS t 7 8 i v) 7 i = .inr (7, (fC7 ad t i).set 8 (.int v)) := by
  show Sum.inr (7, _) = _
  simp [fC7, uS, tS, tL, tP, up3, va_up]
theorem wr7_9 {cs : Nat → ClassId} {ad : AD} {t : TH} {i : Nat} {v : Int32} : cellC cs ad (uS t 7 9 i v) 7 i = .inr (7, (fC7 ad t i).set 9 (.int v)) := by
  show Sum.inr (7, _) = _
  simp [fC7, uS, tS, tL, tP, up3, va_up]
theorem wr7_10 {cs : Nat → ClassId} {ad : AD} {t : TH} {i : Nat} {v : Int32} : cellC cs ad (uS t 7 10 i v) 7 i = .inr (7, (fC7 ad t i).set 10 (.int v)) := by
  show Sum.inr (7, _) = _
  simp [fC7, uS, tS, tL, tP, up3, va_up]
theorem wr7_11 {cs : Nat → ClassId} {ad : AD} {t : TH} {i : Nat} {v : Int32} : cellC cs ad (uS t 7 11 i v) 7 i = .inr (7, (fC7 ad t i).set 11 (.int v)) := by
  show Sum.inr (7, _) = _
  simp [fC7, uS, tS, tL, tP, up3, va_up]
theorem wr7_12 {cs : Nat → ClassId} {ad : AD} {t : TH} {i : Nat} {v : Int64} : cellC cs ad (uL t 7 12 i v) 7 i = .inr (7, (fC7 ad t i).set 12 (.long v)) := by
  show Sum.inr (7, _) = _
  simp [fC7, uL, tS, tL, tP, up3, va_up]
theorem wr7_13 {cs : Nat → ClassId} {ad : AD} {t : TH} {i : Nat} {v : Int32} : cellC cs ad (uS t 7 13 i v) 7 i = .inr (7, (fC7 ad t i).set 13 (.int v)) := by
  show Sum.inr (7, _) = _
  simp [fC7, uS, tS, tL, tP, up3, va_up]
theorem wr7_14 {cs : Nat → ClassId} {ad : AD} {t : TH} {i : Nat} {v : Int32} : cellC cs ad (uS t 7 14 i v) 7 i = .inr (7, (fC7 ad t i).set 14 (.int v)) := by
  show Sum.inr (7, _) = _
  simp [fC7, uS, tS, tL, tP, up3, va_up]
theorem wr8_2 {cs : Nat → ClassId} {ad : AD} {t : TH} {i : Nat} {v : Int32} : cellC cs ad (uS t 8 2 i v) 8 i = .inr (8, (fC8 ad t i).set 2 (.int v)) := by
  show Sum.inr (8, _) = _
  simp [fC8, uS, tS, tL, tP, up3, va_up]
theorem wr8_3 {cs : Nat → ClassId} {ad : AD} {t : TH} {i : Nat} {v : Int32} : cellC cs ad (uS t 8 3 i v) 8 i = .inr (8, (fC8 ad t i).set 3 (.int v)) := by
  show Sum.inr (8, _) = _
  simp [fC8, uS, tS, tL, tP, up3, va_up]
theorem wr9_1 {cs : Nat → ClassId} {ad : AD} {t : TH} {i : Nat} {v : Int32} : cellC cs ad (uS t 9 1 i v) 9 i = .inr (9, (fC9 ad t i).set 1 (.int v)) := by
  show Sum.inr (9, _) = _
  simp [fC9, uS, tS, tL, tP, up3, va_up]
theorem wr11_8 {cs : Nat → ClassId} {ad : AD} {t : TH} {i : Nat} {v : Int32} : cellC cs ad (uS t 11 8 i v) 11 i = .inr (11, (fC11 ad t i).set 8 (.int v)) := by
  show Sum.inr (11, _) = _
  simp [fC11, uS, tS, tL, tP, up3, va_up]
theorem wr13 {cs : Nat → ClassId} {ad : AD} {t : TH} {j e : Nat} {v : Int32} : cellC cs ad (uS t 13 j e v) 13 j = .inl (cs 1, tN t 13 j, .inl (upd (tS t 13 j) e v)) := by
  show Sum.inl (cs 1, tN t 13 j, Sum.inl (up3 (tS t) 13 j e v 13 j)) = _
  rw [up3_row]
  rfl
theorem wr17 {cs : Nat → ClassId} {ad : AD} {t : TH} {j e : Nat} {v : Int32} : cellC cs ad (uS t 17 j e v) 17 j = .inl (cs 1, tN t 17 j, .inl (upd (tS t 17 j) e v)) := by
  show Sum.inl (cs 1, tN t 17 j, Sum.inl (up3 (tS t) 17 j e v 17 j)) = _
  rw [up3_row]
  rfl
theorem wr18 {cs : Nat → ClassId} {ad : AD} {t : TH} {j e : Nat} {v : Int32} : cellC cs ad (uS t 18 j e v) 18 j = .inl (cs 1, tN t 18 j, .inl (upd (tS t 18 j) e v)) := by
  show Sum.inl (cs 1, tN t 18 j, Sum.inl (up3 (tS t) 18 j e v 18 j)) = _
  rw [up3_row]
  rfl
theorem wr14 {cs : Nat → ClassId} {ad : AD} {t : TH} {j e : Nat} {v : Int64} : cellC cs ad (uL t 14 j e v) 14 j = .inl (cs 2, tN t 14 j, .inr (.inl (vp_updL (tL t 14 j) e v))) := by
  show Sum.inl (cs 2, tN t 14 j, Sum.inr (Sum.inl (up3 (tL t) 14 j e v 14 j))) = _
  rw [up3_row]
  rfl
theorem wr15 {cs : Nat → ClassId} {ad : AD} {t : TH} {j e : Nat} {v : Option Nat} : cellC cs ad (uP t 15 j e v) 15 j = .inl (cs 4, tN t 15 j, .inr (.inr (.inr (.inr (fun x => (va_up (tP t 15 j) e v x).map (ad 7)))))) := by
  show Sum.inl (cs 4, tN t 15 j, Sum.inr (Sum.inr (Sum.inr (Sum.inr (fun x => (up3 (tP t) 15 j e v 15 j x).map (ad 7)))))) = _
  rw [up3_row]
theorem wr16 {cs : Nat → ClassId} {ad : AD} {t : TH} {j e : Nat} {v : Option Nat} : cellC cs ad (uP t 16 j e v) 16 j = .inl (cs 5, tN t 16 j, .inr (.inr (.inr (.inr (fun x => (va_up (tP t 16 j) e v x).map (ad 1)))))) := by
  show Sum.inl (cs 5, tN t 16 j, Sum.inr (Sum.inr (Sum.inr (Sum.inr (fun x => (up3 (tP t) 16 j e v 16 j x).map (ad 1)))))) = _
  rw [up3_row]
