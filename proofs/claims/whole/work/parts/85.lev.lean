theorem va_D_nodup {A : Nat → Prop} {ws : va_W} : va_D A ws ↔ (ws.map Prod.fst).Nodup ∧ ∀ q ∈ ws, A q.1 := by
  constructor
  · intro h
    refine ⟨List.pairwise_iff_getElem.mpr (fun i j hi hj hij e => ?_), fun q hq => ?_⟩
    · rw [List.length_map] at hi hj
      rw [List.getElem_map, List.getElem_map] at e
      exact absurd (h.1 i j _ _ (List.getElem?_eq_getElem hi) (List.getElem?_eq_getElem hj) e) (by omega)
    · obtain ⟨k, hk, rfl⟩ := List.getElem_of_mem hq
      exact h.2 k _ (List.getElem?_eq_getElem hk)
  · intro h
    refine ⟨fun i j p q hp hq e => ?_, fun k q hk => h.2 q (List.mem_of_getElem? hk)⟩
    obtain ⟨hi, rfl⟩ := List.getElem?_eq_some_iff.mp hp
    obtain ⟨hj, rfl⟩ := List.getElem?_eq_some_iff.mp hq
    have hn := List.pairwise_iff_getElem.mp h.1
    rcases Nat.lt_trichotomy i j with g | g | g
    · exact absurd (by rw [List.getElem_map, List.getElem_map]; exact e) (hn i j (by rw [List.length_map]; exact hi) (by rw [List.length_map]; exact hj) g)
    · exact g
    · exact absurd (by rw [List.getElem_map, List.getElem_map]; exact e.symm) (hn j i (by rw [List.length_map]; exact hj) (by rw [List.length_map]; exact hi) g)
theorem GX_perm {Ev : EvT} {D : va_G} {tys : List (ClassId × FieldType)} {A : Nat → Prop} {s : State} {H : Heap} {locs : List Loc} {a b : va_W} (hp : a.Perm b) (h : GW Ev D tys idw A s a H locs) : GW Ev D tys idw A s b H locs := by
  refine ⟨h.1, fun k q hk => ?_, ?_, h.2.2.2⟩
  · obtain ⟨i, hi, he⟩ := List.getElem_of_mem (hp.mem_iff.mpr (List.mem_of_getElem? hk))
    exact h.2.1 i q (by rw [List.getElem?_eq_getElem hi, he])
  · have h2 := va_D_nodup.mp h.2.2.1
    exact va_D_nodup.mpr ⟨(hp.map _).nodup_iff.mp h2.1, fun q hq => h2.2 q (hp.mem_iff.mpr hq)⟩
def K00 : List (Nat × Nat) := [(14, 1), (14, 0), (0, 0), (16, 1), (16, 0), (2, 0), (4, 1), (5, 0), (4, 0), (8, 0), (15, 1), (6, 0), (15, 0), (13, 2), (13, 1), (3, 0), (13, 0), (9, 0), (11, 0)]
def T00 : TH := (fun c f _ => if c = 4 then (if f = 3 then 999 else if f = 4 then 2 else 0) else if c = 5 then (if f = 5 then 4 else if f = 7 then -1 else 0) else 0, fun _ _ _ => 0, fun _ _ _ => none, fun c i => if c = 13 then (if i = 0 then 200 else 64) else if c = 14 then (if i = 0 then 256 else 8) else if c = 15 then (if i = 0 then 64 else 30) else if c = 16 then 60 else 0)
def S00 : St := (fun k => if k = 23 then (upd (upd (upd (upd (upd (fun _ => 0) (0 : Int32).toNatClampNeg (0)) (1 : Int32).toNatClampNeg (1)) (2 : Int32).toNatClampNeg (0)) (3 : Int32).toNatClampNeg (999)) (4 : Int32).toNatClampNeg (2)) else if k = 59 then (upd (upd (upd (upd (upd (upd (upd (upd (fun _ => 0) (0 : Int32).toNatClampNeg (-1)) (1 : Int32).toNatClampNeg (-1)) (2 : Int32).toNatClampNeg (-1)) (3 : Int32).toNatClampNeg (-1)) (4 : Int32).toNatClampNeg (-1)) (5 : Int32).toNatClampNeg (-1)) (6 : Int32).toNatClampNeg (-1)) (7 : Int32).toNatClampNeg (-1)) else fun _ => 0, fun _ _ => 0)
theorem ArrP {args : Array Value} {s : State} {ty : FieldType} (h : (Cond.arrayClass ty).before args s = true) : ∃ cA, ArrOfT s cA ty ∧ s.vm.findClass ("[" ++ ty.toString) = some cA := by
  obtain ⟨cA, kA, comp, h1, h2, h3⟩ := Cond.arrayClass_spec h
  exact ⟨cA, fun n z => ⟨fun k h => (by cases h), kA, h2, comp, h3⟩, h1⟩
theorem ArrO {args : Array Value} {s : State} {C : String} (h : (Cond.arrayOver (.object C)).before args s = true) : ∃ cA, ArrOfT s cA (.object C) ∧ va_RA s cA (.object C) := by
  obtain ⟨comp, cA, kA, h1, h2, h3, h4, h5⟩ := Cond.arrayOver_spec h
  exact ⟨cA, fun n z => ⟨fun k h => (by cases h), kA, h3, comp, h4⟩, kA, comp, h3, h4, h1, h5⟩
set_option maxHeartbeats 4000000 in
set_option maxRecDepth 100000 in
theorem law_ev {s : State} {b : Nat} (hts : ∀ w ∈ lw_tbl, w.before #[Value.ref b] s = true) (hgv : (Jvm.Cond.and given_1 narrow_1).before #[Value.ref b] s = true) : ∃ (ek ev : Nat → Nat) (tp : Nat), EvA ek ev tp (fun q : Nat => s.heap.size ≤ q) s s.heap := by
  have hs := flat_of_before _ hgv
  have hA : ∀ a : Nat, a < s.heap.size → ¬ (fun q : Nat => s.heap.size ≤ q) a := fun a h => Nat.not_le.mpr h
  obtain ⟨tp, htp, hT⟩ := va_Tof (tm := Term.static "LandRun$Auction" "POWERS" "[J") (ty := .long) (N := 8) (f := fun j => .long (pw j)) (A := fun q : Nat => s.heap.size ≤ q) (by decide) (hs _ (by decide +kernel)) (va_eqt (hs _ (by decide +kernel))) (fun j hj => va_eqtl (hs _ ((by decide +kernel : ∀ j : Fin 8, Cond.eq (.elem (Term.static "LandRun$Auction" "POWERS" "[J") (.int (Int32.ofNat j.val))) (.long (pw j.val)) ∈ _) ⟨j, hj⟩))) hA
  obtain ⟨adK, ev, hS, hK⟩ := vk_Sof (N := 10) (tm := (fun i : Nat => Term.string "LandRun$LawReader" (sidx.getD i (0, "")).1)) (len := slen) (byt := sbyt) (A := fun q : Nat => s.heap.size ≤ q) (fun i hi => (by decide : ∀ i : Fin 10, slen.getD i.val 0 < 2 ^ 31) ⟨i, hi⟩) (fun i hi => hs _ ((by decide +kernel : ∀ i : Fin 10, Cond.exactly ((fun i : Nat => Term.string "LandRun$LawReader" (sidx.getD i (0, "")).1) i.val) "java/lang/String" ∈ _) ⟨i, hi⟩)) (fun i hi => hs _ ((by decide +kernel : ∀ i : Fin 10, Cond.eq (.field ((fun i : Nat => Term.string "LandRun$LawReader" (sidx.getD i (0, "")).1) i.val) "java/lang/String" "coder" "B") (.int 0) ∈ _) ⟨i, hi⟩)) (fun i hi => hs _ ((by decide +kernel : ∀ i : Fin 10, Cond.arrayOf (.field ((fun i : Nat => Term.string "LandRun$LawReader" (sidx.getD i (0, "")).1) i.val) "java/lang/String" "value" "[B") .byte ∈ _) ⟨i, hi⟩)) (fun i hi => hs _ ((by decide +kernel : ∀ i : Fin 10, Cond.eq (.length (.field ((fun i : Nat => Term.string "LandRun$LawReader" (sidx.getD i (0, "")).1) i.val) "java/lang/String" "value" "[B")) (.int (Int32.ofNat (slen.getD i.val 0))) ∈ _) ⟨i, hi⟩)) (fun i hi j hj => hs _ ((by decide +kernel : ∀ i : Fin 10, ∀ j : Fin 7, j.val < slen.getD i.val 0 → Cond.eq (.elem (.field ((fun i : Nat => Term.string "LandRun$LawReader" (sidx.getD i (0, "")).1) i.val) "java/lang/String" "value" "[B") (.int (Int32.ofNat j.val))) (.int ((sbyt.getD i.val []).getD j.val 0)) ∈ _) ⟨i, hi⟩ ⟨j, Nat.lt_of_lt_of_le hj ((by decide : ∀ i : Fin 10, slen.getD i.val 0 ≤ 7) ⟨i, hi⟩)⟩ hj)) (fun i j hi hj hne => ((by decide +kernel : ∀ i j : Fin 10, i ≠ j → (Cond.not (Cond.eq ((fun i : Nat => Term.string "LandRun$LawReader" (sidx.getD i (0, "")).1) i.val) ((fun i : Nat => Term.string "LandRun$LawReader" (sidx.getD i (0, "")).1) j.val)) ∈ _ ∨ Cond.not (Cond.eq ((fun i : Nat => Term.string "LandRun$LawReader" (sidx.getD i (0, "")).1) j.val) ((fun i : Nat => Term.string "LandRun$LawReader" (sidx.getD i (0, "")).1) i.val)) ∈ _)) ⟨i, hi⟩ ⟨j, hj⟩ (fun z => hne (Fin.mk.inj_iff.mp z))).elim (fun z => Or.inl (hs _ z)) (fun z => Or.inr (hs _ z))) hA
  obtain ⟨e0, -, -, -, hx0, -, -, -, -, -, -⟩ := Cond.exactly_spec (args := #[Value.ref b]) (first := s) (o := none) (s := s) (idx := []) (t := Term.string "LandRun" 133) (cls := "java/lang/String") (hs _ (by decide +kernel))
  obtain ⟨e1, -, -, -, hx1, -, -, -, -, -, -⟩ := Cond.exactly_spec (args := #[Value.ref b]) (first := s) (o := none) (s := s) (idx := []) (t := Term.string "LandRun" 164) (cls := "java/lang/String") (hs _ (by decide +kernel))
  refine ⟨fun i => if i < 10 then adK i else if i = 10 then e0 else e1, ev, tp, ⟨?_, ?_⟩⟩
  · refine ⟨va_Nw.of rfl (hts _ (by decide +kernel)), va_Zof (hts _ (by decide +kernel)) (hts _ (by decide +kernel)) htp hA, hT, ⟨fun i hi => ?_, fun i j hi hj h => ?_⟩, va_Zof (hts _ (by decide +kernel)) (hts _ (by decide +kernel)) (va_eqi (hs _ (by decide +kernel))) hA, va_Zqof (hts _ (by decide +kernel)) (hts _ (by decide +kernel)) (hs _ (by decide +kernel)) hA, fun i q hi => ?_⟩
    · dsimp only
      rw [if_pos hi]
      exact hS.1 i hi
    · dsimp only at h
      rw [if_pos hi, if_pos hj] at h
      exact hS.2 i j hi hj h
    · have h10 : i < 10 := (List.getElem?_eq_some_iff.mp hi).1
      dsimp only
      rw [if_pos h10]
      have hg : sidx.getD i (0, "") = q := by rw [List.getD_eq_getElem?_getD, hi]; rfl
      have h1 := hts _ ((by decide +kernel : ∀ i : Fin 10, Cond.stringRef "LandRun$LawReader" (sidx.getD i.val (0, "")).1 (sidx.getD i.val (0, "")).2 ∈ lw_tbl) ⟨i, h10⟩)
      have h2 := hK i h10
      dsimp only at h1 h2
      rw [hg] at h1 h2
      exact vk_R.of h1 h2
  · refine ⟨va_AO.of (hts _ (by decide +kernel)), va_AO.of (hts _ (by decide +kernel)), va_Nw.of rfl (hts _ (by decide +kernel)), va_Nw.of rfl (hts _ (by decide +kernel)), va_Nw.of rfl (hts _ (by decide +kernel)), va_Nw.of rfl (hts _ (by decide +kernel)), vx_Zqof (hts _ (by decide +kernel)) (hts _ (by decide +kernel)) (hs _ (by decide +kernel)) hA, vx_Zqof (hts _ (by decide +kernel)) (hts _ (by decide +kernel)) (hs _ (by decide +kernel)) hA, vk_R.of (hts _ (by decide +kernel)) hx0, vk_R.of (hts _ (by decide +kernel)) hx1, va_Nw.of rfl (hts _ (by decide +kernel)), va_Nw.of rfl (hts _ (by decide +kernel)), va_Nw.of rfl (hts _ (by decide +kernel)), va_Nw.of rfl (hts _ (by decide +kernel)), va_Nw.of rfl (hts _ (by decide +kernel))⟩
