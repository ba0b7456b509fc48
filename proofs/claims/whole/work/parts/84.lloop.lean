def R_law : String := "LandRunLaw"
def lw_P (b : Addr) (xs : List Int32) (args : Array Value) (s : State) : Prop := args = #[.ref b] ∧ s.IntsAt b xs ∧ xs.length ≤ 3072 ∧ (Jvm.Cond.and given_1 narrow_1).before args s = true
def lw_Q (_ : Array Value) (s : State) (o : Outcome) (t : State) : Prop := o = .returned (some (.int 1)) ∧ Framed s o t [] 601024 7293034
def lw_Z (below : List Frame) (a : Array Value) (s : State) : State → Prop := fun t => ∃ o, t.status = .running ∧ Ended t below o ∧ lw_Q a s o t
/-- the law's own end, with 1 on the stack, nothing written that was there before, its room as the claim has it -/
theorem lw_ret {p : Program} {l : Launch} {e : Env} {s : State} {m : MethodId} {below : List Frame} {meth : Method} {c : Code} {b : Nat} (hx : p.tables.exec = Jvm.exec) (hb : c.code = code) (hr : meth.sig.returnType = ret) (hlocks : meth.locks = false) {pc : Nat} {H : Heap} {ls : Array Slot} (hdg : decode code pc = .ok (.ireturn, 1)) : W p l e room_1 s m #[Value.ref b] below meth c H [] 601024 7293034 (lw_Z below #[Value.ref b] s) (F0 m pc ls [.int 1]) := by
  intro T hT X
  obtain ⟨fs, hret, hrun, hended, hW, hframe⟩ := X.leave (v := some (.int 1)) (hlocks := hlocks) (fun h => by rw [hr] at h; cases h)
  have hmeth' : T.vm.method? m = some meth := X.method'
  refine ⟨T.setFrames fs, ?_, .returned (some (.int 1)), hrun, hended, rfl, ⟨_, rfl⟩, hW, hframe⟩
  jvm_step X.here [X.here.top, hx, hb, hdg, hmeth', hr, ret, narrow_b1]
  (try refine ⟨rfl, ?_⟩); (try refine ⟨rfl, ?_⟩)
  first | (intro acts; rw [hret _ acts rfl rfl rfl]) | rw [hret _ _ rfl rfl rfl]
  exact Steps.refl _
/-- what holds at the law's entry: the machine, the code, the tables' words (any of lw_tbl by 'hts w (by decide +kernel)'), the script of L ints xs at the cell b, what the Statement gives of the start (any of its parts by flat_of_before) -/
def lw_At (p : Program) (s : State) (m : MethodId) (meth : Method) (c : Code) (b L : Nat) (xs : Nat → Int32) : Prop :=
  p.tables.exec = Jvm.exec ∧ c.code = code ∧ meth.sig.returnType = ret ∧ c.maxLocals = 7 ∧ s.vm.findClass R_law = some m.cls ∧ (∀ w ∈ lw_tbl, w.before #[Value.ref b] s = true) ∧ va_X b L xs s s.heap ∧ b < s.heap.size ∧ meth.locks = false ∧ (Jvm.Cond.and given_1 narrow_1).before #[Value.ref b] s = true
def L_step (x a1 a2 a3 a4 a5 : Int32) (K : List (Nat × Nat)) (t : TH) (σ : St) : Option (List (Nat × Nat) × TH × St) := if x = 0 then L_feed K t σ a1 a2 a3 a4 a5 else if x = 1 then L_end K t σ a1 else if x = 2 then L_land K t σ a1 a2 a3 else if x = 3 then L_person K t σ a1 a2 a3 a4 else if x = 4 then L_run K t σ a1 else if x = 5 then L_runner K t σ a1 a2 else if x = 6 then L_staked K t σ a1 else if x = 7 then L_law K t σ else if x = 8 then L_fault K t σ else if x = 9 then L_wait K t σ a1 else if x = 10 then L_file K t σ a1 a2 else if x = 11 then L_witness K t σ a1 a2 a3 else if x = 12 then L_span K t σ a1 a2 a3 else if x = 13 then L_judge K t σ a1 a2 else if x = 14 then L_doubt K t σ a1 a2 else if x = 15 then L_lots K t σ else if x = 16 then L_drawn K t σ a1 else if x = 17 then L_bid K t σ a1 else if x = 18 then L_sell K t σ else if x = 19 then L_bought K t σ a1 else if x = 20 then L_count K t σ a1 else some (K, t, σ)
def Fresh (K : List (Nat × Nat)) (t : TH) : Prop := (∀ n, n = (tS t 6 1 0).toNatClampNeg → (7, n) ∉ K ∧ (17, n) ∉ K ∧ (18, n) ∉ K ∧ (∀ j, tP t 1 1 j ≠ some n) ∧ ∀ j e, tP t 15 j e ≠ some n) ∧ (∀ n, n = (tS t 2 3 0).toNatClampNeg → (1, n) ∉ K ∧ ∀ j e, tP t 16 j e ≠ some n) ∧ (∀ n, n = (tS t 2 4 0).toNatClampNeg → (10, n) ∉ K ∧ (∀ j, tP t 1 5 j ≠ some n) ∧ ∀ j, tP t 10 3 j ≠ some n)
theorem L_gt {j L : Nat} (hL : L ≤ 3072) (hj : 6 * j ≤ L) (h : ¬ nI L - 6 < nI (6 * j)) : 6 * j + 6 ≤ L := by
  rcases Nat.lt_or_ge L (6 * j + 6) with q | q
  · exfalso
    apply h
    rcases Nat.lt_or_ge L 6 with q6 | q6
    · have e : nI L - 6 < 0 := by
        have : ∀ n : Fin 6, nI n.val - 6 < 0 := by decide
        exact this ⟨L, q6⟩
      exact Int32.lt_of_lt_of_le e (nI_pos' (by omega))
    · obtain ⟨k, rfl⟩ : ∃ k, L = k + 6 := ⟨L - 6, by omega⟩
      rw [show nI (k + 6) - 6 = nI k from by rw [← nI_add k 6]; show nI k + 6 - 6 = nI k; simp]
      exact nI_lt (by omega) (by omega)
  · exact q
theorem L_in {j L k : Nat} (hL : L ≤ 3072) (h : 6 * j + k < L) : vp_in (nI (6 * j) + nI k) L := by
  rw [nI_add]
  exact vp_in_nI h (by omega)
set_option maxHeartbeats 4000000 in
set_option maxRecDepth 100000 in
theorem law_loop {p : Program} {l : Launch} (hst : l.stackTraces = false) {e : Env} {s : State} {m : MethodId} {below : List Frame} {meth : Method} {c : Code} {D : va_G} {cs : Nat → ClassId} {ek ev : Nat → Nat} {tp b L : Nat} {xs : Nat → Int32} (hL : L ≤ 3072) (C : Cx p s m #[Value.ref b] c code 7 wsL_law RL) (hr : meth.sig.returnType = ret) (hlocks : meth.locks = false) (hXs : va_X b L xs s s.heap) (hbl : b < s.heap.size)
    (Inv : List (Nat × Nat) → TH → St → Prop) (hks : ∀ K t σ, Inv K t σ → KS K) (hfr : ∀ K t σ, Inv K t σ → Fresh K t) (hstep : ∀ K t σ, Inv K t σ → ∀ x a1 a2 a3 a4 a5 : Int32, ∃ Y, some Y = L_step x a1 a2 a3 a4 a5 K t σ ∧ Inv Y.1 Y.2.1 Y.2.2) (h : Nat) (a : Nat → Nat) (ao : Nat) :
    ∀ (n j : Nat) (x4 : Int32), 6 * j ≤ L → L < 6 * j + 6 * n → x4 = nI (6 * j) → ∀ (ad : AD) (K : List (Nat × Nat)) (t : TH) (σ : St) (f : Nat → Int64) (H : Heap) (locs : List Loc) (ls : Array Slot), Inv K t σ → GW (EvA ek ev tp) D (tyC cs) idw (fun q : Nat => s.heap.size ≤ q) s (oW cs ao f :: (wC cs ad K t ++ wM h a cs σ)) H locs → lv_has ls 7 [(0, .ref b), (1, .ref (ad 11 0)), (2, .ref h), (3, .ref ao), (4, .int x4)] → W p l e room_1 s m #[Value.ref b] below meth c H locs (61 + 3 * j) (4597 + 40 * j) (lw_Z below #[Value.ref b] s) (F0 m 23 ls []) := by
  have hbA : ¬ (fun q : Nat => s.heap.size ≤ q) b := Nat.not_le.mpr hbl
  intro n
  induction n with
  | zero =>
    intro j x4 h1 h2
    exact absurd h2 (by omega)
  | succ n ih =>
    intro j x4 hj hn ex4 ad K t σ f H locs ls hI hW hl
    refine lv_iload C.1 C.2.1 dL_law_23 (lv_at hl 4 rfl) ?_
    refine lv_aload_n C.1 C.2.1 dL_law_25 rfl (lv_at hl 0 rfl) ?_
    refine va_slen C.1 C.2.1 hXs hbl hbA hW.2.2.2.1 dL_law_26 ?_
    refine lv_bipush (v := 6) C.1 C.2.1 dL_law_27 (by decide) ?_
    refine lv_isub C.1 C.2.1 dL_law_29 ?_
    refine lv_icmp_gt (tgt := 874) C.1 C.2.1 dL_law_30 (by decide) (fun cg => ?_) (fun cg => ?_)
    · refine lv_iconst (v := 1) C.1 C.2.1 dL_law_874 (by decide) ?_
      refine va_forget (fun q hq => hW.2.2.2.1.2.2 q hq) ?_
      refine W.widen (k := 601024) (n := 7293034) (by omega) (by omega) ?_
      exact lw_ret C.1 C.2.1 hr hlocks dL_law_875
    · rw [ex4] at cg
      have hj6 := L_gt hL hj cg
      have h0 : vp_in x4 L := by rw [ex4]; exact vp_in_nI (by omega) (by omega)
      have h1 : vp_in (x4 + 1) L := by rw [ex4]; exact L_in (k := 1) hL (by omega)
      have h2 : vp_in (x4 + 2) L := by rw [ex4]; exact L_in (k := 2) hL (by omega)
      have h3 : vp_in (x4 + 3) L := by rw [ex4]; exact L_in (k := 3) hL (by omega)
      have h4 : vp_in (x4 + 4) L := by rw [ex4]; exact L_in (k := 4) hL (by omega)
      have h5 : vp_in (x4 + 5) L := by rw [ex4]; exact L_in (k := 5) hL (by omega)
      refine lv_aload_n C.1 C.2.1 dL_law_33 rfl (lv_at hl 0 rfl) ?_
      refine lv_iload C.1 C.2.1 dL_law_34 (lv_at hl 4 rfl) ?_
      refine va_sld C.1 C.2.1 hXs hbl hbA hW.2.2.2.1 h0 dL_law_36 ?_
      refine lv_bipush (v := 31) C.1 C.2.1 dL_law_37 (by decide) ?_
      refine lv_iand C.1 C.2.1 dL_law_39 ?_
      refine lv_topi (fun x ex => ?_)
      obtain ⟨Y, hX, hI2⟩ := hstep K t σ hI x (xs (x4 + 1).toNatClampNeg) (xs (x4 + 2).toNatClampNeg) (xs (x4 + 3).toNatClampNeg) (xs (x4 + 4).toNatClampNeg) (xs (x4 + 5).toNatClampNeg)
      have hKS := hks K t σ hI
      obtain ⟨fr1, fr2, fr3⟩ := hfr K t σ hI
      have kk : ∀ (ad' : AD) (f' : Nat → Int64) (H : Heap) (locs : List Loc) (ls : Array Slot), ad' 11 0 = ad 11 0 → GW (EvA ek ev tp) D (tyC cs) idw (fun q : Nat => s.heap.size ≤ q) s (oW cs ao f' :: (wC cs ad' Y.1 Y.2.1 ++ wM h a cs Y.2.2)) H locs → lv_has ls 7 [(0, .ref b), (1, .ref (ad 11 0)), (2, .ref h), (3, .ref ao), (4, .int x4)] → W p l e room_1 s m #[Value.ref b] below meth c H locs (61 + 3 * j + 3) (4597 + 40 * j + 40) (lw_Z below #[Value.ref b] s) (F0 m 868 ls []) := by
        intro ad' f' H locs ls had hW hl
        refine lv_iinc (v := nI (6 * (j + 1))) (lv' := [(4, .int (nI (6 * (j + 1)))), (0, .ref b), (1, .ref (ad 11 0)), (2, .ref h), (3, .ref ao)]) C.1 C.2.1 dL_law_868 hl (k := 4) rfl (by rw [ex4]; exact (nI_add (6 * j) 6)) (by decide) rfl (fun ls hl => ?_)
        refine lv_goto (tgt := 23) C.1 C.2.1 dL_law_871 (by decide) ?_
        rw [← had] at hl
        exact ih (j + 1) _ (by omega) (by omega) rfl ad' Y.1 Y.2.1 Y.2.2 f' H locs ls hI2 hW (lv_sub hl [1, 2, 3, 4, 0] rfl)
      unfold L_step at hX
      by_cases c0 : x = 0
      · have hX := br_p hX c0
        refine lv_tableIn (tgt := 140) C.1 C.2.1 dL_law_40 (by rw [c0]; decide) (by rw [c0]; decide) (by rw [c0]; rfl) (by decide) ?_
        exact l_feed hst C hXs hbl hbA hKS (by omega) (by omega) h1 h2 h3 h4 h5 hW hl hX kk
      have hX := br_n hX c0
      by_cases c1 : x = 1
      · have hX := br_p hX c1
        refine lv_tableIn (tgt := 213) C.1 C.2.1 dL_law_40 (by rw [c1]; decide) (by rw [c1]; decide) (by rw [c1]; rfl) (by decide) ?_
        exact l_end hst C hXs hbl hbA hKS (by omega) (by omega) h1 hW hl hX kk
      have hX := br_n hX c1
      by_cases c2 : x = 2
      · have hX := br_p hX c2
        refine lv_tableIn (tgt := 238) C.1 C.2.1 dL_law_40 (by rw [c2]; decide) (by rw [c2]; decide) (by rw [c2]; rfl) (by decide) ?_
        exact l_land hst C hXs hbl hbA hKS (by omega) (by omega) h1 h2 h3 hW hl hX kk
      have hX := br_n hX c2
      by_cases c3 : x = 3
      · have hX := br_p hX c3
        refine lv_tableIn (tgt := 287) C.1 C.2.1 dL_law_40 (by rw [c3]; decide) (by rw [c3]; decide) (by rw [c3]; rfl) (by decide) ?_
        exact l_person hst C hXs hbl hbA hKS (by omega) (by omega) h1 h2 h3 h4 hW hl fr1 hX kk
      have hX := br_n hX c3
      by_cases c4 : x = 4
      · have hX := br_p hX c4
        refine lv_tableIn (tgt := 364) C.1 C.2.1 dL_law_40 (by rw [c4]; decide) (by rw [c4]; decide) (by rw [c4]; rfl) (by decide) ?_
        exact l_run hst C hXs hbl hbA hKS (by omega) (by omega) h1 hW hl hX kk
      have hX := br_n hX c4
      by_cases c5 : x = 5
      · have hX := br_p hX c5
        refine lv_tableIn (tgt := 389) C.1 C.2.1 dL_law_40 (by rw [c5]; decide) (by rw [c5]; decide) (by rw [c5]; rfl) (by decide) ?_
        exact l_runner hst C hXs hbl hbA hKS (by omega) (by omega) h1 h2 hW hl hX kk
      have hX := br_n hX c5
      by_cases c6 : x = 6
      · have hX := br_p hX c6
        refine lv_tableIn (tgt := 457) C.1 C.2.1 dL_law_40 (by rw [c6]; decide) (by rw [c6]; decide) (by rw [c6]; rfl) (by decide) ?_
        exact l_staked hst C hXs hbl hbA hKS (by omega) (by omega) h1 hW hl hX kk
      have hX := br_n hX c6
      by_cases c7 : x = 7
      · have hX := br_p hX c7
        refine lv_tableIn (tgt := 482) C.1 C.2.1 dL_law_40 (by rw [c7]; decide) (by rw [c7]; decide) (by rw [c7]; rfl) (by decide) ?_
        exact l_law hst C hXs hbl hbA hKS (by omega) (by omega) hW hl hX kk
      have hX := br_n hX c7
      by_cases c8 : x = 8
      · have hX := br_p hX c8
        refine lv_tableIn (tgt := 495) C.1 C.2.1 dL_law_40 (by rw [c8]; decide) (by rw [c8]; decide) (by rw [c8]; rfl) (by decide) ?_
        exact l_fault hst C hXs hbl hbA hKS (by omega) (by omega) hW hl hX kk
      have hX := br_n hX c8
      by_cases c9 : x = 9
      · have hX := br_p hX c9
        refine lv_tableIn (tgt := 508) C.1 C.2.1 dL_law_40 (by rw [c9]; decide) (by rw [c9]; decide) (by rw [c9]; rfl) (by decide) ?_
        exact l_wait hst C hXs hbl hbA hKS (by omega) (by omega) h1 hW hl hX kk
      have hX := br_n hX c9
      by_cases c10 : x = 10
      · have hX := br_p hX c10
        refine lv_tableIn (tgt := 533) C.1 C.2.1 dL_law_40 (by rw [c10]; decide) (by rw [c10]; decide) (by rw [c10]; rfl) (by decide) ?_
        exact l_file hst C hXs hbl hbA hKS (by omega) (by omega) h1 h2 hW hl fr2 hX kk
      have hX := br_n hX c10
      by_cases c11 : x = 11
      · have hX := br_p hX c11
        refine lv_tableIn (tgt := 570) C.1 C.2.1 dL_law_40 (by rw [c11]; decide) (by rw [c11]; decide) (by rw [c11]; rfl) (by decide) ?_
        exact l_witness hst C hXs hbl hbA hKS (by omega) (by omega) h1 h2 h3 hW hl fr3 hX kk
      have hX := br_n hX c11
      by_cases c12 : x = 12
      · have hX := br_p hX c12
        refine lv_tableIn (tgt := 619) C.1 C.2.1 dL_law_40 (by rw [c12]; decide) (by rw [c12]; decide) (by rw [c12]; rfl) (by decide) ?_
        exact l_span hst C hXs hbl hbA hKS (by omega) (by omega) h1 h2 h3 hW hl hX kk
      have hX := br_n hX c12
      by_cases c13 : x = 13
      · have hX := br_p hX c13
        refine lv_tableIn (tgt := 668) C.1 C.2.1 dL_law_40 (by rw [c13]; decide) (by rw [c13]; decide) (by rw [c13]; rfl) (by decide) ?_
        exact l_judge hst C hXs hbl hbA hKS (by omega) (by omega) h1 h2 hW hl hX kk
      have hX := br_n hX c13
      by_cases c14 : x = 14
      · have hX := br_p hX c14
        refine lv_tableIn (tgt := 705) C.1 C.2.1 dL_law_40 (by rw [c14]; decide) (by rw [c14]; decide) (by rw [c14]; rfl) (by decide) ?_
        exact l_doubt hst C hXs hbl hbA hKS (by omega) (by omega) h1 h2 hW hl hX kk
      have hX := br_n hX c14
      by_cases c15 : x = 15
      · have hX := br_p hX c15
        refine lv_tableIn (tgt := 742) C.1 C.2.1 dL_law_40 (by rw [c15]; decide) (by rw [c15]; decide) (by rw [c15]; rfl) (by decide) ?_
        exact l_lots hst C hXs hbl hbA hKS (by omega) (by omega) hW hl hX kk
      have hX := br_n hX c15
      by_cases c16 : x = 16
      · have hX := br_p hX c16
        refine lv_tableIn (tgt := 755) C.1 C.2.1 dL_law_40 (by rw [c16]; decide) (by rw [c16]; decide) (by rw [c16]; rfl) (by decide) ?_
        exact l_drawn hst C hXs hbl hbA hKS (by omega) (by omega) h1 hW hl hX kk
      have hX := br_n hX c16
      by_cases c17 : x = 17
      · have hX := br_p hX c17
        refine lv_tableIn (tgt := 780) C.1 C.2.1 dL_law_40 (by rw [c17]; decide) (by rw [c17]; decide) (by rw [c17]; rfl) (by decide) ?_
        exact l_bid hst C hXs hbl hbA hKS (by omega) (by omega) h1 hW hl hX kk
      have hX := br_n hX c17
      by_cases c18 : x = 18
      · have hX := br_p hX c18
        refine lv_tableIn (tgt := 805) C.1 C.2.1 dL_law_40 (by rw [c18]; decide) (by rw [c18]; decide) (by rw [c18]; rfl) (by decide) ?_
        exact l_sell hst C hXs hbl hbA hKS (by omega) (by omega) hW hl hX kk
      have hX := br_n hX c18
      by_cases c19 : x = 19
      · have hX := br_p hX c19
        refine lv_tableIn (tgt := 818) C.1 C.2.1 dL_law_40 (by rw [c19]; decide) (by rw [c19]; decide) (by rw [c19]; rfl) (by decide) ?_
        exact l_bought hst C hXs hbl hbA hKS (by omega) (by omega) h1 hW hl hX kk
      have hX := br_n hX c19
      by_cases c20 : x = 20
      · have hX := br_p hX c20
        refine lv_tableIn (tgt := 843) C.1 C.2.1 dL_law_40 (by rw [c20]; decide) (by rw [c20]; decide) (by rw [c20]; rfl) (by decide) ?_
        exact l_count hst C hXs hbl hbA hKS (by omega) (by omega) h1 hW hl hX kk
      have hX := br_n hX c20
      refine lv_tableOut (tgt := 868) C.1 C.2.1 dL_law_40 (by have g0 := ts_n (z := 0) (by decide) c0; have g1 := ts_n (z := 1) (by decide) c1; have g2 := ts_n (z := 2) (by decide) c2; have g3 := ts_n (z := 3) (by decide) c3; have g4 := ts_n (z := 4) (by decide) c4; have g5 := ts_n (z := 5) (by decide) c5; have g6 := ts_n (z := 6) (by decide) c6; have g7 := ts_n (z := 7) (by decide) c7; have g8 := ts_n (z := 8) (by decide) c8; have g9 := ts_n (z := 9) (by decide) c9; have g10 := ts_n (z := 10) (by decide) c10; have g11 := ts_n (z := 11) (by decide) c11; have g12 := ts_n (z := 12) (by decide) c12; have g13 := ts_n (z := 13) (by decide) c13; have g14 := ts_n (z := 14) (by decide) c14; have g15 := ts_n (z := 15) (by decide) c15; have g16 := ts_n (z := 16) (by decide) c16; have g17 := ts_n (z := 17) (by decide) c17; have g18 := ts_n (z := 18) (by decide) c18; have g19 := ts_n (z := 19) (by decide) c19; have g20 := ts_n (z := 20) (by decide) c20; omega) (by decide) ?_
      cases hX
      refine W.widen (k := 61 + 3 * j + 3) (n := 4597 + 40 * j + 40) (by omega) (by omega) ?_
      exact kk ad f _ _ _ rfl hW hl
