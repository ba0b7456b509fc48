set_option maxHeartbeats 4000000 in
set_option maxRecDepth 100000 in
theorem law_start {p : Program} {e : Env} {s : State} {m : MethodId} {below : List Frame} {meth : Method} {c : Code} (l : Launch) (hst : l.stackTraces = false) {b L : Nat} {xs : Nat → Int32} (hL : L ≤ 3072) (C0 : lw_At p s m meth c b L xs) (Inv : List (Nat × Nat) → TH → St → Prop) (hks : ∀ K t σ, Inv K t σ → KS K) (hfr : ∀ K t σ, Inv K t σ → Fresh K t) (hstep : ∀ K t σ, Inv K t σ → ∀ x a1 a2 a3 a4 a5 : Int32, ∃ Y, some Y = L_step x a1 a2 a3 a4 a5 K t σ ∧ Inv Y.1 Y.2.1 Y.2.2) (hI0 : Inv K00 T00 S00) : W p l e room_1 s m #[Value.ref b] below meth c s.heap [] 0 0 (lw_Z below #[Value.ref b] s) (entryFrame m ([Value.ref b] : List Value).toArray 7) := by
  obtain ⟨hx, hb, hr, hml, hown, hts, hX, hbl, hlocks, hgv⟩ := id C0
  have C : Cx p s m #[Value.ref b] c code 7 wsL_law RL := ⟨hx, hb, hml, hown, fun w hw => hts w (wsL_law_in w hw)⟩
  obtain ⟨c0, iS0, hKn0⟩ := u_known (C := RX0) (T := TX0) (N := 3) (n := 3) hts inX0 (hts (.instantiable RX0 3) (by decide +kernel))
  obtain ⟨c1, iS1, hKn1⟩ := u_known (C := RX1) (T := TX1) (N := 10) (n := 10) hts inX1 (hts (.instantiable RX1 10) (by decide +kernel))
  obtain ⟨c2, iS2, hKn2⟩ := u_known (C := RX2) (T := TX2) (N := 6) (n := 6) hts inX2 (hts (.instantiable RX2 6) (by decide +kernel))
  obtain ⟨c3, iS3, hKn3⟩ := u_known (C := RX3) (T := TX3) (N := 4) (n := 4) hts inX3 (hts (.instantiable RX3 4) (by decide +kernel))
  obtain ⟨c4, iS4, hKn4⟩ := u_known (C := RX4) (T := TX4) (N := 6) (n := 6) hts inX4 (hts (.instantiable RX4 6) (by decide +kernel))
  obtain ⟨c5, iS5, hKn5⟩ := u_known (C := RX5) (T := TX5) (N := 9) (n := 9) hts inX5 (hts (.instantiable RX5 9) (by decide +kernel))
  obtain ⟨c6, iS6, hKn6⟩ := u_known (C := RX6) (T := TX6) (N := 2) (n := 2) hts inX6 (hts (.instantiable RX6 2) (by decide +kernel))
  obtain ⟨c7, iS7, hKn7⟩ := u_known (C := RX7) (T := TX7) (N := 15) (n := 15) hts inX7 (hts (.instantiable RX7 15) (by decide +kernel))
  obtain ⟨c8, iS8, hKn8⟩ := u_known (C := RX8) (T := TX8) (N := 4) (n := 4) hts inX8 (hts (.instantiable RX8 4) (by decide +kernel))
  obtain ⟨c9, iS9, hKn9⟩ := u_known (C := RX9) (T := TX9) (N := 2) (n := 2) hts inX9 (hts (.instantiable RX9 2) (by decide +kernel))
  obtain ⟨c10, iS10, hKn10⟩ := u_known (C := RX10) (T := TX10) (N := 4) (n := 4) hts inX10 (hts (.instantiable RX10 4) (by decide +kernel))
  obtain ⟨c11, iS11, hKn11⟩ := u_known (C := RX11) (T := TX11) (N := 9) (n := 9) hts inX11 (hts (.instantiable RX11 9) (by decide +kernel))
  obtain ⟨c12, iS12, hKn12⟩ := u_known (C := RX12) (T := TX12) (N := 62) (n := 62) hts inX12 (hts (.instantiable RX12 62) (by decide +kernel))
  obtain ⟨dC, dI, hKc⟩ : ∃ (dC : Nat → ClassId) (dI : Nat → Nat → Nat), ∀ (k : Nat) (q : vw_C), vwCl[k]? = some q → u_Kn s q.1 q.2.1 q.2.2 (dC k) (dI k) := by
    refine ⟨fun k => if k = 0 then c0 else if k = 1 then c1 else if k = 2 then c2 else if k = 3 then c3 else if k = 4 then c4 else if k = 5 then c5 else if k = 6 then c6 else if k = 7 then c7 else if k = 8 then c8 else if k = 9 then c9 else if k = 10 then c10 else if k = 11 then c11 else c12, fun k => if k = 0 then iS0 else if k = 1 then iS1 else if k = 2 then iS2 else if k = 3 then iS3 else if k = 4 then iS4 else if k = 5 then iS5 else if k = 6 then iS6 else if k = 7 then iS7 else if k = 8 then iS8 else if k = 9 then iS9 else if k = 10 then iS10 else if k = 11 then iS11 else iS12, ?_⟩
    intro k q hq
    match k, hq with
    | 0, hq => cases hq; exact hKn0
    | 1, hq => cases hq; exact hKn1
    | 2, hq => cases hq; exact hKn2
    | 3, hq => cases hq; exact hKn3
    | 4, hq => cases hq; exact hKn4
    | 5, hq => cases hq; exact hKn5
    | 6, hq => cases hq; exact hKn6
    | 7, hq => cases hq; exact hKn7
    | 8, hq => cases hq; exact hKn8
    | 9, hq => cases hq; exact hKn9
    | 10, hq => cases hq; exact hKn10
    | 11, hq => cases hq; exact hKn11
    | 12, hq => cases hq; exact hKn12
    | k + 13, hq => simp [vwCl] at hq
  obtain ⟨y0, ya0, yb0⟩ := ArrP (hts (.arrayClass .byte) (by decide +kernel))
  obtain ⟨y1, ya1, yb1⟩ := ArrP (hts (.arrayClass .int) (by decide +kernel))
  obtain ⟨y2, ya2, yb2⟩ := ArrP (hts (.arrayClass .long) (by decide +kernel))
  obtain ⟨y3, ya3, yb3⟩ := ArrP (hts (.arrayClass .boolean) (by decide +kernel))
  obtain ⟨y4, ya4, yb4⟩ := ArrO (hts (.arrayOver (.object "LandRun$Person")) (by decide +kernel))
  obtain ⟨y5, ya5, yb5⟩ := ArrO (hts (.arrayOver (.object "LandRun$Claim")) (by decide +kernel))
  obtain ⟨cs, hcs⟩ : ∃ cs : Nat → ClassId, cs = fun k => if k = 0 then y0 else if k = 1 then y1 else if k = 2 then y2 else if k = 3 then y3 else if k = 4 then y4 else y5 := ⟨_, rfl⟩
  have hK : va_K (dC, dI) vwCl (tyC cs) s := by
    refine ⟨hKc, fun k q hq => ?_⟩
    subst hcs
    match k, hq with
    | 0, hq => cases hq; exact ⟨ya0, yb0⟩
    | 1, hq => cases hq; exact ⟨ya1, yb1⟩
    | 2, hq => cases hq; exact ⟨ya2, yb2⟩
    | 3, hq => cases hq; exact ⟨ya3, yb3⟩
    | 4, hq => cases hq; exact ⟨ya4, yb4⟩
    | 5, hq => cases hq; exact ⟨ya5, yb5⟩
    | k + 6, hq => simp [tyM] at hq
  obtain ⟨ek, ev, tp, hE⟩ := law_ev hts hgv
  have hW : GW (EvA ek ev tp) (dC, dI) (tyC cs) idw (fun q : Nat => s.heap.size ≤ q) s [] s.heap [] := ⟨hK, fun k q h => by simp at h, ⟨fun i j p q h => by simp at h, fun k q h => by simp at h⟩, va_S.rf, fun _ h => h, hE, EvA_ok ek ev tp⟩
  have hl := lv_entry ([.ref b]) (n := 7) (Nat.le_of_ble_eq_true rfl)
  rw [lg_entry_eq]
  generalize (lg_sl ([.ref b]) ++ List.replicate (7 - (lg_sl ([.ref b])).length) Slot.unset).toArray = ls at hl ⊢
  have hl : lv_has ls 7 [(0, .ref b)] := hl
  refine X_new (fs := [.null, .null, .null, .null, .null, .null, .null, .null, .int 0]) C hW 11 rfl inlX11 tyX11 tyX11_ok (C.2.2.2.2 (.classLink RL 8 RX11) (by decide +kernel)) (C.2.2.2.2 (.instantiable RX11 9) (by decide +kernel)) (C.2.2.2.2 (.initialized RX11) (by decide +kernel)) (fun j hj => by rcases (show j = 0 ∨ j = 1 ∨ j = 2 ∨ j = 3 ∨ j = 4 ∨ j = 5 ∨ j = 6 ∨ j = 7 ∨ j = 8 by omega) with rfl | rfl | rfl | rfl | rfl | rfl | rfl | rfl | rfl <;> rfl) (Nat.le_of_ble_eq_true rfl) (Nat.le_of_ble_eq_true rfl) dL_law_0 (fun h1 H hW => ?_)
  refine W.widen (k := 1) (n := 9) (Nat.le_of_ble_eq_true rfl) (Nat.le_of_ble_eq_true rfl) ?_
  refine lv_dup C.1 C.2.1 dL_law_3 rfl ?_
  refine X_I (w := idw) (σ := [(h1, .inr (11, [.null, .null, .null, .null, .null, .null, .null, .null, .int 0]))]) (wr := []) (As := []) (rest := [.ref h1]) C hW (c_N_X11_init l (dC, dI) cs h1 (fun _ _ _ hE => hE.2.2.2.2.2.2.2.2.2.2.2.1) (fun _ _ _ hE => hE.2.2.2.2.2.2.2.2.2.2.2.2.1) (fun _ _ _ hE => hE.2.2.2.2.2.2.2.2.2.2.2.2.2.1) (fun _ _ _ hE => hE.2.2.2.2.2.2.2.2.2.2.2.2.2.2.1) (fun _ _ _ hE => hE.2.1) (fun _ _ _ hE => hE.2.2.2.2.2.2.2.2.2.2.2.2.2.2.2) (fun _ _ _ hE => hE.2.2.1)) (cwI 0 C.2.2.2.2 gL_law_X11_init rfl rfl rfl (C.2.2.2.2 (.initialized RX11) (by decide +kernel)) (C.2.2.2.2 (.methodLink RL 15 yX11_init) (by decide +kernel)) (C.2.2.2.2 (.instanceMethod yX11_init) (by decide +kernel)) rfl (by decide +kernel) ⟨(Nat.le_of_ble_eq_true rfl), (Nat.le_of_ble_eq_true rfl)⟩) rfl hl.1 rfl (Nat.le_of_ble_eq_true rfl) dL_law_4 ⟨(Nat.le_of_ble_eq_true rfl), (Nat.le_of_ble_eq_true rfl)⟩ (fun u1 H locs hu hW => ?_)
  obtain ⟨q1, q2, q3, q4, q5, q6, q7, q8, q9, q10, q11, q12, q13, q14, q15, q16, q17, q18, hu⟩ := hu
  obtain ⟨ad, had⟩ : ∃ ad : AD, ad = fun c i => if c = 14 ∧ i = 1 then q18 else if c = 14 ∧ i = 0 then q17 else if c = 0 ∧ i = 0 then q16 else if c = 16 ∧ i = 1 then q15 else if c = 16 ∧ i = 0 then q14 else if c = 2 ∧ i = 0 then q13 else if c = 4 ∧ i = 1 then q12 else if c = 5 ∧ i = 0 then q11 else if c = 4 ∧ i = 0 then q10 else if c = 8 ∧ i = 0 then q9 else if c = 15 ∧ i = 1 then q8 else if c = 6 ∧ i = 0 then q7 else if c = 15 ∧ i = 0 then q6 else if c = 13 ∧ i = 2 then q5 else if c = 13 ∧ i = 1 then q4 else if c = 3 ∧ i = 0 then q3 else if c = 13 ∧ i = 0 then q2 else if c = 9 ∧ i = 0 then q1 else h1 := ⟨_, rfl⟩
  have hu1 : u1 = wC cs ad K00 T00 := by rw [hu, had]; rfl
  have hd : h1 = ad 11 0 := by rw [had]; rfl
  clear hu had
  subst hu1
  have hW : GW (EvA ek ev tp) (dC, dI) (tyC cs) idw (fun q : Nat => s.heap.size ≤ q) s (wC cs ad K00 T00 ++ []) H locs := hW
  rw [List.append_nil] at hW
  refine W.widen (k := 19) (n := 857) (Nat.le_of_ble_eq_true rfl) (Nat.le_of_ble_eq_true rfl) ?_
  refine lv_astore_n (lv' := [(1, .ref h1), (0, .ref b)]) C.1 C.2.1 dL_law_7 rfl hl (by decide) rfl (fun ls hl => ?_)
  refine X_new (fs := [.int 0, .null, .int 0, .int 0, .int 0, .null, .null, .null, .null, .null, .null, .null, .null, .null, .null, .null, .null, .null, .null, .null, .int 0, .int 0, .int 0, .null, .null, .null, .int 0, .int 0, .int 0, .int 0, .int 0, .int 0, .int 0, .long 0, .null, .null, .null, .null, .null, .null, .null, .int 0, .int 0, .int 0, .int 0, .int 0, .null, .null, .null, .int 0, .null, .int 0, .null, .null, .null, .null, .null, .null, .null, .null, .null, .null]) C hW 12 rfl inlX12 tyX12 tyX12_ok (C.2.2.2.2 (.classLink RL 16 RX12) (by decide +kernel)) (C.2.2.2.2 (.instantiable RX12 62) (by decide +kernel)) (C.2.2.2.2 (.initialized RX12) (by decide +kernel)) (fun j hj => by rcases (show j = 0 ∨ j = 1 ∨ j = 2 ∨ j = 3 ∨ j = 4 ∨ j = 5 ∨ j = 6 ∨ j = 7 ∨ j = 8 ∨ j = 9 ∨ j = 10 ∨ j = 11 ∨ j = 12 ∨ j = 13 ∨ j = 14 ∨ j = 15 ∨ j = 16 ∨ j = 17 ∨ j = 18 ∨ j = 19 ∨ j = 20 ∨ j = 21 ∨ j = 22 ∨ j = 23 ∨ j = 24 ∨ j = 25 ∨ j = 26 ∨ j = 27 ∨ j = 28 ∨ j = 29 ∨ j = 30 ∨ j = 31 ∨ j = 32 ∨ j = 33 ∨ j = 34 ∨ j = 35 ∨ j = 36 ∨ j = 37 ∨ j = 38 ∨ j = 39 ∨ j = 40 ∨ j = 41 ∨ j = 42 ∨ j = 43 ∨ j = 44 ∨ j = 45 ∨ j = 46 ∨ j = 47 ∨ j = 48 ∨ j = 49 ∨ j = 50 ∨ j = 51 ∨ j = 52 ∨ j = 53 ∨ j = 54 ∨ j = 55 ∨ j = 56 ∨ j = 57 ∨ j = 58 ∨ j = 59 ∨ j = 60 ∨ j = 61 by omega) with rfl | rfl | rfl | rfl | rfl | rfl | rfl | rfl | rfl | rfl | rfl | rfl | rfl | rfl | rfl | rfl | rfl | rfl | rfl | rfl | rfl | rfl | rfl | rfl | rfl | rfl | rfl | rfl | rfl | rfl | rfl | rfl | rfl | rfl | rfl | rfl | rfl | rfl | rfl | rfl | rfl | rfl | rfl | rfl | rfl | rfl | rfl | rfl | rfl | rfl | rfl | rfl | rfl | rfl | rfl | rfl | rfl | rfl | rfl | rfl | rfl | rfl <;> rfl) (Nat.le_of_ble_eq_true rfl) (Nat.le_of_ble_eq_true rfl) dL_law_8 (fun h2 H hW => ?_)
  refine W.widen (k := 20) (n := 919) (Nat.le_of_ble_eq_true rfl) (Nat.le_of_ble_eq_true rfl) ?_
  refine lv_dup C.1 C.2.1 dL_law_11 rfl ?_
  refine X_I (w := idw) (σ := [(h2, .inr (12, [.int 0, .null, .int 0, .int 0, .int 0, .null, .null, .null, .null, .null, .null, .null, .null, .null, .null, .null, .null, .null, .null, .null, .int 0, .int 0, .int 0, .null, .null, .null, .int 0, .int 0, .int 0, .int 0, .int 0, .int 0, .int 0, .long 0, .null, .null, .null, .null, .null, .null, .null, .int 0, .int 0, .int 0, .int 0, .int 0, .null, .null, .null, .int 0, .null, .int 0, .null, .null, .null, .null, .null, .null, .null, .null, .null, .null]))]) (wr := wC cs ad K00 T00) (As := []) (rest := [.ref h2]) C hW (c_N_X12_init l (dC, dI) cs h2) (cwI 0 C.2.2.2.2 gL_law_X12_init rfl rfl rfl (C.2.2.2.2 (.initialized RX12) (by decide +kernel)) (C.2.2.2.2 (.methodLink RL 18 yX12_init) (by decide +kernel)) (C.2.2.2.2 (.instanceMethod yX12_init) (by decide +kernel)) rfl (by decide +kernel) ⟨(Nat.le_of_ble_eq_true rfl), (Nat.le_of_ble_eq_true rfl)⟩) rfl hl.1 rfl (Nat.le_of_ble_eq_true rfl) dL_law_12 ⟨(Nat.le_of_ble_eq_true rfl), (Nat.le_of_ble_eq_true rfl)⟩ (fun u2 H locs hu hW => ?_)
  obtain ⟨z1, z2, z3, z4, z5, z6, z7, z8, z9, z10, z11, z12, z13, z14, z15, z16, z17, z18, z19, z20, z21, z22, z23, z24, z25, z26, z27, z28, z29, z30, z31, z32, z33, z34, z35, z36, z37, z38, z39, z40, hu⟩ := hu
  obtain ⟨a, ha⟩ : ∃ a : Nat → Nat, a = fun k => if k = 1 then z1 else if k = 5 then z2 else if k = 6 then z3 else if k = 7 then z4 else if k = 8 then z5 else if k = 9 then z6 else if k = 10 then z7 else if k = 11 then z8 else if k = 12 then z9 else if k = 13 then z10 else if k = 14 then z11 else if k = 15 then z12 else if k = 16 then z13 else if k = 17 then z14 else if k = 18 then z15 else if k = 19 then z16 else if k = 23 then z17 else if k = 24 then z18 else if k = 25 then z19 else if k = 34 then z20 else if k = 35 then z21 else if k = 36 then z22 else if k = 37 then z23 else if k = 38 then z24 else if k = 39 then z25 else if k = 40 then z26 else if k = 46 then z27 else if k = 47 then z28 else if k = 48 then z29 else if k = 50 then z30 else if k = 52 then z31 else if k = 53 then z32 else if k = 54 then z33 else if k = 55 then z34 else if k = 56 then z35 else if k = 57 then z36 else if k = 58 then z37 else if k = 59 then z38 else if k = 60 then z39 else if k = 61 then z40 else 0 := ⟨_, rfl⟩
  have hu2 : u2 = (wM h2 a cs S00).reverse := by rw [hu, ha]; rfl
  clear hu ha
  subst hu2
  have hW : GW (EvA ek ev tp) (dC, dI) (tyC cs) idw (fun q : Nat => s.heap.size ≤ q) s ((wM h2 a cs S00).reverse ++ wC cs ad K00 T00) H locs := hW
  refine W.widen (k := 60) (n := 4596) (Nat.le_of_ble_eq_true rfl) (Nat.le_of_ble_eq_true rfl) ?_
  refine lv_astore_n (lv' := [(2, .ref h2), (1, .ref h1), (0, .ref b)]) C.1 C.2.1 dL_law_15 rfl hl (by decide) rfl (fun ls hl => ?_)
  refine lv_iconst (v := 1) C.1 C.2.1 dL_law_16 (by decide) ?_
  refine X_newJ C hW (C.2.2.2.2 (.arrayClass .long) (by decide +kernel)) (n := 1) (N := 1) (by decide) rfl (Nat.le_of_ble_eq_true rfl) (Nat.le_of_ble_eq_true rfl) (Nat.le_of_ble_eq_true rfl) dL_law_17 (fun ao H hW => ?_)
  have hW : GW (EvA ek ev tp) (dC, dI) (tyC cs) idw (fun q : Nat => s.heap.size ≤ q) s (oW cs ao (fun _ => 0) :: (wC cs ad K00 T00 ++ wM h2 a cs S00)) H _ := GX_perm (List.Perm.cons _ (List.perm_append_comm.trans (List.Perm.append_left _ (List.reverse_perm _)))) hW
  refine W.widen (k := 61) (n := 4597) (Nat.le_of_ble_eq_true rfl) (Nat.le_of_ble_eq_true rfl) ?_
  refine lv_astore_n (lv' := [(3, .ref ao), (2, .ref h2), (1, .ref h1), (0, .ref b)]) C.1 C.2.1 dL_law_19 rfl hl (by decide) rfl (fun ls hl => ?_)
  refine lv_iconst (v := 0) C.1 C.2.1 dL_law_20 (by decide) ?_
  refine lv_istore (lv' := [(4, .int 0), (3, .ref ao), (2, .ref h2), (1, .ref h1), (0, .ref b)]) C.1 C.2.1 dL_law_21 hl (by decide) rfl (fun ls hl => ?_)
  rw [hd] at hl
  exact law_loop hst hL C hr hlocks hX hbl Inv hks hfr hstep h2 a ao 513 0 0 (Nat.zero_le _) (by omega) (by decide) ad K00 T00 S00 _ H _ ls hI0 hW (lv_sub hl [4, 3, 2, 1, 0] rfl)
