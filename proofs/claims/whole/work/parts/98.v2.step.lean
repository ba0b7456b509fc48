theorem st_ite {α : Type} {c : Prop} [Decidable c] {a b : Option α} {P : α → Prop} (ha : ∃ Y, some Y = a ∧ P Y) (hb : ¬ c → ∃ Y, some Y = b ∧ P Y) : ∃ Y, some Y = (if c then a else b) ∧ P Y := by
  by_cases h : c
  · rw [if_pos h]
    exact ha
  · rw [if_neg h]
    exact hb h
theorem Rel_step (K : List (Nat × Nat)) (t : TH) (σ : St) (h : Rel K t σ) (x a1 a2 a3 a4 a5 : Int32) : ∃ Y, some Y = L_step x a1 a2 a3 a4 a5 K t σ ∧ Rel Y.1 Y.2.1 Y.2.2 := by
  unfold L_step
  refine st_ite (P := fun Y : List (Nat × Nat) × TH × St => Rel Y.1 Y.2.1 Y.2.2) (p_feed h a1 a2 a3 a4 a5) (fun _ => ?_)
  refine st_ite (P := fun Y : List (Nat × Nat) × TH × St => Rel Y.1 Y.2.1 Y.2.2) (p_end h a1) (fun _ => ?_)
  refine st_ite (P := fun Y : List (Nat × Nat) × TH × St => Rel Y.1 Y.2.1 Y.2.2) (p_land h a1 a2 a3) (fun _ => ?_)
  refine st_ite (P := fun Y : List (Nat × Nat) × TH × St => Rel Y.1 Y.2.1 Y.2.2) (p_person h a1 a2 a3 a4) (fun _ => ?_)
  refine st_ite (P := fun Y : List (Nat × Nat) × TH × St => Rel Y.1 Y.2.1 Y.2.2) (p_run h a1) (fun _ => ?_)
  refine st_ite (P := fun Y : List (Nat × Nat) × TH × St => Rel Y.1 Y.2.1 Y.2.2) (p_runner h a1 a2) (fun _ => ?_)
  refine st_ite (P := fun Y : List (Nat × Nat) × TH × St => Rel Y.1 Y.2.1 Y.2.2) (p_staked h a1) (fun _ => ?_)
  refine st_ite (P := fun Y : List (Nat × Nat) × TH × St => Rel Y.1 Y.2.1 Y.2.2) (p_law h) (fun _ => ?_)
  refine st_ite (P := fun Y : List (Nat × Nat) × TH × St => Rel Y.1 Y.2.1 Y.2.2) (p_fault h) (fun _ => ?_)
  refine st_ite (P := fun Y : List (Nat × Nat) × TH × St => Rel Y.1 Y.2.1 Y.2.2) (p_wait h a1) (fun _ => ?_)
  refine st_ite (P := fun Y : List (Nat × Nat) × TH × St => Rel Y.1 Y.2.1 Y.2.2) (p_file h a1 a2) (fun _ => ?_)
  refine st_ite (P := fun Y : List (Nat × Nat) × TH × St => Rel Y.1 Y.2.1 Y.2.2) (p_witness h a1 a2 a3) (fun _ => ?_)
  refine st_ite (P := fun Y : List (Nat × Nat) × TH × St => Rel Y.1 Y.2.1 Y.2.2) (p_span h a1 a2 a3) (fun _ => ?_)
  refine st_ite (P := fun Y : List (Nat × Nat) × TH × St => Rel Y.1 Y.2.1 Y.2.2) (p_judge h a1 a2) (fun _ => ?_)
  refine st_ite (P := fun Y : List (Nat × Nat) × TH × St => Rel Y.1 Y.2.1 Y.2.2) (p_doubt h a1 a2) (fun _ => ?_)
  refine st_ite (P := fun Y : List (Nat × Nat) × TH × St => Rel Y.1 Y.2.1 Y.2.2) (p_lots h) (fun _ => ?_)
  refine st_ite (P := fun Y : List (Nat × Nat) × TH × St => Rel Y.1 Y.2.1 Y.2.2) (p_drawn h a1) (fun _ => ?_)
  refine st_ite (P := fun Y : List (Nat × Nat) × TH × St => Rel Y.1 Y.2.1 Y.2.2) (p_bid h a1) (fun _ => ?_)
  refine st_ite (P := fun Y : List (Nat × Nat) × TH × St => Rel Y.1 Y.2.1 Y.2.2) (p_sell h) (fun _ => ?_)
  refine st_ite (P := fun Y : List (Nat × Nat) × TH × St => Rel Y.1 Y.2.1 Y.2.2) (p_bought h a1) (fun _ => ?_)
  refine st_ite (P := fun Y : List (Nat × Nat) × TH × St => Rel Y.1 Y.2.1 Y.2.2) (p_count h a1) (fun _ => ?_)
  exact ⟨(K, t, σ), rfl, h⟩
