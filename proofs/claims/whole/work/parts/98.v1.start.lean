theorem Rel_0 : Rel K00 T00 S00 := by
  have z : ∀ k, k ≠ 23 → k ≠ 59 → S00.1 k = fun _ => 0 := fun k h1 h2 => by
    show (if k = 23 then _ else if k = 59 then _ else fun _ => 0) = _
    rw [if_neg h1, if_neg h2]
  refine ⟨0, 0, 0, 0, 0, fun _ => 0, fun _ => 0, fun _ => 0, fun _ => 0, fun _ => 0, fun _ => 0, fun _ => 0, ?_, ?_, ?_, ?_, ?_, ?_, ?_, ?_, ?_, ?_, ?_⟩
  · exact ⟨rfl, rfl, rfl, rfl, rfl, rfl, rfl, rfl, rfl⟩
  · refine ⟨0, by omega, rfl, rfl, fun j _ => ?_⟩
    rw [z 1 (by decide) (by decide)]
    refine ⟨?_, (by decide : -128 ≤ (0 : Int32).toInt), (by decide : (0 : Int32).toInt < 128)⟩
    show (0 : Int32) = 0 &&& 255
    decide
  · intro q _
    exact ⟨⟨0, by omega, rfl, rfl⟩, 0, by omega, rfl, rfl⟩
  · exact ⟨by omega, rfl, rfl, rfl, Or.inl rfl⟩
  · exact ⟨fun _ _ _ => rfl, fun h => absurd h (by decide), rfl⟩
  · refine ⟨by omega, rfl, rfl, fun k hk => absurd hk (by omega), fun k _ _ => ⟨fun i _ => rfl, fun h => ?_, fun h => absurd rfl h, rfl⟩, Or.inl rfl⟩
    exact (by decide : ∀ k, k < 8 → S00.1 59 k = -1) k h
  · exact ⟨⟨0, by omega, rfl, rfl⟩, Or.inl ⟨rfl, rfl⟩, ⟨0, by omega, rfl, rfl⟩, ⟨999, by omega, rfl, rfl⟩, ⟨2, by omega, rfl, rfl⟩, rfl, rfl⟩
  · exact ⟨by omega, rfl, rfl⟩
  · exact ⟨⟨by omega, rfl, rfl⟩, ⟨by omega, rfl, rfl⟩, fun k hk => absurd hk (by omega), fun i j _ hj => absurd hj (by omega), fun w hw => absurd hw (by omega)⟩
  · refine ⟨?_, fun x => ?_⟩
    · refine ⟨by decide, fun j h => ?_⟩
      simp [K00] at h
    · refine ⟨fun h => ?_, fun h => ?_, fun h => ?_, fun h => ?_, fun h => ?_⟩ <;> simp [K00] at h
  · have nn : ∀ {x : Nat}, (none : Option Nat) = some x → x < 0 := fun w => nomatch w
    exact ⟨fun _ _ h => nn h, fun _ _ _ h => nn h, fun _ _ _ h => nn h, fun _ _ h => nn h, fun _ _ h => nn h⟩
