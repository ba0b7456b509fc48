theorem lN_b (n : Nat) : (lN n).toBitVec = BitVec.ofNat 64 n := rfl
theorem lN_of (x : Int64) : x = lN x.toBitVec.toNat := Int64.toBitVec_inj.mp (by rw [lN_b, BitVec.ofNat_toNat]; simp)
theorem lN_and (a b : Nat) : lN a &&& lN b = lN (a &&& b) := Int64.toBitVec_inj.mp (by rw [Int64.toBitVec_and, lN_b, lN_b, lN_b, BitVec.ofNat_and])
theorem ush (w : Int64) {j : Nat} (hj : j < 64) : ((w.toUInt64 >>> ((lN j).toUInt64 &&& Int64.toUInt64 63)).toInt64).toBitVec = w.toBitVec >>> j := by
  apply BitVec.eq_of_toNat_eq
  show (w.toUInt64 >>> ((lN j).toUInt64 &&& Int64.toUInt64 63)).toNat = _
  rw [UInt64.toNat_shiftRight, sh_u hj, Nat.mod_eq_of_lt hj]
  simp
  rfl
theorem lN_ush {a : Nat} (ha : a < 2 ^ 64) {j : Nat} (hj : j < 64) : (((lN a).toUInt64 >>> ((lN j).toUInt64 &&& Int64.toUInt64 63)).toInt64) = lN (a / 2 ^ j) := Int64.toBitVec_inj.mp (by
  rw [ush _ hj, lN_b, lN_b]
  apply BitVec.eq_of_toNat_eq
  rw [BitVec.toNat_ushiftRight, BitVec.toNat_ofNat, BitVec.toNat_ofNat, Nat.mod_eq_of_lt ha, Nat.shiftRight_eq_div_pow]
  exact (Nat.mod_eq_of_lt (Nat.lt_of_le_of_lt (Nat.div_le_self _ _) ha)).symm)
theorem lN_i32 (n : Nat) : (lN n).toInt32 = nI n := Int32.toBitVec_inj.mp (by
  show (BitVec.ofNat 64 n).signExtend 32 = BitVec.ofNat 32 n
  rw [BitVec.signExtend_eq_setWidth_of_le _ (by omega)]
  apply BitVec.eq_of_toNat_eq
  simp)
theorem mk85 : mk8 85 8 = 6148914691236517205 := rfl
theorem mk51 : mk8 51 8 = 3689348814741910323 := rfl
theorem mk15 : mk8 15 8 = 1085102592571150095 := rfl
theorem bc_eq (x : Int64) : C_J13_bitCount x = some (nI (bitsN x.toBitVec.toNat 64)) := by
  have hX := x.toBitVec.isLt
  rw [lN_of x]
  generalize x.toBitVec.toNat = X at hX
  rw [show (lN X).toBitVec.toNat = X from by rw [lN_b, BitVec.toNat_ofNat]; exact Nat.mod_eq_of_lt hX]
  obtain ⟨p0, p1, p2, p3, p4, p5, p6, p7, a0, a1, a2, a3, a4, a5, a6, a7, hw, hb⟩ := pop_sum X hX
  unfold C_J13_bitCount
  simp only [nm_eq]
  have e1 : lN X - (((lN X).toUInt64 >>> ((1 : Int32).toInt64.toUInt64 &&& Int64.toUInt64 63)).toInt64 &&& 6148914691236517205) = lN (w1 8 X) := by
    rw [show (1 : Int32).toInt64 = lN 1 from rfl, lN_ush hX (by omega), show (6148914691236517205 : Int64) = lN (mk8 85 8) from rfl, lN_and, lN_sub (Nat.le_trans Nat.and_le_left (Nat.div_le_self _ _))]
    rfl
  have l1 : w1 8 X < 2 ^ 64 := Nat.lt_of_le_of_lt (Nat.sub_le _ _) hX
  have e2 : (lN (w1 8 X) &&& 3689348814741910323) + (((lN (w1 8 X)).toUInt64 >>> ((2 : Int32).toInt64.toUInt64 &&& Int64.toUInt64 63)).toInt64 &&& 3689348814741910323) = lN (w2 8 (w1 8 X)) := by
    rw [show (2 : Int32).toInt64 = lN 2 from rfl, lN_ush l1 (by omega), show (3689348814741910323 : Int64) = lN (mk8 51 8) from rfl, lN_and, lN_and, lN_add]
    rfl
  have l2 : w2 8 (w1 8 X) < 2 ^ 64 := by
    have q1 : w1 8 X &&& mk8 51 8 ≤ mk8 51 8 := Nat.and_le_right
    have q2 : w1 8 X / 4 &&& mk8 51 8 ≤ mk8 51 8 := Nat.and_le_right
    rw [mk51] at q1 q2
    unfold w2
    rw [mk51]
    omega
  have e3 : (lN (w2 8 (w1 8 X)) + ((lN (w2 8 (w1 8 X))).toUInt64 >>> ((4 : Int32).toInt64.toUInt64 &&& Int64.toUInt64 63)).toInt64) &&& 1085102592571150095 = lN (ww 8 X) := by
    rw [show (4 : Int32).toInt64 = lN 4 from rfl, lN_ush l2 (by omega), show (1085102592571150095 : Int64) = lN (mk8 15 8) from rfl, lN_add, lN_and]
    rfl
  rw [e1, e2, e3, hw]
  obtain ⟨W6, hW6⟩ : ∃ z, z = 256 * p7 + p6 := ⟨_, rfl⟩
  obtain ⟨W5, hW5⟩ : ∃ z, z = 256 * W6 + p5 := ⟨_, rfl⟩
  obtain ⟨W4, hW4⟩ : ∃ z, z = 256 * W5 + p4 := ⟨_, rfl⟩
  obtain ⟨W3, hW3⟩ : ∃ z, z = 256 * W4 + p3 := ⟨_, rfl⟩
  obtain ⟨W2, hW2⟩ : ∃ z, z = 256 * W3 + p2 := ⟨_, rfl⟩
  obtain ⟨W1, hW1⟩ : ∃ z, z = 256 * W2 + p1 := ⟨_, rfl⟩
  obtain ⟨V, hV⟩ : ∃ z, z = 256 * W1 + p0 := ⟨_, rfl⟩
  rw [← hW6, ← hW5, ← hW4, ← hW3, ← hW2, ← hW1, ← hV]
  clear hw e1 e2 e3 l1 l2
  have b6 : W6 ≤ 2 ^ 12 := by omega
  have b5 : W5 ≤ 2 ^ 20 + 8 := by omega
  have b4 : W4 ≤ 2 ^ 29 := by omega
  have b3 : W3 ≤ 2 ^ 37 + 8 := by omega
  have b2 : W2 ≤ 2 ^ 46 := by omega
  have b1 : W1 ≤ 2 ^ 55 := by omega
  have bV : V < 2 ^ 63 + 2 ^ 10 := by omega
  have d1 : V / 2 ^ 8 = W1 := by clear b1 b2 b3 b4 b5 b6 bV; omega
  rw [show (8 : Int32).toInt64 = lN 8 from rfl, lN_ush (show V < 2 ^ 64 by omega) (by omega), d1, lN_add]
  have d2 : (V + W1) / 2 ^ 16 = W2 + W3 := by clear b1 b2 b3 b4 b5 b6 bV d1; omega
  rw [show (16 : Int32).toInt64 = lN 16 from rfl, lN_ush (show V + W1 < 2 ^ 64 by omega) (by omega), d2, lN_add]
  have x1 : V = 65536 * W2 + 256 * p1 + p0 := by omega
  have x2 : W2 = 65536 * W4 + 256 * p3 + p2 := by omega
  have x3 : W1 = 65536 * W3 + 256 * p2 + p1 := by omega
  have x4 : W3 = 65536 * W5 + 256 * p4 + p3 := by omega
  have x5 : W4 = 65536 * W6 + 256 * p5 + p4 := by omega
  have x6 : W5 = 65536 * p7 + 256 * p6 + p5 := by omega
  have y0 : V = 4294967296 * W4 + (16777216 * p3 + 65536 * p2 + 256 * p1 + p0) := by rw [x1, x2]; omega
  have y1 : W1 = 4294967296 * W5 + (16777216 * p4 + 65536 * p3 + 256 * p2 + p1) := by rw [x3, x4]; omega
  have y2 : W2 = 4294967296 * W6 + (16777216 * p5 + 65536 * p4 + 256 * p3 + p2) := by rw [x2, x5]; omega
  have y3 : W3 = 4294967296 * p7 + (16777216 * p6 + 65536 * p5 + 256 * p4 + p3) := by rw [x4, x6]; omega
  have d3 : (V + W1 + (W2 + W3)) / 2 ^ 32 = W4 + W5 + W6 + p7 := by
    rw [y0, y1, y2, y3]
    clear y0 y1 y2 y3 x1 x2 x3 x4 x5 x6 d1 d2 b1 b2 b3 b4 b5 b6 bV hV hW1 hW2 hW3 hW4 hW5 hW6
    omega
  rw [show (32 : Int32).toInt64 = lN 32 from rfl, lN_ush (show V + W1 + (W2 + W3) < 2 ^ 64 by clear y0 y1 y2 y3 x1 x2 x3 x4 x5 x6 d1 d2 d3 hV hW1 hW2 hW3 hW4 hW5 hW6; omega) (by omega), d3, lN_add]
  rw [lN_i32, show (127 : Int32) = nI 127 from rfl, pk_and _ 7 (by decide)]
  obtain ⟨Q, hQ⟩ : ∃ Q, V + W1 + (W2 + W3) + (W4 + W5 + W6 + p7) = 256 * Q + (p0 + p1 + p2 + p3 + p4 + p5 + p6 + p7) := ⟨W1 + W2 + W3 + W4 + W5 + W6 + p7, by clear y0 y1 y2 y3 x1 x2 x3 x4 x5 x6 d1 d2 d3 b1 b2 b3 b4 b5 b6 bV; omega⟩
  rw [hQ]
  have k3 : ∀ s : Nat, s ≤ 64 → (nI (256 * Q + s)).toBitVec.toNat % 2 ^ 7 = s := by
    intro s hs
    have e : (nI (256 * Q + s)).toBitVec.toNat = (256 * Q + s) % 2 ^ 32 := BitVec.toNat_ofNat _ _
    rw [e]
    omega
  rw [k3 _ (by omega), ← hb]
