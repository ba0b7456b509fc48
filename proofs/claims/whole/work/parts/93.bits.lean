theorem sh_l {j : Nat} (hj : j < 64) : ((lN j &&& 63).toBitVec.smod 64) = BitVec.ofNat 64 j := (by decide +kernel : ∀ j : Fin 64, ((lN j.val &&& 63).toBitVec.smod 64) = BitVec.ofNat 64 j.val) ⟨j, hj⟩
theorem sh_u {j : Nat} (hj : j < 64) : ((lN j).toUInt64 &&& Int64.toUInt64 63).toNat = j := (by decide +kernel : ∀ j : Fin 64, ((lN j.val).toUInt64 &&& Int64.toUInt64 63).toNat = j.val) ⟨j, hj⟩
theorem bM (w : Int64) {j : Nat} (hj : j < 64) : ((w >>> ((nI j).toInt64 &&& 63)) &&& 1) = (if w.toBitVec.getLsbD j then 1 else 0) := by
  rw [nI_l (by omega)]
  apply Int64.toBitVec_inj.mp
  rw [Int64.toBitVec_and, Int64.toBitVec_shiftRight, sh_l hj]
  apply BitVec.eq_of_getLsbD_eq
  intro i hi
  have e1 : (1 : Int64).toBitVec = 1#64 := rfl
  have e2 : (BitVec.ofNat 64 j).toNat = j := by simp; omega
  rw [BitVec.getLsbD_and, show w.toBitVec.sshiftRight' (BitVec.ofNat 64 j) = w.toBitVec.sshiftRight (BitVec.ofNat 64 j).toNat from rfl, e2, BitVec.getLsbD_sshiftRight, e1]
  have e3 : w.toBitVec[j] = w.toBitVec.getLsbD j := (BitVec.getLsbD_eq_getElem hj).symm
  rcases Bool.eq_false_or_eq_true (w.toBitVec.getLsbD j) with hb | hb
  · rw [hb] at e3 ⊢
    by_cases h0 : i = 0
    · subst h0; simp [e3, hj]
    · simp [h0]
  · rw [hb] at e3 ⊢
    by_cases h0 : i = 0
    · subst h0; simp [e3, hj]
    · simp [h0]
theorem bC (w : Int64) {j : Nat} (hj : j < 64) : (((w.toUInt64 >>> ((nI j).toInt64.toUInt64 &&& Int64.toUInt64 63)).toInt64) &&& 1) = (if w.toBitVec.getLsbD j then 1 else 0) := by
  rw [nI_l (by omega)]
  apply Int64.toBitVec_inj.mp
  apply BitVec.eq_of_getLsbD_eq
  intro i hi
  have e1 : (1 : Int64).toBitVec = 1#64 := rfl
  have e3 : ((w.toUInt64 >>> ((lN j).toUInt64 &&& Int64.toUInt64 63)).toInt64).toBitVec = w.toBitVec >>> j := by
    apply BitVec.eq_of_toNat_eq
    show (w.toUInt64 >>> ((lN j).toUInt64 &&& Int64.toUInt64 63)).toNat = _
    rw [UInt64.toNat_shiftRight, sh_u hj, Nat.mod_eq_of_lt hj]
    simp
    rfl
  rw [Int64.toBitVec_and, e3, e1]
  by_cases h0 : i = 0
  · subst h0
    by_cases hb : w.toBitVec.getLsbD j <;> simp [hb]
  · by_cases hb : w.toBitVec.getLsbD j <;> simp [hb, h0]
theorem one_sh {j : Nat} (hj : j < 64) : ((1 : Int64) <<< ((nI j).toInt64 &&& 63)).toBitVec = BitVec.twoPow 64 j := by
  rw [nI_l (by omega)]
  exact (by decide +kernel : ∀ j : Fin 64, ((1 : Int64) <<< (lN j.val &&& 63)).toBitVec = BitVec.twoPow 64 j.val) ⟨j, hj⟩
theorem bSet (w : Int64) {j i : Nat} (hj : j < 64) : (w ||| ((1 : Int64) <<< ((nI j).toInt64 &&& 63))).toBitVec.getLsbD i = (w.toBitVec.getLsbD i || decide (i = j)) := by
  rw [Int64.toBitVec_or, BitVec.getLsbD_or, one_sh hj, BitVec.getLsbD_twoPow]
  by_cases h : i = j
  · subst h; simp [hj]
  · have : ¬ j = i := fun z => h z.symm
    simp [h, this]
theorem cmpM0 (w : Int64) {j : Nat} (hj : j < 64) : (lg_cmp ((w >>> ((nI j).toInt64 &&& 63)) &&& 1) 0 = 0) = (w.toBitVec.getLsbD j = false) := by
  rw [bM w hj]
  refine propext ((L_cmp _ _).trans ?_)
  by_cases hb : w.toBitVec.getLsbD j <;> simp [hb]
theorem cmpM1 (w : Int64) {j : Nat} (hj : j < 64) : (lg_cmp ((w >>> ((nI j).toInt64 &&& 63)) &&& 1) 1 = 0) = (w.toBitVec.getLsbD j = true) := by
  rw [bM w hj]
  refine propext ((L_cmp _ _).trans ?_)
  by_cases hb : w.toBitVec.getLsbD j <;> simp [hb]
theorem cmpC0 (w : Int64) {j : Nat} (hj : j < 64) : (lg_cmp (((w.toUInt64 >>> ((nI j).toInt64.toUInt64 &&& Int64.toUInt64 63)).toInt64) &&& 1) 0 = 0) = (w.toBitVec.getLsbD j = false) := by
  rw [bC w hj]
  refine propext ((L_cmp _ _).trans ?_)
  by_cases hb : w.toBitVec.getLsbD j <;> simp [hb]
theorem bt_sx (y : BitVec 8) : (y.signExtend 32).toNat % 256 = y.toNat := (by decide +kernel : ∀ y : Fin 256, ((BitVec.ofFin (w := 8) y).signExtend 32).toNat % 256 = y.val) y.toFin
theorem bt_and (x : Int32) : x &&& 255 = nI (x.toBitVec.toNat % 256) := pk_and x 8 (by decide)
theorem bt_lo (w : Int32) : (w.toInt8.toInt32) &&& 255 = nI (w.toBitVec.toNat % 256) := by
  rw [bt_and]
  congr 1
  have e : (w.toInt8.toInt32).toBitVec = (w.toBitVec.setWidth 8).signExtend 32 := by
    simp
    rw [BitVec.signExtend_eq_setWidth_of_le w.toBitVec (show 8 ≤ 32 by omega)]
  rw [e, bt_sx]
  simp
theorem bt_rng (w : Int32) : -128 ≤ (w.toInt8.toInt32).toInt ∧ (w.toInt8.toInt32).toInt < 128 := by
  have e : (w.toInt8.toInt32).toInt = w.toInt8.toInt := by simp
  rw [e]
  exact ⟨w.toInt8.le_toInt, w.toInt8.toInt_lt⟩
theorem bt_int (x : Int32) : x.toInt = if 2 * x.toBitVec.toNat < 2 ^ 32 then (x.toBitVec.toNat : Int) else x.toBitVec.toNat - (2 ^ 32 : Nat) := BitVec.toInt_eq_toNat_cond x.toBitVec
theorem bt_mod (x : Int32) : (x.toBitVec.toNat : Int) % 256 = x.toInt % 256 := by
  rw [bt_int]
  split <;> omega
theorem bt_sh (x : Int32) {k : Nat} (hk : k = 0 ∨ k = 8 ∨ k = 16 ∨ k = 24) : (((x.toUInt32 >>> ((nI k).toUInt32 &&& Int32.toUInt32 31)).toInt32) &&& 255) = ((x >>> (nI k &&& 31)).toInt8.toInt32 &&& 255) := by
  rw [bt_lo, bt_and]
  congr 1
  have e1 : ((nI k &&& 31).toBitVec.smod 32).toNat = k := by rcases hk with rfl | rfl | rfl | rfl <;> decide +kernel
  have e2 : (((nI k).toUInt32 &&& Int32.toUInt32 31).toBitVec % 32).toNat = k := by rcases hk with rfl | rfl | rfl | rfl <;> decide +kernel
  have a1 := pk_shr x (nI k &&& 31) k e1
  have a2 := pk_ushr x (nI k) k e2
  have a3 := bt_mod (x >>> (nI k &&& 31))
  have a4 := bt_int x
  rw [a2]
  rw [Int.shiftRight_eq_div_pow] at a1
  have lt := x.toBitVec.isLt
  rcases hk with rfl | rfl | rfl | rfl <;> (split at a4 <;> omega)
