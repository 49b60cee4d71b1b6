/-! ===== longs that hold several numbers ===== -/
theorem b_n64 {x : Int} (h0 : 0 ≤ x) (h1 : x < 18446744073709551616) : (Int64.ofInt x).toBitVec.toNat = x.toNat := by
  show (BitVec.ofInt 64 x).toNat = x.toNat
  rw [BitVec.toNat_ofInt]
  congr 1
  exact Int.emod_eq_of_lt h0 h1
theorem b_i64 {y : Int64} {k : Nat} (e : y.toBitVec.toNat = k) (h : k < 9223372036854775808) : y.toInt = k := by
  show y.toBitVec.toInt = _
  rw [BitVec.toInt_eq_toNat_of_lt (by rw [e]; show 2 * k < 18446744073709551616; omega), e]
theorem b_n32 {x : Int} (h0 : 0 ≤ x) (h1 : x < 4294967296) : (Int32.ofInt x).toBitVec.toNat = x.toNat := by
  show (BitVec.ofInt 32 x).toNat = x.toNat
  rw [BitVec.toNat_ofInt]
  congr 1
  exact Int.emod_eq_of_lt h0 h1
theorem b_i32 {y : Int32} {k : Nat} (e : y.toBitVec.toNat = k) (h : k < 2147483648) : y.toInt = k := by
  show y.toBitVec.toInt = _
  rw [BitVec.toInt_eq_toNat_of_lt (by rw [e]; show 2 * k < 4294967296; omega), e]
theorem b_shl {w : Int} {s : Nat} (hs : s < 64) (hw0 : 0 ≤ w) (hw : w.toNat * 2 ^ s < 9223372036854775808) (hw2 : w < 18446744073709551616) : q_olshl w (s : Int) = ((w.toNat * 2 ^ s : Nat) : Int) := by
  unfold q_olshl
  refine b_i64 ?_ hw
  have e : ((Int32.ofInt (s : Int)).toInt64 &&& 63) = Int64.ofInt (s : Int) := by
    have : ∀ s : Fin 64, ((Int32.ofInt ((s : Nat) : Int)).toInt64 &&& 63) = Int64.ofInt ((s : Nat) : Int) := by decide +kernel
    exact this ⟨s, hs⟩
  rw [e]
  have e2 : ∀ s : Fin 64, ((Int64.ofInt ((s : Nat) : Int)).toBitVec.smod 64).toNat = (s : Nat) := by decide +kernel
  have e3 : (Int64.ofInt w <<< Int64.ofInt (s : Int)).toBitVec = (Int64.ofInt w).toBitVec <<< ((Int64.ofInt (s : Int)).toBitVec.smod 64) := rfl
  rw [e3, BitVec.shiftLeft_eq', BitVec.toNat_shiftLeft, e2 ⟨s, hs⟩, b_n64 hw0 hw2, Nat.shiftLeft_eq]
  exact Nat.mod_eq_of_lt (by show w.toNat * 2 ^ s < 18446744073709551616; omega)
theorem b_shr {x : Int} {s : Nat} (hs : s < 64) (h0 : 0 ≤ x) (h1 : x < 9223372036854775808) : q_olushr x (s : Int) = ((x.toNat / 2 ^ s : Nat) : Int) := by
  unfold q_olushr
  have le : x.toNat / 2 ^ s ≤ x.toNat := Nat.div_le_self _ _
  refine b_i64 ?_ (by omega)
  have e : ∀ s : Fin 64, ((Int32.ofInt ((s : Nat) : Int)).toInt64.toUInt64 &&& Int64.toUInt64 63).toNat % 64 = (s : Nat) := by decide +kernel
  show ((Int64.ofInt x).toUInt64 >>> ((Int32.ofInt (s : Int)).toInt64.toUInt64 &&& Int64.toUInt64 63)).toNat = _
  rw [UInt64.toNat_shiftRight, e ⟨s, hs⟩, Nat.shiftRight_eq_div_pow]
  show (Int64.ofInt x).toBitVec.toNat / 2 ^ s = _
  rw [b_n64 h0 (by omega)]
theorem b_or {x y : Int} {s : Nat} (hx0 : 0 ≤ x) (hy0 : 0 ≤ y) (hx : x.toNat < 2 ^ s) (hy : y.toNat * 2 ^ s + x.toNat < 9223372036854775808) : q_olor x ((y.toNat * 2 ^ s : Nat) : Int) = ((y.toNat * 2 ^ s + x.toNat : Nat) : Int) := by
  unfold q_olor
  refine b_i64 ?_ hy
  show ((Int64.ofInt x).toBitVec ||| (Int64.ofInt ((y.toNat * 2 ^ s : Nat) : Int)).toBitVec).toNat = _
  rw [BitVec.toNat_or, b_n64 hx0 (by omega), b_n64 (by omega) (by omega), Int.toNat_natCast, Nat.or_comm, ← Nat.shiftLeft_eq, ← Nat.shiftLeft_add_eq_or_of_lt hx]
theorem b_low {y : Int} {k : Nat} (hk : k ≤ 31) (h0 : 0 ≤ y) (h1 : y < 9223372036854775808) : q_oiand (q_ol2i y) ((2 ^ k - 1 : Nat) : Int) = ((y.toNat % 2 ^ k : Nat) : Int) := by
  unfold q_oiand q_ol2i
  rw [Int32.ofInt_toInt]
  have p : 2 ^ k ≤ 2 ^ 31 := Nat.pow_le_pow_right (by decide) hk
  have p0 : 0 < 2 ^ k := Nat.pow_pos (by decide)
  have pm : y.toNat % 2 ^ k < 2 ^ k := Nat.mod_lt _ p0
  refine b_i32 ?_ (by omega)
  show ((Int64.ofInt y).toInt32.toBitVec &&& (Int32.ofInt ((2 ^ k - 1 : Nat) : Int)).toBitVec).toNat = _
  rw [BitVec.toNat_and, b_n32 (by omega) (by omega), Int.toNat_natCast, Nat.and_two_pow_sub_one_eq_mod]
  have e : (Int64.ofInt y).toInt32.toBitVec.toNat = y.toNat % 4294967296 := by
    show ((Int64.ofInt y).toBitVec.signExtend 32).toNat = _
    rw [BitVec.signExtend_eq_setWidth_of_le _ (by decide), BitVec.toNat_setWidth, b_n64 h0 (by omega)]
  rw [e]
  have d : 2 ^ k ∣ 4294967296 := by
    have : (4294967296 : Nat) = 2 ^ 32 := rfl
    rw [this]; exact Nat.pow_dvd_pow 2 (by omega)
  exact Nat.mod_mod_of_dvd _ d
theorem b_cmp {a b : Int} (ha : q_in64 a) (hb : q_in64 b) : q_olcmp a b = 0 ↔ a = b := by
  unfold q_olcmp lg_cmp
  have e : Int64.ofInt a = Int64.ofInt b ↔ a = b := ⟨fun h => by have := congrArg Int64.toInt h; rwa [q_t64 ha, q_t64 hb] at this, fun h => by rw [h]⟩
  constructor
  · intro h
    apply e.mp
    by_cases q : Int64.ofInt a = Int64.ofInt b
    · exact q
    · exfalso
      split at h
      · exact absurd h (by decide)
      · exact absurd h (by decide)
  · intro h
    rw [h]
    split
    · rename_i z; exact absurd z (Int64.lt_irrefl)
    · split
      · rfl
      · rename_i z; exact absurd rfl z
theorem b_hash {v : Int} : 0 ≤ q_ol2i (q_oland v 4095) ∧ q_ol2i (q_oland v 4095) < 4096 := by
  have h : (Int64.ofInt v &&& Int64.ofInt 4095).toBitVec.toNat < 4096 := by
    show ((Int64.ofInt v).toBitVec &&& (Int64.ofInt 4095).toBitVec).toNat < 4096
    rw [BitVec.toNat_and]
    exact Nat.lt_of_le_of_lt Nat.and_le_right (by decide)
  have e : (Int64.ofInt v &&& Int64.ofInt 4095).toInt = ((Int64.ofInt v &&& Int64.ofInt 4095).toBitVec.toNat : Int) := b_i64 rfl (by omega)
  unfold q_ol2i q_oland
  rw [Int64.ofInt_toInt]
  have e2 : (Int64.ofInt v &&& Int64.ofInt 4095).toInt32.toBitVec.toNat = (Int64.ofInt v &&& Int64.ofInt 4095).toBitVec.toNat := by
    show ((Int64.ofInt v &&& Int64.ofInt 4095).toBitVec.signExtend 32).toNat = _
    rw [BitVec.signExtend_eq_setWidth_of_le _ (by decide), BitVec.toNat_setWidth]
    exact Nat.mod_eq_of_lt (by show _ < 4294967296; omega)
  rw [b_i32 e2 (by omega)]
  omega
theorem b_and13 {v : Int} : 0 ≤ q_oiand v 8191 ∧ q_oiand v 8191 < 8192 := by
  have h : (Int32.ofInt v &&& Int32.ofInt 8191).toBitVec.toNat < 8192 := by
    show ((Int32.ofInt v).toBitVec &&& (Int32.ofInt 8191).toBitVec).toNat < 8192
    rw [BitVec.toNat_and]
    exact Nat.lt_of_le_of_lt Nat.and_le_right (by decide)
  unfold q_oiand
  rw [b_i32 rfl (by omega)]
  omega
theorem b_wrap13 {p : Int} (h0 : 0 ≤ p) (h1 : p < 8192) : q_oiand (p + 1) 8191 = (p + 1) % 8192 := by
  unfold q_oiand
  have h : (Int32.ofInt (p + 1) &&& Int32.ofInt 8191).toBitVec.toNat = (p + 1).toNat % 8192 := by
    show ((Int32.ofInt (p + 1)).toBitVec &&& (Int32.ofInt 8191).toBitVec).toNat = _
    rw [BitVec.toNat_and, b_n32 (by omega) (by omega)]
    exact Nat.and_two_pow_sub_one_eq_mod _ 13
  rw [b_i32 h (by omega)]
  omega
