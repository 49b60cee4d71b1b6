/-! ===== sets of jars as bits ===== -/
theorem q_bit_all : (List.range 512).all (fun s => (List.range 9).all (fun j => (decide (q_oiand (q_oishr (s : Int) (j : Int)) 1 = if s.testBit j then 1 else 0)))) = true := by decide +kernel
theorem q_bit {s j : Nat} (hs : s < 512) (hj : j < 9) : q_oiand (q_oishr (s : Int) (j : Int)) 1 = if s.testBit j then 1 else 0 := by
  have h := q_bit_all
  rw [List.all_eq_true] at h
  have h1 := h s (List.mem_range.mpr hs)
  rw [List.all_eq_true] at h1
  exact of_decide_eq_true (h1 j (List.mem_range.mpr hj))
def a_bc1 (v : Int) : Int := q_w32 (v - q_oiand (q_oiushr v 1) 1431655765)
def a_bc2 (x : Int) : Int := q_w32 (q_oiand x 858993459 + q_oiand (q_oiushr x 2) 858993459)
def a_bc3 (x : Int) : Int := q_oiand (q_w32 (x + q_oiushr x 4)) 252645135
def a_bc4 (x : Int) : Int := q_w32 (x + q_oiushr x 8)
def a_bc5 (x : Int) : Int := q_w32 (x + q_oiushr x 16)
def a_bc (v : Int) : Int := q_oiand (a_bc5 (a_bc4 (a_bc3 (a_bc2 (a_bc1 v))))) 63
/-- how many of nine -/
def a_pc (s : Nat) : Int := g_s (fun i => if s.testBit i.toNat then 1 else 0) 9
theorem a_bc_all : (List.range 512).all (fun s => decide (a_bc (s : Int) = a_pc s)) = true := by decide +kernel
theorem a_bc_pc {s : Nat} (hs : s < 512) : a_bc (s : Int) = a_pc s := by
  have h := a_bc_all
  rw [List.all_eq_true] at h
  exact of_decide_eq_true (h s (List.mem_range.mpr hs))
theorem sp_bitCount {b : Int} {m : qm} {s : Nat} (hs : s < 512) : q_Ev yJ6_bitCount_0f7a4 cJ6_bitCount_0f7a4 1 (some .int) 1 0 0 [(0, (s : Int))] (q_sh0, q_rb b, m) (qK (q_rb b) (fun r m' => m' = m ∧ r = a_pc s)) := by
  refine q_enter (by decide +kernel) (by simp) (Nat.le_of_ble_eq_true rfl) ?_
  refine bkJ6_bitCount_0f7a4_0 ⟨rfl, ?_⟩
  exact a_bc_pc hs
theorem q_shl_all : (List.range 10).all (fun j => decide (q_oishl 1 (j : Int) = ((2 ^ j : Nat) : Int))) = true := by decide +kernel
theorem q_shl1 {j : Nat} (hj : j < 10) : q_oishl 1 (j : Int) = ((2 ^ j : Nat) : Int) := by
  have h := q_shl_all
  rw [List.all_eq_true] at h
  exact of_decide_eq_true (h j (List.mem_range.mpr hj))
theorem q_or_all : (List.range 512).all (fun s => (List.range 9).all (fun j => (decide (q_oior (s : Int) (q_oishl 1 (j : Int)) = ((s ||| 2 ^ j : Nat) : Int))))) = true := by decide +kernel
theorem q_or_bit {s j : Nat} (hs : s < 512) (hj : j < 9) : q_oior (s : Int) (q_oishl 1 (j : Int)) = ((s ||| 2 ^ j : Nat) : Int) := by
  have h := q_or_all
  rw [List.all_eq_true] at h
  have h1 := h s (List.mem_range.mpr hs)
  rw [List.all_eq_true] at h1
  exact of_decide_eq_true (h1 j (List.mem_range.mpr hj))
theorem q_and_all : (List.range 512).all (fun s => (List.range 9).all (fun j => (decide (q_oiand (s : Int) (q_oishl 1 (j : Int)) = if s.testBit j then ((2 ^ j : Nat) : Int) else 0)))) = true := by decide +kernel
theorem q_and_bit {s j : Nat} (hs : s < 512) (hj : j < 9) : q_oiand (s : Int) (q_oishl 1 (j : Int)) = if s.testBit j then ((2 ^ j : Nat) : Int) else 0 := by
  have h := q_and_all
  rw [List.all_eq_true] at h
  have h1 := h s (List.mem_range.mpr hs)
  rw [List.all_eq_true] at h1
  exact of_decide_eq_true (h1 j (List.mem_range.mpr hj))
theorem q_sub_iff {s u : Nat} : q_oiand (s : Int) (q_oixor (u : Int) (-1)) = 0 ↔ ∀ i, i < 32 → s.testBit i = true → u.testBit i = true := by
  unfold q_oiand q_oixor
  rw [Int32.ofInt_toInt, show (0 : Int) = (0 : Int32).toInt from rfl, Int32.toInt_inj, ← Int32.toBitVec_inj, Int32.toBitVec_and, Int32.toBitVec_xor, Int32.toBitVec_ofInt, Int32.toBitVec_ofInt, Int32.toBitVec_ofInt]
  have e1 : BitVec.ofInt 32 (-1) = BitVec.allOnes 32 := by decide
  rw [e1, BitVec.ofInt_natCast, BitVec.ofInt_natCast]
  constructor
  · intro h i hi hs
    have := congrArg (fun v => v.getLsbD i) h
    simp only [BitVec.getLsbD_and, BitVec.getLsbD_xor, BitVec.getLsbD_ofNat, BitVec.getLsbD_allOnes, hi, hs, decide_true, Bool.true_and] at this
    cases hu : u.testBit i
    · rw [hu] at this; simp at this
    · rfl
  · intro h
    apply BitVec.eq_of_getLsbD_eq
    intro i hi
    simp only [BitVec.getLsbD_and, BitVec.getLsbD_xor, BitVec.getLsbD_ofNat, BitVec.getLsbD_allOnes, hi, decide_true, Bool.true_and]
    cases hs : s.testBit i
    · simp
    · rw [h i hi hs]; simp
/-- the bits of a row of jars -/
def a_bn (p : Int → Bool) : Nat → Nat
  | 0 => 0
  | k + 1 => if p k = true then a_bn p k ||| 2 ^ k else a_bn p k
theorem a_bn_in {p : Int → Bool} : ∀ k : Nat, a_bn p k < 2 ^ k ∧ ∀ i, (a_bn p k).testBit i = (decide (i < k) && p i)
  | 0 => ⟨by simp [a_bn], fun i => by simp [a_bn]⟩
  | k + 1 => by
    have ih := a_bn_in (p := p) k
    simp only [a_bn]
    by_cases h : p k = true
    · rw [if_pos h]
      refine ⟨Nat.or_lt_two_pow (Nat.lt_of_lt_of_le ih.1 (Nat.pow_le_pow_right (by decide) (by omega))) (Nat.pow_lt_pow_right (by decide) (by omega)), fun i => ?_⟩
      rw [Nat.testBit_or, ih.2, Nat.testBit_two_pow]
      by_cases hi : i = k
      · subst hi; simp [h]
      · rw [show decide (k = i) = false from decide_eq_false (fun e => hi e.symm), Bool.or_false, show decide (i < k + 1) = decide (i < k) from decide_eq_decide.mpr (by omega)]
    · rw [if_neg h]
      refine ⟨Nat.lt_of_lt_of_le ih.1 (Nat.pow_le_pow_right (by decide) (by omega)), fun i => ?_⟩
      rw [ih.2]
      by_cases hi : i = k
      · subst hi; simp [h]
      · rw [show decide (i < k + 1) = decide (i < k) from decide_eq_decide.mpr (by omega)]
theorem p512 {s k : Nat} (h : s < 2 ^ k) (hk : k ≤ 9) : s < 512 := Nat.lt_of_lt_of_le h (Nat.le_trans (Nat.pow_le_pow_right (by decide) hk) (by decide))
theorem a_bn_bt {p : Int → Bool} : ∀ k : Nat, k ≤ 9 → a_bt p k = ((a_bn p k : Nat) : Int)
  | 0, _ => rfl
  | k + 1, hk => by
    have ih := a_bn_bt (p := p) k (by omega)
    simp only [a_bt, a_bn]
    by_cases h : p k = true
    · rw [if_pos h, if_pos h, ih, q_or_bit (p512 (a_bn_in k).1 (by omega)) (by omega)]
    · rw [if_neg h, if_neg h, ih]
