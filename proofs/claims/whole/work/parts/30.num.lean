/-! numbers: what the operations are as whole numbers, where nothing overflows -/
theorem tEq {x y : Int32} (h : x.toInt = y.toInt) : x = y := Int32.toInt_inj.mp h
theorem bm32 {x : Int} (h1 : -2147483648 ≤ x) (h2 : x < 2147483648) : x.bmod (2 ^ 32) = x := by
  rw [Int.bmod_def]; omega
theorem bm64 {x : Int} (h1 : -9223372036854775808 ≤ x) (h2 : x < 9223372036854775808) : x.bmod (2 ^ 64) = x := by
  rw [Int.bmod_def]; omega
theorem tA {x y : Int32} (h1 : -2147483648 ≤ x.toInt + y.toInt) (h2 : x.toInt + y.toInt < 2147483648) : (x + y).toInt = x.toInt + y.toInt := by
  rw [Int32.toInt_add]; exact bm32 h1 h2
theorem tS {x y : Int32} (h1 : -2147483648 ≤ x.toInt - y.toInt) (h2 : x.toInt - y.toInt < 2147483648) : (x - y).toInt = x.toInt - y.toInt := by
  rw [Int32.toInt_sub]; exact bm32 h1 h2
theorem tM {x y : Int32} (h1 : -2147483648 ≤ x.toInt * y.toInt) (h2 : x.toInt * y.toInt < 2147483648) : (x * y).toInt = x.toInt * y.toInt := by
  rw [Int32.toInt_mul]; exact bm32 h1 h2
theorem tdb {x y : Int} (hy : 0 < y) : -(x.natAbs : Int) ≤ x.tdiv y ∧ x.tdiv y ≤ x.natAbs := by
  have h := Int.natAbs_tdiv_le_natAbs x y
  omega
theorem tD {x y : Int32} (hy : 0 < y.toInt) : (x / y).toInt = x.toInt.tdiv y.toInt := by
  have h := tdb (x := x.toInt) hy
  have r := rng_i x
  rw [Int32.toInt_div]
  by_cases e : x.toInt = -2147483648
  · by_cases e1 : y.toInt = 1
    · rw [e, e1]; decide
    · have h2 : (x.toInt.tdiv y.toInt).natAbs < 2147483648 := by
        rw [Int.natAbs_tdiv, e]
        exact Nat.div_lt_self (by decide) (by omega)
      exact bm32 (by omega) (by omega)
  · exact bm32 (by omega) (by omega)
theorem sA {x y : Int64} (h1 : -9223372036854775808 ≤ x.toInt + y.toInt) (h2 : x.toInt + y.toInt < 9223372036854775808) : (x + y).toInt = x.toInt + y.toInt := by
  rw [Int64.toInt_add]; exact bm64 h1 h2
theorem sS {x y : Int64} (h1 : -9223372036854775808 ≤ x.toInt - y.toInt) (h2 : x.toInt - y.toInt < 9223372036854775808) : (x - y).toInt = x.toInt - y.toInt := by
  rw [Int64.toInt_sub]; exact bm64 h1 h2
theorem sM {x y : Int64} (h1 : -9223372036854775808 ≤ x.toInt * y.toInt) (h2 : x.toInt * y.toInt < 9223372036854775808) : (x * y).toInt = x.toInt * y.toInt := by
  rw [Int64.toInt_mul]; exact bm64 h1 h2
theorem sD {x y : Int64} (hx : -9223372036854775808 < x.toInt ∧ x.toInt < 9223372036854775808) (hy : 0 < y.toInt) : (x / y).toInt = x.toInt.tdiv y.toInt := by
  have h := tdb (x := x.toInt) hy
  rw [Int64.toInt_div]
  exact bm64 (by omega) (by omega)
theorem w64 (x : Int32) : x.toInt64.toInt = x.toInt := Int32.toInt_toInt64 x
theorem n32 {x : Int64} (h1 : -2147483648 ≤ x.toInt) (h2 : x.toInt < 2147483648) : x.toInt32.toInt = x.toInt := by
  rw [Int64.toInt_toInt32]; exact bm32 h1 h2
theorem td_pos {a b : Int} (ha : 0 ≤ a) : a.tdiv b = a / b := Int.tdiv_eq_ediv_of_nonneg ha
theorem xor_neg (a b : Int32) : (a ^^^ b).toInt < 0 ↔ ¬ (a.toInt < 0 ↔ b.toInt < 0) := by
  have e : ∀ z : Int32, z.toInt < 0 ↔ z.toBitVec.msb = true := by
    intro z
    show z.toBitVec.toInt < 0 ↔ _
    rw [BitVec.msb_eq_toInt]; simp
  rw [e, e, e]
  show (a.toBitVec ^^^ b.toBitVec).msb = true ↔ _
  rw [BitVec.msb_xor]
  cases a.toBitVec.msb <;> cases b.toBitVec.msb <;> simp
theorem fdivT {x y : Int32} (hx : -1073741824 ≤ x.toInt) (hy : 0 < y.toInt) : (f_fdiv x y).toInt = x.toInt / y.toInt := by
  have rx := rng_i x
  have ry := rng_i y
  have hq := tD (x := x) hy
  unfold f_fdiv
  by_cases h0 : 0 ≤ x.toInt
  · rw [if_pos (Int32.le_iff_toInt_le.mpr (by have := xor_neg x y; show (0 : Int) ≤ _; omega)), hq]
    exact td_pos h0
  · have hb := tdb (x := x.toInt) hy
    rw [if_neg (fun h => by have h := Int32.le_iff_toInt_le.mp h; have := xor_neg x y; have h : (0 : Int) ≤ (x ^^^ y).toInt := h; omega)]
    have hm : x.toInt = y.toInt * (x.toInt.tdiv y.toInt) + x.toInt.tmod y.toInt := (Int.mul_tdiv_add_tmod x.toInt y.toInt).symm
    have hr1 : x.toInt.tmod y.toInt ≤ 0 := by
      have := Int.tmod_nonneg y.toInt (a := -x.toInt) (by omega)
      rw [Int.neg_tmod] at this; omega
    have hr2 : -y.toInt < x.toInt.tmod y.toInt := by
      have := Int.tmod_lt_of_pos (-x.toInt) hy
      rw [Int.neg_tmod] at this; omega
    have hmul : ((x / y) * y).toInt = (x.toInt.tdiv y.toInt) * y.toInt := by
      rw [tM (by rw [hq]; have := Int.mul_comm (x.toInt.tdiv y.toInt) y.toInt; omega) (by rw [hq]; have := Int.mul_comm (x.toInt.tdiv y.toInt) y.toInt; omega), hq]
    have hcm := Int.mul_comm (x.toInt.tdiv y.toInt) y.toInt
    by_cases e : (x / y) * y = x
    · rw [if_pos e, hq]
      have e2 : (x.toInt.tdiv y.toInt) * y.toInt = x.toInt := by rw [← hmul, e]
      have : x.toInt / y.toInt = x.toInt.tdiv y.toInt := Int.ediv_eq_of_eq_mul_left (by omega) e2.symm
      exact this.symm
    · rw [if_neg e]
      have hne : x.toInt.tmod y.toInt ≠ 0 := fun z => e (tEq (by rw [hmul]; omega))
      rw [tS (by rw [hq]; show _ ≤ _ - (1 : Int); omega) (by rw [hq]; show _ - (1 : Int) < _; omega), hq]
      show _ - (1 : Int) = _
      have hd : y.toInt * (x.toInt.tdiv y.toInt - 1) = y.toInt * (x.toInt.tdiv y.toInt) - y.toInt := by rw [Int.mul_sub, Int.mul_one]
      have : x.toInt / y.toInt = x.toInt.tdiv y.toInt - 1 := by
        rw [Int.ediv_eq_iff_of_pos hy]
        have e1 := Int.mul_comm y.toInt (x.toInt.tdiv y.toInt - 1)
        constructor
        · omega
        · omega
      exact this.symm
