/-! the class's and the reference's numbers: floor, slip, friction, estimated slip, acceleration -/
theorem flr {a y : Int} (hy : 0 < y) : (if 0 ≤ a - a.tdiv y * y then a.tdiv y else a.tdiv y - 1) = a / y := by
  have hm : a = y * (a.tdiv y) + a.tmod y := (Int.mul_tdiv_add_tmod a y).symm
  have hcm := Int.mul_comm (a.tdiv y) y
  by_cases h0 : 0 ≤ a
  · have := Int.tmod_nonneg y (a := a) h0
    rw [if_pos (by omega)]
    exact td_pos h0
  · have hr1 : a.tmod y ≤ 0 := by
      have := Int.tmod_nonneg y (a := -a) (by omega)
      rw [Int.neg_tmod] at this; omega
    have hr2 : -y < a.tmod y := by
      have := Int.tmod_lt_of_pos (-a) hy
      rw [Int.neg_tmod] at this; omega
    by_cases e : a.tmod y = 0
    · rw [if_pos (by omega)]
      exact (Int.ediv_eq_of_eq_mul_left (by omega) (by omega)).symm
    · rw [if_neg (by omega)]
      have hd : y * (a.tdiv y - 1) = y * (a.tdiv y) - y := by rw [Int.mul_sub, Int.mul_one]
      have e1 := Int.mul_comm y (a.tdiv y - 1)
      refine ((Int.ediv_eq_iff_of_pos hy).mpr ⟨?_, ?_⟩).symm
      · omega
      · omega
theorem ediv_bd {a y : Int} {B : Int} (hy : 0 < y) (h1 : -B ≤ a) (h2 : a ≤ B) (hB : 0 ≤ B) : -B ≤ a / y ∧ a / y ≤ B := by
  constructor
  · rw [Int.le_ediv_iff_mul_le hy]
    have : B * 1 ≤ B * y := Int.mul_le_mul_of_nonneg_left (by omega) hB
    have e : -B * y = -(B * y) := Int.neg_mul _ _
    omega
  · rcases Int.lt_or_le a 0 with q | q
    · have := Int.ediv_neg_of_neg_of_pos q hy; omega
    · exact Int.le_trans (Int.ediv_le_self y q) h2
theorem floorT {x y : Int64} (h1 : -2147483648 < x.toInt) (h2 : x.toInt < 2147483648) (hy : 0 < y.toInt) : (f_X7_floor x y).toInt = x.toInt / y.toInt := by
  have hq := sD (x := x) (y := y) (by omega) hy
  have hb := tdb (x := x.toInt) hy
  have hm : x.toInt = y.toInt * (x.toInt.tdiv y.toInt) + x.toInt.tmod y.toInt := (Int.mul_tdiv_add_tmod x.toInt y.toInt).symm
  have hcm := Int.mul_comm (x.toInt.tdiv y.toInt) y.toInt
  have hr1 : (x.toInt.tmod y.toInt).natAbs ≤ x.toInt.natAbs := by
    rw [Int.natAbs_tmod]; exact Nat.mod_le _ _
  have hmul : (x / y * y).toInt = (x.toInt.tdiv y.toInt) * y.toInt := by
    rw [sM (by rw [hq]; omega) (by rw [hq]; omega), hq]
  have hsub : (x - x / y * y).toInt = x.toInt - (x.toInt.tdiv y.toInt) * y.toInt := by
    rw [sS (by rw [hmul]; omega) (by rw [hmul]; omega), hmul]
  have key : (v_X7_floor_1 x y).toInt = x.toInt / y.toInt := by
    rw [← flr hy]
    unfold v_X7_floor_1
    have hc : (0 ≤ lg_cmp (x - x / y * y) 0) ↔ 0 ≤ x.toInt - (x.toInt.tdiv y.toInt) * y.toInt := by
      rw [lg_cmp_ge, Int64.le_iff_toInt_le, hsub]; exact Iff.rfl
    by_cases c : 0 ≤ x.toInt - (x.toInt.tdiv y.toInt) * y.toInt
    · rw [if_pos (hc.mpr c), if_pos c, hq]
    · rw [if_neg (fun z => c (hc.mp z)), if_neg c, sS (by rw [hq]; show _ ≤ _ - (1 : Int); omega) (by rw [hq]; show _ - (1 : Int) < _; omega), hq]; rfl
  have hbd := ediv_bd (B := 2147483647) hy (a := x.toInt) (by omega) (by omega) (by omega)
  unfold f_X7_floor
  rw [n32 (by rw [key]; omega) (by rw [key]; omega), key]
/-- between two numbers -/
def bd (x : Int32) (lo hi : Int) : Prop := lo ≤ x.toInt ∧ x.toInt ≤ hi
theorem frac {a b : Int} (hb : 0 < b) (h0 : 0 ≤ a) (h1 : a ≤ b) : 0 ≤ 1000 * a / b ∧ 1000 * a / b ≤ 1000 := by
  constructor
  · exact Int.ediv_nonneg (by omega) (by omega)
  · have h : 1000 * a / b < 1001 := by
      rw [Int.ediv_lt_iff_lt_mul hb]; omega
    omega
theorem slipQ {V W : Int32} (hV : bd V 1 60000) (hW : bd W 0 V.toInt) : (f_fdiv (1000 * (V - W)) V).toInt = 1000 * (V.toInt - W.toInt) / V.toInt ∧ ((1000 * ((V - W).toInt64)) / (V.toInt64)).toInt32.toInt = 1000 * (V.toInt - W.toInt) / V.toInt := by
  obtain ⟨h1, h2⟩ := hV
  obtain ⟨h3, h4⟩ := hW
  have e1 : (V - W).toInt = V.toInt - W.toInt := tS (by omega) (by omega)
  have e2 : (1000 * (V - W)).toInt = 1000 * (V.toInt - W.toInt) := by
    rw [tM (by rw [e1]; show _ ≤ (1000 : Int) * _; omega) (by rw [e1]; show (1000 : Int) * _ < _; omega), e1]; rfl
  have fr := frac (a := V.toInt - W.toInt) (b := V.toInt) (by omega) (by omega) (by omega)
  refine ⟨by rw [fdivT (by rw [e2]; omega) (by omega), e2], ?_⟩
  have e3 : (1000 * ((V - W).toInt64)).toInt = 1000 * (V.toInt - W.toInt) := by
    rw [sM (by rw [w64, e1]; show _ ≤ (1000 : Int) * _; omega) (by rw [w64, e1]; show (1000 : Int) * _ < _; omega), w64, e1]; rfl
  have e4 : ((1000 * ((V - W).toInt64)) / (V.toInt64)).toInt = 1000 * (V.toInt - W.toInt) / V.toInt := by
    rw [sD (by rw [e3]; omega) (by rw [w64]; omega), e3, w64, td_pos (by omega)]
  rw [n32 (by rw [e4]; omega) (by rw [e4]; omega), e4]
theorem slipEq {w n : F1} {j : Nat} {V : Int32} (hw : w 0 = n (10 + 16 * j + 0)) (hV : V = n 0) (bV : bd (n 0) 0 60000) (bW : bd (n (10 + 16 * j + 0)) 0 (n 0).toInt) : f_X5_slip w V = f_X7_slipOf n j ∧ bd (f_X7_slipOf n j) 0 1000 := by
  subst hV
  unfold f_X5_slip f_X7_slipOf
  rw [hw]
  by_cases c : n 0 = 0
  · rw [if_pos c, if_neg (by rw [c]; decide)]; exact ⟨rfl, by decide, by decide⟩
  · have hp : 0 < (n 0).toInt := by
      have h0 := bV.1
      rcases Int.lt_or_eq_of_le h0 with q | q
      · exact q
      · exact absurd (tEq q.symm) c
    have q := slipQ (V := n 0) (W := n (10 + 16 * j + 0)) ⟨by omega, bV.2⟩ bW
    have fr := frac (a := (n 0).toInt - (n (10 + 16 * j + 0)).toInt) (b := (n 0).toInt) hp (by have := bW.2; omega) (by have := bW.1; omega)
    rw [if_neg c, if_pos (show (0 : Int32) < n 0 from Int32.lt_iff_toInt_lt.mpr hp)]
    exact ⟨tEq (by rw [q.1, q.2]), by unfold bd; rw [q.2]; exact fr⟩
theorem fricQ {pk sh sl : Int32} (hp : bd pk 0 1000) (hs : bd sh 0 1000) (hl : bd sl 0 1000) : (if 150 < sl then (pk - (f_fdiv ((pk * (1000 - sh)) * (sl - 150)) 850000)) else (f_fdiv (pk * sl) 150)) = (if 150 < sl then (pk - ((((pk.toInt64) * ((1000 - sh).toInt64)) * ((sl - 150).toInt64)) / 850000).toInt32) else ((pk * sl) / 150)) ∧ bd (if 150 < sl then (pk - ((((pk.toInt64) * ((1000 - sh).toInt64)) * ((sl - 150).toInt64)) / 850000).toInt32) else ((pk * sl) / 150)) 0 7000 := by
  obtain ⟨p1, p2⟩ := hp
  obtain ⟨s1, s2⟩ := hs
  obtain ⟨l1, l2⟩ := hl
  by_cases c : 150 < sl
  · have c' : 150 < sl.toInt := Int32.lt_iff_toInt_lt.mp c
    rw [if_pos c, if_pos c]
    have e1 : (1000 - sh).toInt = 1000 - sh.toInt := tS (by show _ ≤ (1000 : Int) - _; omega) (by show (1000 : Int) - _ < _; omega)
    have e2 : (sl - 150).toInt = sl.toInt - 150 := tS (by show _ ≤ _ - (150 : Int); omega) (by show _ - (150 : Int) < _; omega)
    have m1 : 0 ≤ pk.toInt * (1000 - sh.toInt) := Int.mul_nonneg p1 (by omega)
    have m2 : pk.toInt * (1000 - sh.toInt) ≤ 1000 * 1000 := Int.mul_le_mul p2 (by omega) (by omega) (by omega)
    have e3 : (pk * (1000 - sh)).toInt = pk.toInt * (1000 - sh.toInt) := by
      rw [tM (by rw [e1]; omega) (by rw [e1]; omega), e1]
    have m3 : 0 ≤ pk.toInt * (1000 - sh.toInt) * (sl.toInt - 150) := Int.mul_nonneg m1 (by omega)
    have m4 : pk.toInt * (1000 - sh.toInt) * (sl.toInt - 150) ≤ 1000 * 1000 * 850 := Int.mul_le_mul m2 (by omega) (by omega) (by omega)
    have e4 : ((pk * (1000 - sh)) * (sl - 150)).toInt = pk.toInt * (1000 - sh.toInt) * (sl.toInt - 150) := by
      rw [tM (by rw [e3, e2]; omega) (by rw [e3, e2]; omega), e3, e2]
    have f3 : (pk.toInt64 * (1000 - sh).toInt64).toInt = pk.toInt * (1000 - sh.toInt) := by
      rw [sM (by rw [w64, w64, e1]; omega) (by rw [w64, w64, e1]; omega), w64, w64, e1]
    have f4 : (pk.toInt64 * (1000 - sh).toInt64 * (sl - 150).toInt64).toInt = pk.toInt * (1000 - sh.toInt) * (sl.toInt - 150) := by
      rw [sM (by rw [f3, w64, e2]; omega) (by rw [f3, w64, e2]; omega), f3, w64, e2]
    have q1 : (f_fdiv ((pk * (1000 - sh)) * (sl - 150)) 850000).toInt = pk.toInt * (1000 - sh.toInt) * (sl.toInt - 150) / 850000 := by
      rw [fdivT (by rw [e4]; omega) (by decide), e4]; rfl
    have hd0 : 0 ≤ pk.toInt * (1000 - sh.toInt) * (sl.toInt - 150) / 850000 := Int.ediv_nonneg m3 (by omega)
    have hd1 : pk.toInt * (1000 - sh.toInt) * (sl.toInt - 150) / 850000 ≤ pk.toInt := by
      have z1 : pk.toInt * (1000 - sh.toInt) ≤ pk.toInt * 1000 := Int.mul_le_mul_of_nonneg_left (by omega) p1
      have z2 : pk.toInt * (1000 - sh.toInt) * (sl.toInt - 150) ≤ pk.toInt * 1000 * 850 := Int.mul_le_mul z1 (by omega) (by omega) (by omega)
      have : pk.toInt * (1000 - sh.toInt) * (sl.toInt - 150) / 850000 < pk.toInt + 1 := by
        rw [Int.ediv_lt_iff_lt_mul (by omega)]; omega
      omega
    have q2' : ((pk.toInt64 * (1000 - sh).toInt64 * (sl - 150).toInt64) / 850000).toInt = pk.toInt * (1000 - sh.toInt) * (sl.toInt - 150) / 850000 := by
      rw [sD (by rw [f4]; omega) (by decide), f4, td_pos m3]; rfl
    have q2 : (((pk.toInt64 * (1000 - sh).toInt64 * (sl - 150).toInt64) / 850000).toInt32).toInt = pk.toInt * (1000 - sh.toInt) * (sl.toInt - 150) / 850000 := by
      rw [n32 (by rw [q2']; omega) (by rw [q2']; omega), q2']
    have q3 : (pk - ((pk.toInt64 * (1000 - sh).toInt64 * (sl - 150).toInt64) / 850000).toInt32).toInt = pk.toInt - pk.toInt * (1000 - sh.toInt) * (sl.toInt - 150) / 850000 := by
      rw [tS (by rw [q2]; omega) (by rw [q2]; omega), q2]
    exact ⟨congrArg (fun z => pk - z) (tEq (by rw [q1, q2])), by unfold bd; rw [q3]; omega⟩
  · have c' : sl.toInt ≤ 150 := by
      rcases Int.lt_or_le 150 sl.toInt with z | z
      · exact absurd (show (150 : Int32) < sl from Int32.lt_iff_toInt_lt.mpr z) c
      · exact z
    rw [if_neg c, if_neg c]
    have m1 : 0 ≤ pk.toInt * sl.toInt := Int.mul_nonneg p1 l1
    have m2 : pk.toInt * sl.toInt ≤ 1000 * 1000 := Int.mul_le_mul p2 l2 (by omega) (by omega)
    have e1 : (pk * sl).toInt = pk.toInt * sl.toInt := tM (by omega) (by omega)
    have q1 : (f_fdiv (pk * sl) 150).toInt = pk.toInt * sl.toInt / 150 := by rw [fdivT (by rw [e1]; omega) (by decide), e1]; rfl
    have q2 : (pk * sl / 150).toInt = pk.toInt * sl.toInt / 150 := by rw [tD (by decide), e1, td_pos m1]; rfl
    have hd0 : 0 ≤ pk.toInt * sl.toInt / 150 := Int.ediv_nonneg m1 (by omega)
    have hd1 : pk.toInt * sl.toInt / 150 ≤ 7000 := by
      have : pk.toInt * sl.toInt / 150 < 7001 := by rw [Int.ediv_lt_iff_lt_mul (by omega)]; omega
      omega
    exact ⟨tEq (by rw [q1, q2]), by unfold bd; rw [q2]; omega⟩
theorem fricEq (sf : Int32) {sl : Int32} (hl : bd sl 0 1000) : f_X6_gripFor sf sl = f_X7_frictionOf sf sl ∧ bd (f_X7_frictionOf sf sl) 0 7000 := by
  have hp : bd (v_X7_frictionOf_1 sf) 0 1000 := by unfold v_X7_frictionOf_1; split <;> first | exact ⟨by decide, by decide⟩ | (split <;> exact ⟨by decide, by decide⟩)
  have hs : bd (v_X7_frictionOf_3 sf) 0 1000 := by unfold v_X7_frictionOf_3; split <;> first | exact ⟨by decide, by decide⟩ | (split <;> exact ⟨by decide, by decide⟩)
  exact fricQ hp hs hl
theorem estQ {R M : Int32} (hR : bd R 0 60000) (hM : bd M 0 60000) : (if R ≤ 0 then 0 else (if 0 < (R - M) then (f_fdiv (1000 * (R - M)) R) else 0)) = (if R = 0 then 0 else (if M < R then (((1000 * ((R - M).toInt64)) / (R.toInt64)).toInt32) else 0)) := by
  obtain ⟨r1, r2⟩ := hR
  obtain ⟨m1, m2⟩ := hM
  have e1 : (R - M).toInt = R.toInt - M.toInt := tS (by omega) (by omega)
  by_cases c : R = 0
  · rw [if_pos c, if_pos (by rw [c]; decide)]
  · have hp : 0 < R.toInt := by
      rcases Int.lt_or_eq_of_le r1 with q | q
      · exact q
      · exact absurd (tEq q.symm) c
    rw [if_neg c, if_neg (fun z => by have := Int32.le_iff_toInt_le.mp z; have z2 : R.toInt ≤ 0 := this; omega)]
    by_cases d : M < R
    · have d' := Int32.lt_iff_toInt_lt.mp d
      rw [if_pos d, if_pos (Int32.lt_iff_toInt_lt.mpr (by rw [e1]; show (0 : Int) < _; omega))]
      have q := slipQ (V := R) (W := M) ⟨by omega, r2⟩ ⟨m1, by omega⟩
      exact tEq (by rw [q.1, q.2])
    · rw [if_neg d, if_neg (fun z => d (Int32.lt_iff_toInt_lt.mpr (by have z := Int32.lt_iff_toInt_lt.mp z; rw [e1] at z; have z : (0 : Int) < R.toInt - M.toInt := z; omega)))]
theorem accQ {M O : Int32} {k : Nat} (hM : bd M 0 60000) (hO : bd O 0 60000) (hk : 2 ≤ k ∧ k ≤ 5) : f_fdiv (M - O) (nI k - 1) = f_X7_floor ((M - O).toInt64) ((nI k - 1).toInt64) := by
  obtain ⟨a1, a2⟩ := hM
  obtain ⟨b1, b2⟩ := hO
  have e1 : (M - O).toInt = M.toInt - O.toInt := tS (by omega) (by omega)
  have e2 : (nI k - 1).toInt = (k : Int) - 1 := nm1 (by omega)
  exact tEq (by rw [fdivT (by rw [e1]; omega) (by rw [e2]; omega), floorT (by rw [w64, e1]; omega) (by rw [w64, e1]; omega) (by rw [w64, e2]; omega), w64, w64])
