/-! the class's rows against the reference's row -/
def Ag (lo hi : Nat) (n m : F1) : Prop := ∀ q, lo ≤ q → q < hi → m q = n q
theorem Ag.rfl' {lo hi : Nat} {n : F1} : Ag lo hi n n := fun _ _ _ => rfl
theorem Ag.trans {lo hi : Nat} {n m k : F1} (h1 : Ag lo hi n m) (h2 : Ag lo hi m k) : Ag lo hi n k := fun q a b => (h2 q a b).trans (h1 q a b)
theorem Ag.sub {lo hi lo' hi' : Nat} {n m : F1} (h : Ag lo hi n m) (h1 : lo ≤ lo') (h2 : hi' ≤ hi) : Ag lo' hi' n m := fun q a b => h q (by omega) (by omega)
theorem Ag.upd {lo hi i : Nat} {n : F1} {v : Int32} (h : i < lo ∨ hi ≤ i) : Ag lo hi n (upd n i v) := fun q a b => pk_un (by omega)
/-- a wheel: its numbers and what it keeps of the measured values -/
def Rw (j : Nat) (w fm n : F1) : Prop := (∀ k, k < 11 → w k = n (10 + 16 * j + k)) ∧ (∀ i, i < kN j n → fm i = n (10 + 16 * j + 11 + i))
theorem kN_ag {j : Nat} {n m : F1} (h : Ag (10 + 16 * j) (26 + 16 * j) n m) : kN j m = kN j n := by
  unfold kN; rw [h _ (by omega) (by omega)]
theorem Rw.ag {j : Nat} {w fm n m : F1} (h : Rw j w fm n) (a : Ag (10 + 16 * j) (26 + 16 * j) n m) (hk : kN j n ≤ 5) : Rw j w fm m := by
  refine ⟨fun k hk => by rw [h.1 k hk, a _ (by omega) (by omega)], fun i hi => ?_⟩
  rw [kN_ag a] at hi
  rw [h.2 i hi, a _ (by omega) (by omega)]
/-- a wheel's bounds, but for its speed's: pressure, phase, phase ticks, out, faulty, measured values -/
def Iw (j : Nat) (tb : Int) (n : F1) : Prop := bd (n (10 + 16 * j + 1)) 0 2000 ∧ bd (n (10 + 16 * j + 2)) 0 4 ∧ bd (n (10 + 16 * j + 3)) 0 tb ∧ isB (n (10 + 16 * j + 7)) ∧ isB (n (10 + 16 * j + 9)) ∧ ∀ i, i < kN j n → bd (n (10 + 16 * j + 11 + i)) 0 60000
theorem Iw.ag {j : Nat} {tb : Int} {n m : F1} (h : Iw j tb n) (a : Ag (10 + 16 * j) (26 + 16 * j) n m) (hk : kN j n ≤ 5) : Iw j tb m := by
  obtain ⟨a1, a2, a3, a4, a5, a6⟩ := h
  refine ⟨by rw [a _ (by omega) (by omega)]; exact a1, by rw [a _ (by omega) (by omega)]; exact a2, by rw [a _ (by omega) (by omega)]; exact a3, by rw [a _ (by omega) (by omega)]; exact a4, by rw [a _ (by omega) (by omega)]; exact a5, fun i hi => ?_⟩
  rw [kN_ag a] at hi
  rw [a _ (by omega) (by omega)]; exact a6 i hi
theorem nI5 {k : Nat} (hk : k ≤ 5) : nI k < 5 ↔ k < 5 := nI_ltI (b := 5) (by omega) (by decide)
theorem kM_5 {n : F1} {j : Nat} (hM : MOK n) (hj : j < 4) (h : kN j n = 5) : kM j n = 4 ∧ n (10 + 16 * j + 10) = 5 := by
  obtain ⟨hk, h5⟩ := kN_eq hM hj
  have e : n (10 + 16 * j + 10) = 5 := by rw [hk, h]; rfl
  unfold kM; rw [if_pos e]; exact ⟨rfl, e⟩
theorem kM_n5 {n : F1} {j : Nat} (hM : MOK n) (hj : j < 4) (h : ¬ kN j n = 5) : kM j n = kN j n ∧ ¬ n (10 + 16 * j + 10) = 5 := by
  obtain ⟨hk, h5⟩ := kN_eq hM hj
  have e : ¬ n (10 + 16 * j + 10) = 5 := fun z => h (by
    have : nI (kN j n) = nI 5 := by rw [← hk]; exact z
    exact (nI_eq (by omega) (by decide)).mp this)
  unfold kM; rw [if_neg e]; exact ⟨rfl, e⟩
theorem mz_k (n : F1) (j : Nat) : f_X7_measures_a n j (10 + 16 * j + 10) = nI (kM j n + 1) := pk_us
theorem mz_7 (n : F1) (j k : Nat) (h : k < 10) : v_X7_measures_7 n j (10 + 16 * j + k) = n (10 + 16 * j + k) := by
  unfold v_X7_measures_7
  split
  · unfold f_X7_sets_a v_X7_measures_5 v_X7_measures_3 v_X7_measures_1 f_X7_sets_a
    rw [pk_un (by omega), pk_un (by omega), pk_un (by omega), pk_un (by omega), pk_un (by omega)]
  · rfl
theorem mz_new (n : F1) (j : Nat) : f_X7_measures_a n j (10 + 16 * j + 11 + kM j n) = (if n (10 + 16 * j + 9) = 1 then 0 else n (10 + 16 * j + 0)) := by
  unfold f_X7_measures_a v_X7_measures_11 f_X7_sets_a
  rw [pk_un (by omega), show 10 + 16 * j + 11 + kM j n = 10 + 16 * j + (11 + kM j n) by omega, pk_us]
  unfold v_X7_measures_9
  rw [mz_7 n j 9 (by omega), mz_7 n j 0 (by omega)]
theorem mz_old5 {n : F1} {j i : Nat} (hk : kM j n = 4) (e : n (10 + 16 * j + 10) = 5) (hi : i < 4) : f_X7_measures_a n j (10 + 16 * j + 11 + i) = n (10 + 16 * j + 12 + i) := by
  unfold f_X7_measures_a v_X7_measures_11 f_X7_sets_a
  rw [hk, pk_un (by omega), pk_un (by omega)]
  unfold v_X7_measures_7
  rw [if_pos e]
  unfold f_X7_sets_a v_X7_measures_5 v_X7_measures_3 v_X7_measures_1 f_X7_sets_a
  rw [pk_un (by omega)]
  rcases (show i = 0 ∨ i = 1 ∨ i = 2 ∨ i = 3 by omega) with rfl | rfl | rfl | rfl
  · rw [pk_un (by omega), pk_un (by omega), pk_un (by omega), Nat.add_zero, pk_us]
  · rw [pk_un (by omega), pk_un (by omega), pk_us, pk_un (by omega)]
  · rw [pk_un (by omega), pk_us, pk_un (by omega), pk_un (by omega)]
  · rw [pk_us, pk_un (by omega), pk_un (by omega), pk_un (by omega)]
theorem mz_oldn {n : F1} {j i : Nat} (e : ¬ n (10 + 16 * j + 10) = 5) (hi : i < kM j n) : f_X7_measures_a n j (10 + 16 * j + 11 + i) = n (10 + 16 * j + 11 + i) := by
  unfold f_X7_measures_a v_X7_measures_11 f_X7_sets_a
  rw [pk_un (by omega), pk_un (by omega)]
  unfold v_X7_measures_7
  rw [if_neg e]
/-- measuring: both keep the same values, and the class's acceleration is the reference's -/
theorem st_measure {n w fm : F1} {j : Nat} {tb : Int} (hM : MOK n) (hj : j < 4) (h : Rw j w fm n) (hI : Iw j tb n) (bW : bd (n (10 + 16 * j + 0)) 0 60000) :
    Rw j (f_X5_measure_h w fm) (f_X5_measure_am w fm) (f_X7_measures_a n j) ∧ f_X5_measure_h w fm 11 = f_X7_acceleration (f_X7_measures_a n j) j ∧ Iw j tb (f_X7_measures_a n j) ∧ 1 ≤ kN j (f_X7_measures_a n j) ∧ f_X5_measure_h w fm 13 = w 13 := by
  have h4 := kM_le hM hj
  obtain ⟨hk, h5⟩ := kN_eq hM hj
  have ek : kN j (f_X7_measures_a n j) = kM j n + 1 := by
    unfold kN; rw [mz_k, nI_clamp (by omega)]
  have hw10 : w 10 = nI (kN j n) := by rw [h.1 10 (by omega)]; exact hk
  -- the class's side
  have c10 : (v_X5_measure_1 w) 10 = nI (kM j n) := by
    unfold v_X5_measure_1
    by_cases c : kN j n = 5
    · rw [if_neg (by rw [hw10, nI5 h5]; omega), (kM_5 hM hj c).1]; rfl
    · rw [if_pos (by rw [hw10, nI5 h5]; omega), (kM_n5 hM hj c).1]; exact hw10
  have cn : ∀ k, k ≠ 10 → (v_X5_measure_1 w) k = w k := by
    intro k hk; unfold v_X5_measure_1; split
    · rfl
    · exact pk_un hk
  have cM : v_X5_measure_5 w = (if n (10 + 16 * j + 9) = 1 then 0 else n (10 + 16 * j + 0)) := by
    unfold v_X5_measure_5
    rw [cn 9 (by decide), cn 0 (by decide), h.1 9 (by omega), h.1 0 (by omega)]
    rcases hI.2.2.2.2.1 with z | z
    · rw [if_pos z, if_neg (by rw [z]; decide)]
    · rw [if_neg (by rw [z]; decide), if_pos z]
  have cfm : ∀ i, i < kM j n → (v_X5_measure_2 w fm) i = f_X7_measures_a n j (10 + 16 * j + 11 + i) := by
    intro i hi
    unfold v_X5_measure_2
    by_cases c : kN j n = 5
    · obtain ⟨k4, e5⟩ := kM_5 hM hj c
      rw [if_neg (by rw [hw10, nI5 h5]; omega), mz_old5 k4 e5 (by omega)]
      unfold f_X5_forgetOldest_am va_cpy
      rw [if_pos (by omega), h.2 _ (by omega)]; congr 1; omega
    · obtain ⟨k4, e5⟩ := kM_n5 hM hj c
      rw [if_pos (by rw [hw10, nI5 h5]; omega), mz_oldn e5 hi, h.2 _ (by omega)]
  have ecl : ((v_X5_measure_1 w) 10).toNatClampNeg = kM j n := by rw [c10, nI_clamp (by omega)]
  have cam : ∀ i, i < kM j n + 1 → f_X5_measure_am w fm i = f_X7_measures_a n j (10 + 16 * j + 11 + i) := by
    intro i hi
    unfold f_X5_measure_am
    rw [ecl]
    by_cases e : i = kM j n
    · subst e; rw [pk_us, cM, mz_new]
    · rw [pk_un e, cfm i (by omega)]
  have c101 : (v_X5_measure_1 w) 10 + 1 = nI (kM j n + 1) := by rw [c10, nI_1]
  have bnew : ∀ i, i < kM j n + 1 → bd (f_X7_measures_a n j (10 + 16 * j + 11 + i)) 0 60000 := by
    intro i hi
    by_cases e : i = kM j n
    · subst e; rw [mz_new]
      split
      · exact ⟨by decide, by decide⟩
      · exact bW
    · by_cases c : kN j n = 5
      · obtain ⟨k4, e5⟩ := kM_5 hM hj c
        rw [mz_old5 k4 e5 (by omega), show 10 + 16 * j + 12 + i = 10 + 16 * j + 11 + (i + 1) by omega]
        exact hI.2.2.2.2.2 _ (by omega)
      · obtain ⟨k4, e5⟩ := kM_n5 hM hj c
        rw [mz_oldn e5 (by omega)]; exact hI.2.2.2.2.2 _ (by omega)
  have out : ∀ k, k < 10 → f_X7_measures_a n j (10 + 16 * j + k) = n (10 + 16 * j + k) := fun k hk => measures_out n j _ hM hj (by omega)
  refine ⟨⟨fun k hk => ?_, fun i hi => ?_⟩, ?_, ?_, by omega, ?_⟩
  · unfold f_X5_measure_h
    by_cases e : k = 10
    · subst e; rw [pk_un (by decide), pk_us, mz_k, c101]
    · rw [pk_un (by omega), pk_un e, cn k e, h.1 k hk, out k (by omega)]
  · rw [ek] at hi; exact cam i hi
  · unfold f_X5_measure_h
    rw [pk_us]
    unfold v_X5_measure_7 f_X7_acceleration
    rw [c101, mz_k]
    have hcl : ((upd (v_X5_measure_2 w fm) ((v_X5_measure_1 w) 10).toNatClampNeg (v_X5_measure_5 w))) = f_X5_measure_am w fm := rfl
    rw [hcl]
    have hlat : f_X5_latest (upd (v_X5_measure_1 w) 10 (nI (kM j n + 1))) (f_X5_measure_am w fm) = f_X7_measured (f_X7_measures_a n j) j := by
      unfold f_X5_latest f_X7_measured
      rw [pk_us, if_neg (nI_nle (by omega) (by omega)), sb_m1s (by omega), nI_clamp (by omega), ek, Nat.add_sub_cancel, cam _ (by omega)]
      congr 1; omega
    rw [hlat]
    have hms : ∃ x, x = f_X7_measured (f_X7_measures_a n j) j ∧ bd x 0 60000 := ⟨_, rfl, by
      unfold f_X7_measured; rw [ek, show 10 + 16 * j + (11 + (kM j n + 1) - 1) = 10 + 16 * j + 11 + kM j n by omega]; exact bnew _ (by omega)⟩
    obtain ⟨x, ex, bx⟩ := hms
    rw [← ex, cam 0 (by omega)]
    by_cases c : 2 ≤ nI (kM j n + 1)
    · rw [if_pos c, if_pos c]
      have c2 : 2 ≤ kM j n + 1 := (nI_leI (a := 2) (by decide) (by omega)).mp c
      exact accQ bx (bnew 0 (by omega)) ⟨c2, by omega⟩
    · rw [if_neg c, if_neg c]
  · refine ⟨by rw [out 1 (by omega)]; exact hI.1, by rw [out 2 (by omega)]; exact hI.2.1, by rw [out 3 (by omega)]; exact hI.2.2.1, by rw [out 7 (by omega)]; exact hI.2.2.2.1, by rw [out 9 (by omega)]; exact hI.2.2.2.2.1, fun i hi => bnew i (by omega)⟩
  · unfold f_X5_measure_h
    rw [pk_un (by decide), pk_un (by decide), cn 13 (by decide)]
