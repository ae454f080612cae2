/-! the controller as a whole -/
def MS (j : Nat) (tb : Int) (w f n : F1) : Prop := Rw j w f n ∧ Iw j tb n ∧ w 11 = f_X7_acceleration n j ∧ 1 ≤ kN j n
def WS (j : Nat) (tb : Int) (w f n : F1) : Prop := MS j tb w f n ∧ w 12 = f_X7_estimated n j
theorem MS.ag {j : Nat} {tb : Int} {w f n m : F1} (h : MS j tb w f n) (a : Ag (10 + 16 * j) (26 + 16 * j) n m) (hk : kN j n ≤ 5) : MS j tb w f m :=
  ⟨h.1.ag a hk, h.2.1.ag a hk, by rw [acc_ag (a.sub (by omega) (by omega)) hk]; exact h.2.2.1, by rw [kN_ag a]; exact h.2.2.2⟩
theorem WS.ag {j : Nat} {tb : Int} {w f n m : F1} (h : WS j tb w f n) (a : Ag (10 + 16 * j) (26 + 16 * j) n m) (h4 : m 4 = n 4) (hk : kN j n ≤ 5) : WS j tb w f m :=
  ⟨h.1.ag a hk, by rw [est_ag (a.sub (by omega) (by omega)) h4 hk]; exact h.2⟩
theorem oth_m {n : F1} {i j : Nat} (hM : MOK n) (hi : i < 4) (hne : i ≠ j) : Ag (10 + 16 * j) (26 + 16 * j) n (f_X7_measures_a n i) := fun q a b => measures_out n i q hM hi (by omega)
theorem ms_own {n w f : F1} {j : Nat} {tb : Int} (hM : MOK n) (hj : j < 4) (h : Rw j w f n) (hI : Iw j tb n) (bW : bd (n (10 + 16 * j + 0)) 0 60000) : MS j tb (f_X5_measure_h w f) (f_X5_measure_am w f) (f_X7_measures_a n j) := by
  obtain ⟨a, b, c, d, _⟩ := st_measure hM hj h hI bW
  exact ⟨a, c, b, d⟩
theorem st_meas4 {w0 w1 w2 w3 f0 f1 f2 f3 n : F1} {tb : Int} (hM : MOK n) (r0 : Rw 0 w0 f0 n) (r1 : Rw 1 w1 f1 n) (r2 : Rw 2 w2 f2 n) (r3 : Rw 3 w3 f3 n) (i0 : Iw 0 tb n) (i1 : Iw 1 tb n) (i2 : Iw 2 tb n) (i3 : Iw 3 tb n) (b0 : bd (n 10) 0 60000) (b1 : bd (n 26) 0 60000) (b2 : bd (n 42) 0 60000) (b3 : bd (n 58) 0 60000) :
    ∃ m, m = f_X7_measures_a (f_X7_measures_a (f_X7_measures_a (f_X7_measures_a n 0) 1) 2) 3 ∧ MOK m ∧ MS 0 tb (f_X5_measure_h w0 f0) (f_X5_measure_am w0 f0) m ∧ MS 1 tb (f_X5_measure_h w1 f1) (f_X5_measure_am w1 f1) m ∧ MS 2 tb (f_X5_measure_h w2 f2) (f_X5_measure_am w2 f2) m ∧ MS 3 tb (f_X5_measure_h w3 f3) (f_X5_measure_am w3 f3) m ∧ (∀ q, q < 20 ∨ 74 ≤ q → m q = n q) ∧ (∀ j k, j < 4 → k < 10 → m (10 + 16 * j + k) = n (10 + 16 * j + k)) := by
  have k : ∀ {x : F1}, MOK x → ∀ j, j < 4 → kN j x ≤ 5 := fun h j hj => (kN_eq h hj).2
  have M0 := measures_ok hM (j := 0) (by decide)
  have s0 := ms_own hM (by decide) r0 i0 b0
  have a1 := oth_m (i := 0) (j := 1) hM (by decide) (by decide)
  have a2 := oth_m (i := 0) (j := 2) hM (by decide) (by decide)
  have a3 := oth_m (i := 0) (j := 3) hM (by decide) (by decide)
  have r1 := r1.ag a1 (k hM 1 (by decide)); have i1 := i1.ag a1 (k hM 1 (by decide)); have b1 : bd (f_X7_measures_a n 0 26) 0 60000 := by rw [a1 26 (by omega) (by omega)]; exact b1
  have r2 := r2.ag a2 (k hM 2 (by decide)); have i2 := i2.ag a2 (k hM 2 (by decide)); have b2 : bd (f_X7_measures_a n 0 42) 0 60000 := by rw [a2 42 (by omega) (by omega)]; exact b2
  have r3 := r3.ag a3 (k hM 3 (by decide)); have i3 := i3.ag a3 (k hM 3 (by decide)); have b3 : bd (f_X7_measures_a n 0 58) 0 60000 := by rw [a3 58 (by omega) (by omega)]; exact b3
  have o0 : ∀ q, q < 20 ∨ 26 ≤ q → f_X7_measures_a n 0 q = n q := fun q hq => measures_out n 0 q hM (by decide) (by omega)
  generalize hm0 : f_X7_measures_a n 0 = m0 at *
  have M1 := measures_ok M0 (j := 1) (by decide)
  have s1 := ms_own M0 (by decide) r1 i1 b1
  have c0 := oth_m (i := 1) (j := 0) M0 (by decide) (by decide)
  have c2 := oth_m (i := 1) (j := 2) M0 (by decide) (by decide)
  have c3 := oth_m (i := 1) (j := 3) M0 (by decide) (by decide)
  have s0 := s0.ag c0 (k M0 0 (by decide))
  have r2 := r2.ag c2 (k M0 2 (by decide)); have i2 := i2.ag c2 (k M0 2 (by decide)); have b2 : bd (f_X7_measures_a m0 1 42) 0 60000 := by rw [c2 42 (by omega) (by omega)]; exact b2
  have r3 := r3.ag c3 (k M0 3 (by decide)); have i3 := i3.ag c3 (k M0 3 (by decide)); have b3 : bd (f_X7_measures_a m0 1 58) 0 60000 := by rw [c3 58 (by omega) (by omega)]; exact b3
  have o1 : ∀ q, q < 36 ∨ 42 ≤ q → f_X7_measures_a m0 1 q = m0 q := fun q hq => measures_out m0 1 q M0 (by decide) (by omega)
  generalize hm1 : f_X7_measures_a m0 1 = m1 at *
  have M2 := measures_ok M1 (j := 2) (by decide)
  have s2 := ms_own M1 (by decide) r2 i2 b2
  have d0 := oth_m (i := 2) (j := 0) M1 (by decide) (by decide)
  have d1 := oth_m (i := 2) (j := 1) M1 (by decide) (by decide)
  have d3 := oth_m (i := 2) (j := 3) M1 (by decide) (by decide)
  have s0 := s0.ag d0 (k M1 0 (by decide))
  have s1 := s1.ag d1 (k M1 1 (by decide))
  have r3 := r3.ag d3 (k M1 3 (by decide)); have i3 := i3.ag d3 (k M1 3 (by decide)); have b3 : bd (f_X7_measures_a m1 2 58) 0 60000 := by rw [d3 58 (by omega) (by omega)]; exact b3
  have o2 : ∀ q, q < 52 ∨ 58 ≤ q → f_X7_measures_a m1 2 q = m1 q := fun q hq => measures_out m1 2 q M1 (by decide) (by omega)
  generalize hm2 : f_X7_measures_a m1 2 = m2 at *
  have M3 := measures_ok M2 (j := 3) (by decide)
  have s3 := ms_own M2 (by decide) r3 i3 b3
  have s0 := s0.ag (oth_m (i := 3) (j := 0) M2 (by decide) (by decide)) (k M2 0 (by decide))
  have s1 := s1.ag (oth_m (i := 3) (j := 1) M2 (by decide) (by decide)) (k M2 1 (by decide))
  have s2 := s2.ag (oth_m (i := 3) (j := 2) M2 (by decide) (by decide)) (k M2 2 (by decide))
  have o3 : ∀ q, q < 68 ∨ 74 ≤ q → f_X7_measures_a m2 3 q = m2 q := fun q hq => measures_out m2 3 q M2 (by decide) (by omega)
  refine ⟨_, rfl, M3, s0, s1, s2, s3, fun q hq => ?_, fun j kk hj hk => ?_⟩
  · rw [o3 q (by omega), o2 q (by omega), o1 q (by omega), o0 q (by omega)]
  · rw [o3 _ (by omega), o2 _ (by omega), o1 _ (by omega), o0 _ (by omega)]
theorem ws_sus {j : Nat} {w fm n z : F1} {L : LogS} {tb : Int} {T : Int32} (hM : MOK n) (hj : j < 4) (hz : z 0 = n 4) (hT : T = n 2) (h : WS j tb w fm n) (hL : Rl L n) :
    WS j tb (susW z w fm) fm (f_X7_suspects_a n j) ∧ Rl (susL T (nI j) z w fm L) (f_X7_suspects_a n j) ∧ MOK (f_X7_suspects_a n j) ∧ (∀ q, q < 132 → q ≠ 10 + 16 * j + 7 → q ≠ 10 + 16 * j + 8 → f_X7_suspects_a n j q = n q) := by
  obtain ⟨⟨h1, h2, h3, h4⟩, h5⟩ := h
  obtain ⟨a, b, c, d, e⟩ := st_suspect hM hj hz hT h1 h2 h4 hL
  have hk := (kN_eq hM hj).2
  have ag : Ag (10 + 16 * j + 10) (26 + 16 * j) n (f_X7_suspects_a n j) := fun q x y => e q (by omega) (by omega) (by omega)
  exact ⟨⟨⟨a, c, by rw [d 11 (by omega), acc_ag ag hk]; exact h3, by rw [(meas_ag ag hk).2]; exact h4⟩, by rw [d 12 (by omega), est_ag ag (e 4 (by omega) (by omega) (by omega)) hk]; exact h5⟩, b, ok_X7_suspects_a n j hM hj, e⟩
theorem oth_s {n : F1} {i j : Nat} (hi : i < 4) (hj : j < 4) (hne : i ≠ j) (e : ∀ q, q < 132 → q ≠ 10 + 16 * i + 7 → q ≠ 10 + 16 * i + 8 → f_X7_suspects_a n i q = n q) : Ag (10 + 16 * j) (26 + 16 * j) n (f_X7_suspects_a n i) := fun q a b => e q (by omega) (by omega) (by omega)
theorem st_sus4 {w0 w1 w2 w3 f0 f1 f2 f3 n z : F1} {L : LogS} {tb : Int} {T : Int32} (hM : MOK n) (hz : z 0 = n 4) (hT : T = n 2) (s0 : WS 0 tb w0 f0 n) (s1 : WS 1 tb w1 f1 n) (s2 : WS 2 tb w2 f2 n) (s3 : WS 3 tb w3 f3 n) (hL : Rl L n) :
    ∃ m, m = f_X7_suspects_a (f_X7_suspects_a (f_X7_suspects_a (f_X7_suspects_a n 0) 1) 2) 3 ∧ MOK m ∧ WS 0 tb (susW z w0 f0) f0 m ∧ WS 1 tb (susW z w1 f1) f1 m ∧ WS 2 tb (susW z w2 f2) f2 m ∧ WS 3 tb (susW z w3 f3) f3 m ∧ Rl (susL T 3 z w3 f3 (susL T 2 z w2 f2 (susL T 1 z w1 f1 (susL T 0 z w0 f0 L)))) m ∧ (∀ q, q < 10 ∨ 74 ≤ q ∧ q < 132 → m q = n q) ∧ (∀ j k, j < 4 → k < 7 → m (10 + 16 * j + k) = n (10 + 16 * j + k)) := by
  have k : ∀ {x : F1}, MOK x → ∀ j, j < 4 → kN j x ≤ 5 := fun h j hj => (kN_eq h hj).2
  obtain ⟨s0, L0, M0, e0⟩ := ws_sus hM (by decide) hz hT s0 hL
  have s1 := s1.ag (oth_s (i := 0) (j := 1) (by decide) (by decide) (by decide) e0) (e0 4 (by omega) (by omega) (by omega)) (k hM 1 (by decide))
  have s2 := s2.ag (oth_s (i := 0) (j := 2) (by decide) (by decide) (by decide) e0) (e0 4 (by omega) (by omega) (by omega)) (k hM 2 (by decide))
  have s3 := s3.ag (oth_s (i := 0) (j := 3) (by decide) (by decide) (by decide) e0) (e0 4 (by omega) (by omega) (by omega)) (k hM 3 (by decide))
  have hz := hz.trans (e0 4 (by omega) (by omega) (by omega)).symm
  have hT := hT.trans (e0 2 (by omega) (by omega) (by omega)).symm
  generalize f_X7_suspects_a n 0 = m0 at *
  obtain ⟨s1, L1, M1, e1⟩ := ws_sus M0 (by decide) hz hT s1 L0
  have s0 := s0.ag (oth_s (i := 1) (j := 0) (by decide) (by decide) (by decide) e1) (e1 4 (by omega) (by omega) (by omega)) (k M0 0 (by decide))
  have s2 := s2.ag (oth_s (i := 1) (j := 2) (by decide) (by decide) (by decide) e1) (e1 4 (by omega) (by omega) (by omega)) (k M0 2 (by decide))
  have s3 := s3.ag (oth_s (i := 1) (j := 3) (by decide) (by decide) (by decide) e1) (e1 4 (by omega) (by omega) (by omega)) (k M0 3 (by decide))
  have hz := hz.trans (e1 4 (by omega) (by omega) (by omega)).symm
  have hT := hT.trans (e1 2 (by omega) (by omega) (by omega)).symm
  generalize f_X7_suspects_a m0 1 = m1 at *
  obtain ⟨s2, L2, M2, e2⟩ := ws_sus M1 (by decide) hz hT s2 L1
  have s0 := s0.ag (oth_s (i := 2) (j := 0) (by decide) (by decide) (by decide) e2) (e2 4 (by omega) (by omega) (by omega)) (k M1 0 (by decide))
  have s1 := s1.ag (oth_s (i := 2) (j := 1) (by decide) (by decide) (by decide) e2) (e2 4 (by omega) (by omega) (by omega)) (k M1 1 (by decide))
  have s3 := s3.ag (oth_s (i := 2) (j := 3) (by decide) (by decide) (by decide) e2) (e2 4 (by omega) (by omega) (by omega)) (k M1 3 (by decide))
  have hz := hz.trans (e2 4 (by omega) (by omega) (by omega)).symm
  have hT := hT.trans (e2 2 (by omega) (by omega) (by omega)).symm
  generalize f_X7_suspects_a m1 2 = m2 at *
  obtain ⟨s3, L3, M3, e3⟩ := ws_sus M2 (by decide) hz hT s3 L2
  have s0 := s0.ag (oth_s (i := 3) (j := 0) (by decide) (by decide) (by decide) e3) (e3 4 (by omega) (by omega) (by omega)) (k M2 0 (by decide))
  have s1 := s1.ag (oth_s (i := 3) (j := 1) (by decide) (by decide) (by decide) e3) (e3 4 (by omega) (by omega) (by omega)) (k M2 1 (by decide))
  have s2 := s2.ag (oth_s (i := 3) (j := 2) (by decide) (by decide) (by decide) e3) (e3 4 (by omega) (by omega) (by omega)) (k M2 2 (by decide))
  refine ⟨_, rfl, M3, s0, s1, s2, s3, L3, fun q hq => ?_, fun j kk hj hk => ?_⟩
  · rw [e3 q (by omega) (by omega) (by omega), e2 q (by omega) (by omega) (by omega), e1 q (by omega) (by omega) (by omega), e0 q (by omega) (by omega) (by omega)]
  · rw [e3 _ (by omega) (by omega) (by omega), e2 _ (by omega) (by omega) (by omega), e1 _ (by omega) (by omega) (by omega), e0 _ (by omega) (by omega) (by omega)]
