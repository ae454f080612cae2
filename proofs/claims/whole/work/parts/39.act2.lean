theorem Iw.mono {j : Nat} {tb tc : Int} {n : F1} (h : Iw j tb n) (hb : tb ≤ tc) : Iw j tc n := ⟨h.1, h.2.1, ⟨h.2.2.1.1, Int.le_trans h.2.2.1.2 hb⟩, h.2.2.2⟩
theorem WS.c14 {j : Nat} {tb : Int} {w c f n : F1} {ph : Int32} (h : WS j tb w f n) (hc : C14 w c ph) : WS j tb c f n := by
  obtain ⟨⟨⟨h1, h2⟩, h3, h4, h5⟩, h6⟩ := h
  exact ⟨⟨⟨fun k hk => by rw [hc.2 k (by omega)]; exact h1 k hk, h2⟩, h3, by rw [hc.2 11 (by decide)]; exact h4, h5⟩, by rw [hc.2 12 (by decide)]; exact h6⟩
theorem ws_bec {j : Nat} {c f n : F1} {L : LogS} {tb : Int} {T ph j10 : Int32} (hM : MOK n) (hj : j < 4) (hT : T = n 2) (h10 : j10 = 10 * nI j) (h14 : c 14 = ph) (hp : bd ph 0 4) (htb : tb < 2000000000) (h : WS j tb c f n) (hL : Rl L n) :
    WS j (tb + 1) (entW c) f (f_X7_becomes_a n j ph) ∧ Rl (entL T j10 c L) (f_X7_becomes_a n j ph) ∧ MOK (f_X7_becomes_a n j ph) ∧ (∀ q, q < 132 → (q < 10 + 16 * j + 2 ∨ 10 + 16 * j + 6 ≤ q) → f_X7_becomes_a n j ph q = n q) := by
  obtain ⟨⟨h1, h2, h3, h4⟩, h5⟩ := h
  obtain ⟨a, b, d, e, g, o⟩ := st_become hM hj hT h10 h14 hp htb h1 h2 hL
  have hk := (kN_eq hM hj).2
  have ag : Ag (10 + 16 * j + 10) (26 + 16 * j) n (f_X7_becomes_a n j ph) := fun q x y => o q (by omega) (by omega)
  exact ⟨⟨⟨a, d, by rw [e 11 (by omega), acc_ag ag hk]; exact h3, by rw [(meas_ag ag hk).2]; exact h4⟩, by rw [e 12 (by omega), est_ag ag (o 4 (by omega) (by omega)) hk]; exact h5⟩, b, g, o⟩
theorem oth_b {n m : F1} {i j : Nat} (hi : i < 4) (hj : j < 4) (hne : i ≠ j) (e : ∀ q, q < 132 → (q < 10 + 16 * i + 2 ∨ 10 + 16 * i + 6 ≤ q) → m q = n q) : Ag (10 + 16 * j) (26 + 16 * j) n m := fun q a b => e q (by omega) (by omega)
theorem st_bec4 {c0 c1 c2 c3 f0 f1 f2 f3 n : F1} {L : LogS} {tb : Int} {T p0 p1 p2 p3 : Int32} (hM : MOK n) (hT : T = n 2) (htb : tb < 2000000000) (s0 : WS 0 tb c0 f0 n) (s1 : WS 1 tb c1 f1 n) (s2 : WS 2 tb c2 f2 n) (s3 : WS 3 tb c3 f3 n) (h0 : c0 14 = p0) (h1 : c1 14 = p1) (h2 : c2 14 = p2) (h3 : c3 14 = p3) (b0 : bd p0 0 4) (b1 : bd p1 0 4) (b2 : bd p2 0 4) (b3 : bd p3 0 4) (hL : Rl L n) :
    ∃ m, m = f_X7_becomes_a (f_X7_becomes_a (f_X7_becomes_a (f_X7_becomes_a n 0 p0) 1 p1) 2 p2) 3 p3 ∧ MOK m ∧ WS 0 (tb + 1) (entW c0) f0 m ∧ WS 1 (tb + 1) (entW c1) f1 m ∧ WS 2 (tb + 1) (entW c2) f2 m ∧ WS 3 (tb + 1) (entW c3) f3 m ∧ Rl (entL T 30 c3 (entL T 20 c2 (entL T 10 c1 (entL T 0 c0 L)))) m ∧ (∀ q, q < 10 ∨ 74 ≤ q ∧ q < 132 → m q = n q) ∧ (∀ j k, j < 4 → k < 2 ∨ 6 ≤ k ∧ k < 10 → m (10 + 16 * j + k) = n (10 + 16 * j + k)) := by
  have k : ∀ {x : F1}, MOK x → ∀ j, j < 4 → kN j x ≤ 5 := fun h j hj => (kN_eq h hj).2
  obtain ⟨s0, L0, M0, e0⟩ := ws_bec hM (by decide) hT (j10 := 0) (by decide) h0 b0 htb s0 hL
  have s1 := s1.ag (oth_b (i := 0) (j := 1) (by decide) (by decide) (by decide) e0) (e0 4 (by omega) (by omega)) (k hM 1 (by decide))
  have s2 := s2.ag (oth_b (i := 0) (j := 2) (by decide) (by decide) (by decide) e0) (e0 4 (by omega) (by omega)) (k hM 2 (by decide))
  have s3 := s3.ag (oth_b (i := 0) (j := 3) (by decide) (by decide) (by decide) e0) (e0 4 (by omega) (by omega)) (k hM 3 (by decide))
  have hT := hT.trans (e0 2 (by omega) (by omega)).symm
  generalize f_X7_becomes_a n 0 p0 = m0 at *
  obtain ⟨s1, L1, M1, e1⟩ := ws_bec M0 (by decide) hT (j10 := 10) (by decide) h1 b1 htb s1 L0
  have s0 := s0.ag (oth_b (i := 1) (j := 0) (by decide) (by decide) (by decide) e1) (e1 4 (by omega) (by omega)) (k M0 0 (by decide))
  have s2 := s2.ag (oth_b (i := 1) (j := 2) (by decide) (by decide) (by decide) e1) (e1 4 (by omega) (by omega)) (k M0 2 (by decide))
  have s3 := s3.ag (oth_b (i := 1) (j := 3) (by decide) (by decide) (by decide) e1) (e1 4 (by omega) (by omega)) (k M0 3 (by decide))
  have hT := hT.trans (e1 2 (by omega) (by omega)).symm
  generalize f_X7_becomes_a m0 1 p1 = m1 at *
  obtain ⟨s2, L2, M2, e2⟩ := ws_bec M1 (by decide) hT (j10 := 20) (by decide) h2 b2 htb s2 L1
  have s0 := s0.ag (oth_b (i := 2) (j := 0) (by decide) (by decide) (by decide) e2) (e2 4 (by omega) (by omega)) (k M1 0 (by decide))
  have s1 := s1.ag (oth_b (i := 2) (j := 1) (by decide) (by decide) (by decide) e2) (e2 4 (by omega) (by omega)) (k M1 1 (by decide))
  have s3 := s3.ag (oth_b (i := 2) (j := 3) (by decide) (by decide) (by decide) e2) (e2 4 (by omega) (by omega)) (k M1 3 (by decide))
  have hT := hT.trans (e2 2 (by omega) (by omega)).symm
  generalize f_X7_becomes_a m1 2 p2 = m2 at *
  obtain ⟨s3, L3, M3, e3⟩ := ws_bec M2 (by decide) hT (j10 := 30) (by decide) h3 b3 htb s3 L2
  have s0 := s0.ag (oth_b (i := 3) (j := 0) (by decide) (by decide) (by decide) e3) (e3 4 (by omega) (by omega)) (k M2 0 (by decide))
  have s1 := s1.ag (oth_b (i := 3) (j := 1) (by decide) (by decide) (by decide) e3) (e3 4 (by omega) (by omega)) (k M2 1 (by decide))
  have s2 := s2.ag (oth_b (i := 3) (j := 2) (by decide) (by decide) (by decide) e3) (e3 4 (by omega) (by omega)) (k M2 2 (by decide))
  refine ⟨_, rfl, M3, s0, s1, s2, s3, L3, fun q hq => ?_, fun j kk hj hk => ?_⟩
  · rw [e3 q (by omega) (by omega), e2 q (by omega) (by omega), e1 q (by omega) (by omega), e0 q (by omega) (by omega)]
  · rw [e3 _ (by omega) (by omega), e2 _ (by omega) (by omega), e1 _ (by omega) (by omega), e0 _ (by omega) (by omega)]
theorem ws_pr {j : Nat} {w f n z : F1} {L : LogS} {tb : Int} {T wd vl : Int32} (hM : MOK n) (hj : j < 4) (hz : Rz z n) (hT : T = n 2) (hvl : vl = nI j) (hw : wd = v_X7_presses_1 n j) (bw : bd wd 0 2000) (h : WS j tb w f n) (hL : Rl L n) (b9 : isB (n 9)) :
    Rz (prZ z w) (f_X7_presses_a n j) ∧ WS j tb (prW z w wd) f (f_X7_presses_a n j) ∧ Rl (prL T vl z w L) (f_X7_presses_a n j) ∧ MOK (f_X7_presses_a n j) ∧ isB ((f_X7_presses_a n j) 9) ∧ (∀ q, q < 132 → q ≠ 10 + 16 * j + 1 → q ≠ 5 → q ≠ 9 → f_X7_presses_a n j q = n q) := by
  obtain ⟨⟨h1, h2, h3, h4⟩, h5⟩ := h
  obtain ⟨a, b, d, e, g, o, p, q⟩ := st_press hM hj hz hT hvl hw bw h1 h2 hL b9
  have hk := (kN_eq hM hj).2
  have ag : Ag (10 + 16 * j + 10) (26 + 16 * j) n (f_X7_presses_a n j) := fun x y z => q x (by omega) (by omega) (by omega) (by omega)
  exact ⟨a, ⟨⟨b, e, by rw [g 11 (by decide), acc_ag ag hk]; exact h3, by rw [(meas_ag ag hk).2]; exact h4⟩, by rw [g 12 (by decide), est_ag ag (q 4 (by omega) (by omega) (by omega) (by omega)) hk]; exact h5⟩, d, o, p, q⟩
theorem oth_p {n m : F1} {i j : Nat} (hi : i < 4) (hj : j < 4) (hne : i ≠ j) (e : ∀ q, q < 132 → q ≠ 10 + 16 * i + 1 → q ≠ 5 → q ≠ 9 → m q = n q) : Ag (10 + 16 * j) (26 + 16 * j) n m := fun q a b => e q (by omega) (by omega) (by omega) (by omega)
theorem axle_ag {n m : F1} {i : Nat} (hi : i < 4) (e : ∀ q, q < 132 → q ≠ 10 + 16 * i + 1 → q ≠ 5 → q ≠ 9 → m q = n q) : v_X7_presses_1 m 0 = v_X7_presses_1 n 0 ∧ v_X7_presses_1 m 1 = v_X7_presses_1 n 1 ∧ v_X7_presses_1 m 2 = v_X7_presses_1 n 2 ∧ v_X7_presses_1 m 3 = v_X7_presses_1 n 3 := by
  have h3 := e 3 (by omega) (by omega) (by omega) (by omega)
  have h17 := e 17 (by omega) (by omega) (by omega) (by omega)
  have h33 := e 33 (by omega) (by omega) (by omega) (by omega)
  have h49 := e 49 (by omega) (by omega) (by omega) (by omega)
  have h65 := e 65 (by omega) (by omega) (by omega) (by omega)
  have a0 : f_X7_isAxleOut m 0 = f_X7_isAxleOut n 0 := by show (if m 17 + m 33 ≤ 0 then (0 : Int32) else 1) = (if n 17 + n 33 ≤ 0 then 0 else 1); rw [h17, h33]
  have a1 : f_X7_isAxleOut m 1 = f_X7_isAxleOut n 1 := a0
  have a2 : f_X7_isAxleOut m 2 = f_X7_isAxleOut n 2 := by show (if m 49 + m 65 ≤ 0 then (0 : Int32) else 1) = (if n 49 + n 65 ≤ 0 then 0 else 1); rw [h49, h65]
  have a3 : f_X7_isAxleOut m 3 = f_X7_isAxleOut n 3 := a2
  unfold v_X7_presses_1
  rw [h3, a0, a1, a2, a3]
  exact ⟨rfl, rfl, rfl, rfl⟩
theorem st_pr4 {w0 w1 w2 w3 f0 f1 f2 f3 n z : F1} {L : LogS} {tb : Int} {T dm : Int32} (hM : MOK n) (hz : Rz z n) (hT : T = n 2) (hd : dm = n 3) (b3 : bd (n 3) 0 2000) (s0 : WS 0 tb w0 f0 n) (s1 : WS 1 tb w1 f1 n) (s2 : WS 2 tb w2 f2 n) (s3 : WS 3 tb w3 f3 n) (hL : Rl L n) (b9 : isB (n 9)) :
    ∃ m, m = f_X7_presses_a (f_X7_presses_a (f_X7_presses_a (f_X7_presses_a n 0) 1) 2) 3 ∧ MOK m ∧ Rz (prZ (prZ (prZ (prZ z w0) w1) w2) w3) m ∧ WS 0 tb (prW z w0 dm) f0 m ∧ WS 1 tb (prW (prZ z w0) w1 dm) f1 m ∧ WS 2 tb (prW (prZ (prZ z w0) w1) w2 (v_X1_movePressures_1 w2 w3 dm)) f2 m ∧ WS 3 tb (prW (prZ (prZ (prZ z w0) w1) w2) w3 (v_X1_movePressures_1 w2 w3 dm)) f3 m ∧ Rl (prL T 3 (prZ (prZ (prZ z w0) w1) w2) w3 (prL T 2 (prZ (prZ z w0) w1) w2 (prL T 1 (prZ z w0) w1 (prL T 0 z w0 L)))) m ∧ isB (m 9) ∧ (∀ q, q < 10 ∧ q ≠ 5 ∧ q ≠ 9 ∨ 74 ≤ q ∧ q < 132 → m q = n q) ∧ (∀ j k, j < 4 → k < 10 → k ≠ 1 → m (10 + 16 * j + k) = n (10 + 16 * j + k)) := by
  have k : ∀ {x : F1}, MOK x → ∀ j, j < 4 → kN j x ≤ 5 := fun h j hj => (kN_eq h hj).2
  have hre := rear_eq (s2.1.1.1 7 (by omega)) (s3.1.1.1 7 (by omega)) s2.1.2.1.2.2.2.1 s3.1.2.1.2.2.2.1
  have v0 : dm = v_X7_presses_1 n 0 := by unfold v_X7_presses_1; rw [if_pos (by decide)]; exact hd
  have v1 : dm = v_X7_presses_1 n 1 := by unfold v_X7_presses_1; rw [if_pos (by decide)]; exact hd
  have v2 : v_X1_movePressures_1 w2 w3 dm = v_X7_presses_1 n 2 := by unfold v_X1_movePressures_1 v_X7_presses_1; rw [hre, if_neg (show ¬ nI 2 ≤ 1 by decide), hd, mnl]
  have v3 : v_X1_movePressures_1 w2 w3 dm = v_X7_presses_1 n 3 := by
    rw [v2]; unfold v_X7_presses_1
    rw [if_neg (show ¬ nI 2 ≤ 1 by decide), if_neg (show ¬ nI 3 ≤ 1 by decide)]; rfl
  have bd0 : bd dm 0 2000 := by rw [hd]; exact b3
  have bd2 : bd (v_X1_movePressures_1 w2 w3 dm) 0 2000 := by
    unfold v_X1_movePressures_1
    split
    · exact bd0
    · obtain ⟨x1, x2⟩ := bd0; unfold bd; rw [mnl, leT]; show 0 ≤ (if (500 : Int) ≤ _ then (500 : Int) else _) ∧ (if (500 : Int) ≤ _ then (500 : Int) else _) ≤ 2000; split <;> omega
  generalize v_X1_movePressures_1 w2 w3 dm = wr at *
  obtain ⟨hz, s0, L0, M0, b9, e0⟩ := ws_pr (j := 0) hM (by decide) hz hT (vl := 0) rfl v0 bd0 s0 hL b9
  have s1 := s1.ag (oth_p (i := 0) (j := 1) (by decide) (by decide) (by decide) e0) (e0 4 (by omega) (by omega) (by omega) (by omega)) (k hM 1 (by decide))
  have s2 := s2.ag (oth_p (i := 0) (j := 2) (by decide) (by decide) (by decide) e0) (e0 4 (by omega) (by omega) (by omega) (by omega)) (k hM 2 (by decide))
  have s3 := s3.ag (oth_p (i := 0) (j := 3) (by decide) (by decide) (by decide) e0) (e0 4 (by omega) (by omega) (by omega) (by omega)) (k hM 3 (by decide))
  have hT := hT.trans (e0 2 (by omega) (by omega) (by omega) (by omega)).symm
  obtain ⟨-, x1, x2, x3⟩ := axle_ag (i := 0) (by decide) e0
  have v1 := v1.trans x1.symm; have v2 := v2.trans x2.symm; have v3 := v3.trans x3.symm
  generalize f_X7_presses_a n 0 = m0 at *
  obtain ⟨hz, s1, L1, M1, b9, e1⟩ := ws_pr (j := 1) M0 (by decide) hz hT (vl := 1) rfl v1 bd0 s1 L0 b9
  have s0 := s0.ag (oth_p (i := 1) (j := 0) (by decide) (by decide) (by decide) e1) (e1 4 (by omega) (by omega) (by omega) (by omega)) (k M0 0 (by decide))
  have s2 := s2.ag (oth_p (i := 1) (j := 2) (by decide) (by decide) (by decide) e1) (e1 4 (by omega) (by omega) (by omega) (by omega)) (k M0 2 (by decide))
  have s3 := s3.ag (oth_p (i := 1) (j := 3) (by decide) (by decide) (by decide) e1) (e1 4 (by omega) (by omega) (by omega) (by omega)) (k M0 3 (by decide))
  have hT := hT.trans (e1 2 (by omega) (by omega) (by omega) (by omega)).symm
  obtain ⟨-, -, x2, x3⟩ := axle_ag (i := 1) (by decide) e1
  have v2 := v2.trans x2.symm; have v3 := v3.trans x3.symm
  generalize f_X7_presses_a m0 1 = m1 at *
  obtain ⟨hz, s2, L2, M2, b9, e2⟩ := ws_pr (j := 2) M1 (by decide) hz hT (vl := 2) rfl v2 bd2 s2 L1 b9
  have s0 := s0.ag (oth_p (i := 2) (j := 0) (by decide) (by decide) (by decide) e2) (e2 4 (by omega) (by omega) (by omega) (by omega)) (k M1 0 (by decide))
  have s1 := s1.ag (oth_p (i := 2) (j := 1) (by decide) (by decide) (by decide) e2) (e2 4 (by omega) (by omega) (by omega) (by omega)) (k M1 1 (by decide))
  have s3 := s3.ag (oth_p (i := 2) (j := 3) (by decide) (by decide) (by decide) e2) (e2 4 (by omega) (by omega) (by omega) (by omega)) (k M1 3 (by decide))
  have hT := hT.trans (e2 2 (by omega) (by omega) (by omega) (by omega)).symm
  obtain ⟨-, -, -, x3⟩ := axle_ag (i := 2) (by decide) e2
  have v3 := v3.trans x3.symm
  generalize f_X7_presses_a m1 2 = m2 at *
  obtain ⟨hz, s3, L3, M3, b9, e3⟩ := ws_pr (j := 3) M2 (by decide) hz hT (vl := 3) rfl v3 bd2 s3 L2 b9
  have s0 := s0.ag (oth_p (i := 3) (j := 0) (by decide) (by decide) (by decide) e3) (e3 4 (by omega) (by omega) (by omega) (by omega)) (k M2 0 (by decide))
  have s1 := s1.ag (oth_p (i := 3) (j := 1) (by decide) (by decide) (by decide) e3) (e3 4 (by omega) (by omega) (by omega) (by omega)) (k M2 1 (by decide))
  have s2 := s2.ag (oth_p (i := 3) (j := 2) (by decide) (by decide) (by decide) e3) (e3 4 (by omega) (by omega) (by omega) (by omega)) (k M2 2 (by decide))
  refine ⟨_, rfl, M3, hz, s0, s1, s2, s3, L3, b9, fun q hq => ?_, fun j kk hj hk h1 => ?_⟩
  · rw [e3 q (by omega) (by omega) (by omega) (by omega), e2 q (by omega) (by omega) (by omega) (by omega), e1 q (by omega) (by omega) (by omega) (by omega), e0 q (by omega) (by omega) (by omega) (by omega)]
  · rw [e3 _ (by omega) (by omega) (by omega) (by omega), e2 _ (by omega) (by omega) (by omega) (by omega), e1 _ (by omega) (by omega) (by omega) (by omega), e0 _ (by omega) (by omega) (by omega) (by omega)]
