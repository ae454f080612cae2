theorem fd_pos {a b : Int32} (ha : 0 ≤ a.toInt) (hb : 0 < b.toInt) : f_fdiv a b = a / b := by
  apply tEq
  rw [fdivT (by omega) hb, tD hb, td_pos ha]
theorem gr0 (a : Int32) : mx a 0 = f_X7_greater 0 a := by
  rw [mxg]
  apply tEq
  rw [grT, grT, show (0 : Int32).toInt = 0 from rfl]
  split <;> split <;> omega
set_option maxHeartbeats 4000000 in
theorem st_tick {tb : Int} {u : CarS} {n : F1} (h : RC tb u n) (htb : tb < 2000000000) : RC (tb + 1) (b_X0_tick_u u) (v_X7_tickOn_31 n) := by
  have hM := h.M
  have k : ∀ {x : F1}, MOK x → ∀ j, j < 4 → kN j x ≤ 5 := fun h j hj => (kN_eq h hj).2
  have b3 := h.i9.1
  -- time and plan
  obtain ⟨n1, e1⟩ : ∃ x, x = upd n 2 (n 2 + 1) := ⟨_, rfl⟩
  have M1 : MOK n1 := by rw [e1]; exact MOK_i (by decide) hM
  have o1 : ∀ q, q ≠ 2 → n1 q = n q := fun q hq => by rw [e1]; exact pk_un hq
  have t1 : u.1 0 2 + 1 = n1 2 := by rw [e1, pk_us, h.c2]
  have p1 : Rp (u.2 3) (u.1 16) (u.1 17) n1 := h.p.ag (fun q x y => o1 q (by omega)) (pN_eq hM).2
  have s1 : SP n1 := h.sp.ag (fun q x y => o1 q (by omega)) (pN_eq hM).2
  obtain ⟨d2, p2, s2, c2, M2, o2⟩ := st_plan (dm := u.1 0 3) M1 p1 s1 t1 (h.c3.trans (o1 3 (by decide)).symm) (by rw [o1 3 (by decide)]; exact b3)
  obtain ⟨n2, e2⟩ : ∃ x, x = tiP n := ⟨_, rfl⟩
  have e2' : n2 = f_X7_followsPlan_a n1 := by rw [e2, e1]; rfl
  rw [← e2'] at d2 p2 s2 c2 M2 o2
  have q2 : ∀ q, q ≠ 2 → q ≠ 3 → q < 111 ∨ 132 ≤ q → n2 q = n q := fun q x y z => (o2 q (by omega)).trans (o1 q x)
  obtain ⟨dm, edm⟩ : ∃ x, x = f_X4_takeDemand (u.2 3) (u.1 16) (u.1 17) (u.1 0 2 + 1) (u.1 0 3) := ⟨_, rfl⟩
  rw [← edm] at d2
  obtain ⟨g, eg⟩ : ∃ x, x = upd (upd (u.1 0) 2 (u.1 0 2 + 1)) 3 dm := ⟨_, rfl⟩
  have g0 : g 0 = n2 0 := by rw [eg, pk_un (by decide), pk_un (by decide), h.c0, q2 0 (by decide) (by decide) (by omega)]
  have g1 : g 1 = n2 1 := by rw [eg, pk_un (by decide), pk_un (by decide), h.c1, q2 1 (by decide) (by decide) (by omega)]
  have r2 : Rr (u.2 2) (u.1 13) (u.1 14) (u.1 15) n2 := h.r.ag (fun q x y => q2 q (by omega) (by omega) (by omega)) (sN_eq hM).2.2
  have sr2 : SR n2 := h.sr.ag (fun q x y => q2 q (by omega) (by omega) (by omega)) (sN_eq hM).2.2
  have v2 : bd (n2 0) 0 60000 := by rw [q2 0 (by decide) (by decide) (by omega)]; exact h.bV
  have w2 : ∀ j, j < 4 → bd (n2 (10 + 16 * j + 0)) 0 (n2 0).toInt := fun j hj => by rw [q2 0 (by decide) (by decide) (by omega), q2 _ (by omega) (by omega) (by omega)]; exact h.bW j hj
  have G0 := grip_eq (lf := 1) M2 (show 0 < 4 by decide) r2 sr2 g0 g1 ((h.w0.1.1 0 (by decide)).trans (q2 _ (by omega) (by omega) (by omega)).symm) v2 (w2 0 (by decide)) (by decide)
  have G1 := grip_eq (lf := 0) M2 (show 1 < 4 by decide) r2 sr2 g0 g1 ((h.w1.1.1 0 (by decide)).trans (q2 _ (by omega) (by omega) (by omega)).symm) v2 (w2 1 (by decide)) (by decide)
  have G2 := grip_eq (lf := 1) M2 (show 2 < 4 by decide) r2 sr2 g0 g1 ((h.w2.1.1 0 (by decide)).trans (q2 _ (by omega) (by omega) (by omega)).symm) v2 (w2 2 (by decide)) (by decide)
  have G3 := grip_eq (lf := 0) M2 (show 3 < 4 by decide) r2 sr2 g0 g1 ((h.w3.1.1 0 (by decide)).trans (q2 _ (by omega) (by omega) (by omega)).symm) v2 (w2 3 (by decide)) (by decide)
  have F : ∀ j, f_X7_frictionAt n2 j = tiF n j := fun j => by rw [e2]; rfl
  rw [F] at G0 G1 G2 G3
  have bF : ∀ j, j < 4 → bd (tiF n j) 0 7000 := fun j hj => by
    rcases (show j = 0 ∨ j = 1 ∨ j = 2 ∨ j = 3 by omega) with e | e | e | e <;> subst e
    · exact G0.2
    · exact G1.2
    · exact G2.2
    · exact G3.2
  -- the sum and the speed
  have z9 : v_X0_tick_9 u = tiF n 0 + tiF n 1 + tiF n 2 + tiF n 3 := by
    show f_X0_findGrips (u.2 2) _ _ _ _ _ _ _ _ = _
    rw [← edm, ← eg]
    unfold f_X0_findGrips v_X0_findGrips_1 f_X0_gripOfWheel_0 f_X0_gripOfWheel_1 f_X0_gripOfWheel_2 f_X0_gripOfWheel_3
    rw [G0.1, G1.1, G2.1, G3.1, Int32.zero_add]
  have bS : bd (tiF n 0 + tiF n 1 + tiF n 2 + tiF n 3) 0 28000 := by
    obtain ⟨a0, b0⟩ := bF 0 (by decide)
    obtain ⟨a1, b1⟩ := bF 1 (by decide)
    obtain ⟨a2, b2⟩ := bF 2 (by decide)
    obtain ⟨a3, b3⟩ := bF 3 (by decide)
    have x1 := tA (x := tiF n 0) (y := tiF n 1) (by omega) (by omega)
    have x2 := tA (x := tiF n 0 + tiF n 1) (y := tiF n 2) (by omega) (by omega)
    have x3 := tA (x := tiF n 0 + tiF n 1 + tiF n 2) (y := tiF n 3) (by omega) (by omega)
    unfold bd
    omega
  have zV : mx (u.1 0 0 - f_fdiv (v_X0_tick_9 u) 40) 0 = tiV n := by
    rw [z9, fd_pos bS.1 (by decide), gr0, h.c0]
    unfold tiV
    rw [← e2, q2 0 (by decide) (by decide) (by omega)]
  have bV : bd (tiV n) 0 (n 0).toInt := by
    unfold tiV bd
    rw [← e2, q2 0 (by decide) (by decide) (by omega), grT, show (0 : Int32).toInt = 0 from rfl]
    have x1 : ((tiF n 0 + tiF n 1 + tiF n 2 + tiF n 3) / 40).toInt = (tiF n 0 + tiF n 1 + tiF n 2 + tiF n 3).toInt / 40 := by
      rw [tD (by decide), td_pos bS.1]; rfl
    obtain ⟨y1, y2⟩ := bS
    obtain ⟨y3, y4⟩ := h.bV
    have x2 := tS (x := n 0) (y := (tiF n 0 + tiF n 1 + tiF n 2 + tiF n 3) / 40) (by omega) (by omega)
    rw [x2, x1]
    split <;> omega
  have zX : u.1 0 1 + f_fdiv (u.1 0 0) 100 = tiM n 1 := by
    rw [h.c0, h.c1, fd_pos h.bV.1 (by decide)]
    unfold tiM
    rw [pk_un (by decide), pk_us, ← e2, q2 0 (by decide) (by decide) (by omega), q2 1 (by decide) (by decide) (by omega)]
  -- the wheels turned
  have oM : ∀ q, q ≠ 0 → q ≠ 1 → tiM n q = n2 q := fun q x y => by rw [tiM_o n ⟨x, y⟩, e2]
  have oT : ∀ q, q ≠ 0 → q ≠ 1 → q ≠ 2 → q ≠ 3 → q ≠ 10 → q ≠ 26 → q ≠ 42 → q ≠ 58 → q < 111 ∨ 132 ≤ q → tiT n q = n q := fun q x0 x1 x2 x3 x4 x5 x6 x7 x8 => by
    unfold tiT; rw [tnA_o ⟨x4, x5, x6, x7⟩, oM q x0 x1, q2 q x2 x3 x8]
  have T0 : tiT n 0 = tiV n := by unfold tiT; rw [tnA_o (by decide), tiM_0]
  have T1 : tiT n 1 = tiM n 1 := by unfold tiT; rw [tnA_o (by decide)]
  have T2 : tiT n 2 = n 2 + 1 := by unfold tiT; rw [tnA_o (by decide), oM 2 (by decide) (by decide), o2 2 (by omega), e1, pk_us]
  have T3 : tiT n 3 = dm := by unfold tiT; rw [tnA_o (by decide), oM 3 (by decide) (by decide), d2]
  have TW : ∀ j, j < 4 → tiT n (10 + 16 * j + 0) = tiW n j := fun j hj => by
    unfold tiT
    rcases (show j = 0 ∨ j = 1 ∨ j = 2 ∨ j = 3 by omega) with e | e | e | e <;> subst e
    · exact tnA_0 _ _ _ _ _
    · exact tnA_1 _ _ _ _ _
    · exact tnA_2 _ _ _ _ _
    · exact tnA_3 _ _ _ _ _
  have agT : ∀ j, j < 4 → Ag (10 + 16 * j + 1) (26 + 16 * j) n (tiT n) := fun j hj q x y => oT q (by omega) (by omega) (by omega) (by omega) (by omega) (by omega) (by omega) (by omega) (by omega)
  have MT : MOK (tiT n) := by
    refine ⟨?_, ?_, ?_, fun j hj => ?_⟩
    · rw [oT 74 (by decide) (by decide) (by decide) (by decide) (by decide) (by decide) (by decide) (by decide) (by omega)]; exact hM.1
    · have : tiT n 111 = n2 111 := by unfold tiT; rw [tnA_o (by decide), oM 111 (by decide) (by decide)]
      rw [this]; exact M2.2.1
    · rw [oT 132 (by decide) (by decide) (by decide) (by decide) (by decide) (by decide) (by decide) (by decide) (by omega)]; exact hM.2.2.1
    · rw [agT j hj _ (by omega) (by omega)]; exact hM.2.2.2 j hj
  have tW : ∀ (j : Nat) (w f : F1) (G : Int32), j < 4 → Rw j w f n → G = tiF n j → f_X5_turn_h (upd w 13 G) (tiV n) = upd (upd w 13 G) 0 (tiW n j) := fun j w f G hj hr hG => by
    unfold f_X5_turn_h
    rw [tn_eq bV.1, pk_us, pk_un (show (0 : Nat) ≠ 13 by decide), pk_un (show (1 : Nat) ≠ 13 by decide), hr.1 0 (by decide), hr.1 1 (by decide), hG]
    unfold tiW
    rw [← e2, q2 _ (by omega) (by omega) (by omega), q2 _ (by omega) (by omega) (by omega)]
  have rT : ∀ (j : Nat) (w f : F1) (G : Int32), j < 4 → Rw j w f n → G = tiF n j → Rw j (f_X5_turn_h (upd w 13 G) (tiV n)) f (tiT n) := fun j w f G hj hr hG => by
    rw [tW j w f G hj hr hG]; exact Rw_turn hj hr (k hM j hj) (agT j hj) (TW j hj)
  have bT : ∀ j, j < 4 → bd (tiT n (10 + 16 * j + 0)) 0 (tiV n).toInt := fun j hj => by rw [TW j hj]; exact tn_bd bV.1
  -- the road dropped
  have rrT : Rr (u.2 2) (u.1 13) (u.1 14) (u.1 15) (tiT n) := h.r.ag (fun q x y => oT q (by omega) (by omega) (by omega) (by omega) (by omega) (by omega) (by omega) (by omega) (by omega)) (sN_eq hM).2.2
  have srT : SR (tiT n) := h.sr.ag (fun q x y => oT q (by omega) (by omega) (by omega) (by omega) (by omega) (by omega) (by omega) (by omega) (by omega)) (sN_eq hM).2.2
  obtain ⟨rD, sD⟩ := st_drop MT rrT srT (zX.trans T1.symm)
  have MD := ok_X7_dropsSegments_a _ MT
  have oD : ∀ q, q < 74 ∨ 111 ≤ q → f_X7_dropsSegments_a (tiT n) q = tiT n q := fun q hq => dz_out MT hq
  have agD : ∀ j, j < 4 → Ag (10 + 16 * j) (26 + 16 * j) (tiT n) (f_X7_dropsSegments_a (tiT n)) := fun j hj q x y => oD q (by omega)
  have rD' : ∀ (j : Nat) (w f : F1) (G : Int32), j < 4 → Rw j w f n → G = tiF n j → Rw j (f_X5_turn_h (upd w 13 G) (tiV n)) f (f_X7_dropsSegments_a (tiT n)) := fun j w f G hj hr hG => (rT j w f G hj hr hG).ag (agD j hj) (k MT j hj)
  have iD : ∀ j, j < 4 → Iw j tb n → Iw j tb (f_X7_dropsSegments_a (tiT n)) := fun j hj hi => (Iw_turn hj hi (k hM j hj) (agT j hj)).ag (agD j hj) (k MT j hj)
  have bD : ∀ j, j < 4 → bd (f_X7_dropsSegments_a (tiT n) (10 + 16 * j + 0)) 0 60000 := fun j hj => by
    rw [oD _ (by omega)]; have := bT j hj; have := bV.2; have := h.bV.2; unfold bd at *; omega
  have zD : Rz (u.1 1) (f_X7_dropsSegments_a (tiT n)) := h.z.ag (fun q x y => (oD q (by omega)).trans (oT q (by omega) (by omega) (by omega) (by omega) (by omega) (by omega) (by omega) (by omega) (by omega)))
  have LD : Rl (u.2 0, u.2 1, u.1 10, u.1 11, u.1 12) (f_X7_dropsSegments_a (tiT n)) := h.L.ag (fun q x y => (oD q (by omega)).trans (oT q (by omega) (by omega) (by omega) (by omega) (by omega) (by omega) (by omega) (by omega) (by omega))) (eN_eq hM).2
  have o49 : ∀ q, 4 ≤ q → q < 10 → f_X7_dropsSegments_a (tiT n) q = n q := fun q x y => (oD q (by omega)).trans (oT q (by omega) (by omega) (by omega) (by omega) (by omega) (by omega) (by omega) (by omega) (by omega))
  have i9D : I9 (f_X7_dropsSegments_a (tiT n)) := by
    obtain ⟨_, x4, x7, x8, x9⟩ := h.i9
    refine ⟨by rw [oD 3 (by omega), T3, d2]; exact c2, by rw [o49 4 (by decide) (by decide)]; exact x4, by rw [o49 7 (by decide) (by decide)]; exact x7, by rw [o49 8 (by decide) (by decide)]; exact x8, by rw [o49 9 (by decide) (by decide)]; exact x9⟩
  have pD : Rp (f_X4_takeDemand_h_pn (u.2 3) (u.1 16) (u.1 0 2 + 1)) (f_X4_takeDemand_t (u.2 3) (u.1 16) (u.1 0 2 + 1)) (f_X4_takeDemand_d (u.2 3) (u.1 16) (u.1 17) (u.1 0 2 + 1)) (f_X7_dropsSegments_a (tiT n)) := p2.ag (fun q x y => by rw [oD q (by omega)]; unfold tiT; rw [tnA_o (by omega), oM q (by omega) (by omega)]) (pN_eq M2).2
  have spD : SP (f_X7_dropsSegments_a (tiT n)) := s2.ag (fun q x y => by rw [oD q (by omega)]; unfold tiT; rw [tnA_o (by omega), oM q (by omega) (by omega)]) (pN_eq M2).2
  -- the class's own names
  have gr : ∀ (x : Int32), x = f_X0_gripOfWheel_0 (u.2 2) g (u.1 2) (u.1 13) (u.1 14) (u.1 15) → x = tiF n 0 := fun x e => e.trans G0.1
  have E0 : f_X5_turn_h (v_X0_tick_1 u) (mx (u.1 0 0 - f_fdiv (v_X0_tick_9 u) 40) 0) = f_X5_turn_h (upd (u.1 2) 13 (tiF n 0)) (tiV n) := by
    rw [zV]; unfold v_X0_tick_1 f_X0_findGrips_a0 f_X0_gripOfWheel_0; rw [← edm, ← eg, G0.1]
  have E1 : f_X5_turn_h (v_X0_tick_3 u) (mx (u.1 0 0 - f_fdiv (v_X0_tick_9 u) 40) 0) = f_X5_turn_h (upd (u.1 3) 13 (tiF n 1)) (tiV n) := by
    rw [zV]; unfold v_X0_tick_3 f_X0_findGrips_a1 f_X0_gripOfWheel_1; rw [← edm, ← eg, G1.1]
  have E2 : f_X5_turn_h (v_X0_tick_5 u) (mx (u.1 0 0 - f_fdiv (v_X0_tick_9 u) 40) 0) = f_X5_turn_h (upd (u.1 4) 13 (tiF n 2)) (tiV n) := by
    rw [zV]; unfold v_X0_tick_5 f_X0_findGrips_a2 f_X0_gripOfWheel_2; rw [← edm, ← eg, G2.1]
  have E3 : f_X5_turn_h (v_X0_tick_7 u) (mx (u.1 0 0 - f_fdiv (v_X0_tick_9 u) 40) 0) = f_X5_turn_h (upd (u.1 5) 13 (tiF n 3)) (tiV n) := by
    rw [zV]; unfold v_X0_tick_7 f_X0_findGrips_a3 f_X0_gripOfWheel_3; rw [← edm, ← eg, G3.1]
  obtain ⟨m, em, Mm, zm, W0, W1, W2, W3, Lm, i9m, om, wm⟩ := st_act (T := u.1 0 2 + 1) (dm := dm) MD zD (rD' 0 _ _ _ (by decide) h.w0.1 rfl) (rD' 1 _ _ _ (by decide) h.w1.1 rfl) (rD' 2 _ _ _ (by decide) h.w2.1 rfl) (rD' 3 _ _ _ (by decide) h.w3.1 rfl) (iD 0 (by decide) h.w0.2.1) (iD 1 (by decide) h.w1.2.1) (iD 2 (by decide) h.w2.2.1) (iD 3 (by decide) h.w3.2.1) (bD 0 (by decide)) (bD 1 (by decide)) (bD 2 (by decide)) (bD 3 (by decide)) LD (by rw [oD 2 (by omega), T2, h.c2]) (by rw [oD 3 (by omega), T3]) i9D htb
  have em' : v_X7_tickOn_19 n = m := by rw [tick19, em]
  have m0 : m 0 = tiV n := by rw [om 0 (by omega), oD 0 (by omega), T0]
  have ML : MOK (lkA m) := by rw [← em', ← tick31]; exact ok_X7_tickOn_a n hM
  rw [← E0, ← E1, ← E2, ← E3] at zm W0 W1 W2 W3 Lm
  rw [edm] at zm W0 W1 W2 W3 Lm
  rw [tick31, em']
  have agL : ∀ lo hi, (hi ≤ 16 ∨ 65 ≤ lo) → Ag lo hi m (lkA m) := fun lo hi hx q x y => lkA_o (by omega)
  have agm : Ag 74 132 (f_X7_dropsSegments_a (tiT n)) (lkA m) := fun q x y => (lkA_o (by omega)).trans (om q (by omega))
  refine ⟨ML, ?_, ?_, ?_, ?_, ?_, ?_, ?_, ?_, ?_, ?_, ?_, ?_, ?_, ?_, fun j hj => ?_, ?_, ?_⟩
  · rw [b_X0_tick_u_r0, lkA_o (by decide), m0]; unfold f_X0_tick_ad0; rw [pk_us, zV]
  · rw [b_X0_tick_u_r0, lkA_o (by decide), om 1 (by omega), oD 1 (by omega), T1]; unfold f_X0_tick_ad0; rw [pk_un (by decide), pk_us, zX]
  · rw [b_X0_tick_u_r0, lkA_o (by decide), om 2 (by omega), oD 2 (by omega), T2]; unfold f_X0_tick_ad0; rw [pk_un (by decide), pk_un (by decide), pk_un (by decide), pk_us, h.c2]
  · rw [b_X0_tick_u_r0, lkA_o (by decide), om 3 (by omega), oD 3 (by omega), T3]; unfold f_X0_tick_ad0; rw [pk_un (by decide), pk_un (by decide), pk_us, edm]
  · rw [b_X0_tick_u_r1]; exact zm.ag (agL _ _ (by omega))
  · rw [b_X0_tick_u_r2, b_X0_tick_u_r6]; exact RW_lock Mm (by decide) W0 (zV.trans m0.symm)
  · rw [b_X0_tick_u_r3, b_X0_tick_u_r7]; exact RW_lock Mm (by decide) W1 (zV.trans m0.symm)
  · rw [b_X0_tick_u_r4, b_X0_tick_u_r8]; exact RW_lock Mm (by decide) W2 (zV.trans m0.symm)
  · rw [b_X0_tick_u_r5, b_X0_tick_u_r9]; exact RW_lock Mm (by decide) W3 (zV.trans m0.symm)
  · rw [b_X0_tick_u_n0, b_X0_tick_u_n1, b_X0_tick_u_r10, b_X0_tick_u_r11, b_X0_tick_u_r12]; exact Lm.ag (agL _ _ (by omega)) (eN_eq Mm).2
  · rw [b_X0_tick_u_n2, b_X0_tick_u_r13, b_X0_tick_u_r14, b_X0_tick_u_r15]; exact rD.ag (agm.sub (by omega) (by omega)) (sN_eq MD).2.2
  · rw [b_X0_tick_u_n3, b_X0_tick_u_r16, b_X0_tick_u_r17]; exact pD.ag (agm.sub (by omega) (by omega)) (pN_eq MD).2
  · unfold I9; rw [lkA_o (by decide), lkA_o (by decide), lkA_o (by decide), lkA_o (by decide), lkA_o (by decide)]; exact i9m
  · rw [lkA_o (by decide), m0]; exact ⟨bV.1, Int.le_trans bV.2 h.bV.2⟩
  · rw [lkA_o (by omega), lkA_o (by decide), m0, wm j hj, oD _ (by omega)]; exact bT j hj
  · exact sD.ag (agm.sub (by omega) (by omega)) (sN_eq MD).2.2
  · exact spD.ag (agm.sub (by omega) (by omega)) (pN_eq MD).2
