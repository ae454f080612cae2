/-- the reference's own bounds: demand, reference speed, yaw, the switch, the last dump -/
def I9 (n : F1) : Prop := bd (n 3) 0 2000 ∧ bd (n 4) 0 60000 ∧ bd (n 7) 0 1000 ∧ isB (n 8) ∧ isB (n 9)
set_option maxHeartbeats 4000000 in
set_option maxRecDepth 100000 in
theorem st_act {z w0 w1 w2 w3 f0 f1 f2 f3 lt lk lv n : F1} {fi lc : Nat} {tb : Int} {T dm : Int32} (hM : MOK n) (hz : Rz z n) (r0 : Rw 0 w0 f0 n) (r1 : Rw 1 w1 f1 n) (r2 : Rw 2 w2 f2 n) (r3 : Rw 3 w3 f3 n) (i0 : Iw 0 tb n) (i1 : Iw 1 tb n) (i2 : Iw 2 tb n) (i3 : Iw 3 tb n) (b0 : bd (n 10) 0 60000) (b1 : bd (n 26) 0 60000) (b2 : bd (n 42) 0 60000) (b3 : bd (n 58) 0 60000) (hL : Rl (fi, lc, lt, lk, lv) n) (hT : T = n 2) (hd : dm = n 3) (h9 : I9 n) (htb : tb < 2000000000) :
    ∃ m, m = f_X7_controls_a n ∧ MOK m ∧ Rz (f_X1_act_h z w0 w1 w2 w3 f0 f1 f2 f3 dm) m ∧ WS 0 (tb + 1) (f_X1_act_a0 z w0 w1 w2 w3 f0 f1 f2 f3 dm) (f_X1_act_m0 w0 f0) m ∧ WS 1 (tb + 1) (f_X1_act_a1 z w0 w1 w2 w3 f0 f1 f2 f3 dm) (f_X1_act_m1 w1 f1) m ∧ WS 2 (tb + 1) (f_X1_act_a2 z w0 w1 w2 w3 f0 f1 f2 f3 dm) (f_X1_act_m2 w2 f2) m ∧ WS 3 (tb + 1) (f_X1_act_a3 z w0 w1 w2 w3 f0 f1 f2 f3 dm) (f_X1_act_m3 w3 f3) m ∧ Rl (f_X1_act_al_fi fi lc z w0 w1 w2 w3 f0 f1 f2 f3 dm, f_X1_act_al_lc lc z w0 w1 w2 w3 f0 f1 f2 f3 dm, f_X1_act_t fi lc z w0 w1 w2 w3 f0 f1 f2 f3 lt T dm, f_X1_act_k fi lc z w0 w1 w2 w3 f0 f1 f2 f3 lk dm, f_X1_act_v fi lc z w0 w1 w2 w3 f0 f1 f2 f3 lv dm) m ∧ I9 m ∧ (∀ q, q < 4 ∨ 74 ≤ q ∧ q < 132 → m q = n q) ∧ (∀ j, j < 4 → m (10 + 16 * j + 0) = n (10 + 16 * j + 0)) := by
  have k : ∀ {x : F1}, MOK x → ∀ j, j < 4 → kN j x ≤ 5 := fun h j hj => (kN_eq h hj).2
  obtain ⟨n3, n4, n7, n8, n9⟩ := h9
  rw [ctrl_eq]
  obtain ⟨ma, ea, Ma, A0, A1, A2, A3, oa, pa⟩ := st_meas4 hM r0 r1 r2 r3 i0 i1 i2 i3 b0 b1 b2 b3
  rw [← ea]
  have za : Rz z ma := hz.ag (fun q x y => oa q (by omega))
  have La : Rl (fi, lc, lt, lk, lv) ma := hL.ag (fun q x y => oa q (by omega)) (eN_eq hM).2
  have hr := st_refer Ma za.1 (by rw [oa 4 (by omega)]; exact n4) A0.1 A1.1 A2.1 A3.1 A0.2.1 A1.2.1 A2.2.1 A3.2.1 A0.2.2.2 A1.2.2.2 A2.2.2.2 A3.2.2.2
  -- the class's own names
  obtain ⟨zz, ezz⟩ : ∃ x, x = v_X1_act_1 z w0 w1 w2 w3 f0 f1 f2 f3 := ⟨_, rfl⟩
  have ezz' : zz = upd z 0 (v_X7_refers_9 ma) := by rw [ezz, ← hr.1]; rfl
  obtain ⟨mb, eb⟩ : ∃ x, x = f_X7_refers_a ma := ⟨_, rfl⟩
  have eb' : mb = upd ma 4 (v_X7_refers_9 ma) := eb
  have Mb : MOK mb := by rw [eb']; exact MOK_i (by decide) Ma
  have agb : Ag 10 253 ma mb := by rw [eb']; exact Ag.upd (by omega)
  have ob : ∀ q, q ≠ 4 → mb q = ma q := fun q hq => by rw [eb']; exact pk_un hq
  have b4 : bd (mb 4) 0 60000 := by rw [eb', pk_us]; exact hr.2
  have zb : Rz zz mb := by
    obtain ⟨y0, y1, y2, y3, y4, y5⟩ := za
    rw [ezz', eb']
    exact ⟨by rw [pk_us, pk_us], by rw [pk_un (by decide), pk_un (by decide)]; exact y1, by rw [pk_un (by decide), pk_un (by decide)]; exact y2, by rw [pk_un (by decide), pk_un (by decide)]; exact y3, by rw [pk_un (by decide), pk_un (by decide)]; exact y4, by rw [pk_un (by decide), pk_un (by decide)]; exact y5⟩
  have Lb : Rl (fi, lc, lt, lk, lv) mb := La.ag (agb.sub (by omega) (by omega)) (eN_eq Ma).2
  have B : ∀ (j : Nat) (w f : F1), j < 4 → MS j tb w f ma → WS j tb (f_X5_estimateSlip_h w f (zz 0)) f mb := by
    intro j w f hj h
    have h := h.ag (agb.sub (by omega) (by omega)) (k Ma j hj)
    obtain ⟨x1, x2, x3⟩ := st_est Mb hj zb.1 b4 h.1 h.2.1 h.2.2.2
    exact ⟨⟨x1, h.2.1, by rw [x3]; exact h.2.2.1, h.2.2.2⟩, x2⟩
  have B0 := B 0 _ _ (by decide) A0
  have B1 := B 1 _ _ (by decide) A1
  have B2 := B 2 _ _ (by decide) A2
  have B3 := B 3 _ _ (by decide) A3
  obtain ⟨mc, ec, Mc, C0, C1, C2, C3, Lc, oc, pc⟩ := st_sus4 Mb zb.1 (T := T) (hT.trans ((ob 2 (by decide)).trans (oa 2 (by omega))).symm) B0 B1 B2 B3 Lb
  rw [← eb, ← ec]
  have zc : Rz zz mc := zb.ag (fun q x y => oc q (by omega))
  have dc : dm = mc 3 := hd.trans ((oc 3 (by omega)).trans ((ob 3 (by decide)).trans (oa 3 (by omega)))).symm
  have c3' : bd (mc 3) 0 2000 := by rw [← dc, hd]; exact n3
  have c8 : isB (mc 8) := by rw [oc 8 (by omega), ob 8 (by decide), oa 8 (by omega)]; exact n8
  have c9 : isB (mc 9) := by rw [oc 9 (by omega), ob 9 (by decide), oa 9 (by omega)]; exact n9
  have c7 : bd (mc 7) 0 1000 := by rw [oc 7 (by omega), ob 7 (by decide), oa 7 (by omega)]; exact n7
  have c4 : bd (mc 4) 0 60000 := by rw [oc 4 (by omega)]; exact b4
  have hTc : T = mc 2 := hT.trans ((oc 2 (by omega)).trans ((ob 2 (by decide)).trans (oa 2 (by omega)))).symm
  obtain ⟨D0, D1, D2, D3⟩ := st_choose zc.1 zc.2.2.2.2.1 c8 dc C0.1.1 C1.1.1 C2.1.1 C3.1.1 C0.1.2.1 C1.1.2.1 C2.1.2.1 C3.1.2.1 C0.1.2.2.1 C1.1.2.2.1 C2.1.2.2.1 C3.1.2.2.1 C0.2 C1.2 C2.2 C3.2
  obtain ⟨me, ee, Me, E0, E1, E2, E3, Le, oe, pe⟩ := st_bec4 Mc hTc htb (C0.c14 D0) (C1.c14 D1) (C2.c14 D2) (C3.c14 D3) D0.1 D1.1 D2.1 D3.1 (next_bd _ _) (next_bd _ _) (ph4_bd mc).1 (ph4_bd mc).2 Lc
  have ee' : me = f_X7_phases_a mc := ee
  rw [← ee']
  have ze : Rz zz me := zc.ag (fun q x y => oe q (by omega))
  have de : dm = me 3 := dc.trans (oe 3 (by omega)).symm
  obtain ⟨mg, eg, Mg, zg, G0, G1, G2, G3, Lg, g9, og, pg⟩ := st_pr4 Me ze (hTc.trans (oe 2 (by omega)).symm) de (by rw [oe 3 (by omega)]; exact c3') E0 E1 E2 E3 Le (by rw [oe 9 (by omega)]; exact c9)
  rw [← eg]
  have g7 : bd (mg 7) 0 1000 := by rw [og 7 (by omega), oe 7 (by omega)]; exact c7
  obtain ⟨zh, H0, H1, J0, J1, h7, k0, k1, Mh, oh⟩ := st_yaw Mg zg g7 G0.1.1 G1.1.1 G0.1.2.1 G1.1.2.1
  obtain ⟨zi, Mi, oi⟩ := st_pump Mh zh
  have agh : ∀ j, 2 ≤ j → j < 4 → Ag (10 + 16 * j) (26 + 16 * j) mg (f_X7_yaws_a mg) := fun j h1 h2 q x y => oh q (by omega) (by omega) (by omega)
  have agi : Ag 10 253 (f_X7_yaws_a mg) (pumps (f_X7_yaws_a mg)) := fun q x y => oi q (by omega) (by omega)
  have h4 : f_X7_yaws_a mg 4 = mg 4 := oh 4 (by decide) (by decide) (by decide)
  have i4 : pumps (f_X7_yaws_a mg) 4 = f_X7_yaws_a mg 4 := oi 4 (by decide) (by decide)
  have agA : ∀ j, j < 2 → Ag (10 + 16 * j + 10) (26 + 16 * j) mg (f_X7_yaws_a mg) := fun j h1 q x y => oh q (by omega) (by omega) (by omega)
  have P0 : WS 0 (tb + 1) _ _ (f_X7_yaws_a mg) := ⟨⟨H0, J0, by rw [k0 11 (by decide), acc_ag (agA 0 (by decide)) (k Mg 0 (by decide))]; exact G0.1.2.2.1, by rw [(meas_ag (agA 0 (by decide)) (k Mg 0 (by decide))).2]; exact G0.1.2.2.2⟩, by rw [k0 12 (by decide), est_ag (agA 0 (by decide)) h4 (k Mg 0 (by decide))]; exact G0.2⟩
  have P1 : WS 1 (tb + 1) _ _ (f_X7_yaws_a mg) := ⟨⟨H1, J1, by rw [k1 11 (by decide), acc_ag (agA 1 (by decide)) (k Mg 1 (by decide))]; exact G1.1.2.2.1, by rw [(meas_ag (agA 1 (by decide)) (k Mg 1 (by decide))).2]; exact G1.1.2.2.2⟩, by rw [k1 12 (by decide), est_ag (agA 1 (by decide)) h4 (k Mg 1 (by decide))]; exact G1.2⟩
  have P2 := G2.ag (agh 2 (by decide) (by decide)) h4 (k Mg 2 (by decide))
  have P3 := G3.ag (agh 3 (by decide) (by decide)) h4 (k Mg 3 (by decide))
  have Q0 := P0.ag (agi.sub (by omega) (by omega)) i4 (k Mh 0 (by decide))
  have Q1 := P1.ag (agi.sub (by omega) (by omega)) i4 (k Mh 1 (by decide))
  have Q2 := P2.ag (agi.sub (by omega) (by omega)) i4 (k Mh 2 (by decide))
  have Q3 := P3.ag (agi.sub (by omega) (by omega)) i4 (k Mh 3 (by decide))
  have Lh : Rl _ (f_X7_yaws_a mg) := Lg.ag (fun q x y => oh q (by omega) (by omega) (by omega)) (eN_eq Mg).2
  have Li := Lh.ag (agi.sub (by omega) (by omega)) (eN_eq Mh).2
  refine ⟨_, rfl, Mi, ?_, ?_, ?_, ?_, ?_, ?_, ⟨?_, ?_, ?_, ?_, ?_⟩, fun q hq => ?_, fun j hj => ?_⟩
  · subst ezz; exact zi
  · subst ezz; exact Q0
  · subst ezz; exact Q1
  · subst ezz; exact Q2
  · subst ezz; exact Q3
  · have e := prL3 (v_X1_act_32 fi lc z w0 w1 w2 w3 f0 f1 f2 f3 dm) (v_X1_act_33 lc z w0 w1 w2 w3 f0 f1 f2 f3 dm) zz (v_X1_enterPhases_1 (v_X1_act_24 z w0 w1 w2 w3 f0 f1 f2 f3 dm)) (v_X1_enterPhases_13 (v_X1_act_26 z w0 w1 w2 w3 f0 f1 f2 f3 dm)) (v_X1_enterPhases_25 (v_X1_act_28 z w0 w1 w2 w3 f0 f1 f2 f3 dm)) (v_X1_enterPhases_37 (v_X1_act_30 z w0 w1 w2 w3 f0 f1 f2 f3 dm)) (v_X1_act_35 fi lc z w0 w1 w2 w3 f0 f1 f2 f3 lt T dm) (v_X1_act_36 fi lc z w0 w1 w2 w3 f0 f1 f2 f3 lk dm) (v_X1_act_37 fi lc z w0 w1 w2 w3 f0 f1 f2 f3 lv dm) T
    have e2 := entL3 (v_X1_act_18 fi lc z w0 w1 w2 w3 f0 f1 f2 f3) (v_X1_act_19 lc z w0 w1 w2 w3 f0 f1 f2 f3) (v_X1_act_24 z w0 w1 w2 w3 f0 f1 f2 f3 dm) (v_X1_act_26 z w0 w1 w2 w3 f0 f1 f2 f3 dm) (v_X1_act_28 z w0 w1 w2 w3 f0 f1 f2 f3 dm) (v_X1_act_30 z w0 w1 w2 w3 f0 f1 f2 f3 dm) (v_X1_act_21 fi lc z w0 w1 w2 w3 f0 f1 f2 f3 lt T) (v_X1_act_22 fi lc z w0 w1 w2 w3 f0 f1 f2 f3 lk) (v_X1_act_23 fi lc z w0 w1 w2 w3 f0 f1 f2 f3 lv) T
    have e3 := susL3 fi lc zz (v_X1_act_2 z w0 w1 w2 w3 f0 f1 f2 f3) (v_X1_act_4 z w0 w1 w2 w3 f0 f1 f2 f3) (v_X1_act_6 z w0 w1 w2 w3 f0 f1 f2 f3) (v_X1_act_8 z w0 w1 w2 w3 f0 f1 f2 f3) (f_X1_measureWheels_m0 w0 f0) (f_X1_measureWheels_m1 w1 f1) (f_X1_measureWheels_m2 w2 f2) (f_X1_measureWheels_m3 w3 f3) lt lk lv T
    subst ezz
    refine Eq.mp (congrArg (fun L => Rl L _) ?_) Li
    refine Eq.trans ?_ e.symm
    refine congrArg (fun L => prL T 3 _ _ (prL T 2 _ _ (prL T 1 _ _ (prL T 0 _ _ L)))) ?_
    refine Eq.trans ?_ e2.symm
    refine congrArg (fun L => entL T 30 _ (entL T 20 _ (entL T 10 _ (entL T 0 _ L)))) ?_
    exact e3.symm
  · rw [oi 3 (by decide) (by decide), oh 3 (by decide) (by decide) (by decide), og 3 (by omega), oe 3 (by omega)]; exact c3'
  · rw [i4, h4, og 4 (by omega), oe 4 (by omega)]; exact c4
  · rw [oi 7 (by decide) (by decide)]; exact h7
  · rw [oi 8 (by decide) (by decide), oh 8 (by decide) (by decide) (by decide), og 8 (by omega), oe 8 (by omega)]; exact c8
  · rw [oi 9 (by decide) (by decide), oh 9 (by decide) (by decide) (by decide)]; exact g9
  · rw [oi q (by omega) (by omega), oh q (by omega) (by omega) (by omega), og q (by omega), oe q (by omega), oc q (by omega), ob q (by omega), oa q (by omega)]
  · rw [oi _ (by omega) (by omega), oh _ (by omega) (by omega) (by omega), pg j 0 hj (by omega) (by omega), pe j 0 hj (by omega), pc j 0 hj (by omega), ob _ (by omega), pa j 0 hj (by omega)]
