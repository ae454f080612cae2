/-! pressures, the accumulator, yaw, pump -/
def Rz (z n : F1) : Prop := z 0 = n 4 ∧ z 1 = n 5 ∧ z 2 = n 6 ∧ z 3 = n 7 ∧ z 4 = n 8 ∧ z 5 = n 9
theorem Rz.ag {z n m : F1} (h : Rz z n) (a : Ag 4 10 n m) : Rz z m := by
  obtain ⟨a0, a1, a2, a3, a4, a5⟩ := h
  exact ⟨by rw [a 4 (by omega) (by omega)]; exact a0, by rw [a 5 (by omega) (by omega)]; exact a1, by rw [a 6 (by omega) (by omega)]; exact a2, by rw [a 7 (by omega) (by omega)]; exact a3, by rw [a 8 (by omega) (by omega)]; exact a4, by rw [a 9 (by omega) (by omega)]; exact a5⟩
def prZ (z w : F1) : F1 := if w 2 = 2 then f_X1_dump_0_h z w else z
def prW (z w : F1) (wd : Int32) : F1 := if w 2 = 2 then f_X1_dump_0_a0 z w else f_X5_movePressure_h w wd
def prL (T vl : Int32) (z w : F1) (L : LogS) : LogS := if w 2 = 2 then (if v_X1_dump_0_1 z = 0 then L else (if z 5 = 0 then addL L T 2 vl else L)) else L
theorem prW_eq (z w0 w1 w2 w3 : F1) (dm : Int32) : f_X1_movePressures_h z w0 w1 w2 w3 = prZ (prZ (prZ (prZ z w0) w1) w2) w3 ∧ f_X1_movePressures_a0 z w0 dm = prW z w0 dm ∧ f_X1_movePressures_a1 z w0 w1 dm = prW (prZ z w0) w1 dm ∧ f_X1_movePressures_a2 z w0 w1 w2 w3 dm = prW (prZ (prZ z w0) w1) w2 (v_X1_movePressures_1 w2 w3 dm) ∧ f_X1_movePressures_a3 z w0 w1 w2 w3 dm = prW (prZ (prZ (prZ z w0) w1) w2) w3 (v_X1_movePressures_1 w2 w3 dm) := ⟨rfl, rfl, rfl, rfl, rfl⟩
section
variable (fi lc : Nat) (z w0 w1 w2 w3 lt lk lv : F1) (T : Int32)
theorem prL0 : (v_X1_movePressures_5 fi lc z w0, v_X1_movePressures_6 lc z w0, v_X1_movePressures_7 fi lc z w0 lt T, v_X1_movePressures_8 fi lc z w0 lk, v_X1_movePressures_9 fi lc z w0 lv) = prL T 0 z w0 (fi, lc, lt, lk, lv) := by
  unfold prL v_X1_movePressures_5 v_X1_movePressures_6 v_X1_movePressures_7 v_X1_movePressures_8 v_X1_movePressures_9
  by_cases c : w0 2 = 2
  · simp only [if_pos c]
    unfold f_X1_dump_0_al_fi f_X1_dump_0_al_lc f_X1_dump_0_t f_X1_dump_0_k f_X1_dump_0_v v_X1_dump_0_5 v_X1_dump_0_6 v_X1_dump_0_7 v_X1_dump_0_8 v_X1_dump_0_9
    by_cases d : v_X1_dump_0_1 z = 0
    · simp only [if_pos d]
    · simp only [if_neg d]
      by_cases e : z 5 = 0
      · simp only [if_pos e]; rfl
      · simp only [if_neg e]
  · simp only [if_neg c]
theorem prL1 : (v_X1_movePressures_20 fi lc z w0 w1, v_X1_movePressures_21 lc z w0 w1, v_X1_movePressures_22 fi lc z w0 w1 lt T, v_X1_movePressures_23 fi lc z w0 w1 lk, v_X1_movePressures_24 fi lc z w0 w1 lv) = prL T 1 (prZ z w0) w1 (prL T 0 z w0 (fi, lc, lt, lk, lv)) := by
  rw [← prL0]
  have hz : v_X1_movePressures_3 z w0 = prZ z w0 := rfl
  unfold prL v_X1_movePressures_20 v_X1_movePressures_21 v_X1_movePressures_22 v_X1_movePressures_23 v_X1_movePressures_24 v_X1_movePressures_13 v_X1_movePressures_15 v_X1_movePressures_16 v_X1_movePressures_17
  rw [hz]
  by_cases c : w1 2 = 2
  · simp only [if_pos c]
    unfold f_X1_dump_1_al_fi f_X1_dump_1_al_lc f_X1_dump_1_t f_X1_dump_1_k f_X1_dump_1_v v_X1_dump_1_5 v_X1_dump_1_6 v_X1_dump_1_7 v_X1_dump_1_8 v_X1_dump_1_9
    have e1 : v_X1_dump_1_1 (prZ z w0) = v_X1_dump_0_1 (prZ z w0) := rfl
    rw [e1]
    by_cases d : v_X1_dump_0_1 (prZ z w0) = 0
    · simp only [if_pos d]
    · simp only [if_neg d]
      by_cases e : (prZ z w0) 5 = 0
      · simp only [if_pos e]; rfl
      · simp only [if_neg e]
  · simp only [if_neg c]
theorem prL2 : (v_X1_movePressures_35 fi lc z w0 w1 w2, v_X1_movePressures_36 lc z w0 w1 w2, v_X1_movePressures_37 fi lc z w0 w1 w2 lt T, v_X1_movePressures_38 fi lc z w0 w1 w2 lk, v_X1_movePressures_39 fi lc z w0 w1 w2 lv) = prL T 2 (prZ (prZ z w0) w1) w2 (prL T 1 (prZ z w0) w1 (prL T 0 z w0 (fi, lc, lt, lk, lv))) := by
  rw [← prL1]
  have hz : v_X1_movePressures_18 z w0 w1 = prZ (prZ z w0) w1 := rfl
  unfold prL v_X1_movePressures_35 v_X1_movePressures_36 v_X1_movePressures_37 v_X1_movePressures_38 v_X1_movePressures_39 v_X1_movePressures_28 v_X1_movePressures_30 v_X1_movePressures_31 v_X1_movePressures_32
  rw [hz]
  by_cases c : w2 2 = 2
  · simp only [if_pos c]
    unfold f_X1_dump_2_al_fi f_X1_dump_2_al_lc f_X1_dump_2_t f_X1_dump_2_k f_X1_dump_2_v v_X1_dump_2_5 v_X1_dump_2_6 v_X1_dump_2_7 v_X1_dump_2_8 v_X1_dump_2_9
    have e1 : v_X1_dump_2_1 (prZ (prZ z w0) w1) = v_X1_dump_0_1 (prZ (prZ z w0) w1) := rfl
    rw [e1]
    by_cases d : v_X1_dump_0_1 (prZ (prZ z w0) w1) = 0
    · simp only [if_pos d]
    · simp only [if_neg d]
      by_cases e : (prZ (prZ z w0) w1) 5 = 0
      · simp only [if_pos e]; rfl
      · simp only [if_neg e]
  · simp only [if_neg c]
theorem prL3 : (f_X1_movePressures_al_fi fi lc z w0 w1 w2 w3, f_X1_movePressures_al_lc lc z w0 w1 w2 w3, f_X1_movePressures_t fi lc z w0 w1 w2 w3 lt T, f_X1_movePressures_k fi lc z w0 w1 w2 w3 lk, f_X1_movePressures_v fi lc z w0 w1 w2 w3 lv) = prL T 3 (prZ (prZ (prZ z w0) w1) w2) w3 (prL T 2 (prZ (prZ z w0) w1) w2 (prL T 1 (prZ z w0) w1 (prL T 0 z w0 (fi, lc, lt, lk, lv)))) := by
  rw [← prL2]
  have hz : v_X1_movePressures_33 z w0 w1 w2 = prZ (prZ (prZ z w0) w1) w2 := rfl
  unfold f_X1_movePressures_al_fi f_X1_movePressures_al_lc f_X1_movePressures_t f_X1_movePressures_k f_X1_movePressures_v prL v_X1_movePressures_51 v_X1_movePressures_52 v_X1_movePressures_53 v_X1_movePressures_54 v_X1_movePressures_55 v_X1_movePressures_43 v_X1_movePressures_44 v_X1_movePressures_46 v_X1_movePressures_47 v_X1_movePressures_48
  rw [hz]
  by_cases c : w3 2 = 2
  · simp only [if_pos c]
    unfold f_X1_dump_3_al_fi f_X1_dump_3_al_lc f_X1_dump_3_t f_X1_dump_3_k f_X1_dump_3_v v_X1_dump_3_5 v_X1_dump_3_6 v_X1_dump_3_7 v_X1_dump_3_8 v_X1_dump_3_9
    have e1 : v_X1_dump_3_1 (prZ (prZ (prZ z w0) w1) w2) = v_X1_dump_0_1 (prZ (prZ (prZ z w0) w1) w2) := rfl
    rw [e1]
    by_cases d : v_X1_dump_0_1 (prZ (prZ (prZ z w0) w1) w2) = 0
    · simp only [if_pos d]
    · simp only [if_neg d]
      by_cases e : (prZ (prZ (prZ z w0) w1) w2) 5 = 0
      · simp only [if_pos e]; rfl
      · simp only [if_neg e]
  · simp only [if_neg c]
end
theorem par {x : Int32} (h : 0 ≤ x.toInt) : (x - x / 2 * 2).toInt = x.toInt % 2 := by
  have r := rng_i x
  have e1 : (x / 2).toInt = x.toInt / 2 := by rw [tD (by decide), td_pos h]; rfl
  have e2 : (x / 2 * 2).toInt = x.toInt / 2 * 2 := by rw [tM (by rw [e1]; show _ ≤ _ * (2 : Int); omega) (by rw [e1]; show _ * (2 : Int) < _; omega), e1]; rfl
  rw [tS (by rw [e2]; omega) (by rw [e2]; omega), e2]; omega
/-- where a step sets a wheel's pressure alone -/
theorem st_p {j : Nat} {w fm n : F1} {tb : Int} {pv : Int32} (hM : MOK n) (hj : j < 4) (h : Rw j w fm n) (hI : Iw j tb n) (hp : bd pv 0 2000) : Rw j (upd w 1 pv) fm (upd n (10 + 16 * j + 1) pv) ∧ Iw j tb (upd n (10 + 16 * j + 1) pv) ∧ MOK (upd n (10 + 16 * j + 1) pv) := by
  obtain ⟨a1, a2, a3, a4, a5, a6⟩ := hI
  obtain ⟨hk, h5⟩ := kN_eq hM hj
  have ek : kN j (upd n (10 + 16 * j + 1) pv) = kN j n := by unfold kN; rw [uw (by decide)]
  refine ⟨⟨fun k hk => ?_, fun i hi => ?_⟩, ⟨by rw [pk_us]; exact hp, by rw [uw (by decide)]; exact a2, by rw [uw (by decide)]; exact a3, by rw [uw (by decide)]; exact a4, by rw [uw (by decide)]; exact a5, fun i hi => ?_⟩, MOK_w hj (by decide) hM⟩
  · by_cases b : k = 1
    · subst b; rw [pk_us, pk_us]
    · rw [pk_un b, uw b]; exact h.1 k hk
  · rw [ek] at hi; rw [pk_un (by omega)]; exact h.2 i hi
  · rw [ek] at hi; rw [pk_un (by omega)]; exact a6 i hi
theorem st_press {j : Nat} {w fm n z : F1} {L : LogS} {tb : Int} {T wd vl : Int32} (hM : MOK n) (hj : j < 4) (hz : Rz z n) (hT : T = n 2) (hvl : vl = nI j) (hw : wd = v_X7_presses_1 n j) (bw : bd wd 0 2000) (h : Rw j w fm n) (hI : Iw j tb n) (hL : Rl L n) (b9 : isB (n 9)) :
    Rz (prZ z w) (f_X7_presses_a n j) ∧ Rw j (prW z w wd) fm (f_X7_presses_a n j) ∧ Rl (prL T vl z w L) (f_X7_presses_a n j) ∧ Iw j tb (f_X7_presses_a n j) ∧ (∀ k, k ≠ 1 → prW z w wd k = w k) ∧ MOK (f_X7_presses_a n j) ∧ isB ((f_X7_presses_a n j) 9) ∧ (∀ q, q < 132 → q ≠ 10 + 16 * j + 1 → q ≠ 5 → q ≠ 9 → f_X7_presses_a n j q = n q) := by
  have h2 := h.1 2 (by omega)
  have h1 := h.1 1 (by omega)
  have h3 := h.1 3 (by omega)
  have bp := hI.1
  have simpleP : ∀ pv : Int32, bd pv 0 2000 → f_X7_presses_a n j = upd n (10 + 16 * j + 1) pv → prW z w wd = upd w 1 pv → ¬ w 2 = 2 → Rz (prZ z w) (f_X7_presses_a n j) ∧ Rw j (prW z w wd) fm (f_X7_presses_a n j) ∧ Rl (prL T vl z w L) (f_X7_presses_a n j) ∧ Iw j tb (f_X7_presses_a n j) ∧ (∀ k, k ≠ 1 → prW z w wd k = w k) ∧ MOK (f_X7_presses_a n j) ∧ isB ((f_X7_presses_a n j) 9) ∧ (∀ q, q < 132 → q ≠ 10 + 16 * j + 1 → q ≠ 5 → q ≠ 9 → f_X7_presses_a n j q = n q) := by
    intro pv hp eN' eW n2
    obtain ⟨q1, q2, q3⟩ := st_p hM hj h hI hp
    rw [eN', eW]
    unfold prZ prL
    rw [if_neg n2, if_neg n2]
    exact ⟨hz.ag (Ag.upd (by omega)), q1, hL.ag (Ag.upd (by omega)) (eN_eq hM).2, q2, fun k hk => pk_un hk, q3, by rw [pk_un (by omega)]; exact b9, fun q _ hq _ _ => pk_un hq⟩
  have m80 : (n (10 + 16 * j + 1) - 80).toInt = (n (10 + 16 * j + 1)).toInt - 80 := tS (by have := bp.1; show _ ≤ _ - (80 : Int); omega) (by have := bp.2; show _ - (80 : Int) < _; omega)
  have p40 : (n (10 + 16 * j + 1) + 40).toInt = (n (10 + 16 * j + 1)).toInt + 40 := tA (by have := bp.1; show _ ≤ _ + (40 : Int); omega) (by have := bp.2; show _ + (40 : Int) < _; omega)
  have p20 : (n (10 + 16 * j + 1) + 20).toInt = (n (10 + 16 * j + 1)).toInt + 20 := tA (by have := bp.1; show _ ≤ _ + (20 : Int); omega) (by have := bp.2; show _ + (20 : Int) < _; omega)
  obtain ⟨bp1, bp2⟩ := bp
  obtain ⟨bw1, bw2⟩ := bw
  rcases five hI.2.1 with e | e | e | e | e
  · have e2 : w 2 = 0 := by rw [h2]; exact e
    refine simpleP (v_X7_presses_3 n j) ?_ ?_ ?_ (by rw [e2]; decide)
    · unfold v_X7_presses_3 bd; rw [← hw]
      split
      · rw [grT, m80]; split <;> omega
      · rw [leT, p40]; split <;> omega
    · unfold f_X7_presses_a; rw [if_pos e]; rfl
    · unfold prW f_X5_movePressure_h v_X5_movePressure_5 v_X7_presses_3
      rw [e2, if_neg (by decide), if_neg (by decide), if_neg (by decide), if_neg (by decide), if_neg (by decide), h1, mxg, mnl, ← hw]
  · have e2 : w 2 = 1 := by rw [h2]; exact e
    refine simpleP (f_X7_lesser (n (10 + 16 * j + 1)) wd) ?_ ?_ ?_ (by rw [e2]; decide)
    · unfold bd; rw [leT]; split <;> omega
    · unfold f_X7_presses_a; rw [if_neg (by rw [e]; decide), if_pos e, hw]; rfl
    · unfold prW f_X5_movePressure_h
      rw [e2, if_neg (by decide), if_pos rfl, h1, mnl]
  · have e2 : w 2 = 2 := by rw [h2]; exact e
    have eN' : f_X7_presses_a n j = f_X7_dumps_a n j := by
      unfold f_X7_presses_a; rw [if_neg (by rw [e]; decide), if_neg (by rw [e]; decide), if_pos e]
    have eZ : prZ z w = upd (v_X1_dump_0_3 z w) 5 (v_X1_dump_0_1 z) := by unfold prZ; rw [if_pos e2]; rfl
    have eW : prW z w wd = v_X1_dump_0_4 z w := by unfold prW; rw [if_pos e2]; rfl
    have eL : prL T vl z w L = (if v_X1_dump_0_1 z = 0 then L else (if z 5 = 0 then addL L T 2 vl else L)) := by unfold prL; rw [if_pos e2]
    obtain ⟨z0', z1, z2, z3, z4, z5⟩ := hz
    rw [eN', eZ, eW, eL]
    by_cases c : 550 < n 5
    · have d1 : v_X1_dump_0_1 z = 1 := by unfold v_X1_dump_0_1; rw [z1, if_neg (fun q => by have := lt_iff.mp c; have := le_iff.mp q; omega)]
      have d3 : v_X1_dump_0_3 z w = z := by unfold v_X1_dump_0_3; rw [d1, if_neg (by decide)]
      have d4 : v_X1_dump_0_4 z w = w := by unfold v_X1_dump_0_4; rw [d1, if_neg (by decide)]
      have eD : f_X7_dumps_a n j = upd (v_X7_dumps_1 n j) 9 1 := by unfold f_X7_dumps_a; rw [if_pos c]
      have hM1 := okm_X7_dumps_2 n j hM
      have lo : ∀ q, q < 132 → v_X7_dumps_1 n j q = n q := by
        intro q hq; unfold v_X7_dumps_1; split
        · exact logs_lo _ _ _ q hq
        · rfl
      have ag : Ag 10 132 n (upd (v_X7_dumps_1 n j) 9 1) := fun q a b => by rw [pk_un (by omega)]; exact lo q b
      rw [eD, d1, d3, d4, if_neg (by decide)]
      refine ⟨⟨by rw [pk_un (by decide), pk_un (by decide), lo _ (by omega)]; exact z0', by rw [pk_un (by decide), pk_un (by decide), lo _ (by omega)]; exact z1, by rw [pk_un (by decide), pk_un (by decide), lo _ (by omega)]; exact z2, by rw [pk_un (by decide), pk_un (by decide), lo _ (by omega)]; exact z3, by rw [pk_un (by decide), pk_un (by decide), lo _ (by omega)]; exact z4, by rw [pk_us, pk_us]⟩, h.ag (ag.sub (by omega) (by omega)) (kN_eq hM hj).2, ?_, hI.ag (ag.sub (by omega) (by omega)) (kN_eq hM hj).2, fun _ _ => rfl, MOK_i (by decide) hM1, by rw [pk_us]; exact isB1, fun q h0 _ _ h9 => by rw [pk_un h9]; exact lo q h0⟩
      rw [z5]
      unfold v_X7_dumps_1
      by_cases d : n 9 = 0
      · rw [if_pos d, if_pos d, hvl]
        have := st_log (kd := 2) (vl := nI j) hM hT hL
        exact this.ag (Ag.upd (by omega)) (eN_eq (logs_ok hM)).2
      · rw [if_neg d, if_neg d]; exact hL.ag (Ag.upd (by omega)) (eN_eq hM).2
    · have c' : (n 5).toInt ≤ 550 := by
        rcases Int.lt_or_le 550 (n 5).toInt with q | q
        · exact absurd (show (550 : Int32) < n 5 from lt_iff.mpr q) c
        · exact q
      have d1 : v_X1_dump_0_1 z = 0 := by unfold v_X1_dump_0_1; rw [z1, if_pos (show n 5 ≤ (550 : Int32) from le_iff.mpr c')]
      have eB : mn (w 1) 50 = f_X7_lesser 50 (n (10 + 16 * j + 1)) := by
        rw [mnl, h1]
        exact tEq (by rw [leT, leT]; split <;> split <;> omega)
      have d3 : v_X1_dump_0_3 z w = upd z 1 (n 5 + f_X7_lesser 50 (n (10 + 16 * j + 1))) := by unfold v_X1_dump_0_3; rw [d1, if_pos rfl, eB, z1]
      have d4 : v_X1_dump_0_4 z w = upd w 1 (n (10 + 16 * j + 1) - f_X7_lesser 50 (n (10 + 16 * j + 1))) := by unfold v_X1_dump_0_4; rw [d1, if_pos rfl, eB, h1]
      have eD : f_X7_dumps_a n j = upd (upd (upd n (10 + 16 * j + 1) (n (10 + 16 * j + 1) - f_X7_lesser 50 (n (10 + 16 * j + 1)))) 5 (n 5 + f_X7_lesser 50 (n (10 + 16 * j + 1)))) 9 0 := by
        unfold f_X7_dumps_a v_X7_dumps_6 v_X7_dumps_4 f_X7_sets_a
        rw [if_neg c, pk_un (j := 5) (by omega)]
      have hlT : (f_X7_lesser 50 (n (10 + 16 * j + 1))).toInt = if (n (10 + 16 * j + 1)).toInt ≤ 50 then (n (10 + 16 * j + 1)).toInt else 50 := leT _ _
      have hby : 0 ≤ (f_X7_lesser 50 (n (10 + 16 * j + 1))).toInt ∧ (f_X7_lesser 50 (n (10 + 16 * j + 1))).toInt ≤ (n (10 + 16 * j + 1)).toInt := by
        rw [hlT]; split <;> omega
      have hpv : bd (n (10 + 16 * j + 1) - f_X7_lesser 50 (n (10 + 16 * j + 1))) 0 2000 := by
        unfold bd; rw [tS (by omega) (by omega)]; omega
      obtain ⟨q1, q2, q3⟩ := st_p hM hj h hI hpv
      have ag : Ag 10 253 (upd n (10 + 16 * j + 1) (n (10 + 16 * j + 1) - f_X7_lesser 50 (n (10 + 16 * j + 1)))) (upd (upd (upd n (10 + 16 * j + 1) (n (10 + 16 * j + 1) - f_X7_lesser 50 (n (10 + 16 * j + 1)))) 5 (n 5 + f_X7_lesser 50 (n (10 + 16 * j + 1)))) 9 0) := fun q a b => by rw [pk_un (by omega), pk_un (by omega)]
      rw [eD, d1, d3, d4, if_pos rfl]
      refine ⟨⟨by rw [pk_un (by decide), pk_un (by decide), pk_un (by decide), pk_un (by decide), pk_un (by omega)]; exact z0', by rw [pk_un (by decide), pk_us, pk_un (by decide), pk_us], by rw [pk_un (by decide), pk_un (by decide), pk_un (by decide), pk_un (by decide), pk_un (by omega)]; exact z2, by rw [pk_un (by decide), pk_un (by decide), pk_un (by decide), pk_un (by decide), pk_un (by omega)]; exact z3, by rw [pk_un (by decide), pk_un (by decide), pk_un (by decide), pk_un (by decide), pk_un (by omega)]; exact z4, by rw [pk_us, pk_us]⟩, q1.ag (ag.sub (by omega) (by omega)) (kN_eq q3 hj).2, hL.ag (fun q a b => by rw [ag q (by omega) b, pk_un (by omega)]) (eN_eq hM).2, q2.ag (ag.sub (by omega) (by omega)) (kN_eq q3 hj).2, fun k hk => pk_un hk, MOK_i (by decide) (MOK_i (by decide) q3), by rw [pk_us]; exact isB0, fun q h0 h1' h5 h9 => by rw [pk_un h9, pk_un h5, pk_un h1']⟩
  · have e2 : w 2 = 3 := by rw [h2]; exact e
    refine simpleP (f_X7_lesser (n (10 + 16 * j + 1)) wd) ?_ ?_ ?_ (by rw [e2]; decide)
    · unfold bd; rw [leT]; split <;> omega
    · unfold f_X7_presses_a; rw [if_neg (by rw [e]; decide), if_neg (by rw [e]; decide), if_neg (by rw [e]; decide), if_pos e, hw]; rfl
    · unfold prW f_X5_movePressure_h
      rw [e2, if_neg (by decide), if_neg (by decide), if_neg (by decide), if_pos rfl, h1, mnl]
  · have e2 : w 2 = 4 := by rw [h2]; exact e
    have hpar := par hI.2.2.1.1
    have ev : v_X5_movePressure_3 w = v_X7_presses_5 n j := by
      unfold v_X5_movePressure_3 v_X7_presses_5
      rw [h1, h3]
      by_cases c : n (10 + 16 * j + 3) - n (10 + 16 * j + 3) / 2 * 2 = 0
      · rw [if_pos c, if_neg (by rw [c]; decide)]
      · rw [if_neg c, if_pos (tEq (by rw [hpar]; show _ = (1 : Int); have : ¬ (n (10 + 16 * j + 3)).toInt % 2 = 0 := fun q => c (tEq (by rw [hpar]; exact q)); omega))]
    have bv : bd (v_X7_presses_5 n j) 0 2020 := by
      unfold v_X7_presses_5 bd
      split
      · rw [p20]; omega
      · omega
    refine simpleP (f_X7_lesser (v_X7_presses_5 n j) wd) ?_ ?_ ?_ (by rw [e2]; decide)
    · obtain ⟨v1, v2⟩ := bv; unfold bd; rw [leT]; split <;> omega
    · unfold f_X7_presses_a; rw [if_neg (by rw [e]; decide), if_neg (by rw [e]; decide), if_neg (by rw [e]; decide), if_neg (by rw [e]; decide), if_pos e, hw]; rfl
    · unfold prW f_X5_movePressure_h
      rw [e2, if_neg (by decide), if_neg (by decide), if_neg (by decide), if_neg (by decide), if_pos rfl, ev, mnl]
