theorem st_yaw {z w0 w1 f0 f1 n : F1} {tb : Int} (hM : MOK n) (hz : Rz z n) (b7 : bd (n 7) 0 1000) (r0 : Rw 0 w0 f0 n) (r1 : Rw 1 w1 f1 n) (i0 : Iw 0 tb n) (i1 : Iw 1 tb n) :
    Rz (f_X1_limitYaw_h z w0 w1) (f_X7_yaws_a n) ∧ Rw 0 (f_X1_limitYaw_a0 z w0 w1) f0 (f_X7_yaws_a n) ∧ Rw 1 (f_X1_limitYaw_a1 z w0 w1) f1 (f_X7_yaws_a n) ∧ Iw 0 tb (f_X7_yaws_a n) ∧ Iw 1 tb (f_X7_yaws_a n) ∧ bd ((f_X7_yaws_a n) 7) 0 1000 ∧ (∀ k, k ≠ 1 → f_X1_limitYaw_a0 z w0 w1 k = w0 k) ∧ (∀ k, k ≠ 1 → f_X1_limitYaw_a1 z w0 w1 k = w1 k) ∧ MOK (f_X7_yaws_a n) ∧ (∀ q, q ≠ 7 → q ≠ 11 → q ≠ 27 → f_X7_yaws_a n q = n q) := by
  have hp0 : w0 2 = n 12 := r0.1 2 (by omega)
  have hp1 : w1 2 = n 28 := r1.1 2 (by omega)
  have hP0 : w0 1 = n 11 := r0.1 1 (by omega)
  have hP1 : w1 1 = n 27 := r1.1 1 (by omega)
  have bp0 : bd (n 11) 0 2000 := i0.1
  have bp1 : bd (n 27) 0 2000 := i1.1
  obtain ⟨z0', z1, z2, z3, z4, z5⟩ := hz
  by_cases c : n 12 = 0 ∧ n 28 = 0
  · have eN' : f_X7_yaws_a n = upd n 7 150 := by unfold f_X7_yaws_a; rw [if_pos c.1, if_pos c.2]
    have eZ : f_X1_limitYaw_h z w0 w1 = upd z 3 150 := by unfold f_X1_limitYaw_h; rw [hp0, hp1, if_pos c.1, if_pos c.2]
    have e0 : f_X1_limitYaw_a0 z w0 w1 = w0 := by unfold f_X1_limitYaw_a0; rw [hp0, hp1, if_pos c.1, if_pos c.2]
    have e1 : f_X1_limitYaw_a1 z w0 w1 = w1 := by unfold f_X1_limitYaw_a1; rw [hp0, hp1, if_pos c.1, if_pos c.2]
    rw [eN', eZ, e0, e1]
    exact ⟨⟨by rw [pk_un (by decide), pk_un (by decide)]; exact z0', by rw [pk_un (by decide), pk_un (by decide)]; exact z1, by rw [pk_un (by decide), pk_un (by decide)]; exact z2, by rw [pk_us, pk_us], by rw [pk_un (by decide), pk_un (by decide)]; exact z4, by rw [pk_un (by decide), pk_un (by decide)]; exact z5⟩, r0.ag (Ag.upd (by omega)) (kN_eq hM (by decide)).2, r1.ag (Ag.upd (by omega)) (kN_eq hM (by decide)).2, i0.ag (Ag.upd (by omega)) (kN_eq hM (by decide)).2, i1.ag (Ag.upd (by omega)) (kN_eq hM (by decide)).2, by rw [pk_us]; exact ⟨by decide, by decide⟩, fun _ _ => rfl, fun _ _ => rfl, MOK_i (by decide) hM, fun q h _ _ => pk_un h⟩
  · obtain ⟨bp01, bp02⟩ := bp0
    obtain ⟨bp11, bp12⟩ := bp1
    obtain ⟨b71, b72⟩ := b7
    have s1 : (n 27 + n 7).toInt = (n 27).toInt + (n 7).toInt := tA (by omega) (by omega)
    have s0 : (n 11 + n 7).toInt = (n 11).toInt + (n 7).toInt := tA (by omega) (by omega)
    have sm : (f_X7_lesser (n 11) (n 27) + n 7).toInt = (f_X7_lesser (n 11) (n 27)).toInt + (n 7).toInt := by
      have hl := leT (n 11) (n 27)
      exact tA (by rw [hl]; split <;> omega) (by rw [hl]; split <;> omega)
    have s4 : (n 7 + 4).toInt = (n 7).toInt + 4 := tA (by show _ ≤ _ + (4 : Int); omega) (by show _ + (4 : Int) < _; omega)
    have q0 : mn (w0 1) (mn (w0 1) (w1 1) + z 3) = f_X7_lesser (n 11) (n 27 + n 7) := by
      rw [hP0, hP1, z3, mnl, mnl]
      exact tEq (by rw [leT, leT, sm, s1, leT]; (repeat' split) <;> omega)
    have q1 : mn (w1 1) (mn (w0 1) (w1 1) + z 3) = f_X7_lesser (n 27) (n 11 + n 7) := by
      rw [hP0, hP1, z3, mnl, mnl]
      exact tEq (by rw [leT, leT, sm, s0, leT]; (repeat' split) <;> omega)
    have q7 : mn (z 3 + 4) 1000 = f_X7_lesser 1000 (n 7 + 4) := by
      rw [z3, mnl]
      exact tEq (by rw [leT, leT, s4]; show (if (1000 : Int) ≤ _ then (1000 : Int) else _) = (if _ ≤ (1000 : Int) then _ else (1000 : Int)); (repeat' split) <;> omega)
    have b0 : bd (f_X7_lesser (n 11) (n 27 + n 7)) 0 2000 := by unfold bd; rw [leT, s1]; split <;> omega
    have b1 : bd (f_X7_lesser (n 27) (n 11 + n 7)) 0 2000 := by unfold bd; rw [leT, s0]; split <;> omega
    have b7' : bd (f_X7_lesser 1000 (n 7 + 4)) 0 1000 := by unfold bd; rw [leT, s4]; show 0 ≤ (if _ ≤ (1000 : Int) then _ else (1000 : Int)) ∧ (if _ ≤ (1000 : Int) then _ else (1000 : Int)) ≤ 1000; split <;> omega
    have ev : v_X7_yaws_1 n = upd (upd n 11 (f_X7_lesser (n 11) (n 27 + n 7))) 27 (f_X7_lesser (n 27) (n 11 + n 7)) := by
      unfold v_X7_yaws_1 f_X7_sets_a
      rw [pk_un (j := 7) (by decide)]
    have ev7 : (v_X7_yaws_1 n) 7 = n 7 := by rw [ev, pk_un (by decide), pk_un (by decide)]
    have eN' : f_X7_yaws_a n = upd (v_X7_yaws_1 n) 7 (f_X7_lesser 1000 (n 7 + 4)) := by
      unfold f_X7_yaws_a
      have e31 : v_X7_yaws_3 n = v_X7_yaws_1 n := rfl
      rw [e31, ev7]
      by_cases d : n 12 = 0
      · rw [if_pos d, if_neg (fun x => c ⟨d, x⟩)]
      · rw [if_neg d]
    have eZ : f_X1_limitYaw_h z w0 w1 = upd z 3 (f_X7_lesser 1000 (n 7 + 4)) := by
      unfold f_X1_limitYaw_h
      rw [hp0, hp1, q7]
      by_cases d : n 12 = 0
      · rw [if_pos d, if_neg (fun x => c ⟨d, x⟩)]
      · rw [if_neg d]
    have e0 : f_X1_limitYaw_a0 z w0 w1 = upd w0 1 (f_X7_lesser (n 11) (n 27 + n 7)) := by
      unfold f_X1_limitYaw_a0
      rw [hp0, hp1, q0]
      by_cases d : n 12 = 0
      · rw [if_pos d, if_neg (fun x => c ⟨d, x⟩)]
      · rw [if_neg d]
    have e1 : f_X1_limitYaw_a1 z w0 w1 = upd w1 1 (f_X7_lesser (n 27) (n 11 + n 7)) := by
      unfold f_X1_limitYaw_a1
      rw [hp0, hp1, q1]
      by_cases d : n 12 = 0
      · rw [if_pos d, if_neg (fun x => c ⟨d, x⟩)]
      · rw [if_neg d]
    have A1 := st_p (j := 0) hM (by decide) r0 i0 b0
    have r1' : Rw 1 w1 f1 (upd n 11 (f_X7_lesser (n 11) (n 27 + n 7))) := r1.ag (Ag.upd (by omega)) (kN_eq hM (by decide)).2
    have i1' : Iw 1 tb (upd n 11 (f_X7_lesser (n 11) (n 27 + n 7))) := i1.ag (Ag.upd (by omega)) (kN_eq hM (by decide)).2
    have A2 := st_p (j := 1) A1.2.2 (by decide) r1' i1' b1
    have hMv : MOK (v_X7_yaws_1 n) := by rw [ev]; exact A2.2.2
    have hag : Ag 10 253 (v_X7_yaws_1 n) (f_X7_yaws_a n) := by rw [eN']; exact Ag.upd (by omega)
    have out : ∀ q, q ≠ 7 → q ≠ 11 → q ≠ 27 → f_X7_yaws_a n q = n q := fun q h7 h11 h27 => by rw [eN', pk_un h7, ev, pk_un h27, pk_un h11]
    have W0 : Rw 0 (f_X1_limitYaw_a0 z w0 w1) f0 (v_X7_yaws_1 n) := by rw [e0, ev]; exact A1.1.ag (Ag.upd (by omega)) (kN_eq A1.2.2 (by decide)).2
    have W1 : Rw 1 (f_X1_limitYaw_a1 z w0 w1) f1 (v_X7_yaws_1 n) := by rw [e1, ev]; exact A2.1
    have I0 : Iw 0 tb (v_X7_yaws_1 n) := by rw [ev]; exact A1.2.1.ag (Ag.upd (by omega)) (kN_eq A1.2.2 (by decide)).2
    have I1 : Iw 1 tb (v_X7_yaws_1 n) := by rw [ev]; exact A2.2.1
    refine ⟨⟨by rw [eZ, pk_un (by decide), out _ (by decide) (by decide) (by decide)]; exact z0', by rw [eZ, pk_un (by decide), out _ (by decide) (by decide) (by decide)]; exact z1, by rw [eZ, pk_un (by decide), out _ (by decide) (by decide) (by decide)]; exact z2, by rw [eZ, pk_us, eN', pk_us], by rw [eZ, pk_un (by decide), out _ (by decide) (by decide) (by decide)]; exact z4, by rw [eZ, pk_un (by decide), out _ (by decide) (by decide) (by decide)]; exact z5⟩, W0.ag (hag.sub (by omega) (by omega)) (kN_eq hMv (by decide)).2, W1.ag (hag.sub (by omega) (by omega)) (kN_eq hMv (by decide)).2, I0.ag (hag.sub (by omega) (by omega)) (kN_eq hMv (by decide)).2, I1.ag (hag.sub (by omega) (by omega)) (kN_eq hMv (by decide)).2, by rw [eN', pk_us]; exact b7', fun k hk => by rw [e0]; exact pk_un hk, fun k hk => by rw [e1]; exact pk_un hk, by rw [eN']; exact MOK_i (by decide) hMv, out⟩
/-- the reference's pump, as a step of its own -/
def pumps (n : F1) : F1 := if n 5 ≤ 0 then n else upd (upd n 6 (n 6 + 1)) 5 (f_X7_greater 0 (n 5 - 20))
theorem st_pump {z n : F1} (hM : MOK n) (hz : Rz z n) : Rz (f_X1_pump_h z) (pumps n) ∧ MOK (pumps n) ∧ (∀ q, q ≠ 5 → q ≠ 6 → pumps n q = n q) := by
  obtain ⟨z0', z1, z2, z3, z4, z5⟩ := hz
  unfold f_X1_pump_h pumps
  rw [z1]
  by_cases c : n 5 ≤ 0
  · rw [if_pos c, if_pos c]; exact ⟨⟨z0', z1, z2, z3, z4, z5⟩, hM, fun _ _ _ => rfl⟩
  · rw [if_neg c, if_neg c]
    have e : mx (n 5 - 20) 0 = f_X7_greater 0 (n 5 - 20) := by
      rw [mxg]
      exact tEq (by rw [grT, grT]; (repeat' split) <;> omega)
    refine ⟨⟨by rw [pk_un (by decide), pk_un (by decide), pk_un (by decide), pk_un (by decide)]; exact z0', by rw [pk_us, pk_us, e], by rw [pk_un (by decide), pk_us, pk_un (by decide), pk_us, z2], by rw [pk_un (by decide), pk_un (by decide), pk_un (by decide), pk_un (by decide)]; exact z3, by rw [pk_un (by decide), pk_un (by decide), pk_un (by decide), pk_un (by decide)]; exact z4, by rw [pk_un (by decide), pk_un (by decide), pk_un (by decide), pk_un (by decide)]; exact z5⟩, MOK_i (by decide) (MOK_i (by decide) hM), fun q h5 h6 => by rw [pk_un h5, pk_un h6]⟩
theorem ctrl_eq (n : F1) : f_X7_controls_a n = pumps (f_X7_yaws_a (f_X7_presses_a (f_X7_presses_a (f_X7_presses_a (f_X7_presses_a (f_X7_phases_a (f_X7_suspects_a (f_X7_suspects_a (f_X7_suspects_a (f_X7_suspects_a (f_X7_refers_a (f_X7_measures_a (f_X7_measures_a (f_X7_measures_a (f_X7_measures_a n 0) 1) 2) 3)) 0) 1) 2) 3)) 0) 1) 2) 3)) := by
  unfold f_X7_controls_a v_X7_controls_7 v_X7_controls_5 v_X7_controls_3 v_X7_controls_1 pumps
  split
  · rfl
  · rw [pk_un (j := 5) (by decide)]
