theorem st_trial {ut : CarS} {n : F1} {V sf dm on : Int32} (bV : bd V 0 60000) (bD : bd dm 0 2000) (bO : isB on) : RC 0 (b_X6_stopDistance_3 ut V sf dm on) (upd (v_X7_stopDistance_ok_4 n V sf dm) 8 (v_X7_stopDistance_ok_6 on)) := by
  have h := st_setOn (st_setDemand (st_speeds (st_begins ut n) (Int.le_refl _) bV) bD) bO
  obtain ⟨uA, eA⟩ : ∃ x, x = b_X0_startAt_u (b_X0_clear_u ut) V := ⟨_, rfl⟩
  rw [← eA] at h
  obtain ⟨m0, e0⟩ : ∃ x, x = f_X7_speeds_a (f_X7_begins_a n) V := ⟨_, rfl⟩
  rw [← e0] at h
  have eo : v_X7_setOn_3 on = v_X7_stopDistance_ok_6 on := rfl
  unfold v_X7_stopDistance_ok_4
  rw [← e0]
  obtain ⟨on', eon⟩ : ∃ x, x = v_X7_stopDistance_ok_6 on := ⟨_, rfl⟩
  rw [← eon]
  have hm : f_X7_setOn_a (f_X7_setDemand_ok_a m0 dm) on = upd (upd m0 3 dm) 8 on' := by unfold f_X7_setOn_a f_X7_setDemand_ok_a; rw [eo, eon]
  rw [hm] at h
  have b0 : ∀ q, 74 ≤ q → q < 253 → m0 q = f_X7_begins_a n q := fun q x y => by rw [e0]; exact spA_o (by omega)
  have b74 : m0 74 = 1 := by rw [b0 74 (by decide) (by decide)]; exact (bgA_7 n).2.2
  have b75 : m0 75 = 0 := by rw [b0 75 (by decide) (by decide)]; exact bgA_o (by decide) (by decide)
  have c2 : (b_X0_clear_u ut).2 2 = 1 := b_X0_clear_u_n2 ut
  have s13 : (b_X0_clear_u ut).1 13 0 = 0 := by rw [b_X0_clear_u_r13]; unfold f_X0_clear_ad16 f_X3_clear_s0 f_X3_setRow_s0; exact pk_us
  have pl : plc 1 ((b_X0_clear_u ut).1 13) 0 = 0 := by
    show (if plcP 1 ((b_X0_clear_u ut).1 13) 0 0 = true then scanB (plcP 1 ((b_X0_clear_u ut).1 13) 0) 11 1 else 0) = 0
    rw [if_neg]; simp only [plcP, Bool.and_eq_true, decide_eq_true_eq, s13]; exact fun q => absurd q.2 (by decide)
  have is1 : f_X3_isStart 1 ((b_X0_clear_u ut).1 13) 0 0 = 1 := by
    unfold f_X3_isStart; rw [s13, if_neg (by decide), if_pos rfl]
  have mq : ∀ q, q ≠ 76 → q ≠ 77 → upd (upd (upd (upd m0 76 (sf / 10)) 77 (sf - sf / 10 * 10)) 3 dm) 8 on' q = upd (upd m0 3 dm) 8 on' q := fun q x y => by
    by_cases c : q = 8
    · rw [c, pk_us, pk_us]
    · rw [pk_un c, pk_un c]
      by_cases d : q = 3
      · rw [d, pk_us, pk_us]
      · rw [pk_un d, pk_un d, pk_un y, pk_un x]
  have m74 : upd (upd (upd (upd m0 76 (sf / 10)) 77 (sf - sf / 10 * 10)) 3 dm) 8 on' 74 = 1 := by rw [mq 74 (by decide) (by decide), pk_un (by decide), pk_un (by decide), b74]
  have eN : sN (upd (upd (upd (upd m0 76 (sf / 10)) 77 (sf - sf / 10 * 10)) 3 dm) 8 on') = 1 := by unfold sN; rw [m74]; rfl
  have ecn : (b_X6_stopDistance_3 ut V sf dm on).2 2 = 1 := by
    rw [b_X6_stopDistance_3_n2, c2]; unfold f_X3_put_h_cn; rw [pl, is1, if_neg (by decide)]
  refine h.road (fun q x y => mq q (by omega) (by omega)) (fun i h1 h2 h3 h4 => ?_) (fun i h1 h2 => ?_) (by rw [m74]; exact ⟨by decide, by decide⟩) ⟨by rw [ecn, eN], fun i hi => ?_⟩ (fun i j hij hj => by rw [eN] at hj; omega)
  · rcases (show i = 0 ∨ i = 1 ∨ i = 2 ∨ i = 3 ∨ i = 4 ∨ i = 5 ∨ i = 6 ∨ i = 7 ∨ i = 8 ∨ i = 9 ∨ i = 10 ∨ i = 11 ∨ i = 12 ∨ i = 16 ∨ i = 17 by omega) with e | e | e | e | e | e | e | e | e | e | e | e | e | e | e <;> subst e
    · rw [b_X6_stopDistance_3_r0, b_X6_setOn_u_r0, b_X6_setDemand_u_r0, ← eA]; rfl
    · rw [b_X6_stopDistance_3_r1, b_X6_setOn_u_r1, ← eA]; unfold f_X6_setOn_ad1; rw [b_X6_setDemand_u_r1]
    · rw [b_X6_stopDistance_3_r2, b_X6_setOn_u_r2, b_X6_setDemand_u_r2, ← eA]
    · rw [b_X6_stopDistance_3_r3, b_X6_setOn_u_r3, b_X6_setDemand_u_r3, ← eA]
    · rw [b_X6_stopDistance_3_r4, b_X6_setOn_u_r4, b_X6_setDemand_u_r4, ← eA]
    · rw [b_X6_stopDistance_3_r5, b_X6_setOn_u_r5, b_X6_setDemand_u_r5, ← eA]
    · rw [b_X6_stopDistance_3_r6, b_X6_setOn_u_r6, b_X6_setDemand_u_r6, eA, b_X0_startAt_u_r6, b_X0_clear_u_r6]
    · rw [b_X6_stopDistance_3_r7, b_X6_setOn_u_r7, b_X6_setDemand_u_r7, eA, b_X0_startAt_u_r7, b_X0_clear_u_r7]
    · rw [b_X6_stopDistance_3_r8, b_X6_setOn_u_r8, b_X6_setDemand_u_r8, eA, b_X0_startAt_u_r8, b_X0_clear_u_r8]
    · rw [b_X6_stopDistance_3_r9, b_X6_setOn_u_r9, b_X6_setDemand_u_r9, eA, b_X0_startAt_u_r9, b_X0_clear_u_r9]
    · rw [b_X6_stopDistance_3_r10, b_X6_setOn_u_r10, b_X6_setDemand_u_r10, eA, b_X0_startAt_u_r10, b_X0_clear_u_r10]
    · rw [b_X6_stopDistance_3_r11, b_X6_setOn_u_r11, b_X6_setDemand_u_r11, eA, b_X0_startAt_u_r11, b_X0_clear_u_r11]
    · rw [b_X6_stopDistance_3_r12, b_X6_setOn_u_r12, b_X6_setDemand_u_r12, eA, b_X0_startAt_u_r12, b_X0_clear_u_r12]
    · rw [b_X6_stopDistance_3_r16, b_X6_setOn_u_r16, b_X6_setDemand_u_r16, eA, b_X0_startAt_u_r16, b_X0_clear_u_r16]
    · rw [b_X6_stopDistance_3_r17, b_X6_setOn_u_r17, b_X6_setDemand_u_r17, eA, b_X0_startAt_u_r17, b_X0_clear_u_r17]
  · rcases (show i = 0 ∨ i = 1 ∨ i = 3 by omega) with e | e | e <;> subst e
    · rw [b_X6_stopDistance_3_n0, b_X6_setOn_u_n0, b_X6_setDemand_u_n0, eA, b_X0_startAt_u_n0]
    · rw [b_X6_stopDistance_3_n1, b_X6_setOn_u_n1, b_X6_setDemand_u_n1, eA, b_X0_startAt_u_n1]
    · rw [b_X6_stopDistance_3_n3, b_X6_setOn_u_n3, b_X6_setDemand_u_n3, eA, b_X0_startAt_u_n3]
  · rw [ecn] at hi
    have e : i = 0 := by omega
    subst e
    rw [b_X6_stopDistance_3_r13, b_X6_stopDistance_3_r14, b_X6_stopDistance_3_r15]
    unfold v_X6_stopDistance_1 v_X6_stopDistance_2
    rw [c2]
    unfold f_X3_put_s0 f_X3_put_l0 f_X3_put_r0 f_X3_setRow_s0 f_X3_setRow_l0 f_X3_setRow_r0
    rw [pl, is1, if_neg (by decide), if_neg (by decide), if_neg (by decide), pk_us, pk_us, pk_us]
    refine ⟨?_, ?_, ?_⟩
    · rw [mq _ (by decide) (by decide), pk_un (by decide), pk_un (by decide)]; exact b75.symm
    · rw [pk_un (by decide), pk_un (by decide), pk_un (by decide)]; exact pk_us.symm
    · rw [pk_un (by decide), pk_un (by decide)]; exact pk_us.symm
