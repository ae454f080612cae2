theorem st_setFault_0 {tb : Int} {u : CarS} {n : F1} {on : Int32} (h : RC tb u n) (bO : isB on) : RC tb (b_X6_setFault_0_u u on) (f_X7_setFault_ok_a n 0 on) := by
  have hM := h.M
  have eo : v_X7_setFault_ok_3 on = on := by
    unfold v_X7_setFault_ok_3
    rcases bO with e | e <;> rw [e]
    · rw [if_pos rfl]
    · rw [if_neg (by decide)]
  have k : ∀ j, j < 4 → kN j n ≤ 5 := fun j hj => (kN_eq hM hj).2
  have o : ∀ q, q ≠ 19 → upd n 19 on q = n q := fun q hq => pk_un hq
  have aU : Ag 74 253 n (upd n 19 on) := fun q x y => o q (by omega)
  have aW : ∀ i, i < 4 → i ≠ 0 → Ag (10 + 16 * i) (26 + 16 * i) n (upd n 19 on) := fun i h1 h2 q x y => o q (by omega)
  obtain ⟨p1, p2, p3, p4, p5⟩ := h.up (v := b_X6_setFault_0_u u on) aU (hi18 (b_X6_setFault_0_u_r10 ..) (b_X6_setFault_0_u_r11 ..) (b_X6_setFault_0_u_r12 ..) (b_X6_setFault_0_u_r13 ..) (b_X6_setFault_0_u_r14 ..) (b_X6_setFault_0_u_r15 ..) (b_X6_setFault_0_u_r16 ..) (b_X6_setFault_0_u_r17 ..)) (hi4 (b_X6_setFault_0_u_n0 ..) (b_X6_setFault_0_u_n1 ..) (b_X6_setFault_0_u_n2 ..) (b_X6_setFault_0_u_n3 ..))
  obtain ⟨q3, q4, q7, q8, q9⟩ := h.i9
  have e : f_X7_setFault_ok_a n 0 on = upd n 19 on := by unfold f_X7_setFault_ok_a f_X7_sets_a; rw [eo]
  rw [e]
  refine ⟨MOK_w (j := 0) (k := 9) (by decide) (by decide) hM, ?_, ?_, ?_, ?_, ?_, ?_, ?_, ?_, ?_, p1, p2, p3, ⟨?_, ?_, ?_, ?_, ?_⟩, ?_, fun j hj => ?_, p4, p5⟩
  · rw [b_X6_setFault_0_u_r0, o 0 (by decide)]; exact h.c0
  · rw [b_X6_setFault_0_u_r0, o 1 (by decide)]; exact h.c1
  · rw [b_X6_setFault_0_u_r0, o 2 (by decide)]; exact h.c2
  · rw [b_X6_setFault_0_u_r0, o 3 (by decide)]; exact h.c3
  · rw [b_X6_setFault_0_u_r1]; exact h.z.ag (fun q x y => o q (by omega))
  · rw [b_X6_setFault_0_u_r2, b_X6_setFault_0_u_r6]
    refine RW_set (k 0 (by decide)) h.w0 (fun q hq => ?_) (fun q x y => o q (by omega)) (o 4 (by decide)) (fun q x y => o q (by omega)) (by rw [o _ (by decide)]; exact h.w0.2.1.2.2.2.1) (by rw [pk_us]; exact bO) (pk_un (by decide)) (pk_un (by decide))
    by_cases c : q = 9
    · subst c; rw [pk_us]; exact pk_us
    · rw [o _ (by omega)]; exact (pk_un c).trans (h.w0.1.1 q hq)
  · rw [b_X6_setFault_0_u_r3, b_X6_setFault_0_u_r7]; exact h.w1.ag (aW 1 (by decide) (by decide)) (o 4 (by decide)) (k 1 (by decide))
  · rw [b_X6_setFault_0_u_r4, b_X6_setFault_0_u_r8]; exact h.w2.ag (aW 2 (by decide) (by decide)) (o 4 (by decide)) (k 2 (by decide))
  · rw [b_X6_setFault_0_u_r5, b_X6_setFault_0_u_r9]; exact h.w3.ag (aW 3 (by decide) (by decide)) (o 4 (by decide)) (k 3 (by decide))
  · rw [o 3 (by decide)]; exact q3
  · rw [o 4 (by decide)]; exact q4
  · rw [o 7 (by decide)]; exact q7
  · rw [o 8 (by decide)]; exact q8
  · rw [o 9 (by decide)]; exact q9
  · rw [o 0 (by decide)]; exact h.bV
  · rw [o 0 (by decide), o _ (by omega)]; exact h.bW j hj
theorem st_setFault_1 {tb : Int} {u : CarS} {n : F1} {on : Int32} (h : RC tb u n) (bO : isB on) : RC tb (b_X6_setFault_1_u u on) (f_X7_setFault_ok_a n 1 on) := by
  have hM := h.M
  have eo : v_X7_setFault_ok_3 on = on := by
    unfold v_X7_setFault_ok_3
    rcases bO with e | e <;> rw [e]
    · rw [if_pos rfl]
    · rw [if_neg (by decide)]
  have k : ∀ j, j < 4 → kN j n ≤ 5 := fun j hj => (kN_eq hM hj).2
  have o : ∀ q, q ≠ 35 → upd n 35 on q = n q := fun q hq => pk_un hq
  have aU : Ag 74 253 n (upd n 35 on) := fun q x y => o q (by omega)
  have aW : ∀ i, i < 4 → i ≠ 1 → Ag (10 + 16 * i) (26 + 16 * i) n (upd n 35 on) := fun i h1 h2 q x y => o q (by omega)
  obtain ⟨p1, p2, p3, p4, p5⟩ := h.up (v := b_X6_setFault_1_u u on) aU (hi18 (b_X6_setFault_1_u_r10 ..) (b_X6_setFault_1_u_r11 ..) (b_X6_setFault_1_u_r12 ..) (b_X6_setFault_1_u_r13 ..) (b_X6_setFault_1_u_r14 ..) (b_X6_setFault_1_u_r15 ..) (b_X6_setFault_1_u_r16 ..) (b_X6_setFault_1_u_r17 ..)) (hi4 (b_X6_setFault_1_u_n0 ..) (b_X6_setFault_1_u_n1 ..) (b_X6_setFault_1_u_n2 ..) (b_X6_setFault_1_u_n3 ..))
  obtain ⟨q3, q4, q7, q8, q9⟩ := h.i9
  have e : f_X7_setFault_ok_a n 1 on = upd n 35 on := by unfold f_X7_setFault_ok_a f_X7_sets_a; rw [eo]
  rw [e]
  refine ⟨MOK_w (j := 1) (k := 9) (by decide) (by decide) hM, ?_, ?_, ?_, ?_, ?_, ?_, ?_, ?_, ?_, p1, p2, p3, ⟨?_, ?_, ?_, ?_, ?_⟩, ?_, fun j hj => ?_, p4, p5⟩
  · rw [b_X6_setFault_1_u_r0, o 0 (by decide)]; exact h.c0
  · rw [b_X6_setFault_1_u_r0, o 1 (by decide)]; exact h.c1
  · rw [b_X6_setFault_1_u_r0, o 2 (by decide)]; exact h.c2
  · rw [b_X6_setFault_1_u_r0, o 3 (by decide)]; exact h.c3
  · rw [b_X6_setFault_1_u_r1]; exact h.z.ag (fun q x y => o q (by omega))
  · rw [b_X6_setFault_1_u_r2, b_X6_setFault_1_u_r6]; exact h.w0.ag (aW 0 (by decide) (by decide)) (o 4 (by decide)) (k 0 (by decide))
  · rw [b_X6_setFault_1_u_r3, b_X6_setFault_1_u_r7]
    refine RW_set (k 1 (by decide)) h.w1 (fun q hq => ?_) (fun q x y => o q (by omega)) (o 4 (by decide)) (fun q x y => o q (by omega)) (by rw [o _ (by decide)]; exact h.w1.2.1.2.2.2.1) (by rw [pk_us]; exact bO) (pk_un (by decide)) (pk_un (by decide))
    by_cases c : q = 9
    · subst c; rw [pk_us]; exact pk_us
    · rw [o _ (by omega)]; exact (pk_un c).trans (h.w1.1.1 q hq)
  · rw [b_X6_setFault_1_u_r4, b_X6_setFault_1_u_r8]; exact h.w2.ag (aW 2 (by decide) (by decide)) (o 4 (by decide)) (k 2 (by decide))
  · rw [b_X6_setFault_1_u_r5, b_X6_setFault_1_u_r9]; exact h.w3.ag (aW 3 (by decide) (by decide)) (o 4 (by decide)) (k 3 (by decide))
  · rw [o 3 (by decide)]; exact q3
  · rw [o 4 (by decide)]; exact q4
  · rw [o 7 (by decide)]; exact q7
  · rw [o 8 (by decide)]; exact q8
  · rw [o 9 (by decide)]; exact q9
  · rw [o 0 (by decide)]; exact h.bV
  · rw [o 0 (by decide), o _ (by omega)]; exact h.bW j hj
theorem st_setFault_2 {tb : Int} {u : CarS} {n : F1} {on : Int32} (h : RC tb u n) (bO : isB on) : RC tb (b_X6_setFault_2_u u on) (f_X7_setFault_ok_a n 2 on) := by
  have hM := h.M
  have eo : v_X7_setFault_ok_3 on = on := by
    unfold v_X7_setFault_ok_3
    rcases bO with e | e <;> rw [e]
    · rw [if_pos rfl]
    · rw [if_neg (by decide)]
  have k : ∀ j, j < 4 → kN j n ≤ 5 := fun j hj => (kN_eq hM hj).2
  have o : ∀ q, q ≠ 51 → upd n 51 on q = n q := fun q hq => pk_un hq
  have aU : Ag 74 253 n (upd n 51 on) := fun q x y => o q (by omega)
  have aW : ∀ i, i < 4 → i ≠ 2 → Ag (10 + 16 * i) (26 + 16 * i) n (upd n 51 on) := fun i h1 h2 q x y => o q (by omega)
  obtain ⟨p1, p2, p3, p4, p5⟩ := h.up (v := b_X6_setFault_2_u u on) aU (hi18 (b_X6_setFault_2_u_r10 ..) (b_X6_setFault_2_u_r11 ..) (b_X6_setFault_2_u_r12 ..) (b_X6_setFault_2_u_r13 ..) (b_X6_setFault_2_u_r14 ..) (b_X6_setFault_2_u_r15 ..) (b_X6_setFault_2_u_r16 ..) (b_X6_setFault_2_u_r17 ..)) (hi4 (b_X6_setFault_2_u_n0 ..) (b_X6_setFault_2_u_n1 ..) (b_X6_setFault_2_u_n2 ..) (b_X6_setFault_2_u_n3 ..))
  obtain ⟨q3, q4, q7, q8, q9⟩ := h.i9
  have e : f_X7_setFault_ok_a n 2 on = upd n 51 on := by unfold f_X7_setFault_ok_a f_X7_sets_a; rw [eo]
  rw [e]
  refine ⟨MOK_w (j := 2) (k := 9) (by decide) (by decide) hM, ?_, ?_, ?_, ?_, ?_, ?_, ?_, ?_, ?_, p1, p2, p3, ⟨?_, ?_, ?_, ?_, ?_⟩, ?_, fun j hj => ?_, p4, p5⟩
  · rw [b_X6_setFault_2_u_r0, o 0 (by decide)]; exact h.c0
  · rw [b_X6_setFault_2_u_r0, o 1 (by decide)]; exact h.c1
  · rw [b_X6_setFault_2_u_r0, o 2 (by decide)]; exact h.c2
  · rw [b_X6_setFault_2_u_r0, o 3 (by decide)]; exact h.c3
  · rw [b_X6_setFault_2_u_r1]; exact h.z.ag (fun q x y => o q (by omega))
  · rw [b_X6_setFault_2_u_r2, b_X6_setFault_2_u_r6]; exact h.w0.ag (aW 0 (by decide) (by decide)) (o 4 (by decide)) (k 0 (by decide))
  · rw [b_X6_setFault_2_u_r3, b_X6_setFault_2_u_r7]; exact h.w1.ag (aW 1 (by decide) (by decide)) (o 4 (by decide)) (k 1 (by decide))
  · rw [b_X6_setFault_2_u_r4, b_X6_setFault_2_u_r8]
    refine RW_set (k 2 (by decide)) h.w2 (fun q hq => ?_) (fun q x y => o q (by omega)) (o 4 (by decide)) (fun q x y => o q (by omega)) (by rw [o _ (by decide)]; exact h.w2.2.1.2.2.2.1) (by rw [pk_us]; exact bO) (pk_un (by decide)) (pk_un (by decide))
    by_cases c : q = 9
    · subst c; rw [pk_us]; exact pk_us
    · rw [o _ (by omega)]; exact (pk_un c).trans (h.w2.1.1 q hq)
  · rw [b_X6_setFault_2_u_r5, b_X6_setFault_2_u_r9]; exact h.w3.ag (aW 3 (by decide) (by decide)) (o 4 (by decide)) (k 3 (by decide))
  · rw [o 3 (by decide)]; exact q3
  · rw [o 4 (by decide)]; exact q4
  · rw [o 7 (by decide)]; exact q7
  · rw [o 8 (by decide)]; exact q8
  · rw [o 9 (by decide)]; exact q9
  · rw [o 0 (by decide)]; exact h.bV
  · rw [o 0 (by decide), o _ (by omega)]; exact h.bW j hj
theorem st_setFault_3 {tb : Int} {u : CarS} {n : F1} {on : Int32} (h : RC tb u n) (bO : isB on) : RC tb (b_X6_setFault_3_u u on) (f_X7_setFault_ok_a n 3 on) := by
  have hM := h.M
  have eo : v_X7_setFault_ok_3 on = on := by
    unfold v_X7_setFault_ok_3
    rcases bO with e | e <;> rw [e]
    · rw [if_pos rfl]
    · rw [if_neg (by decide)]
  have k : ∀ j, j < 4 → kN j n ≤ 5 := fun j hj => (kN_eq hM hj).2
  have o : ∀ q, q ≠ 67 → upd n 67 on q = n q := fun q hq => pk_un hq
  have aU : Ag 74 253 n (upd n 67 on) := fun q x y => o q (by omega)
  have aW : ∀ i, i < 4 → i ≠ 3 → Ag (10 + 16 * i) (26 + 16 * i) n (upd n 67 on) := fun i h1 h2 q x y => o q (by omega)
  obtain ⟨p1, p2, p3, p4, p5⟩ := h.up (v := b_X6_setFault_3_u u on) aU (hi18 (b_X6_setFault_3_u_r10 ..) (b_X6_setFault_3_u_r11 ..) (b_X6_setFault_3_u_r12 ..) (b_X6_setFault_3_u_r13 ..) (b_X6_setFault_3_u_r14 ..) (b_X6_setFault_3_u_r15 ..) (b_X6_setFault_3_u_r16 ..) (b_X6_setFault_3_u_r17 ..)) (hi4 (b_X6_setFault_3_u_n0 ..) (b_X6_setFault_3_u_n1 ..) (b_X6_setFault_3_u_n2 ..) (b_X6_setFault_3_u_n3 ..))
  obtain ⟨q3, q4, q7, q8, q9⟩ := h.i9
  have e : f_X7_setFault_ok_a n 3 on = upd n 67 on := by unfold f_X7_setFault_ok_a f_X7_sets_a; rw [eo]
  rw [e]
  refine ⟨MOK_w (j := 3) (k := 9) (by decide) (by decide) hM, ?_, ?_, ?_, ?_, ?_, ?_, ?_, ?_, ?_, p1, p2, p3, ⟨?_, ?_, ?_, ?_, ?_⟩, ?_, fun j hj => ?_, p4, p5⟩
  · rw [b_X6_setFault_3_u_r0, o 0 (by decide)]; exact h.c0
  · rw [b_X6_setFault_3_u_r0, o 1 (by decide)]; exact h.c1
  · rw [b_X6_setFault_3_u_r0, o 2 (by decide)]; exact h.c2
  · rw [b_X6_setFault_3_u_r0, o 3 (by decide)]; exact h.c3
  · rw [b_X6_setFault_3_u_r1]; exact h.z.ag (fun q x y => o q (by omega))
  · rw [b_X6_setFault_3_u_r2, b_X6_setFault_3_u_r6]; exact h.w0.ag (aW 0 (by decide) (by decide)) (o 4 (by decide)) (k 0 (by decide))
  · rw [b_X6_setFault_3_u_r3, b_X6_setFault_3_u_r7]; exact h.w1.ag (aW 1 (by decide) (by decide)) (o 4 (by decide)) (k 1 (by decide))
  · rw [b_X6_setFault_3_u_r4, b_X6_setFault_3_u_r8]; exact h.w2.ag (aW 2 (by decide) (by decide)) (o 4 (by decide)) (k 2 (by decide))
  · rw [b_X6_setFault_3_u_r5, b_X6_setFault_3_u_r9]
    refine RW_set (k 3 (by decide)) h.w3 (fun q hq => ?_) (fun q x y => o q (by omega)) (o 4 (by decide)) (fun q x y => o q (by omega)) (by rw [o _ (by decide)]; exact h.w3.2.1.2.2.2.1) (by rw [pk_us]; exact bO) (pk_un (by decide)) (pk_un (by decide))
    by_cases c : q = 9
    · subst c; rw [pk_us]; exact pk_us
    · rw [o _ (by omega)]; exact (pk_un c).trans (h.w3.1.1 q hq)
  · rw [o 3 (by decide)]; exact q3
  · rw [o 4 (by decide)]; exact q4
  · rw [o 7 (by decide)]; exact q7
  · rw [o 8 (by decide)]; exact q8
  · rw [o 9 (by decide)]; exact q9
  · rw [o 0 (by decide)]; exact h.bV
  · rw [o 0 (by decide), o _ (by omega)]; exact h.bW j hj
theorem repA_o {n : F1} {q : Nat} (hq : q ≠ 17 ∧ q ≠ 18 ∧ q ≠ 33 ∧ q ≠ 34 ∧ q ≠ 49 ∧ q ≠ 50 ∧ q ≠ 65 ∧ q ≠ 66) : f_X7_repair_a n q = n q := by
  unfold f_X7_repair_a v_X7_repair_1 f_X7_sets_a
  rw [pk_un (by omega), pk_un (by omega), pk_un (by omega), pk_un (by omega), pk_un (by omega), pk_un (by omega), pk_un (by omega), pk_un (by omega)]
theorem repA_7 {n : F1} {j : Nat} (hj : j < 4) : f_X7_repair_a n (10 + 16 * j + 7) = 0 ∧ f_X7_repair_a n (10 + 16 * j + 8) = 0 := by
  unfold f_X7_repair_a v_X7_repair_1 f_X7_sets_a
  rcases (show j = 0 ∨ j = 1 ∨ j = 2 ∨ j = 3 by omega) with e | e | e | e <;> subst e <;> exact ⟨by simp only [upd]; rfl, by simp only [upd]; rfl⟩
theorem st_repair {tb : Int} {u : CarS} {n : F1} (h : RC tb u n) : RC tb (b_X6_repair_u u) (f_X7_repair_a n) := by
  have hM := h.M
  have k : ∀ j, j < 4 → kN j n ≤ 5 := fun j hj => (kN_eq hM hj).2
  have aU : Ag 74 253 n (f_X7_repair_a n) := fun q x y => repA_o (by omega)
  obtain ⟨p1, p2, p3, p4, p5⟩ := h.up (v := b_X6_repair_u u) aU (hi18 (b_X6_repair_u_r10 ..) (b_X6_repair_u_r11 ..) (b_X6_repair_u_r12 ..) (b_X6_repair_u_r13 ..) (b_X6_repair_u_r14 ..) (b_X6_repair_u_r15 ..) (b_X6_repair_u_r16 ..) (b_X6_repair_u_r17 ..)) (hi4 (b_X6_repair_u_n0 ..) (b_X6_repair_u_n1 ..) (b_X6_repair_u_n2 ..) (b_X6_repair_u_n3 ..))
  obtain ⟨q3, q4, q7, q8, q9⟩ := h.i9
  have W : ∀ (j : Nat) (w f : F1), j < 4 → RW j tb w f n → RW j tb (upd (upd w 7 0) 8 0) f (f_X7_repair_a n) := by
    intro j w f hj hw
    refine RW_set (k j hj) hw (fun q hq => ?_) (fun q x y => repA_o (by omega)) (repA_o (by decide)) (fun q x y => repA_o (by omega)) (Or.inl (repA_7 hj).1) (by rw [repA_o (by omega)]; exact hw.2.1.2.2.2.2.1) ((pk_un (by decide)).trans (pk_un (by decide))) ((pk_un (by decide)).trans (pk_un (by decide)))
    by_cases c : q = 8
    · subst c; rw [pk_us, (repA_7 hj).2]
    · rw [pk_un c]
      by_cases d : q = 7
      · subst d; rw [pk_us, (repA_7 hj).1]
      · rw [pk_un d, repA_o (by omega)]; exact hw.1.1 q hq
  refine ⟨?_, ?_, ?_, ?_, ?_, ?_, ?_, ?_, ?_, ?_, p1, p2, p3, ⟨?_, ?_, ?_, ?_, ?_⟩, ?_, fun j hj => ?_, p4, p5⟩
  · refine ⟨?_, ?_, ?_, fun j hj => ?_⟩
    · rw [repA_o (by decide)]; exact hM.1
    · rw [repA_o (by decide)]; exact hM.2.1
    · rw [repA_o (by decide)]; exact hM.2.2.1
    · rw [repA_o (by omega)]; exact hM.2.2.2 j hj
  · rw [b_X6_repair_u_r0, repA_o (by decide)]; exact h.c0
  · rw [b_X6_repair_u_r0, repA_o (by decide)]; exact h.c1
  · rw [b_X6_repair_u_r0, repA_o (by decide)]; exact h.c2
  · rw [b_X6_repair_u_r0, repA_o (by decide)]; exact h.c3
  · rw [b_X6_repair_u_r1]; exact h.z.ag (fun q x y => repA_o (by omega))
  · rw [b_X6_repair_u_r2, b_X6_repair_u_r6]; exact W 0 _ _ (by decide) h.w0
  · rw [b_X6_repair_u_r3, b_X6_repair_u_r7]; exact W 1 _ _ (by decide) h.w1
  · rw [b_X6_repair_u_r4, b_X6_repair_u_r8]; exact W 2 _ _ (by decide) h.w2
  · rw [b_X6_repair_u_r5, b_X6_repair_u_r9]; exact W 3 _ _ (by decide) h.w3
  · rw [repA_o (by decide)]; exact q3
  · rw [repA_o (by decide)]; exact q4
  · rw [repA_o (by decide)]; exact q7
  · rw [repA_o (by decide)]; exact q8
  · rw [repA_o (by decide)]; exact q9
  · rw [repA_o (by decide)]; exact h.bV
  · rw [repA_o (q := 0) (by decide), repA_o (by omega)]; exact h.bW j hj
theorem spA_o {n : F1} {V : Int32} {q : Nat} (hq : q ≠ 0 ∧ q ≠ 4 ∧ q ≠ 5 ∧ q ≠ 7 ∧ q ≠ 9 ∧ q ≠ 10 ∧ q ≠ 11 ∧ q ≠ 12 ∧ q ≠ 13 ∧ q ≠ 18 ∧ q ≠ 20 ∧ q ≠ 26 ∧ q ≠ 27 ∧ q ≠ 28 ∧ q ≠ 29 ∧ q ≠ 34 ∧ q ≠ 36 ∧ q ≠ 42 ∧ q ≠ 43 ∧ q ≠ 44 ∧ q ≠ 45 ∧ q ≠ 50 ∧ q ≠ 52 ∧ q ≠ 58 ∧ q ≠ 59 ∧ q ≠ 60 ∧ q ≠ 61 ∧ q ≠ 66 ∧ q ≠ 68) : f_X7_speeds_a n V q = n q := by
  unfold f_X7_speeds_a v_X7_speeds_11 v_X7_speeds_9 v_X7_speeds_7 v_X7_speeds_5 v_X7_speeds_3 v_X7_speeds_1 f_X7_sets_a
  rw [pk_un (by omega), pk_un (by omega), pk_un (by omega), pk_un (by omega), pk_un (by omega), pk_un (by omega), pk_un (by omega), pk_un (by omega), pk_un (by omega), pk_un (by omega), pk_un (by omega), pk_un (by omega), pk_un (by omega), pk_un (by omega), pk_un (by omega), pk_un (by omega), pk_un (by omega), pk_un (by omega), pk_un (by omega), pk_un (by omega), pk_un (by omega), pk_un (by omega), pk_un (by omega), pk_un (by omega), pk_un (by omega), pk_un (by omega), pk_un (by omega), pk_un (by omega), pk_un (by omega)]
theorem spA_w {n : F1} {V : Int32} {j : Nat} (hj : j < 4) : f_X7_speeds_a n V (10 + 16 * j + 0) = V ∧ f_X7_speeds_a n V (10 + 16 * j + 1) = 0 ∧ f_X7_speeds_a n V (10 + 16 * j + 2) = 0 ∧ f_X7_speeds_a n V (10 + 16 * j + 3) = 0 ∧ f_X7_speeds_a n V (10 + 16 * j + 8) = 0 ∧ f_X7_speeds_a n V (10 + 16 * j + 10) = 0 := by
  unfold f_X7_speeds_a v_X7_speeds_11 v_X7_speeds_9 v_X7_speeds_7 v_X7_speeds_5 v_X7_speeds_3 v_X7_speeds_1 f_X7_sets_a
  rcases (show j = 0 ∨ j = 1 ∨ j = 2 ∨ j = 3 by omega) with e | e | e | e <;> subst e <;> exact ⟨by simp only [upd]; rfl, by simp only [upd]; rfl, by simp only [upd]; rfl, by simp only [upd]; rfl, by simp only [upd]; rfl, by simp only [upd]; rfl⟩
theorem spA_c (n : F1) (V : Int32) : f_X7_speeds_a n V 0 = V ∧ f_X7_speeds_a n V 4 = V ∧ f_X7_speeds_a n V 5 = 0 ∧ f_X7_speeds_a n V 7 = 150 ∧ f_X7_speeds_a n V 9 = 0 := by
  unfold f_X7_speeds_a v_X7_speeds_11 v_X7_speeds_9 v_X7_speeds_7 v_X7_speeds_5 v_X7_speeds_3 v_X7_speeds_1 f_X7_sets_a
  exact ⟨by simp only [upd]; rfl, by simp only [upd]; rfl, by simp only [upd]; rfl, by simp only [upd]; rfl, by simp only [upd]; rfl⟩
theorem st_speeds {tb : Int} {u : CarS} {n : F1} {V : Int32} (h : RC tb u n) (ht : 0 ≤ tb) (bV : bd V 0 60000) : RC tb (b_X0_startAt_u u V) (f_X7_speeds_a n V) := by
  have hM := h.M
  have aU : Ag 74 253 n (f_X7_speeds_a n V) := fun q x y => spA_o (by omega)
  obtain ⟨p1, p2, p3, p4, p5⟩ := h.up (v := b_X0_startAt_u u V) aU (hi18 (b_X0_startAt_u_r10 ..) (b_X0_startAt_u_r11 ..) (b_X0_startAt_u_r12 ..) (b_X0_startAt_u_r13 ..) (b_X0_startAt_u_r14 ..) (b_X0_startAt_u_r15 ..) (b_X0_startAt_u_r16 ..) (b_X0_startAt_u_r17 ..)) (hi4 (b_X0_startAt_u_n0 ..) (b_X0_startAt_u_n1 ..) (b_X0_startAt_u_n2 ..) (b_X0_startAt_u_n3 ..))
  obtain ⟨q3, q4, q7, q8, q9⟩ := h.i9
  obtain ⟨z0, z1, z2, z3, z4, z5⟩ := h.z
  obtain ⟨s0, s4, s5, s7, s9⟩ := spA_c n V
  have W : ∀ (j : Nat) (w f : F1), j < 4 → RW j tb w f n → RW j tb (f_X5_startAt_h w V) f (f_X7_speeds_a n V) := by
    intro j w f hj hw
    obtain ⟨y0, y1, y2, y3, y8, y10⟩ := spA_w (n := n) (V := V) hj
    unfold f_X5_startAt_h
    refine RW_new ht (fun q hq => ?_) y1 y2 y3 (by rw [spA_o (by omega)]; exact hw.2.1.2.2.2.1) (by rw [spA_o (by omega)]; exact hw.2.1.2.2.2.2.1) y10 ?_ ?_
    · rw [pk_un (by omega), pk_un (by omega)]
      by_cases c : q = 10
      · subst c; rw [pk_us, y10]
      · rw [pk_un c]
        by_cases c : q = 8
        · subst c; rw [pk_us, y8]
        · rw [pk_un c]
          by_cases c : q = 3
          · subst c; rw [pk_us, y3]
          · rw [pk_un c]
            by_cases c : q = 2
            · subst c; rw [pk_us, y2]
            · rw [pk_un c]
              by_cases c : q = 1
              · subst c; rw [pk_us, y1]
              · rw [pk_un c]
                by_cases c : q = 0
                · subst c; rw [pk_us, y0]
                · rw [pk_un c, spA_o (by omega)]; exact hw.1.1 q hq
    · rw [pk_un (by decide), pk_us]
    · rw [pk_us]
  refine ⟨?_, ?_, ?_, ?_, ?_, ⟨?_, ?_, ?_, ?_, ?_, ?_⟩, ?_, ?_, ?_, ?_, p1, p2, p3, ⟨?_, ?_, ?_, ?_, ?_⟩, ?_, fun j hj => ?_, p4, p5⟩
  · refine ⟨?_, ?_, ?_, fun j hj => ?_⟩
    · rw [spA_o (by decide)]; exact hM.1
    · rw [spA_o (by decide)]; exact hM.2.1
    · rw [spA_o (by decide)]; exact hM.2.2.1
    · rw [(spA_w hj).2.2.2.2.2]; exact ⟨by decide, by decide⟩
  · rw [b_X0_startAt_u_r0, s0]; exact pk_us
  · rw [b_X0_startAt_u_r0, spA_o (by decide)]; exact (pk_un (by decide)).trans h.c1
  · rw [b_X0_startAt_u_r0, spA_o (by decide)]; exact (pk_un (by decide)).trans h.c2
  · rw [b_X0_startAt_u_r0, spA_o (by decide)]; exact (pk_un (by decide)).trans h.c3
  · rw [b_X0_startAt_u_r1, s4]; unfold f_X0_startAt_ad1 f_X1_startAt_h; rw [pk_un (by decide), pk_un (by decide), pk_un (by decide), pk_us]
  · rw [b_X0_startAt_u_r1, s5]; unfold f_X0_startAt_ad1 f_X1_startAt_h; rw [pk_un (by decide), pk_un (by decide), pk_us]
  · rw [b_X0_startAt_u_r1, spA_o (by decide)]; unfold f_X0_startAt_ad1 f_X1_startAt_h; rw [pk_un (by decide), pk_un (by decide), pk_un (by decide), pk_un (by decide)]; exact z2
  · rw [b_X0_startAt_u_r1, s7]; unfold f_X0_startAt_ad1 f_X1_startAt_h; rw [pk_un (by decide), pk_us]
  · rw [b_X0_startAt_u_r1, spA_o (by decide)]; unfold f_X0_startAt_ad1 f_X1_startAt_h; rw [pk_un (by decide), pk_un (by decide), pk_un (by decide), pk_un (by decide)]; exact z4
  · rw [b_X0_startAt_u_r1, s9]; unfold f_X0_startAt_ad1 f_X1_startAt_h; rw [pk_us]
  · rw [b_X0_startAt_u_r2, b_X0_startAt_u_r6]; exact W 0 _ _ (by decide) h.w0
  · rw [b_X0_startAt_u_r3, b_X0_startAt_u_r7]; exact W 1 _ _ (by decide) h.w1
  · rw [b_X0_startAt_u_r4, b_X0_startAt_u_r8]; exact W 2 _ _ (by decide) h.w2
  · rw [b_X0_startAt_u_r5, b_X0_startAt_u_r9]; exact W 3 _ _ (by decide) h.w3
  · rw [spA_o (by decide)]; exact q3
  · rw [s4]; exact bV
  · rw [s7]; exact ⟨by decide, by decide⟩
  · rw [spA_o (by decide)]; exact q8
  · rw [s9]; exact Or.inl rfl
  · rw [s0]; exact bV
  · rw [s0, (spA_w hj).1]; exact ⟨bV.1, Int.le_refl _⟩
