/-! a car that begins, a car copied -/
theorem bgA_o {n : F1} {q : Nat} (hq : q < 253) (h : q ≠ 7 ∧ q ≠ 8 ∧ q ≠ 74) : f_X7_begins_a n q = 0 := by
  unfold f_X7_begins_a
  rw [pk_un (by omega), pk_un (by omega), pk_un (by omega)]
  unfold va_cpy
  rw [if_pos (by omega)]
theorem bgA_7 (n : F1) : f_X7_begins_a n 7 = 150 ∧ f_X7_begins_a n 8 = 1 ∧ f_X7_begins_a n 74 = 1 := by
  unfold f_X7_begins_a
  exact ⟨by rw [pk_un (by decide), pk_un (by decide), pk_us], by rw [pk_un (by decide), pk_us], by rw [pk_us]⟩
theorem clr_w (w : F1) : ∀ q, q < 13 → f_X5_startAt_h (f_X5_clear_h w) 0 q = 0 := by
  intro q hq
  unfold f_X5_clear_h f_X5_startAt_h
  rcases (show q = 0 ∨ q = 1 ∨ q = 2 ∨ q = 3 ∨ q = 4 ∨ q = 5 ∨ q = 6 ∨ q = 7 ∨ q = 8 ∨ q = 9 ∨ q = 10 ∨ q = 11 ∨ q = 12 by omega) with e | e | e | e | e | e | e | e | e | e | e | e | e <;> subst e <;> simp only [upd] <;> rfl
theorem st_begins (u : CarS) (n : F1) : RC 0 (b_X0_clear_u u) (f_X7_begins_a n) := by
  obtain ⟨s7, s8, s74⟩ := bgA_7 n
  have o : ∀ q, q < 74 → q ≠ 7 → q ≠ 8 → f_X7_begins_a n q = 0 := fun q x y z => bgA_o (by omega) (by omega)
  have o2 : ∀ q, 75 ≤ q → q < 253 → f_X7_begins_a n q = 0 := fun q x y => bgA_o (by omega) (by omega)
  have W : ∀ (j : Nat) (w f : F1), j < 4 → RW j 0 (f_X5_startAt_h (f_X5_clear_h w) 0) f (f_X7_begins_a n) := by
    intro j w f hj
    refine RW_new (Int.le_refl _) (fun q hq => ?_) (o _ (by omega) (by omega) (by omega)) (o _ (by omega) (by omega) (by omega)) (o _ (by omega) (by omega) (by omega)) (Or.inl (o _ (by omega) (by omega) (by omega))) (Or.inl (o _ (by omega) (by omega) (by omega))) (o _ (by omega) (by omega) (by omega)) (clr_w w 11 (by decide)) (clr_w w 12 (by decide))
    rw [clr_w w q (by omega), o _ (by omega) (by omega) (by omega)]
  have eS : sN (f_X7_begins_a n) = 1 := by unfold sN; rw [s74]; rfl
  have eP : pN (f_X7_begins_a n) = 0 := by unfold pN; rw [o2 111 (by decide) (by decide)]; rfl
  have eE : eN (f_X7_begins_a n) = 0 := by unfold eN; rw [o2 132 (by decide) (by decide)]; rfl
  refine ⟨⟨?_, ?_, ?_, fun j hj => ?_⟩, ?_, ?_, ?_, ?_, ⟨?_, ?_, ?_, ?_, ?_, ?_⟩, ?_, ?_, ?_, ?_, ⟨?_, ?_, fun i hi => ?_⟩, ⟨?_, fun i hi => ?_⟩, ⟨?_, fun i hi => ?_⟩, ⟨?_, ?_, ?_, ?_, ?_⟩, ?_, fun j hj => ?_, fun i j hij hj => ?_, ⟨fun i j hij hj => ?_, fun i hi => ?_⟩⟩
  · rw [s74]; exact ⟨by decide, by decide⟩
  · rw [o2 111 (by decide) (by decide)]; exact ⟨by decide, by decide⟩
  · rw [o2 132 (by decide) (by decide)]; exact ⟨by decide, by decide⟩
  · rw [o _ (by omega) (by omega) (by omega)]; exact ⟨by decide, by decide⟩
  · rw [b_X0_clear_u_r0, o 0 (by decide) (by decide) (by decide)]; simp only [f_X0_clear_ad0, upd]; rfl
  · rw [b_X0_clear_u_r0, o 1 (by decide) (by decide) (by decide)]; simp only [f_X0_clear_ad0, upd]; rfl
  · rw [b_X0_clear_u_r0, o 2 (by decide) (by decide) (by decide)]; simp only [f_X0_clear_ad0, upd]; rfl
  · rw [b_X0_clear_u_r0, o 3 (by decide) (by decide) (by decide)]; simp only [f_X0_clear_ad0, upd]; rfl
  · rw [b_X0_clear_u_r1, o 4 (by decide) (by decide) (by decide)]; simp only [f_X0_clear_ad1, f_X1_clear_h, f_X1_startAt_h, upd]; rfl
  · rw [b_X0_clear_u_r1, o 5 (by decide) (by decide) (by decide)]; simp only [f_X0_clear_ad1, f_X1_clear_h, f_X1_startAt_h, upd]; rfl
  · rw [b_X0_clear_u_r1, o 6 (by decide) (by decide) (by decide)]; simp only [f_X0_clear_ad1, f_X1_clear_h, f_X1_startAt_h, upd]; rfl
  · rw [b_X0_clear_u_r1, s7]; simp only [f_X0_clear_ad1, f_X1_clear_h, f_X1_startAt_h, upd]; rfl
  · rw [b_X0_clear_u_r1, s8]; simp only [f_X0_clear_ad1, f_X1_clear_h, f_X1_startAt_h, upd]; rfl
  · rw [b_X0_clear_u_r1, o 9 (by decide) (by decide) (by decide)]; simp only [f_X0_clear_ad1, f_X1_clear_h, f_X1_startAt_h, upd]; rfl
  · rw [b_X0_clear_u_r2, b_X0_clear_u_r6]; exact W 0 _ _ (by decide)
  · rw [b_X0_clear_u_r3, b_X0_clear_u_r7]; exact W 1 _ _ (by decide)
  · rw [b_X0_clear_u_r4, b_X0_clear_u_r8]; exact W 2 _ _ (by decide)
  · rw [b_X0_clear_u_r5, b_X0_clear_u_r9]; exact W 3 _ _ (by decide)
  · rw [b_X0_clear_u_n0]; show 0 < 40; decide
  · rw [b_X0_clear_u_n1, eE]
  · rw [b_X0_clear_u_n1] at hi; exact absurd hi (Nat.not_lt_zero _)
  · rw [b_X0_clear_u_n2, eS]
  · rw [b_X0_clear_u_n2] at hi
    have e : i = 0 := by omega
    subst e
    rw [o2 _ (by omega) (by omega), o2 _ (by omega) (by omega), o2 _ (by omega) (by omega), b_X0_clear_u_r13, b_X0_clear_u_r14, b_X0_clear_u_r15]
    unfold f_X0_clear_ad16 f_X0_clear_ad17 f_X0_clear_ad18 f_X3_clear_s0 f_X3_clear_l0 f_X3_clear_r0 f_X3_setRow_s0 f_X3_setRow_l0 f_X3_setRow_r0
    exact ⟨pk_us, pk_us, pk_us⟩
  · rw [b_X0_clear_u_n3, eP]
  · rw [b_X0_clear_u_n3] at hi; exact absurd hi (Nat.not_lt_zero _)
  · rw [o 3 (by decide) (by decide) (by decide)]; exact ⟨by decide, by decide⟩
  · rw [o 4 (by decide) (by decide) (by decide)]; exact ⟨by decide, by decide⟩
  · rw [s7]; exact ⟨by decide, by decide⟩
  · rw [s8]; exact Or.inr rfl
  · rw [o 9 (by decide) (by decide) (by decide)]; exact Or.inl rfl
  · rw [o 0 (by decide) (by decide) (by decide)]; exact ⟨by decide, by decide⟩
  · rw [o 0 (by decide) (by decide) (by decide), o _ (by omega) (by omega) (by omega)]; exact ⟨by decide, by decide⟩
  · rw [eS] at hj; omega
  · rw [eP] at hj; omega
  · rw [eP] at hi; omega
/-- the row may be another that agrees -/
theorem RC.row {tb : Int} {u : CarS} {n m : F1} (h : RC tb u n) (a : Ag 0 253 n m) : RC tb u m := by
  have hM := h.M
  have k : ∀ j, j < 4 → kN j n ≤ 5 := fun j hj => (kN_eq hM hj).2
  have o : ∀ q, q < 253 → m q = n q := fun q x => a q (by omega) x
  obtain ⟨p1, p2, p3, p4, p5⟩ := h.up (v := u) (a.sub (by omega) (by omega)) (fun _ _ _ => rfl) (fun _ _ => rfl)
  refine ⟨⟨?_, ?_, ?_, fun j hj => ?_⟩, ?_, ?_, ?_, ?_, h.z.ag (a.sub (by omega) (by omega)), h.w0.ag (a.sub (by omega) (by omega)) (o 4 (by decide)) (k 0 (by decide)), h.w1.ag (a.sub (by omega) (by omega)) (o 4 (by decide)) (k 1 (by decide)), h.w2.ag (a.sub (by omega) (by omega)) (o 4 (by decide)) (k 2 (by decide)), h.w3.ag (a.sub (by omega) (by omega)) (o 4 (by decide)) (k 3 (by decide)), p1, p2, p3, ?_, ?_, fun j hj => ?_, p4, p5⟩
  · rw [o 74 (by decide)]; exact hM.1
  · rw [o 111 (by decide)]; exact hM.2.1
  · rw [o 132 (by decide)]; exact hM.2.2.1
  · rw [o _ (by omega)]; exact hM.2.2.2 j hj
  · rw [o 0 (by decide)]; exact h.c0
  · rw [o 1 (by decide)]; exact h.c1
  · rw [o 2 (by decide)]; exact h.c2
  · rw [o 3 (by decide)]; exact h.c3
  · unfold I9; rw [o 3 (by decide), o 4 (by decide), o 7 (by decide), o 8 (by decide), o 9 (by decide)]; exact h.i9
  · rw [o 0 (by decide)]; exact h.bV
  · rw [o 0 (by decide), o _ (by omega)]; exact h.bW j hj
theorem cpw (w w2 : F1) : ∀ q, q < 13 → f_X5_copyFrom_h w w2 q = w2 q := by
  intro q hq
  unfold f_X5_copyFrom_h
  rcases (show q = 0 ∨ q = 1 ∨ q = 2 ∨ q = 3 ∨ q = 4 ∨ q = 5 ∨ q = 6 ∨ q = 7 ∨ q = 8 ∨ q = 9 ∨ q = 10 ∨ q = 11 ∨ q = 12 by omega) with e | e | e | e | e | e | e | e | e | e | e | e | e <;> subst e <;> simp only [upd] <;> rfl
theorem cpz (z z2 : F1) : ∀ q, q < 6 → f_X1_copyFrom_h z z2 q = z2 q := by
  intro q hq
  unfold f_X1_copyFrom_h
  rcases (show q = 0 ∨ q = 1 ∨ q = 2 ∨ q = 3 ∨ q = 4 ∨ q = 5 by omega) with e | e | e | e | e | e <;> subst e <;> simp only [upd] <;> rfl
theorem cpA {f g : F1} {k q : Nat} (h : q < k) : va_cpy f g 0 0 k q = f q := by
  unfold va_cpy; rw [if_pos (by omega)]; exact congrArg f (by omega)
theorem st_copy {tb : Int} {u uq : CarS} {n : F1} (h : RC tb uq n) : RC tb (b_X0_copyFrom_u u uq) n := by
  have hM := h.M
  have k : ∀ j, j < 4 → kN j n ≤ 5 := fun j hj => (kN_eq hM hj).2
  have W : ∀ (j : Nat) (w f w' f' : F1), j < 4 → RW j tb w f n → RW j tb (f_X5_copyFrom_h w' w) (f_X5_copyFrom_am f' f) n := by
    intro j w f w' f' hj hw
    have := k j hj
    refine ⟨⟨fun q hq => ?_, fun i hi => ?_⟩, hw.2.1, ?_, ?_⟩
    · rw [cpw _ _ q (by omega)]; exact hw.1.1 q hq
    · exact (cpA (by omega)).trans (hw.1.2 i hi)
    · rw [cpw _ _ 11 (by decide)]; exact hw.2.2.1
    · rw [cpw _ _ 12 (by decide)]; exact hw.2.2.2
  refine ⟨hM, ?_, ?_, ?_, ?_, ⟨?_, ?_, ?_, ?_, ?_, ?_⟩, ?_, ?_, ?_, ?_, ⟨?_, ?_, fun i hi => ?_⟩, ⟨?_, fun i hi => ?_⟩, ⟨?_, fun i hi => ?_⟩, h.i9, h.bV, h.bW, h.sr, h.sp⟩
  · rw [b_X0_copyFrom_u_r0, ← h.c0]; simp only [f_X0_copyFrom_ad0, upd]; rfl
  · rw [b_X0_copyFrom_u_r0, ← h.c1]; simp only [f_X0_copyFrom_ad0, upd]; rfl
  · rw [b_X0_copyFrom_u_r0, ← h.c2]; simp only [f_X0_copyFrom_ad0, upd]; rfl
  · rw [b_X0_copyFrom_u_r0, ← h.c3]; simp only [f_X0_copyFrom_ad0, upd]; rfl
  · rw [b_X0_copyFrom_u_r1]; exact (cpz _ _ 0 (by decide)).trans h.z.1
  · rw [b_X0_copyFrom_u_r1]; exact (cpz _ _ 1 (by decide)).trans h.z.2.1
  · rw [b_X0_copyFrom_u_r1]; exact (cpz _ _ 2 (by decide)).trans h.z.2.2.1
  · rw [b_X0_copyFrom_u_r1]; exact (cpz _ _ 3 (by decide)).trans h.z.2.2.2.1
  · rw [b_X0_copyFrom_u_r1]; exact (cpz _ _ 4 (by decide)).trans h.z.2.2.2.2.1
  · rw [b_X0_copyFrom_u_r1]; exact (cpz _ _ 5 (by decide)).trans h.z.2.2.2.2.2
  · rw [b_X0_copyFrom_u_r2, b_X0_copyFrom_u_r6]; exact W 0 _ _ _ _ (by decide) h.w0
  · rw [b_X0_copyFrom_u_r3, b_X0_copyFrom_u_r7]; exact W 1 _ _ _ _ (by decide) h.w1
  · rw [b_X0_copyFrom_u_r4, b_X0_copyFrom_u_r8]; exact W 2 _ _ _ _ (by decide) h.w2
  · rw [b_X0_copyFrom_u_r5, b_X0_copyFrom_u_r9]; exact W 3 _ _ _ _ (by decide) h.w3
  · rw [b_X0_copyFrom_u_n0]; exact h.L.1
  · rw [b_X0_copyFrom_u_n1]; exact h.L.2.1
  · rw [b_X0_copyFrom_u_n1] at hi
    rw [b_X0_copyFrom_u_n0, b_X0_copyFrom_u_r10, b_X0_copyFrom_u_r11, b_X0_copyFrom_u_r12]
    have := h.L.2.2 i hi
    refine ⟨(cpA (Nat.mod_lt _ (by decide))).trans this.1, (cpA (Nat.mod_lt _ (by decide))).trans this.2.1, (cpA (Nat.mod_lt _ (by decide))).trans this.2.2⟩
  · rw [b_X0_copyFrom_u_n2]; exact h.r.1
  · rw [b_X0_copyFrom_u_n2] at hi
    rw [b_X0_copyFrom_u_r13, b_X0_copyFrom_u_r14, b_X0_copyFrom_u_r15]
    have := h.r.2 i hi
    have l : i < 12 := by have := h.r.1; have := (sN_eq hM).2.2; have : i < uq.2 2 := hi; omega
    exact ⟨(cpA l).trans this.1, (cpA l).trans this.2.1, (cpA l).trans this.2.2⟩
  · rw [b_X0_copyFrom_u_n3]; exact h.p.1
  · rw [b_X0_copyFrom_u_n3] at hi
    rw [b_X0_copyFrom_u_r16, b_X0_copyFrom_u_r17]
    have := h.p.2 i hi
    have l : i < 10 := by have := h.p.1; have := (pN_eq hM).2; have : i < uq.2 3 := hi; omega
    exact ⟨(cpA l).trans this.1, (cpA l).trans this.2⟩
