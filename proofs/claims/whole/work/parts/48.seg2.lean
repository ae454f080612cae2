/-- a car whose road alone changed -/
theorem RC.road {tb : Int} {u v : CarS} {n m : F1} (h : RC tb u n) (a : ∀ q, q < 74 ∨ 111 ≤ q → q < 253 → m q = n q) (e : ∀ i, i < 18 → i ≠ 13 → i ≠ 14 → i ≠ 15 → v.1 i = u.1 i) (e2 : ∀ i, i < 4 → i ≠ 2 → v.2 i = u.2 i) (b : 1 ≤ (m 74).toInt ∧ (m 74).toInt ≤ 12) (r : Rr (v.2 2) (v.1 13) (v.1 14) (v.1 15) m) (s : SR m) : RC tb v m := by
  have hM := h.M
  have k : ∀ j, j < 4 → kN j n ≤ 5 := fun j hj => (kN_eq hM hj).2
  have o : ∀ q, q < 74 → m q = n q := fun q x => a q (by omega) (by omega)
  have aw : ∀ j, j < 4 → Ag (10 + 16 * j) (26 + 16 * j) n m := fun j hj q x y => o q (by omega)
  refine ⟨⟨b, ?_, ?_, fun j hj => ?_⟩, ?_, ?_, ?_, ?_, ?_, ?_, ?_, ?_, ?_, ?_, r, ?_, ?_, ?_, fun j hj => ?_, s, ?_⟩
  · rw [a 111 (by omega) (by omega)]; exact hM.2.1
  · rw [a 132 (by omega) (by omega)]; exact hM.2.2.1
  · rw [o _ (by omega)]; exact hM.2.2.2 j hj
  · rw [e 0 (by decide) (by decide) (by decide) (by decide), o 0 (by decide)]; exact h.c0
  · rw [e 0 (by decide) (by decide) (by decide) (by decide), o 1 (by decide)]; exact h.c1
  · rw [e 0 (by decide) (by decide) (by decide) (by decide), o 2 (by decide)]; exact h.c2
  · rw [e 0 (by decide) (by decide) (by decide) (by decide), o 3 (by decide)]; exact h.c3
  · rw [e 1 (by decide) (by decide) (by decide) (by decide)]; exact h.z.ag (fun q x y => o q (by omega))
  · rw [e 2 (by decide) (by decide) (by decide) (by decide), e 6 (by decide) (by decide) (by decide) (by decide)]; exact h.w0.ag (aw 0 (by decide)) (o 4 (by decide)) (k 0 (by decide))
  · rw [e 3 (by decide) (by decide) (by decide) (by decide), e 7 (by decide) (by decide) (by decide) (by decide)]; exact h.w1.ag (aw 1 (by decide)) (o 4 (by decide)) (k 1 (by decide))
  · rw [e 4 (by decide) (by decide) (by decide) (by decide), e 8 (by decide) (by decide) (by decide) (by decide)]; exact h.w2.ag (aw 2 (by decide)) (o 4 (by decide)) (k 2 (by decide))
  · rw [e 5 (by decide) (by decide) (by decide) (by decide), e 9 (by decide) (by decide) (by decide) (by decide)]; exact h.w3.ag (aw 3 (by decide)) (o 4 (by decide)) (k 3 (by decide))
  · rw [e 10 (by decide) (by decide) (by decide) (by decide), e 11 (by decide) (by decide) (by decide) (by decide), e 12 (by decide) (by decide) (by decide) (by decide), e2 0 (by decide) (by decide), e2 1 (by decide) (by decide)]; exact h.L.ag (fun q x y => a q (by omega) (by omega)) (eN_eq hM).2
  · rw [e 16 (by decide) (by decide) (by decide) (by decide), e 17 (by decide) (by decide) (by decide) (by decide), e2 3 (by decide) (by decide)]; exact h.p.ag (fun q x y => a q (by omega) (by omega)) (pN_eq hM).2
  · unfold I9; rw [o 3 (by decide), o 4 (by decide), o 7 (by decide), o 8 (by decide), o 9 (by decide)]; exact h.i9
  · rw [o 0 (by decide)]; exact h.bV
  · rw [o 0 (by decide), o _ (by omega)]; exact h.bW j hj
  · exact h.sp.ag (fun q x y => a q (by omega) (by omega)) (pN_eq hM).2
theorem seg_e (u : CarS) (st_ lf rg : Int32) : (∀ i, i < 18 → i ≠ 13 → i ≠ 14 → i ≠ 15 → (b_X6_addSegment_u u st_ lf rg).1 i = u.1 i) ∧ ∀ i, i < 4 → i ≠ 2 → (b_X6_addSegment_u u st_ lf rg).2 i = u.2 i := by
  refine ⟨fun i h1 h2 h3 h4 => ?_, fun i h1 h2 => ?_⟩
  · rcases (show i = 0 ∨ i = 1 ∨ i = 2 ∨ i = 3 ∨ i = 4 ∨ i = 5 ∨ i = 6 ∨ i = 7 ∨ i = 8 ∨ i = 9 ∨ i = 10 ∨ i = 11 ∨ i = 12 ∨ i = 16 ∨ i = 17 by omega) with e | e | e | e | e | e | e | e | e | e | e | e | e | e | e <;> subst e
    · exact b_X6_addSegment_u_r0 ..
    · exact b_X6_addSegment_u_r1 ..
    · exact b_X6_addSegment_u_r2 ..
    · exact b_X6_addSegment_u_r3 ..
    · exact b_X6_addSegment_u_r4 ..
    · exact b_X6_addSegment_u_r5 ..
    · exact b_X6_addSegment_u_r6 ..
    · exact b_X6_addSegment_u_r7 ..
    · exact b_X6_addSegment_u_r8 ..
    · exact b_X6_addSegment_u_r9 ..
    · exact b_X6_addSegment_u_r10 ..
    · exact b_X6_addSegment_u_r11 ..
    · exact b_X6_addSegment_u_r12 ..
    · exact b_X6_addSegment_u_r16 ..
    · exact b_X6_addSegment_u_r17 ..
  · rcases (show i = 0 ∨ i = 1 ∨ i = 3 by omega) with e | e | e <;> subst e
    · exact b_X6_addSegment_u_n0 ..
    · exact b_X6_addSegment_u_n1 ..
    · exact b_X6_addSegment_u_n3 ..
theorem st_seg_same {tb : Int} {u : CarS} {n : F1} {st_ lf rg : Int32} (h : RC tb u n) (hs : ¬ sgS n st_ (sN n) = -1) : RC tb (b_X6_addSegment_u u st_ lf rg) (f_X7_addSegment_same_a n st_ lf rg) := by
  have hM := h.M
  obtain ⟨hn, h1, h12⟩ := sN_eq hM
  have hc := h.r.1
  obtain ⟨hp, hl, hg⟩ := plc_spec (a := st_) hM h.r
  obtain ⟨ep, es⟩ := seg_eq (a := st_) hM h.r h.sr
  have hz : ¬ f_X3_isStart (u.2 2) (u.1 13) (plc (u.2 2) (u.1 13) st_) st_ = 0 := fun q => hs (es.mp q)
  have e0 := sgS_is hp hl hg h.sr _ (Nat.le_refl _)
  have hq : plc (u.2 2) (u.1 13) st_ < sN n ∧ n (75 + 3 * plc (u.2 2) (u.1 13) st_) = st_ := by
    rcases Classical.em (plc (u.2 2) (u.1 13) st_ < sN n ∧ n (75 + 3 * plc (u.2 2) (u.1 13) st_) = st_) with c | c
    · exact c
    · rw [if_neg c] at e0; exact absurd e0 hs
  obtain ⟨p, epp⟩ : ∃ p, p = plc (u.2 2) (u.1 13) st_ := ⟨_, rfl⟩
  rw [← epp] at hp hl hg ep hq
  have em : f_X7_addSegment_same_a n st_ lf rg = upd (upd (upd n (75 + 3 * p) st_) (75 + 3 * p + 1) lf) (75 + 3 * p + 2) rg := by
    unfold f_X7_addSegment_same_a v_X7_addSegment_same_4; rw [← ep]
  have o : ∀ q, q ≠ 75 + 3 * p → q ≠ 76 + 3 * p → q ≠ 77 + 3 * p → f_X7_addSegment_same_a n st_ lf rg q = n q := fun q x y z => by rw [em, pk_un (by omega), pk_un (by omega), pk_un (by omega)]
  have oS : ∀ i, f_X7_addSegment_same_a n st_ lf rg (75 + 3 * i) = n (75 + 3 * i) := fun i => by
    by_cases c : i = p
    · subst c; rw [em, pk_un (by omega), pk_un (by omega), pk_us, hq.2]
    · exact o _ (by omega) (by omega) (by omega)
  have eN : sN (f_X7_addSegment_same_a n st_ lf rg) = sN n := by unfold sN; rw [o 74 (by omega) (by omega) (by omega)]
  refine h.road (fun q x y => o q (by omega) (by omega) (by omega)) (seg_e u st_ lf rg).1 (seg_e u st_ lf rg).2 (by rw [o 74 (by omega) (by omega) (by omega)]; exact hM.1) ⟨?_, fun i hi => ?_⟩ (fun i j hij hj => ?_)
  · rw [b_X6_addSegment_u_n2, eN]; unfold f_X6_addSegment_ad15_cn f_X3_put_h_cn; rw [if_neg hz]; exact hc
  · rw [b_X6_addSegment_u_n2] at hi
    unfold f_X6_addSegment_ad15_cn f_X3_put_h_cn at hi
    rw [if_neg hz] at hi
    obtain ⟨x1, x2, x3⟩ := h.r.2 i hi
    rw [b_X6_addSegment_u_r13, b_X6_addSegment_u_r14, b_X6_addSegment_u_r15, oS]
    unfold f_X6_addSegment_ad16 f_X6_addSegment_ad17 f_X6_addSegment_ad18 f_X3_put_s0 f_X3_put_l0 f_X3_put_r0 f_X3_setRow_s0 f_X3_setRow_l0 f_X3_setRow_r0
    rw [if_neg hz, if_neg hz, if_neg hz, ← epp]
    by_cases c : i = p
    · subst c
      rw [pk_us, pk_us, pk_us, hq.2, em]
      exact ⟨rfl, by rw [pk_un (by omega), show 76 + 3 * i = 75 + 3 * i + 1 by omega, pk_us], by rw [show 77 + 3 * i = 75 + 3 * i + 2 by omega, pk_us]⟩
    · rw [pk_un c, pk_un c, pk_un c, o _ (by omega) (by omega) (by omega), o _ (by omega) (by omega) (by omega)]
      exact ⟨x1, x2, x3⟩
  · rw [eN] at hj; rw [oS, oS]; exact h.sr i j hij hj
