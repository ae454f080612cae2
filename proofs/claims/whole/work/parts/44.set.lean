/-! many ticks, and the calls that set -/
theorem scan_pt {P Q : Nat → Bool} : ∀ k i, (∀ j, i ≤ j → j < i + k → P j = Q j) → scanB P k i = scanB Q k i
  | 0, i, _ => rfl
  | k + 1, i, h => by
    show (if P i = true then scanB P k (i + 1) else i) = (if Q i = true then scanB Q k (i + 1) else i)
    rw [h i (by omega) (by omega), scan_pt k (i + 1) (fun j a b => h j (by omega) (by omega))]
theorem st_tickN {tb : Int} {u : CarS} {n : F1} (h : RC tb u n) : ∀ i : Nat, tb + i ≤ 2000000000 → RC (tb + i) (tickN u i) (mtN n i)
  | 0, _ => by
    show RC (tb + ((0 : Nat) : Int)) u n
    rw [Int.natCast_zero, Int.add_zero]; exact h
  | i + 1, hi => by
    have h1 := st_tickN h i (by omega)
    have := st_tick h1 (by omega)
    show RC (tb + ((i + 1 : Nat) : Int)) (b_X0_tick_u (tickN u i)) (v_X7_tickOn_31 (mtN n i))
    rw [Int.natCast_add, ← Int.add_assoc]; exact this
theorem tkN_eq {tb : Int} {u : CarS} {n : F1} (h : RC tb u n) (htb : tb + 5000 ≤ 2000000000) : tkN u = mtK n := by
  refine scan_pt 5000 0 (fun j _ hj => ?_)
  unfold tkP mtP
  rw [(st_tickN h j (by omega)).c0]
def Eqc (u v : CarS) : Prop := (∀ i, i < 18 → u.1 i = v.1 i) ∧ ∀ i, i < 4 → u.2 i = v.2 i
theorem RC.eqc {tb : Int} {u v : CarS} {n : F1} (h : RC tb u n) (e : Eqc u v) : RC tb v n := by
  unfold RC at *
  rw [← e.1 0 (by decide), ← e.1 1 (by decide), ← e.1 2 (by decide), ← e.1 3 (by decide), ← e.1 4 (by decide), ← e.1 5 (by decide), ← e.1 6 (by decide), ← e.1 7 (by decide), ← e.1 8 (by decide), ← e.1 9 (by decide), ← e.1 10 (by decide), ← e.1 11 (by decide), ← e.1 12 (by decide), ← e.1 13 (by decide), ← e.1 14 (by decide), ← e.1 15 (by decide), ← e.1 16 (by decide), ← e.1 17 (by decide), ← e.2 0 (by decide), ← e.2 1 (by decide), ← e.2 2 (by decide), ← e.2 3 (by decide)]
  exact h
theorem Eqc.mk {u v : CarS} (h0 : u.1 0 = v.1 0) (h1 : u.1 1 = v.1 1) (h2 : u.1 2 = v.1 2) (h3 : u.1 3 = v.1 3) (h4 : u.1 4 = v.1 4) (h5 : u.1 5 = v.1 5) (h6 : u.1 6 = v.1 6) (h7 : u.1 7 = v.1 7) (h8 : u.1 8 = v.1 8) (h9 : u.1 9 = v.1 9) (h10 : u.1 10 = v.1 10) (h11 : u.1 11 = v.1 11) (h12 : u.1 12 = v.1 12) (h13 : u.1 13 = v.1 13) (h14 : u.1 14 = v.1 14) (h15 : u.1 15 = v.1 15) (h16 : u.1 16 = v.1 16) (h17 : u.1 17 = v.1 17) (k0 : u.2 0 = v.2 0) (k1 : u.2 1 = v.2 1) (k2 : u.2 2 = v.2 2) (k3 : u.2 3 = v.2 3) : Eqc u v := by
  refine ⟨fun i hi => ?_, fun i hi => ?_⟩
  · rcases (show i = 0 ∨ i = 1 ∨ i = 2 ∨ i = 3 ∨ i = 4 ∨ i = 5 ∨ i = 6 ∨ i = 7 ∨ i = 8 ∨ i = 9 ∨ i = 10 ∨ i = 11 ∨ i = 12 ∨ i = 13 ∨ i = 14 ∨ i = 15 ∨ i = 16 ∨ i = 17 by omega) with e | e | e | e | e | e | e | e | e | e | e | e | e | e | e | e | e | e <;> subst e <;> assumption
  · rcases (show i = 0 ∨ i = 1 ∨ i = 2 ∨ i = 3 by omega) with e | e | e | e <;> subst e <;> assumption
theorem eqc_still (u : CarS) : Eqc (tickN u (tkN u)) (b_X0_tickUntilStill_u u) :=
  Eqc.mk (b_X0_tickUntilStill_u_r0 u).symm (b_X0_tickUntilStill_u_r1 u).symm (b_X0_tickUntilStill_u_r2 u).symm (b_X0_tickUntilStill_u_r3 u).symm (b_X0_tickUntilStill_u_r4 u).symm (b_X0_tickUntilStill_u_r5 u).symm (b_X0_tickUntilStill_u_r6 u).symm (b_X0_tickUntilStill_u_r7 u).symm (b_X0_tickUntilStill_u_r8 u).symm (b_X0_tickUntilStill_u_r9 u).symm (b_X0_tickUntilStill_u_r10 u).symm (b_X0_tickUntilStill_u_r11 u).symm (b_X0_tickUntilStill_u_r12 u).symm (b_X0_tickUntilStill_u_r13 u).symm (b_X0_tickUntilStill_u_r14 u).symm (b_X0_tickUntilStill_u_r15 u).symm (b_X0_tickUntilStill_u_r16 u).symm (b_X0_tickUntilStill_u_r17 u).symm (b_X0_tickUntilStill_u_n0 u).symm (b_X0_tickUntilStill_u_n1 u).symm (b_X0_tickUntilStill_u_n2 u).symm (b_X0_tickUntilStill_u_n3 u).symm
theorem st_run {tb : Int} {u : CarS} {n : F1} {kt : Nat} (h : RC tb u n) (hk : kt ≤ 5000) (htb : tb + 5000 ≤ 2000000000) : RC (tb + 5000) (tickN u kt) (mtN n kt) := (st_tickN h kt (by omega)).mono (by omega)
theorem st_stop {tb : Int} {u : CarS} {n : F1} (h : RC tb u n) (htb : tb + 5000 ≤ 2000000000) : RC (tb + 5000) (b_X0_tickUntilStill_u u) (f_X7_stops_a n) := by
  have hk : tkN u ≤ 5000 := by have := scan_le (P := tkP u) 5000 0; unfold tkN; omega
  have := st_run h hk htb
  rw [tkN_eq h htb] at this
  refine RC.eqc ?_ (eqc_still u)
  rw [tkN_eq h htb]; exact this
/-- what lies above the wheels -/
theorem RC.up {tb : Int} {u v : CarS} {n m : F1} (h : RC tb u n) (a : Ag 74 253 n m) (e : ∀ i, 10 ≤ i → i < 18 → v.1 i = u.1 i) (e2 : ∀ i, i < 4 → v.2 i = u.2 i) : Rl (v.2 0, v.2 1, v.1 10, v.1 11, v.1 12) m ∧ Rr (v.2 2) (v.1 13) (v.1 14) (v.1 15) m ∧ Rp (v.2 3) (v.1 16) (v.1 17) m ∧ SR m ∧ SP m := by
  rw [e 10 (by decide) (by decide), e 11 (by decide) (by decide), e 12 (by decide) (by decide), e 13 (by decide) (by decide), e 14 (by decide) (by decide), e 15 (by decide) (by decide), e 16 (by decide) (by decide), e 17 (by decide) (by decide), e2 0 (by decide), e2 1 (by decide), e2 2 (by decide), e2 3 (by decide)]
  exact ⟨h.L.ag (a.sub (by omega) (by omega)) (eN_eq h.M).2, h.r.ag (a.sub (by omega) (by omega)) (sN_eq h.M).2.2, h.p.ag (a.sub (by omega) (by omega)) (pN_eq h.M).2, h.sr.ag (a.sub (by omega) (by omega)) (sN_eq h.M).2.2, h.sp.ag (a.sub (by omega) (by omega)) (pN_eq h.M).2⟩
theorem hi18 {u v : CarS} (h10 : v.1 10 = u.1 10) (h11 : v.1 11 = u.1 11) (h12 : v.1 12 = u.1 12) (h13 : v.1 13 = u.1 13) (h14 : v.1 14 = u.1 14) (h15 : v.1 15 = u.1 15) (h16 : v.1 16 = u.1 16) (h17 : v.1 17 = u.1 17) : ∀ i, 10 ≤ i → i < 18 → v.1 i = u.1 i := by
  intro i h1 h2
  rcases (show i = 10 ∨ i = 11 ∨ i = 12 ∨ i = 13 ∨ i = 14 ∨ i = 15 ∨ i = 16 ∨ i = 17 by omega) with e | e | e | e | e | e | e | e <;> subst e <;> assumption
theorem hi4 {u v : CarS} (k0 : v.2 0 = u.2 0) (k1 : v.2 1 = u.2 1) (k2 : v.2 2 = u.2 2) (k3 : v.2 3 = u.2 3) : ∀ i, i < 4 → v.2 i = u.2 i := by
  intro i hi
  rcases (show i = 0 ∨ i = 1 ∨ i = 2 ∨ i = 3 by omega) with e | e | e | e <;> subst e <;> assumption
theorem RW_set {j : Nat} {tb : Int} {w w' f n m : F1} (hk : kN j n ≤ 5) (h : RW j tb w f n) (e : ∀ k, k < 11 → w' k = m (10 + 16 * j + k)) (a : Ag (10 + 16 * j + 10) (26 + 16 * j) n m) (h4 : m 4 = n 4) (a1 : Ag (10 + 16 * j + 1) (10 + 16 * j + 4) n m) (b7 : isB (m (10 + 16 * j + 7))) (b9 : isB (m (10 + 16 * j + 9))) (h11 : w' 11 = w 11) (h12 : w' 12 = w 12) : RW j tb w' f m := by
  obtain ⟨⟨x, y⟩, ⟨i1, i2, i3, i7, i9, ik⟩, z1, z2⟩ := h
  have ek := (meas_ag a hk).2
  refine ⟨⟨e, fun i hi => ?_⟩, ⟨?_, ?_, ?_, b7, b9, fun i hi => ?_⟩, ?_, ?_⟩
  · rw [ek] at hi; rw [a _ (by omega) (by omega)]; exact y i hi
  · rw [a1 _ (by omega) (by omega)]; exact i1
  · rw [a1 _ (by omega) (by omega)]; exact i2
  · rw [a1 _ (by omega) (by omega)]; exact i3
  · rw [ek] at hi; rw [a _ (by omega) (by omega)]; exact ik i hi
  · rw [h11, acc_ag a hk]; exact z1
  · rw [h12, est_ag a h4 hk]; exact z2
/-- a wheel that starts anew -/
theorem RW_new {j : Nat} {tb : Int} {w' f m : F1} (ht : 0 ≤ tb) (e : ∀ k, k < 11 → w' k = m (10 + 16 * j + k)) (e1 : m (10 + 16 * j + 1) = 0) (e2 : m (10 + 16 * j + 2) = 0) (e3 : m (10 + 16 * j + 3) = 0) (b7 : isB (m (10 + 16 * j + 7))) (b9 : isB (m (10 + 16 * j + 9))) (e10 : m (10 + 16 * j + 10) = 0) (h11 : w' 11 = 0) (h12 : w' 12 = 0) : RW j tb w' f m := by
  have ek : kN j m = 0 := by unfold kN; rw [e10]; rfl
  refine ⟨⟨e, fun i hi => by omega⟩, ⟨by rw [e1]; exact ⟨by decide, by decide⟩, by rw [e2]; exact ⟨by decide, by decide⟩, by rw [e3]; exact ⟨by decide, ht⟩, b7, b9, fun i hi => by omega⟩, ?_, ?_⟩
  · rw [h11]; unfold f_X7_acceleration; rw [e10, if_neg (by decide)]
  · rw [h12]; unfold f_X7_estimated; rw [e10, if_pos rfl]
theorem st_setDemand {tb : Int} {u : CarS} {n : F1} {V : Int32} (h : RC tb u n) (bV : bd V 0 2000) : RC tb (b_X6_setDemand_u u V) (f_X7_setDemand_ok_a n V) := by
  have hM := h.M
  have k : ∀ j, j < 4 → kN j n ≤ 5 := fun j hj => (kN_eq hM hj).2
  have a : ∀ lo hi, 4 ≤ lo → Ag lo hi n (upd n 3 V) := fun lo hi x => Ag.upd (by omega)
  have o : ∀ q, q ≠ 3 → upd n 3 V q = n q := fun q hq => pk_un hq
  obtain ⟨p1, p2, p3, p4, p5⟩ := h.up (v := b_X6_setDemand_u u V) (a 74 253 (by decide)) (hi18 (b_X6_setDemand_u_r10 ..) (b_X6_setDemand_u_r11 ..) (b_X6_setDemand_u_r12 ..) (b_X6_setDemand_u_r13 ..) (b_X6_setDemand_u_r14 ..) (b_X6_setDemand_u_r15 ..) (b_X6_setDemand_u_r16 ..) (b_X6_setDemand_u_r17 ..)) (hi4 (b_X6_setDemand_u_n0 ..) (b_X6_setDemand_u_n1 ..) (b_X6_setDemand_u_n2 ..) (b_X6_setDemand_u_n3 ..))
  obtain ⟨q3, q4, q7, q8, q9⟩ := h.i9
  show RC tb _ (upd n 3 V)
  refine ⟨MOK_i (by decide) hM, ?_, ?_, ?_, ?_, ?_, ?_, ?_, ?_, ?_, p1, p2, p3, ⟨?_, ?_, ?_, ?_, ?_⟩, ?_, fun j hj => ?_, p4, p5⟩
  · rw [b_X6_setDemand_u_r0, o 0 (by decide)]; exact (pk_un (by decide)).trans h.c0
  · rw [b_X6_setDemand_u_r0, o 1 (by decide)]; exact (pk_un (by decide)).trans h.c1
  · rw [b_X6_setDemand_u_r0, o 2 (by decide)]; exact (pk_un (by decide)).trans h.c2
  · rw [b_X6_setDemand_u_r0, pk_us]; exact pk_us
  · rw [b_X6_setDemand_u_r1]; exact h.z.ag (a _ _ (by decide))
  · rw [b_X6_setDemand_u_r2, b_X6_setDemand_u_r6]; exact h.w0.ag (a _ _ (by decide)) (o 4 (by decide)) (k 0 (by decide))
  · rw [b_X6_setDemand_u_r3, b_X6_setDemand_u_r7]; exact h.w1.ag (a _ _ (by decide)) (o 4 (by decide)) (k 1 (by decide))
  · rw [b_X6_setDemand_u_r4, b_X6_setDemand_u_r8]; exact h.w2.ag (a _ _ (by decide)) (o 4 (by decide)) (k 2 (by decide))
  · rw [b_X6_setDemand_u_r5, b_X6_setDemand_u_r9]; exact h.w3.ag (a _ _ (by decide)) (o 4 (by decide)) (k 3 (by decide))
  · rw [pk_us]; exact bV
  · rw [o 4 (by decide)]; exact q4
  · rw [o 7 (by decide)]; exact q7
  · rw [o 8 (by decide)]; exact q8
  · rw [o 9 (by decide)]; exact q9
  · rw [o 0 (by decide)]; exact h.bV
  · rw [o 0 (by decide), o _ (by omega)]; exact h.bW j hj
theorem st_setOn {tb : Int} {u : CarS} {n : F1} {on : Int32} (h : RC tb u n) (bO : isB on) : RC tb (b_X6_setOn_u u on) (f_X7_setOn_a n on) := by
  have hM := h.M
  have eo : v_X7_setOn_3 on = on := by
    unfold v_X7_setOn_3
    rcases bO with e | e <;> rw [e]
    · rw [if_pos rfl]
    · rw [if_neg (by decide)]
  have k : ∀ j, j < 4 → kN j n ≤ 5 := fun j hj => (kN_eq hM hj).2
  have a : ∀ lo hi, 10 ≤ lo → Ag lo hi n (upd n 8 on) := fun lo hi x => Ag.upd (by omega)
  have o : ∀ q, q ≠ 8 → upd n 8 on q = n q := fun q hq => pk_un hq
  obtain ⟨p1, p2, p3, p4, p5⟩ := h.up (v := b_X6_setOn_u u on) (a 74 253 (by decide)) (hi18 (b_X6_setOn_u_r10 ..) (b_X6_setOn_u_r11 ..) (b_X6_setOn_u_r12 ..) (b_X6_setOn_u_r13 ..) (b_X6_setOn_u_r14 ..) (b_X6_setOn_u_r15 ..) (b_X6_setOn_u_r16 ..) (b_X6_setOn_u_r17 ..)) (hi4 (b_X6_setOn_u_n0 ..) (b_X6_setOn_u_n1 ..) (b_X6_setOn_u_n2 ..) (b_X6_setOn_u_n3 ..))
  obtain ⟨q3, q4, q7, q8, q9⟩ := h.i9
  obtain ⟨z0, z1, z2, z3, z4, z5⟩ := h.z
  unfold f_X7_setOn_a
  rw [eo]
  refine ⟨MOK_i (by decide) hM, ?_, ?_, ?_, ?_, ⟨?_, ?_, ?_, ?_, ?_, ?_⟩, ?_, ?_, ?_, ?_, p1, p2, p3, ⟨?_, ?_, ?_, ?_, ?_⟩, ?_, fun j hj => ?_, p4, p5⟩
  · rw [b_X6_setOn_u_r0, o 0 (by decide)]; exact h.c0
  · rw [b_X6_setOn_u_r0, o 1 (by decide)]; exact h.c1
  · rw [b_X6_setOn_u_r0, o 2 (by decide)]; exact h.c2
  · rw [b_X6_setOn_u_r0, o 3 (by decide)]; exact h.c3
  · rw [b_X6_setOn_u_r1, o 4 (by decide)]; exact (pk_un (by decide)).trans z0
  · rw [b_X6_setOn_u_r1, o 5 (by decide)]; exact (pk_un (by decide)).trans z1
  · rw [b_X6_setOn_u_r1, o 6 (by decide)]; exact (pk_un (by decide)).trans z2
  · rw [b_X6_setOn_u_r1, o 7 (by decide)]; exact (pk_un (by decide)).trans z3
  · rw [b_X6_setOn_u_r1, pk_us]; exact pk_us
  · rw [b_X6_setOn_u_r1, o 9 (by decide)]; exact (pk_un (by decide)).trans z5
  · rw [b_X6_setOn_u_r2, b_X6_setOn_u_r6]; exact h.w0.ag (a _ _ (by decide)) (o 4 (by decide)) (k 0 (by decide))
  · rw [b_X6_setOn_u_r3, b_X6_setOn_u_r7]; exact h.w1.ag (a _ _ (by decide)) (o 4 (by decide)) (k 1 (by decide))
  · rw [b_X6_setOn_u_r4, b_X6_setOn_u_r8]; exact h.w2.ag (a _ _ (by decide)) (o 4 (by decide)) (k 2 (by decide))
  · rw [b_X6_setOn_u_r5, b_X6_setOn_u_r9]; exact h.w3.ag (a _ _ (by decide)) (o 4 (by decide)) (k 3 (by decide))
  · rw [o 3 (by decide)]; exact q3
  · rw [o 4 (by decide)]; exact q4
  · rw [o 7 (by decide)]; exact q7
  · rw [pk_us]; exact bO
  · rw [o 9 (by decide)]; exact q9
  · rw [o 0 (by decide)]; exact h.bV
  · rw [o 0 (by decide), o _ (by omega)]; exact h.bW j hj
