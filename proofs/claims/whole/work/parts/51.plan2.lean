theorem RC.plan {tb : Int} {u v : CarS} {n m : F1} (h : RC tb u n) (a : ∀ q, q < 111 ∨ 132 ≤ q → q < 253 → m q = n q) (e : ∀ i, i < 16 → v.1 i = u.1 i) (e2 : ∀ i, i < 3 → v.2 i = u.2 i) (b : 0 ≤ (m 111).toInt ∧ (m 111).toInt ≤ 10) (r : Rp (v.2 3) (v.1 16) (v.1 17) m) (s : SP m) : RC tb v m := by
  have hM := h.M
  have k : ∀ j, j < 4 → kN j n ≤ 5 := fun j hj => (kN_eq hM hj).2
  have o : ∀ q, q < 111 → m q = n q := fun q x => a q (by omega) (by omega)
  have aw : ∀ j, j < 4 → Ag (10 + 16 * j) (26 + 16 * j) n m := fun j hj q x y => o q (by omega)
  refine ⟨⟨?_, b, ?_, fun j hj => ?_⟩, ?_, ?_, ?_, ?_, ?_, ?_, ?_, ?_, ?_, ?_, ?_, r, ?_, ?_, fun j hj => ?_, ?_, s⟩
  · rw [o 74 (by omega)]; exact hM.1
  · rw [a 132 (by omega) (by omega)]; exact hM.2.2.1
  · rw [o _ (by omega)]; exact hM.2.2.2 j hj
  · rw [e 0 (by decide), o 0 (by decide)]; exact h.c0
  · rw [e 0 (by decide), o 1 (by decide)]; exact h.c1
  · rw [e 0 (by decide), o 2 (by decide)]; exact h.c2
  · rw [e 0 (by decide), o 3 (by decide)]; exact h.c3
  · rw [e 1 (by decide)]; exact h.z.ag (fun q x y => o q (by omega))
  · rw [e 2 (by decide), e 6 (by decide)]; exact h.w0.ag (aw 0 (by decide)) (o 4 (by decide)) (k 0 (by decide))
  · rw [e 3 (by decide), e 7 (by decide)]; exact h.w1.ag (aw 1 (by decide)) (o 4 (by decide)) (k 1 (by decide))
  · rw [e 4 (by decide), e 8 (by decide)]; exact h.w2.ag (aw 2 (by decide)) (o 4 (by decide)) (k 2 (by decide))
  · rw [e 5 (by decide), e 9 (by decide)]; exact h.w3.ag (aw 3 (by decide)) (o 4 (by decide)) (k 3 (by decide))
  · rw [e 10 (by decide), e 11 (by decide), e 12 (by decide), e2 0 (by decide), e2 1 (by decide)]; exact h.L.ag (fun q x y => a q (by omega) (by omega)) (eN_eq hM).2
  · rw [e 13 (by decide), e 14 (by decide), e 15 (by decide), e2 2 (by decide)]; exact h.r.ag (fun q x y => o q (by omega)) (sN_eq hM).2.2
  · unfold I9; rw [o 3 (by decide), o 4 (by decide), o 7 (by decide), o 8 (by decide), o 9 (by decide)]; exact h.i9
  · rw [o 0 (by decide)]; exact h.bV
  · rw [o 0 (by decide), o _ (by omega)]; exact h.bW j hj
  · exact h.sr.ag (fun q x y => o q (by omega)) (sN_eq hM).2.2
theorem plan_e (u : CarS) (V U : Int32) : (∀ i, i < 16 → (b_X6_plan_u u V U).1 i = u.1 i) ∧ ∀ i, i < 3 → (b_X6_plan_u u V U).2 i = u.2 i := by
  refine ⟨fun i h1 => ?_, fun i h1 => ?_⟩
  · rcases (show i = 0 ∨ i = 1 ∨ i = 2 ∨ i = 3 ∨ i = 4 ∨ i = 5 ∨ i = 6 ∨ i = 7 ∨ i = 8 ∨ i = 9 ∨ i = 10 ∨ i = 11 ∨ i = 12 ∨ i = 13 ∨ i = 14 ∨ i = 15 by omega) with e | e | e | e | e | e | e | e | e | e | e | e | e | e | e | e <;> subst e
    · exact b_X6_plan_u_r0 ..
    · exact b_X6_plan_u_r1 ..
    · exact b_X6_plan_u_r2 ..
    · exact b_X6_plan_u_r3 ..
    · exact b_X6_plan_u_r4 ..
    · exact b_X6_plan_u_r5 ..
    · exact b_X6_plan_u_r6 ..
    · exact b_X6_plan_u_r7 ..
    · exact b_X6_plan_u_r8 ..
    · exact b_X6_plan_u_r9 ..
    · exact b_X6_plan_u_r10 ..
    · exact b_X6_plan_u_r11 ..
    · exact b_X6_plan_u_r12 ..
    · exact b_X6_plan_u_r13 ..
    · exact b_X6_plan_u_r14 ..
    · exact b_X6_plan_u_r15 ..
  · rcases (show i = 0 ∨ i = 1 ∨ i = 2 by omega) with e | e | e <;> subst e
    · exact b_X6_plan_u_n0 ..
    · exact b_X6_plan_u_n1 ..
    · exact b_X6_plan_u_n2 ..
theorem st_planned {tb : Int} {u : CarS} {n : F1} {V U : Int32} (h : RC tb u n) (h9 : pN n ≤ 9) (bU : bd U 0 2000) : RC tb (b_X6_plan_u u V U) (f_X7_plan_ok_a n V U) := by
  have hM := h.M
  obtain ⟨hn, h10⟩ := pN_eq hM
  have hc := h.p.1
  have eT : u.1 0 2 + V = n 2 + V := by rw [h.c2]
  obtain ⟨hp, hl, hg⟩ := unt_spec (T := n 2 + V) hM h.p
  have ep := plK_eq (T := n 2 + V) hM h.p h.sp
  have hK := plK_le (n := n) (n 2 + V)
  obtain ⟨T, eTT⟩ : ∃ T, T = n 2 + V := ⟨_, rfl⟩
  rw [← eTT] at eT hp hl hg ep hK
  obtain ⟨p, epp⟩ : ∃ p, p = unt (u.2 3) (u.1 16) T := ⟨_, rfl⟩
  rw [← epp] at hp hl hg ep
  obtain ⟨m, em⟩ : ∃ m, m = f_X7_plan_ok_a n V U := ⟨_, rfl⟩
  have em' : m = upd (upd (upd (va_cpy n n (112 + 2 * p) (114 + 2 * p) (2 * (pN n - p))) (112 + 2 * p) T) (113 + 2 * p) U) 111 (nI (pN n + 1)) := by
    rw [em]
    unfold f_X7_plan_ok_a v_X7_plan_ok_5 v_X7_plan_ok_4
    rw [← eTT, ep, show plK n T = pN n - p by omega]
  rw [← em]
  have o : ∀ q, q < 112 + 2 * p ∨ 114 + 2 * pN n ≤ q → q ≠ 111 → m q = n q := fun q x y => by
    rw [em', pk_un (by omega), pk_un (by omega), pk_un (by omega)]
    rcases x with x | x
    · exact cpy_lo (by omega)
    · exact cpy_hi (by omega)
  have m111 : m 111 = nI (pN n + 1) := by rw [em', pk_us]
  have oh : ∀ q, 114 + 2 * p ≤ q → q < 114 + 2 * pN n → m q = n (q - 2) := fun q x y => by
    rw [em', pk_un (by omega), pk_un (by omega), pk_un (by omega)]
    unfold va_cpy
    rw [if_pos (by omega)]
    exact congrArg n (by omega)
  have mp0 : m (112 + 2 * p) = T := by rw [em', pk_un (by omega), pk_un (by omega), pk_us]
  have mp1 : m (113 + 2 * p) = U := by rw [em', pk_un (by omega), pk_us]
  have eN : pN m = pN n + 1 := by unfold pN at *; rw [m111, nI_clamp (by omega)]
  have ecn : (b_X6_plan_u u V U).2 3 = u.2 3 + 1 := by rw [b_X6_plan_u_n3]; rfl
  have val : ∀ i, i ≤ pN n → m (112 + 2 * i) = (if i < p then n (112 + 2 * i) else if i = p then T else n (112 + 2 * (i - 1))) ∧ m (113 + 2 * i) = (if i < p then n (113 + 2 * i) else if i = p then U else n (113 + 2 * (i - 1))) := by
    intro i hi
    rcases Nat.lt_trichotomy i p with c | c | c
    · rw [if_pos c, if_pos c]; exact ⟨o _ (by omega) (by omega), o _ (by omega) (by omega)⟩
    · rw [if_neg (by omega), if_pos c, if_neg (by omega), if_pos c, c]; exact ⟨mp0, mp1⟩
    · rw [if_neg (by omega), if_neg (by omega), if_neg (by omega), if_neg (by omega), oh _ (by omega) (by omega), oh _ (by omega) (by omega)]; exact ⟨congrArg n (by omega), congrArg n (by omega)⟩
  refine h.plan (fun q x y => o q (by omega) (by omega)) (plan_e u V U).1 (plan_e u V U).2 (by rw [m111, nI_toInt (by omega)]; omega) ⟨?_, fun i hi => ?_⟩ ⟨fun i j hij hj => ?_, fun i hi => ?_⟩
  · rw [ecn, eN, hc]
  · rw [ecn] at hi
    rw [b_X6_plan_u_r16, b_X6_plan_u_r17, (val i (by omega)).1, (val i (by omega)).2]
    unfold f_X6_plan_ad20 f_X6_plan_ad21 f_X4_put_t f_X4_put_d f_X4_shift_t f_X4_shift_d
    rw [eT, ← epp]
    rcases Nat.lt_trichotomy i p with c | c | c
    · rw [pk_un (by omega), pk_un (by omega), cpy_lo (by omega), cpy_lo (by omega), if_pos c, if_pos c]; exact h.p.2 i (by omega)
    · rw [if_neg (by omega), if_pos c, if_neg (by omega), if_pos c, c, pk_us, pk_us]; exact ⟨rfl, rfl⟩
    · rw [if_neg (by omega), if_neg (by omega), if_neg (by omega), if_neg (by omega), pk_un (by omega), pk_un (by omega)]
      unfold va_cpy
      rw [if_pos (by omega), if_pos (by omega), show p + (i - (p + 1)) = i - 1 by omega]
      exact h.p.2 (i - 1) (by omega)
  · rw [eN] at hj
    rw [(val i (by omega)).1, (val j (by omega)).1]
    rcases Nat.lt_trichotomy j p with c | c | c
    · rw [if_pos (show i < p by omega), if_pos c]; exact h.sp.1 i j hij (by omega)
    · rw [if_pos (show i < p by omega), if_neg (show ¬ j < p by omega), if_pos c]; exact hl i (by omega)
    · rw [if_neg (show ¬ j < p by omega), if_neg (show ¬ j = p by omega)]
      have g := hg (by omega)
      have w : (n (112 + 2 * p)).toInt ≤ (n (112 + 2 * (j - 1))).toInt := by
        by_cases d : j - 1 = p
        · rw [d]; exact Int.le_refl _
        · exact h.sp.1 p (j - 1) (by omega) (by omega)
      rcases Nat.lt_trichotomy i p with d | d | d
      · rw [if_pos d]; exact h.sp.1 i (j - 1) (by omega) (by omega)
      · rw [if_neg (show ¬ i < p by omega), if_pos d]; omega
      · rw [if_neg (show ¬ i < p by omega), if_neg (show ¬ i = p by omega)]; exact h.sp.1 (i - 1) (j - 1) (by omega) (by omega)
  · rw [eN] at hi
    rw [(val i (by omega)).2]
    split
    · exact h.sp.2 i (by omega)
    · split
      · exact bU
      · exact h.sp.2 (i - 1) (by omega)
