theorem st_seg_new {tb : Int} {u : CarS} {n : F1} {st_ lf rg : Int32} (h : RC tb u n) (hs : sgS n st_ (sN n) = -1) (h11 : sN n < 12) : RC tb (b_X6_addSegment_u u st_ lf rg) (f_X7_addSegment_new_a n st_ lf rg) := by
  have hM := h.M
  obtain ⟨hn, h1, h12⟩ := sN_eq hM
  have hc := h.r.1
  obtain ⟨hp, hl, hg⟩ := plc_spec (a := st_) hM h.r
  obtain ⟨ep, es⟩ := seg_eq (a := st_) hM h.r h.sr
  have hz : f_X3_isStart (u.2 2) (u.1 13) (plc (u.2 2) (u.1 13) st_) st_ = 0 := es.mpr hs
  have h12' : ¬ 12 ≤ nI (u.2 2) := fun q => by
    have := le_iff.mp q; rw [nI_toInt (by omega), show (12 : Int32).toInt = 12 from rfl] at this; omega
  have e0 := sgS_is hp hl hg h.sr _ (Nat.le_refl _)
  have hq : plc (u.2 2) (u.1 13) st_ < sN n → st_.toInt < (n (75 + 3 * plc (u.2 2) (u.1 13) st_)).toInt := by
    intro c
    have g := hg c
    by_cases d : n (75 + 3 * plc (u.2 2) (u.1 13) st_) = st_
    · rw [if_pos ⟨c, d⟩, hs] at e0
      have z := congrArg Int32.toInt e0
      rw [nI_toInt (by omega), show (-1 : Int32).toInt = -1 from rfl] at z
      omega
    · have : (n (75 + 3 * plc (u.2 2) (u.1 13) st_)).toInt ≠ st_.toInt := fun q => d (tEq q)
      omega
  obtain ⟨p, epp⟩ : ∃ p, p = plc (u.2 2) (u.1 13) st_ := ⟨_, rfl⟩
  rw [← epp] at hp hl hg ep hq
  obtain ⟨m, em⟩ : ∃ m, m = f_X7_addSegment_new_a n st_ lf rg := ⟨_, rfl⟩
  have em' : m = upd (upd (upd (upd (va_cpy n n (75 + 3 * p) (78 + 3 * p) (3 * (sN n - p))) 74 (nI (sN n + 1))) (75 + 3 * p) st_) (75 + 3 * p + 1) lf) (75 + 3 * p + 2) rg := by
    rw [em]
    unfold f_X7_addSegment_new_a v_X7_addSegment_new_6 v_X7_addSegment_new_5
    rw [← ep, show 3 * sN n - 3 * (sN n - p) = 3 * p by omega]
  rw [← em]
  have o : ∀ q, q < 75 + 3 * p ∨ 78 + 3 * sN n ≤ q → q ≠ 74 → m q = n q := fun q x y => by
    rw [em', pk_un (by omega), pk_un (by omega), pk_un (by omega), pk_un (by omega)]
    rcases x with x | x
    · exact cpy_lo (by omega)
    · exact cpy_hi (by omega)
  have m74 : m 74 = nI (sN n + 1) := by rw [em', pk_un (by omega), pk_un (by omega), pk_un (by omega), pk_us]
  have oh : ∀ q, 78 + 3 * p ≤ q → q < 78 + 3 * sN n → m q = n (q - 3) := fun q x y => by
    rw [em', pk_un (by omega), pk_un (by omega), pk_un (by omega), pk_un (by omega)]
    unfold va_cpy
    rw [if_pos (by omega)]
    exact congrArg n (by omega)
  have mp0 : m (75 + 3 * p) = st_ := by rw [em', pk_un (by omega), pk_un (by omega), pk_us]
  have mp1 : m (76 + 3 * p) = lf := by rw [em', pk_un (by omega), show 76 + 3 * p = 75 + 3 * p + 1 by omega, pk_us]
  have mp2 : m (77 + 3 * p) = rg := by rw [em', show 77 + 3 * p = 75 + 3 * p + 2 by omega, pk_us]
  have eN : sN m = sN n + 1 := by unfold sN at *; rw [m74, nI_clamp (by omega)]
  have ecn : (b_X6_addSegment_u u st_ lf rg).2 2 = u.2 2 + 1 := by
    rw [b_X6_addSegment_u_n2]; unfold f_X6_addSegment_ad15_cn f_X3_put_h_cn; rw [if_pos hz, if_neg h12']
  refine h.road (fun q x y => o q (by omega) (by omega)) (seg_e u st_ lf rg).1 (seg_e u st_ lf rg).2 (by rw [m74, nI_toInt (by omega)]; omega) ⟨?_, fun i hi => ?_⟩ (fun i j hij hj => ?_)
  · rw [ecn, eN, hc]
  · rw [ecn] at hi
    rw [b_X6_addSegment_u_r13, b_X6_addSegment_u_r14, b_X6_addSegment_u_r15]
    unfold f_X6_addSegment_ad16 f_X6_addSegment_ad17 f_X6_addSegment_ad18 f_X3_put_s0 f_X3_put_l0 f_X3_put_r0
    rw [if_pos hz, if_pos hz, if_pos hz, if_neg h12', if_neg h12', if_neg h12']
    unfold v_X3_put_1 v_X3_put_2 v_X3_put_3 f_X3_setRow_s0 f_X3_setRow_l0 f_X3_setRow_r0 f_X3_shift_s0 f_X3_shift_l0 f_X3_shift_r0
    rw [← epp]
    rcases Nat.lt_trichotomy i p with c | c | c
    · obtain ⟨x1, x2, x3⟩ := h.r.2 i (by omega)
      rw [pk_un (by omega), pk_un (by omega), pk_un (by omega), o _ (by omega) (by omega), o _ (by omega) (by omega), o _ (by omega) (by omega), cpy_lo (by omega), cpy_lo (by omega), cpy_lo (by omega)]
      exact ⟨x1, x2, x3⟩
    · subst c
      rw [pk_us, pk_us, pk_us, mp0, mp1, mp2]
      exact ⟨rfl, rfl, rfl⟩
    · obtain ⟨x1, x2, x3⟩ := h.r.2 (i - 1) (by omega)
      rw [pk_un (by omega), pk_un (by omega), pk_un (by omega), oh _ (by omega) (by omega), oh _ (by omega) (by omega), oh _ (by omega) (by omega)]
      unfold va_cpy
      rw [if_pos (by omega), if_pos (by omega), if_pos (by omega), show p + (i - (p + 1)) = i - 1 by omega]
      exact ⟨x1.trans (congrArg n (by omega)), x2.trans (congrArg n (by omega)), x3.trans (congrArg n (by omega))⟩
  · rw [eN] at hj
    have val : ∀ i, i ≤ sN n → m (75 + 3 * i) = if i < p then n (75 + 3 * i) else if i = p then st_ else n (75 + 3 * (i - 1)) := by
      intro i hi
      rcases Nat.lt_trichotomy i p with c | c | c
      · rw [if_pos c]; exact o _ (by omega) (by omega)
      · rw [if_neg (by omega), if_pos c, c]; exact mp0
      · rw [if_neg (by omega), if_neg (by omega), oh _ (by omega) (by omega)]; exact congrArg n (by omega)
    rw [val i (by omega), val j (by omega)]
    rcases Nat.lt_trichotomy j p with c | c | c
    · rw [if_pos (show i < p by omega), if_pos c]; exact h.sr i j hij (by omega)
    · rw [if_pos (show i < p by omega), if_neg (show ¬ j < p by omega), if_pos c]; exact hl i (by omega)
    · rw [if_neg (show ¬ j < p by omega), if_neg (show ¬ j = p by omega)]
      have g := hq (by omega)
      have w : (n (75 + 3 * p)).toInt ≤ (n (75 + 3 * (j - 1))).toInt := by
        by_cases d : j - 1 = p
        · rw [d]; exact Int.le_refl _
        · have := h.sr p (j - 1) (by omega) (by omega); omega
      rcases Nat.lt_trichotomy i p with d | d | d
      · rw [if_pos d]; exact h.sr i (j - 1) (by omega) (by omega)
      · rw [if_neg (show ¬ i < p by omega), if_pos d]; omega
      · rw [if_neg (show ¬ i < p by omega), if_neg (show ¬ i = p by omega)]; exact h.sr (i - 1) (j - 1) (by omega) (by omega)
