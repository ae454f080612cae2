/-! the events: a ring against a row that is shifted -/
abbrev LogS : Type := Nat × Nat × F1 × F1 × F1
def addL (L : LogS) (T kd vl : Int32) : LogS := (f_X2_add_h_fi L.1 L.2.1, f_X2_add_h_lc L.2.1, f_X2_add_t L.1 L.2.1 L.2.2.1 T, f_X2_add_k L.1 L.2.1 L.2.2.2.1 kd, f_X2_add_v L.1 L.2.1 L.2.2.2.2 vl)
def Rl (L : LogS) (n : F1) : Prop := L.1 < 40 ∧ L.2.1 = eN n ∧ ∀ i, i < L.2.1 → L.2.2.1 ((L.1 + i) % 40) = n (133 + 3 * i) ∧ L.2.2.2.1 ((L.1 + i) % 40) = n (134 + 3 * i) ∧ L.2.2.2.2 ((L.1 + i) % 40) = n (135 + 3 * i)
theorem eN_ag {n m : F1} (h : Ag 132 253 n m) : eN m = eN n := by unfold eN; rw [h 132 (by omega) (by omega)]
theorem Rl.ag {L : LogS} {n m : F1} (h : Rl L n) (a : Ag 132 253 n m) (he : eN n ≤ 40) : Rl L m := by
  refine ⟨h.1, by rw [eN_ag a]; exact h.2.1, fun i hi => ?_⟩
  have hi' : i < 40 := by have := h.2.1; omega
  rw [a _ (by omega) (by omega), a _ (by omega) (by omega), a _ (by omega) (by omega)]
  exact h.2.2 i hi
theorem lz_e (n : F1) (kd vl : Int32) : f_X7_logs_a n kd vl 132 = nI (eM n + 1) := pk_us
theorem lz_2 {n : F1} {q : Nat} (hM : MOK n) (hq : q < 3 * eM n) : v_X7_logs_2 n (133 + q) = n (133 + q + (if n 132 = 40 then 3 else 0)) := by
  have h39 := eM_le hM
  unfold v_X7_logs_2
  by_cases c : n 132 = 40
  · rw [if_pos c, if_pos c, pk_un (by omega)]
    unfold va_cpy
    rw [if_pos (by omega)]; exact congrArg n (by omega)
  · rw [if_neg c, if_neg c]; rfl
theorem lz_old {n : F1} (hM : MOK n) (kd vl : Int32) {q : Nat} (hq : q < 3 * eM n) : f_X7_logs_a n kd vl (133 + q) = n (133 + q + (if n 132 = 40 then 3 else 0)) := by
  unfold f_X7_logs_a v_X7_logs_4
  rw [pk_un (by omega), pk_un (by omega), pk_un (by omega), pk_un (by omega), lz_2 hM hq]
theorem lz_0 {n : F1} (kd vl : Int32) : f_X7_logs_a n kd vl (133 + 3 * eM n) = n 2 := by
  unfold f_X7_logs_a v_X7_logs_4
  rw [pk_un (by omega), pk_un (by omega), pk_un (by omega), pk_us]
  unfold v_X7_logs_2
  split
  · rw [pk_un (by omega), cpy_lo (by omega)]
  · rfl
theorem lz_1 {n : F1} (kd vl : Int32) : f_X7_logs_a n kd vl (134 + 3 * eM n) = kd := by
  unfold f_X7_logs_a v_X7_logs_4
  rw [pk_un (by omega), pk_un (by omega), show 134 + 3 * eM n = 133 + 3 * eM n + 1 by omega, pk_us]
theorem lz_3 {n : F1} (kd vl : Int32) : f_X7_logs_a n kd vl (135 + 3 * eM n) = vl := by
  unfold f_X7_logs_a v_X7_logs_4
  rw [pk_un (by omega), show 135 + 3 * eM n = 133 + 3 * eM n + 2 by omega, pk_us]
theorem md {a b c : Nat} (ha : a < 40) (hb : b ≤ 40) (hc : c ≤ 40) (h : (a + b) % 40 = (a + c) % 40) : b = c ∨ (b = 0 ∧ c = 40) ∨ (b = 40 ∧ c = 0) := by omega
theorem st_log {L : LogS} {n : F1} {T kd vl : Int32} (hM : MOK n) (hT : T = n 2) (h : Rl L n) : Rl (addL L T kd vl) (f_X7_logs_a n kd vl) := by
  obtain ⟨fi, lc, lt, lk, lv⟩ := L
  obtain ⟨h1, h2, h3⟩ := h
  dsimp only at h1 h2 h3
  obtain ⟨hn, h40⟩ := eN_eq hM
  have h39 := eM_le hM
  have ee : eN (f_X7_logs_a n kd vl) = eM n + 1 := by unfold eN; rw [lz_e, nI_clamp (by omega)]
  have c40 : (40 ≤ nI lc) ↔ lc = 40 := by
    exact (nI_leI (a := 40) (b := lc) (by decide) (by omega)).trans (by omega)
  by_cases c : lc = 40
  · have e40 : n 132 = 40 := by rw [hn, ← h2, c]; rfl
    have em : eM n = 39 := by unfold eM; rw [if_pos e40]
    have hadd : addL (fi, lc, lt, lk, lv) T kd vl = ((fi + 1) % 40, 40, upd lt fi T, upd lk fi kd, upd lv fi vl) := by
      unfold addL f_X2_add_h_fi f_X2_add_h_lc f_X2_add_t f_X2_add_k f_X2_add_v
      dsimp only
      rw [if_pos (c40.mpr c), if_pos (c40.mpr c), c, show (fi + 40) % 40 = fi by omega]
    rw [hadd]
    refine ⟨Nat.mod_lt _ (by decide), by rw [ee, em], fun i hi => ?_⟩
    dsimp only at hi ⊢
    by_cases e : i = 39
    · subst e
      have hp : ((fi + 1) % 40 + 39) % 40 = fi := by omega
      rw [hp, pk_us, pk_us, pk_us, show (133 + 3 * 39) = 133 + 3 * eM n by rw [em], show (134 + 3 * 39) = 134 + 3 * eM n by rw [em], show (135 + 3 * 39) = 135 + 3 * eM n by rw [em], lz_0, lz_1, lz_3]
      exact ⟨hT, rfl, rfl⟩
    · have hp : ((fi + 1) % 40 + i) % 40 = (fi + (i + 1)) % 40 := by omega
      have hne : (fi + (i + 1)) % 40 ≠ fi := by omega
      obtain ⟨a1, a2, a3⟩ := h3 (i + 1) (by omega)
      rw [hp, pk_un hne, pk_un hne, pk_un hne, a1, a2, a3, lz_old hM kd vl (q := 3 * i) (by omega), show 134 + 3 * i = 133 + (3 * i + 1) by omega, lz_old hM kd vl (q := 3 * i + 1) (by omega), show 135 + 3 * i = 133 + (3 * i + 2) by omega, lz_old hM kd vl (q := 3 * i + 2) (by omega), if_pos e40]
      exact ⟨congrArg n (by omega), congrArg n (by omega), congrArg n (by omega)⟩
  · have e40 : ¬ n 132 = 40 := fun z => c (by
      have : nI (eN n) = nI 40 := by rw [← hn]; exact z
      rw [h2]; exact (nI_eq (by omega) (by decide)).mp this)
    have em : eM n = lc := by unfold eM; rw [if_neg e40, h2]
    have hadd : addL (fi, lc, lt, lk, lv) T kd vl = (fi, lc + 1, upd lt ((fi + lc) % 40) T, upd lk ((fi + lc) % 40) kd, upd lv ((fi + lc) % 40) vl) := by
      unfold addL f_X2_add_h_fi f_X2_add_h_lc f_X2_add_t f_X2_add_k f_X2_add_v
      dsimp only
      rw [if_neg (fun z => c (c40.mp z)), if_neg (fun z => c (c40.mp z))]
    rw [hadd]
    refine ⟨h1, by rw [ee, em], fun i hi => ?_⟩
    dsimp only at hi ⊢
    by_cases e : i = lc
    · subst e
      rw [pk_us, pk_us, pk_us, ← em, lz_0, lz_1, lz_3]
      exact ⟨hT, rfl, rfl⟩
    · have hne : (fi + i) % 40 ≠ (fi + lc) % 40 := fun z => by have := md h1 (by omega) (by omega) z; omega
      obtain ⟨a1, a2, a3⟩ := h3 i (by omega)
      rw [pk_un hne, pk_un hne, pk_un hne, a1, a2, a3, lz_old hM kd vl (q := 3 * i) (by omega), show 134 + 3 * i = 133 + (3 * i + 1) by omega, lz_old hM kd vl (q := 3 * i + 1) (by omega), show 135 + 3 * i = 133 + (3 * i + 2) by omega, lz_old hM kd vl (q := 3 * i + 2) (by omega), if_neg e40]
      exact ⟨rfl, rfl, rfl⟩
theorem lz_ag {n : F1} (kd vl : Int32) : Ag 0 132 n (f_X7_logs_a n kd vl) := fun q _ h => logs_lo n kd vl q h
/-! the class's steps, a wheel at a time -/
def susW (z w fm : F1) : F1 := if w 7 = 0 then f_X1_suspect_0_a0 z w fm else w
def susL (T vl : Int32) (z w fm : F1) (L : LogS) : LogS := if w 7 = 0 then (if v_X1_suspect_0_3 z w fm = 25 then addL L T 1 vl else L) else L
theorem susW_eq (z w0 w1 w2 w3 f0 f1 f2 f3 : F1) : f_X1_suspectWheels_a0 z w0 f0 = susW z w0 f0 ∧ f_X1_suspectWheels_a1 z w1 f1 = susW z w1 f1 ∧ f_X1_suspectWheels_a2 z w2 f2 = susW z w2 f2 ∧ f_X1_suspectWheels_a3 z w3 f3 = susW z w3 f3 := ⟨rfl, rfl, rfl, rfl⟩
section
variable (fi lc : Nat) (z w0 w1 w2 w3 f0 f1 f2 f3 lt lk lv : F1) (T : Int32)
theorem susL0 : (v_X1_suspectWheels_2 fi lc z w0 f0, v_X1_suspectWheels_3 lc z w0 f0, v_X1_suspectWheels_4 fi lc z w0 f0 lt T, v_X1_suspectWheels_5 fi lc z w0 f0 lk, v_X1_suspectWheels_6 fi lc z w0 f0 lv) = susL T 0 z w0 f0 (fi, lc, lt, lk, lv) := by
  unfold susL v_X1_suspectWheels_2 v_X1_suspectWheels_3 v_X1_suspectWheels_4 v_X1_suspectWheels_5 v_X1_suspectWheels_6
  by_cases c : w0 7 = 0
  · simp only [if_pos c]
    unfold f_X1_suspect_0_al_fi f_X1_suspect_0_al_lc f_X1_suspect_0_t f_X1_suspect_0_k f_X1_suspect_0_v
    by_cases d : v_X1_suspect_0_3 z w0 f0 = 25
    · simp only [if_pos d]; rfl
    · simp only [if_neg d]
  · simp only [if_neg c]
theorem susL1 : (v_X1_suspectWheels_16 fi lc z w0 w1 f0 f1, v_X1_suspectWheels_17 lc z w0 w1 f0 f1, v_X1_suspectWheels_18 fi lc z w0 w1 f0 f1 lt T, v_X1_suspectWheels_19 fi lc z w0 w1 f0 f1 lk, v_X1_suspectWheels_20 fi lc z w0 w1 f0 f1 lv) = susL T 1 z w1 f1 (susL T 0 z w0 f0 (fi, lc, lt, lk, lv)) := by
  rw [← susL0]
  unfold susL v_X1_suspectWheels_16 v_X1_suspectWheels_17 v_X1_suspectWheels_18 v_X1_suspectWheels_19 v_X1_suspectWheels_20 v_X1_suspectWheels_10 v_X1_suspectWheels_12 v_X1_suspectWheels_13 v_X1_suspectWheels_14
  by_cases c : w1 7 = 0
  · simp only [if_pos c]
    unfold f_X1_suspect_1_al_fi f_X1_suspect_1_al_lc f_X1_suspect_1_t f_X1_suspect_1_k f_X1_suspect_1_v
    have e : v_X1_suspect_1_3 z w1 f1 = v_X1_suspect_0_3 z w1 f1 := rfl
    rw [e]
    by_cases d : v_X1_suspect_0_3 z w1 f1 = 25
    · simp only [if_pos d]; rfl
    · simp only [if_neg d]
  · simp only [if_neg c]
theorem susL2 : (v_X1_suspectWheels_30 fi lc z w0 w1 w2 f0 f1 f2, v_X1_suspectWheels_31 lc z w0 w1 w2 f0 f1 f2, v_X1_suspectWheels_32 fi lc z w0 w1 w2 f0 f1 f2 lt T, v_X1_suspectWheels_33 fi lc z w0 w1 w2 f0 f1 f2 lk, v_X1_suspectWheels_34 fi lc z w0 w1 w2 f0 f1 f2 lv) = susL T 2 z w2 f2 (susL T 1 z w1 f1 (susL T 0 z w0 f0 (fi, lc, lt, lk, lv))) := by
  rw [← susL1]
  unfold susL v_X1_suspectWheels_30 v_X1_suspectWheels_31 v_X1_suspectWheels_32 v_X1_suspectWheels_33 v_X1_suspectWheels_34 v_X1_suspectWheels_24 v_X1_suspectWheels_26 v_X1_suspectWheels_27 v_X1_suspectWheels_28
  by_cases c : w2 7 = 0
  · simp only [if_pos c]
    unfold f_X1_suspect_2_al_fi f_X1_suspect_2_al_lc f_X1_suspect_2_t f_X1_suspect_2_k f_X1_suspect_2_v
    have e : v_X1_suspect_2_3 z w2 f2 = v_X1_suspect_0_3 z w2 f2 := rfl
    rw [e]
    by_cases d : v_X1_suspect_0_3 z w2 f2 = 25
    · simp only [if_pos d]; rfl
    · simp only [if_neg d]
  · simp only [if_neg c]
theorem susL3 : (f_X1_suspectWheels_al_fi fi lc z w0 w1 w2 w3 f0 f1 f2 f3, f_X1_suspectWheels_al_lc lc z w0 w1 w2 w3 f0 f1 f2 f3, f_X1_suspectWheels_t fi lc z w0 w1 w2 w3 f0 f1 f2 f3 lt T, f_X1_suspectWheels_k fi lc z w0 w1 w2 w3 f0 f1 f2 f3 lk, f_X1_suspectWheels_v fi lc z w0 w1 w2 w3 f0 f1 f2 f3 lv) = susL T 3 z w3 f3 (susL T 2 z w2 f2 (susL T 1 z w1 f1 (susL T 0 z w0 f0 (fi, lc, lt, lk, lv)))) := by
  rw [← susL2]
  unfold f_X1_suspectWheels_al_fi f_X1_suspectWheels_al_lc f_X1_suspectWheels_t f_X1_suspectWheels_k f_X1_suspectWheels_v susL v_X1_suspectWheels_44 v_X1_suspectWheels_45 v_X1_suspectWheels_46 v_X1_suspectWheels_47 v_X1_suspectWheels_48 v_X1_suspectWheels_38 v_X1_suspectWheels_40 v_X1_suspectWheels_41 v_X1_suspectWheels_42
  by_cases c : w3 7 = 0
  · simp only [if_pos c]
    unfold f_X1_suspect_3_al_fi f_X1_suspect_3_al_lc f_X1_suspect_3_t f_X1_suspect_3_k f_X1_suspect_3_v
    have e : v_X1_suspect_3_3 z w3 f3 = v_X1_suspect_0_3 z w3 f3 := rfl
    rw [e]
    by_cases d : v_X1_suspect_0_3 z w3 f3 = 25
    · simp only [if_pos d]; rfl
    · simp only [if_neg d]
  · simp only [if_neg c]
end
