/-! the place of a segment -/
theorem plc_spec {cn : Nat} {rs rl rr n : F1} {a : Int32} (hM : MOK n) (h : Rr cn rs rl rr n) : plc cn rs a ≤ sN n ∧ (∀ i, i < plc cn rs a → (n (75 + 3 * i)).toInt < a.toInt) ∧ (plc cn rs a < sN n → a.toInt ≤ (n (75 + 3 * plc cn rs a)).toInt) := by
  obtain ⟨hn, h1, h12⟩ := sN_eq hM
  have hc := h.1
  have hall := scan_all (P := plcP cn rs a) 12 0
  have key : ∀ i, i < plc cn rs a → i < cn ∧ rs i < a := by
    intro i hi
    have := hall i (Nat.zero_le _) hi
    simpa only [plcP, Bool.and_eq_true, decide_eq_true_eq] using this
  refine ⟨?_, fun i hi => ?_, fun hp => ?_⟩
  · rcases Nat.eq_zero_or_pos (plc cn rs a) with z | z
    · omega
    · have := (key (plc cn rs a - 1) (by omega)).1; omega
  · have k := key i hi
    rw [← (h.2 i k.1).1]; exact lt_iff.mp k.2
  · have := scan_end (P := plcP cn rs a) 12 0 (by show plc cn rs a < 0 + 12; omega)
    rw [show scanB (plcP cn rs a) 12 0 = plc cn rs a from rfl] at this
    rcases Int.lt_or_le (n (75 + 3 * plc cn rs a)).toInt a.toInt with q | q
    · rw [← (h.2 _ (by omega)).1] at q
      have e : plcP cn rs a (plc cn rs a) = true := by
        simp only [plcP, Bool.and_eq_true, decide_eq_true_eq]; exact ⟨by omega, lt_iff.mpr q⟩
      rw [e] at this; cases this
    · exact q
theorem sgA_is {n : F1} {a : Int32} {p : Nat} (hp : p ≤ sN n) (hl : ∀ i, i < p → (n (75 + 3 * i)).toInt < a.toInt) (hg : p < sN n → a.toInt ≤ (n (75 + 3 * p)).toInt) (hS : SR n) : ∀ k, k ≤ sN n → sgA n a k = if k ≤ p then k else p
  | 0, _ => by rw [if_pos (Nat.zero_le _)]; rfl
  | k + 1, hk => by
    show sgA n a k + (if a ≤ n (75 + 3 * k) then 0 else 1) = _
    rw [sgA_is hp hl hg hS k (by omega)]
    by_cases c : k < p
    · have : ¬ a ≤ n (75 + 3 * k) := fun q => by have := le_iff.mp q; have := hl k c; omega
      rw [if_neg this, if_pos (show k ≤ p by omega), if_pos (show k + 1 ≤ p by omega)]
    · have : a ≤ n (75 + 3 * k) := le_iff.mpr (by
        have g := hg (by omega)
        by_cases e : k = p
        · rw [e]; exact g
        · have := hS p k (by omega) (by omega); omega)
      rw [if_pos this, if_neg (show ¬ k + 1 ≤ p by omega)]
      split <;> omega
theorem sgS_is {n : F1} {a : Int32} {p : Nat} (hp : p ≤ sN n) (hl : ∀ i, i < p → (n (75 + 3 * i)).toInt < a.toInt) (hg : p < sN n → a.toInt ≤ (n (75 + 3 * p)).toInt) (hS : SR n) : ∀ k, k ≤ sN n → sgS n a k = if p < k ∧ n (75 + 3 * p) = a then nI p else -1
  | 0, _ => by rw [if_neg (fun q => by omega)]; rfl
  | k + 1, hk => by
    show (if n (75 + 3 * k) = a then nI k else sgS n a k) = _
    rw [sgS_is hp hl hg hS k (by omega)]
    by_cases c : n (75 + 3 * k) = a
    · have e : k = p := by
        rcases Nat.lt_trichotomy k p with q | q | q
        · have := hl k q; rw [c] at this; omega
        · exact q
        · have := hg (by omega); have := hS p k q (by omega); rw [c] at this; omega
      subst e
      rw [if_pos c, if_pos ⟨by omega, c⟩]
    · rw [if_neg c]
      by_cases d : p < k ∧ n (75 + 3 * p) = a
      · rw [if_pos d, if_pos ⟨by omega, d.2⟩]
      · rw [if_neg d, if_neg]
        rintro ⟨x, y⟩
        by_cases e : k = p
        · subst e; exact c y
        · exact d ⟨by omega, y⟩
theorem seg_eq {cn : Nat} {rs rl rr n : F1} {a : Int32} (hM : MOK n) (h : Rr cn rs rl rr n) (hS : SR n) : plc cn rs a = sgA n a (sN n) ∧ (f_X3_isStart cn rs (plc cn rs a) a = 0 ↔ sgS n a (sN n) = -1) := by
  obtain ⟨hn, h1, h12⟩ := sN_eq hM
  obtain ⟨hp, hl, hg⟩ := plc_spec (a := a) hM h
  have hc := h.1
  refine ⟨?_, ?_⟩
  · rw [sgA_is hp hl hg hS _ (Nat.le_refl _)]; split <;> omega
  · rw [sgS_is hp hl hg hS _ (Nat.le_refl _)]
    unfold f_X3_isStart
    by_cases c : plc cn rs a < sN n
    · have z : ¬ nI cn ≤ nI (plc cn rs a) := fun q => by have := le_iff.mp q; rw [nI_toInt (by omega), nI_toInt (by omega)] at this; omega
      rw [if_neg z, (h.2 _ (by omega)).1]
      by_cases d : n (75 + 3 * plc cn rs a) = a
      · rw [if_pos d, if_pos ⟨c, d⟩]
        refine ⟨fun q => absurd q (by decide), fun q => ?_⟩
        have z := congrArg Int32.toInt q
        rw [nI_toInt (by omega)] at z
        rw [show (-1 : Int32).toInt = -1 from rfl] at z
        omega
      · rw [if_neg d, if_neg (fun q => d q.2)]; exact ⟨fun _ => rfl, fun _ => rfl⟩
    · have z : nI cn ≤ nI (plc cn rs a) := le_iff.mpr (by rw [nI_toInt (by omega), nI_toInt (by omega)]; omega)
      rw [if_pos z, if_neg (show ¬ (plc cn rs a < sN n ∧ n (75 + 3 * plc cn rs a) = a) from fun q => c q.1)]; exact ⟨fun _ => rfl, fun _ => rfl⟩
