theorem unt_spec {pn : Nat} {pt pd n : F1} {T : Int32} (hM : MOK n) (h : Rp pn pt pd n) : unt pn pt T ≤ pN n ∧ (∀ i, i < unt pn pt T → (n (112 + 2 * i)).toInt ≤ T.toInt) ∧ (unt pn pt T < pN n → T.toInt < (n (112 + 2 * unt pn pt T)).toInt) := by
  have h10 := (pN_eq hM).2
  have hc := h.1
  have hall := scan_all (P := untP pn pt T) 10 0
  have key : ∀ i, i < unt pn pt T → i < pn ∧ pt i ≤ T := by
    intro i hi
    have := hall i (Nat.zero_le _) hi
    simpa only [untP, Bool.and_eq_true, decide_eq_true_eq] using this
  refine ⟨?_, fun i hi => ?_, fun hp => ?_⟩
  · rcases Nat.eq_zero_or_pos (unt pn pt T) with z | z
    · omega
    · have := (key (unt pn pt T - 1) (by omega)).1; omega
  · have k := key i hi
    rw [← (h.2 i k.1).1]; exact le_iff.mp k.2
  · have := scan_end (P := untP pn pt T) 10 0 (by show unt pn pt T < 0 + 10; omega)
    rw [show scanB (untP pn pt T) 10 0 = unt pn pt T from rfl] at this
    rcases Int.lt_or_le T.toInt (n (112 + 2 * unt pn pt T)).toInt with q | q
    · exact q
    · rw [← (h.2 _ (by omega)).1] at q
      have e : untP pn pt T (unt pn pt T) = true := by
        simp only [untP, Bool.and_eq_true, decide_eq_true_eq]; exact ⟨by omega, le_iff.mpr q⟩
      rw [e] at this; cases this
theorem plK_eq {pn : Nat} {pt pd n : F1} {T : Int32} (hM : MOK n) (h : Rp pn pt pd n) (hS : SP n) : pN n - plK n T = unt pn pt T := by
  have h10 := (pN_eq hM).2
  obtain ⟨hp, hl, hg⟩ := unt_spec (T := T) hM h
  have hK := plK_le (n := n) T
  have hall := scan_all (P := plP n T) 10 0
  have k1 : ∀ i, i < plK n T → T.toInt < (n (110 + 2 * (pN n - i))).toInt := by
    intro i hi
    have := hall i (Nat.zero_le _) hi
    simp only [plP, Bool.and_eq_true, decide_eq_true_eq] at this
    rcases Int.lt_or_le T.toInt (n (110 + 2 * (pN n - i))).toInt with q | q
    · exact q
    · exact absurd (le_iff.mpr q) this.2
  have k2 : plK n T < pN n → (n (110 + 2 * (pN n - plK n T))).toInt ≤ T.toInt := by
    intro c
    have := scan_end (P := plP n T) 10 0 (by show plK n T < 0 + 10; omega)
    rw [show scanB (plP n T) 10 0 = plK n T from rfl] at this
    rcases Int.lt_or_le T.toInt (n (110 + 2 * (pN n - plK n T))).toInt with q | q
    · have e : plP n T (plK n T) = true := by
        simp only [plP, Bool.and_eq_true, decide_eq_true_eq]
        exact ⟨nI_nle (by omega) (by omega), fun z => by have := le_iff.mp z; omega⟩
      rw [e] at this; cases this
    · exact q
  rcases Nat.lt_trichotomy (pN n - plK n T) (unt pn pt T) with c | c | c
  · have a := hl _ c
    have b := k1 (plK n T - 1) (by omega)
    rw [show 110 + 2 * (pN n - (plK n T - 1)) = 112 + 2 * (pN n - plK n T) by omega] at b
    omega
  · exact c
  · have a := hg (by omega)
    have b := k2 (by omega)
    rw [show 110 + 2 * (pN n - plK n T) = 112 + 2 * (pN n - plK n T - 1) by omega] at b
    by_cases d : unt pn pt T = pN n - plK n T - 1
    · rw [d] at a; omega
    · have := hS.1 (unt pn pt T) (pN n - plK n T - 1) (by omega) (by omega); omega
