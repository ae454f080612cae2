/-! the values told -/
theorem val_seg {tb : Int} {u : CarS} {n : F1} {ix k : Nat} (h : RC tb u n) (hi : ix < sN n) (hk : k < 3) : f_X6_segment u ix (nI k) = f_X7_segment_ok n ix k := by
  obtain ⟨x1, x2, x3⟩ := h.r.2 ix (by have := h.r.1; omega)
  unfold f_X6_segment f_X3_value f_X7_segment_ok
  rcases (show k = 0 ∨ k = 1 ∨ k = 2 by omega) with e | e | e <;> subst e
  · rw [if_pos (by decide), x1]; rfl
  · rw [if_neg (by decide), if_pos (by decide), x2]; exact congrArg n (by omega)
  · rw [if_neg (by decide), if_neg (by decide), x3]; exact congrArg n (by omega)
theorem val_ev {tb : Int} {u : CarS} {n : F1} {ix k : Nat} (h : RC tb u n) (hi : ix < eN n) (hk : k < 3) : f_X6_event u ix (nI k) = f_X7_event_ok n ix k := by
  obtain ⟨x1, x2, x3⟩ := h.L.2.2 ix (by have : u.2 1 = eN n := h.L.2.1; show ix < u.2 1; omega)
  unfold f_X6_event f_X2_value f_X7_event_ok
  rcases (show k = 0 ∨ k = 1 ∨ k = 2 by omega) with e | e | e <;> subst e
  · rw [if_pos (by decide)]; exact x1
  · rw [if_neg (by decide), if_pos (by decide)]; exact x2.trans (congrArg n (by omega))
  · rw [if_neg (by decide), if_neg (by decide)]; exact x3.trans (congrArg n (by omega))
