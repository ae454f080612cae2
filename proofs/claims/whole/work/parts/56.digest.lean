/-! the digest -/
theorem mx_eq (h : Int64) (v : Int32) : f_X7_mix_o_h h v = f_X6_mix h v := rfl
theorem mx_car {tb : Int} {u : CarS} {n : F1} (h : RC tb u n) (x : Int64) : ∀ i, i ≤ 10 → mixCar u x i = mixC n x i
  | 0, _ => rfl
  | i + 1, hi => by
    show f_X6_mix (mixCar u x i) (f_X0_carValue u (nI i)) = f_X7_mix_o_h (mixC n x i) (f_X7_tellCar n i)
    rw [mx_car h x i (by omega), val_car h (by omega), mx_eq]
theorem mx_wh_0 {tb : Int} {u : CarS} {n : F1} (h : RC tb u n) (x : Int64) : ∀ i, i ≤ 12 → mixWh0 u x i = mixW n 0 x i
  | 0, _ => rfl
  | i + 1, hi => by
    show f_X6_mix (mixWh0 u x i) (f_X0_wheelValue_0 u (nI i)) = f_X7_mix_o_h (mixW n 0 x i) (f_X7_tellWheel n 0 i)
    rw [mx_wh_0 h x i (by omega), val_wheel_0 h (by omega), mx_eq]
theorem mx_w_0 {tb : Int} {u : CarS} {n : F1} (h : RC tb u n) (x : Int64) : f_X0_mixWheel_0 u x = f_X7_mix_o_h (f_X7_mix_o_h (mixW n 0 x 12) (f_X7_frictionAt n 0)) (n 19) := by
  unfold f_X0_mixWheel_0
  rw [mx_wh_0 h x 12 (Nat.le_refl _), asN (by rw [h.w0.1.1 9 (by decide)]; exact h.w0.2.1.2.2.2.2.1), h.w0.1.1 9 (by decide), mx_eq, mx_eq]
  have e : f_X0_gripOfWheel_0 (u.2 2) (u.1 0) (u.1 2) (u.1 13) (u.1 14) (u.1 15) = f_X7_frictionAt n 0 := val_fric_0 h
  rw [e]
theorem mx_wh_1 {tb : Int} {u : CarS} {n : F1} (h : RC tb u n) (x : Int64) : ∀ i, i ≤ 12 → mixWh1 u x i = mixW n 1 x i
  | 0, _ => rfl
  | i + 1, hi => by
    show f_X6_mix (mixWh1 u x i) (f_X0_wheelValue_1 u (nI i)) = f_X7_mix_o_h (mixW n 1 x i) (f_X7_tellWheel n 1 i)
    rw [mx_wh_1 h x i (by omega), val_wheel_1 h (by omega), mx_eq]
theorem mx_w_1 {tb : Int} {u : CarS} {n : F1} (h : RC tb u n) (x : Int64) : f_X0_mixWheel_1 u x = f_X7_mix_o_h (f_X7_mix_o_h (mixW n 1 x 12) (f_X7_frictionAt n 1)) (n 35) := by
  unfold f_X0_mixWheel_1
  rw [mx_wh_1 h x 12 (Nat.le_refl _), asN (by rw [h.w1.1.1 9 (by decide)]; exact h.w1.2.1.2.2.2.2.1), h.w1.1.1 9 (by decide), mx_eq, mx_eq]
  have e : f_X0_gripOfWheel_1 (u.2 2) (u.1 0) (u.1 3) (u.1 13) (u.1 14) (u.1 15) = f_X7_frictionAt n 1 := val_fric_1 h
  rw [e]
theorem mx_wh_2 {tb : Int} {u : CarS} {n : F1} (h : RC tb u n) (x : Int64) : ∀ i, i ≤ 12 → mixWh2 u x i = mixW n 2 x i
  | 0, _ => rfl
  | i + 1, hi => by
    show f_X6_mix (mixWh2 u x i) (f_X0_wheelValue_2 u (nI i)) = f_X7_mix_o_h (mixW n 2 x i) (f_X7_tellWheel n 2 i)
    rw [mx_wh_2 h x i (by omega), val_wheel_2 h (by omega), mx_eq]
theorem mx_w_2 {tb : Int} {u : CarS} {n : F1} (h : RC tb u n) (x : Int64) : f_X0_mixWheel_2 u x = f_X7_mix_o_h (f_X7_mix_o_h (mixW n 2 x 12) (f_X7_frictionAt n 2)) (n 51) := by
  unfold f_X0_mixWheel_2
  rw [mx_wh_2 h x 12 (Nat.le_refl _), asN (by rw [h.w2.1.1 9 (by decide)]; exact h.w2.2.1.2.2.2.2.1), h.w2.1.1 9 (by decide), mx_eq, mx_eq]
  have e : f_X0_gripOfWheel_2 (u.2 2) (u.1 0) (u.1 4) (u.1 13) (u.1 14) (u.1 15) = f_X7_frictionAt n 2 := val_fric_2 h
  rw [e]
theorem mx_wh_3 {tb : Int} {u : CarS} {n : F1} (h : RC tb u n) (x : Int64) : ∀ i, i ≤ 12 → mixWh3 u x i = mixW n 3 x i
  | 0, _ => rfl
  | i + 1, hi => by
    show f_X6_mix (mixWh3 u x i) (f_X0_wheelValue_3 u (nI i)) = f_X7_mix_o_h (mixW n 3 x i) (f_X7_tellWheel n 3 i)
    rw [mx_wh_3 h x i (by omega), val_wheel_3 h (by omega), mx_eq]
theorem mx_w_3 {tb : Int} {u : CarS} {n : F1} (h : RC tb u n) (x : Int64) : f_X0_mixWheel_3 u x = f_X7_mix_o_h (f_X7_mix_o_h (mixW n 3 x 12) (f_X7_frictionAt n 3)) (n 67) := by
  unfold f_X0_mixWheel_3
  rw [mx_wh_3 h x 12 (Nat.le_refl _), asN (by rw [h.w3.1.1 9 (by decide)]; exact h.w3.2.1.2.2.2.2.1), h.w3.1.1 9 (by decide), mx_eq, mx_eq]
  have e : f_X0_gripOfWheel_3 (u.2 2) (u.1 0) (u.1 5) (u.1 13) (u.1 14) (u.1 15) = f_X7_frictionAt n 3 := val_fric_3 h
  rw [e]
theorem mx_R (n : F1) (fr : Nat) (x : Int64) (i : Nat) : mixR n fr x (i + 1) = f_X6_mix (mixR n fr x i) (n (fr + i)) := rfl
theorem mx_ro {rs rl rr n : F1} {fr : Nat} (x : Int64) : ∀ i, (∀ q, q < i → rs q = n (fr + 1 + 3 * q) ∧ rl q = n (fr + 2 + 3 * q) ∧ rr q = n (fr + 3 + 3 * q)) → mixRo rs rl rr (f_X6_mix x (n fr)) i = mixR n fr x (1 + 3 * i)
  | 0, _ => rfl
  | i + 1, hq => by
    have ih := mx_ro x i (fun q h => hq q (by omega))
    obtain ⟨x1, x2, x3⟩ := hq i (by omega)
    show f_X6_mix (f_X6_mix (f_X6_mix (mixRo rs rl rr (f_X6_mix x (n fr)) i) (rs i)) (rl i)) (rr i) = _
    rw [ih, x1, x2, x3, show 1 + 3 * (i + 1) = (1 + 3 * i) + 1 + 1 + 1 by omega, mx_R, mx_R, mx_R, show fr + (1 + 3 * i) = fr + 1 + 3 * i by omega, show fr + (1 + 3 * i + 1) = fr + 2 + 3 * i by omega, show fr + (1 + 3 * i + 1 + 1) = fr + 3 + 3 * i by omega]
theorem mx_lo {lt lk lv n : F1} {fi fr : Nat} (x : Int64) : ∀ i, (∀ q, q < i → lt ((fi + q) % 40) = n (fr + 1 + 3 * q) ∧ lk ((fi + q) % 40) = n (fr + 2 + 3 * q) ∧ lv ((fi + q) % 40) = n (fr + 3 + 3 * q)) → mixLog fi lt lk lv (f_X6_mix x (n fr)) i = mixR n fr x (1 + 3 * i)
  | 0, _ => rfl
  | i + 1, hq => by
    have ih := mx_lo x i (fun q h => hq q (by omega))
    obtain ⟨x1, x2, x3⟩ := hq i (by omega)
    show f_X6_mix (f_X6_mix (f_X6_mix (mixLog fi lt lk lv (f_X6_mix x (n fr)) i) (lt ((fi + i) % 40))) (lk ((fi + i) % 40))) (lv ((fi + i) % 40)) = _
    rw [ih, x1, x2, x3, show 1 + 3 * (i + 1) = (1 + 3 * i) + 1 + 1 + 1 by omega, mx_R, mx_R, mx_R, show fr + (1 + 3 * i) = fr + 1 + 3 * i by omega, show fr + (1 + 3 * i + 1) = fr + 2 + 3 * i by omega, show fr + (1 + 3 * i + 1 + 1) = fr + 3 + 3 * i by omega]
theorem mx_sc {pt pd n : F1} {fr : Nat} (x : Int64) : ∀ i, (∀ q, q < i → pt q = n (fr + 1 + 2 * q) ∧ pd q = n (fr + 2 + 2 * q)) → mixSc pt pd (f_X6_mix x (n fr)) i = mixR n fr x (1 + 2 * i)
  | 0, _ => rfl
  | i + 1, hq => by
    have ih := mx_sc x i (fun q h => hq q (by omega))
    obtain ⟨x1, x2⟩ := hq i (by omega)
    show f_X6_mix (f_X6_mix (mixSc pt pd (f_X6_mix x (n fr)) i) (pt i)) (pd i) = _
    rw [ih, x1, x2, show 1 + 2 * (i + 1) = (1 + 2 * i) + 1 + 1 by omega, mx_R, mx_R, show fr + (1 + 2 * i) = fr + 1 + 2 * i by omega, show fr + (1 + 2 * i + 1) = fr + 2 + 2 * i by omega]
theorem val_digest {tb : Int} {u : CarS} {g n : F1} {sn : Nat} (h : RC tb u n) (hg : g 0 = nI sn) : f_X6_digest sn u = f_X7_digest g n := by
  obtain ⟨s1, s2⟩ := sN_eq h.M
  obtain ⟨p1, p2⟩ := pN_eq h.M
  obtain ⟨e1, e2⟩ := eN_eq h.M
  have r1 : u.2 2 = sN n := h.r.1
  have q1 : u.2 3 = pN n := h.p.1
  have l1 : u.2 1 = eN n := h.L.2.1
  unfold f_X6_digest f_X0_mixInto f_X2_mixInto f_X4_mixInto f_X3_mixInto
  rw [mx_car h _ 10 (Nat.le_refl _), mx_w_0 h, mx_w_1 h, mx_w_2 h, mx_w_3 h]
  rw [r1, q1, l1, ← s1, ← p1, ← e1, ← hg]
  rw [mx_ro (fr := 74) _ (sN n) (fun q hq => h.r.2 q (by omega)), mx_sc (fr := 111) _ (pN n) (fun q hq => h.p.2 q (by omega)), mx_lo (fr := 132) _ (eN n) (fun q hq => h.L.2.2 q (by show q < u.2 1; omega))]
  rfl
