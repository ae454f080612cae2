/-! the values of the wheels and of the car -/
theorem pick12 {a0 a1 a2 a3 a4 a5 a6 a7 a8 a9 a10 a11 R : Int32} {k : Nat} (hk : k < 12) (h0 : k = 0 → a0 = R) (h1 : k = 1 → a1 = R) (h2 : k = 2 → a2 = R) (h3 : k = 3 → a3 = R) (h4 : k = 4 → a4 = R) (h5 : k = 5 → a5 = R) (h6 : k = 6 → a6 = R) (h7 : k = 7 → a7 = R) (h8 : k = 8 → a8 = R) (h9 : k = 9 → a9 = R) (h10 : k = 10 → a10 = R) (h11 : k = 11 → a11 = R) : (if nI k = 0 then a0 else (if nI k = 1 then a1 else (if nI k = 2 then a2 else (if nI k = 3 then a3 else (if nI k = 4 then a4 else (if nI k = 5 then a5 else (if nI k = 6 then a6 else (if nI k = 7 then a7 else (if nI k = 8 then a8 else (if nI k = 9 then a9 else (if nI k = 10 then a10 else a11))))))))))) = R := by
  by_cases e0 : k = 0
  · rw [if_pos (show nI k = 0 by rw [e0]; rfl)]; exact h0 e0
  rw [if_neg (show ¬ nI k = 0 from fun q => e0 ((nI_eq (by omega) (by decide)).mp (show nI k = nI 0 from q)))]
  by_cases e1 : k = 1
  · rw [if_pos (show nI k = 1 by rw [e1]; rfl)]; exact h1 e1
  rw [if_neg (show ¬ nI k = 1 from fun q => e1 ((nI_eq (by omega) (by decide)).mp (show nI k = nI 1 from q)))]
  by_cases e2 : k = 2
  · rw [if_pos (show nI k = 2 by rw [e2]; rfl)]; exact h2 e2
  rw [if_neg (show ¬ nI k = 2 from fun q => e2 ((nI_eq (by omega) (by decide)).mp (show nI k = nI 2 from q)))]
  by_cases e3 : k = 3
  · rw [if_pos (show nI k = 3 by rw [e3]; rfl)]; exact h3 e3
  rw [if_neg (show ¬ nI k = 3 from fun q => e3 ((nI_eq (by omega) (by decide)).mp (show nI k = nI 3 from q)))]
  by_cases e4 : k = 4
  · rw [if_pos (show nI k = 4 by rw [e4]; rfl)]; exact h4 e4
  rw [if_neg (show ¬ nI k = 4 from fun q => e4 ((nI_eq (by omega) (by decide)).mp (show nI k = nI 4 from q)))]
  by_cases e5 : k = 5
  · rw [if_pos (show nI k = 5 by rw [e5]; rfl)]; exact h5 e5
  rw [if_neg (show ¬ nI k = 5 from fun q => e5 ((nI_eq (by omega) (by decide)).mp (show nI k = nI 5 from q)))]
  by_cases e6 : k = 6
  · rw [if_pos (show nI k = 6 by rw [e6]; rfl)]; exact h6 e6
  rw [if_neg (show ¬ nI k = 6 from fun q => e6 ((nI_eq (by omega) (by decide)).mp (show nI k = nI 6 from q)))]
  by_cases e7 : k = 7
  · rw [if_pos (show nI k = 7 by rw [e7]; rfl)]; exact h7 e7
  rw [if_neg (show ¬ nI k = 7 from fun q => e7 ((nI_eq (by omega) (by decide)).mp (show nI k = nI 7 from q)))]
  by_cases e8 : k = 8
  · rw [if_pos (show nI k = 8 by rw [e8]; rfl)]; exact h8 e8
  rw [if_neg (show ¬ nI k = 8 from fun q => e8 ((nI_eq (by omega) (by decide)).mp (show nI k = nI 8 from q)))]
  by_cases e9 : k = 9
  · rw [if_pos (show nI k = 9 by rw [e9]; rfl)]; exact h9 e9
  rw [if_neg (show ¬ nI k = 9 from fun q => e9 ((nI_eq (by omega) (by decide)).mp (show nI k = nI 9 from q)))]
  by_cases e10 : k = 10
  · rw [if_pos (show nI k = 10 by rw [e10]; rfl)]; exact h10 e10
  rw [if_neg (show ¬ nI k = 10 from fun q => e10 ((nI_eq (by omega) (by decide)).mp (show nI k = nI 10 from q)))]
  exact h11 (by omega)
theorem pick10 {a0 a1 a2 a3 a4 a5 a6 a7 a8 a9 R : Int32} {k : Nat} (hk : k < 10) (h0 : k = 0 → a0 = R) (h1 : k = 1 → a1 = R) (h2 : k = 2 → a2 = R) (h3 : k = 3 → a3 = R) (h4 : k = 4 → a4 = R) (h5 : k = 5 → a5 = R) (h6 : k = 6 → a6 = R) (h7 : k = 7 → a7 = R) (h8 : k = 8 → a8 = R) (h9 : k = 9 → a9 = R) : (if nI k = 0 then a0 else (if nI k = 1 then a1 else (if nI k = 2 then a2 else (if nI k = 3 then a3 else (if nI k = 4 then a4 else (if nI k = 5 then a5 else (if nI k = 6 then a6 else (if nI k = 7 then a7 else (if nI k = 8 then a8 else a9))))))))) = R := by
  by_cases e0 : k = 0
  · rw [if_pos (show nI k = 0 by rw [e0]; rfl)]; exact h0 e0
  rw [if_neg (show ¬ nI k = 0 from fun q => e0 ((nI_eq (by omega) (by decide)).mp (show nI k = nI 0 from q)))]
  by_cases e1 : k = 1
  · rw [if_pos (show nI k = 1 by rw [e1]; rfl)]; exact h1 e1
  rw [if_neg (show ¬ nI k = 1 from fun q => e1 ((nI_eq (by omega) (by decide)).mp (show nI k = nI 1 from q)))]
  by_cases e2 : k = 2
  · rw [if_pos (show nI k = 2 by rw [e2]; rfl)]; exact h2 e2
  rw [if_neg (show ¬ nI k = 2 from fun q => e2 ((nI_eq (by omega) (by decide)).mp (show nI k = nI 2 from q)))]
  by_cases e3 : k = 3
  · rw [if_pos (show nI k = 3 by rw [e3]; rfl)]; exact h3 e3
  rw [if_neg (show ¬ nI k = 3 from fun q => e3 ((nI_eq (by omega) (by decide)).mp (show nI k = nI 3 from q)))]
  by_cases e4 : k = 4
  · rw [if_pos (show nI k = 4 by rw [e4]; rfl)]; exact h4 e4
  rw [if_neg (show ¬ nI k = 4 from fun q => e4 ((nI_eq (by omega) (by decide)).mp (show nI k = nI 4 from q)))]
  by_cases e5 : k = 5
  · rw [if_pos (show nI k = 5 by rw [e5]; rfl)]; exact h5 e5
  rw [if_neg (show ¬ nI k = 5 from fun q => e5 ((nI_eq (by omega) (by decide)).mp (show nI k = nI 5 from q)))]
  by_cases e6 : k = 6
  · rw [if_pos (show nI k = 6 by rw [e6]; rfl)]; exact h6 e6
  rw [if_neg (show ¬ nI k = 6 from fun q => e6 ((nI_eq (by omega) (by decide)).mp (show nI k = nI 6 from q)))]
  by_cases e7 : k = 7
  · rw [if_pos (show nI k = 7 by rw [e7]; rfl)]; exact h7 e7
  rw [if_neg (show ¬ nI k = 7 from fun q => e7 ((nI_eq (by omega) (by decide)).mp (show nI k = nI 7 from q)))]
  by_cases e8 : k = 8
  · rw [if_pos (show nI k = 8 by rw [e8]; rfl)]; exact h8 e8
  rw [if_neg (show ¬ nI k = 8 from fun q => e8 ((nI_eq (by omega) (by decide)).mp (show nI k = nI 8 from q)))]
  exact h9 (by omega)
theorem asN {x : Int32} (h : isB x) : f_X6_asNumber x = x := by
  unfold f_X6_asNumber
  rcases h with e | e
  · rw [if_pos e, e]
  · rw [if_neg (by rw [e]; decide), e]
theorem lo9 : ∀ k, k < 9 → ¬ (9 : Int32) ≤ nI k := by decide
theorem lo8 : ∀ k, k < 8 → ¬ (8 : Int32) ≤ nI k := by decide
theorem tw_lo {n : F1} {j k : Nat} (h : k < 9) : f_X7_tellWheel n j k = n (10 + 16 * j + k) := by
  unfold f_X7_tellWheel; rw [if_neg (lo9 k h)]
theorem tw_9 (n : F1) (j : Nat) : f_X7_tellWheel n j 9 = f_X7_slipOf n j := by
  unfold f_X7_tellWheel; rw [if_pos (show (9 : Int32) ≤ nI 9 by decide), if_pos (show nI 9 = 9 by rfl)]
theorem tw_10 (n : F1) (j : Nat) : f_X7_tellWheel n j 10 = f_X7_estimated n j := by
  unfold f_X7_tellWheel; rw [if_pos (show (9 : Int32) ≤ nI 10 by decide), if_neg (show ¬ nI 10 = 9 by decide), if_pos (show nI 10 = 10 by rfl)]
theorem tw_11 (n : F1) (j : Nat) : f_X7_tellWheel n j 11 = f_X7_acceleration n j := by
  unfold f_X7_tellWheel; rw [if_pos (show (9 : Int32) ≤ nI 11 by decide), if_neg (show ¬ nI 11 = 9 by decide), if_neg (show ¬ nI 11 = 10 by decide)]
def wvF (w : F1) (V wt : Int32) : Int32 := (if wt = 0 then (w 0) else (if wt = 1 then (w 1) else (if wt = 2 then (w 2) else (if wt = 3 then (w 3) else (if wt = 4 then (w 4) else (if wt = 5 then (w 5) else (if wt = 6 then (w 6) else (if wt = 7 then (f_X6_asNumber (w 7)) else (if wt = 8 then (w 8) else (if wt = 9 then (f_X5_slip w V) else (if wt = 10 then (w 12) else (w 11))))))))))))
theorem val_wv {j : Nat} {tb : Int} {w f n : F1} {V : Int32} {k : Nat} (h : RW j tb w f n) (hV : V = n 0) (bV : bd (n 0) 0 60000) (bW : bd (n (10 + 16 * j + 0)) 0 (n 0).toInt) (hk : k < 12) : wvF w V (nI k) = f_X7_tellWheel n j k := by
  have a := h.1.1
  unfold wvF
  exact pick12 hk (fun q => by subst q; rw [tw_lo (by decide)]; exact a 0 (by decide)) (fun q => by subst q; rw [tw_lo (by decide)]; exact a 1 (by decide)) (fun q => by subst q; rw [tw_lo (by decide)]; exact a 2 (by decide)) (fun q => by subst q; rw [tw_lo (by decide)]; exact a 3 (by decide)) (fun q => by subst q; rw [tw_lo (by decide)]; exact a 4 (by decide)) (fun q => by subst q; rw [tw_lo (by decide)]; exact a 5 (by decide)) (fun q => by subst q; rw [tw_lo (by decide)]; exact a 6 (by decide)) (fun q => by subst q; rw [tw_lo (by decide), asN (by rw [a 7 (by decide)]; exact h.2.1.2.2.2.1)]; exact a 7 (by decide)) (fun q => by subst q; rw [tw_lo (by decide)]; exact a 8 (by decide)) (fun q => by subst q; rw [tw_9]; exact (slipEq (a 0 (by decide)) hV bV bW).1) (fun q => by subst q; rw [tw_10]; exact h.2.2.2) (fun q => by subst q; rw [tw_11]; exact h.2.2.1)
theorem val_wheel_0 {tb : Int} {u : CarS} {n : F1} {k : Nat} (h : RC tb u n) (hk : k < 12) : f_X0_wheelValue_0 u (nI k) = f_X7_tellWheel n 0 k := val_wv h.w0 h.c0 h.bV (h.bW 0 (by decide)) hk
theorem val_wheel_1 {tb : Int} {u : CarS} {n : F1} {k : Nat} (h : RC tb u n) (hk : k < 12) : f_X0_wheelValue_1 u (nI k) = f_X7_tellWheel n 1 k := val_wv h.w1 h.c0 h.bV (h.bW 1 (by decide)) hk
theorem val_wheel_2 {tb : Int} {u : CarS} {n : F1} {k : Nat} (h : RC tb u n) (hk : k < 12) : f_X0_wheelValue_2 u (nI k) = f_X7_tellWheel n 2 k := val_wv h.w2 h.c0 h.bV (h.bW 2 (by decide)) hk
theorem val_wheel_3 {tb : Int} {u : CarS} {n : F1} {k : Nat} (h : RC tb u n) (hk : k < 12) : f_X0_wheelValue_3 u (nI k) = f_X7_tellWheel n 3 k := val_wv h.w3 h.c0 h.bV (h.bW 3 (by decide)) hk
theorem tc_lo {n : F1} {k : Nat} (h : k < 8) : f_X7_tellCar n k = n k := by
  unfold f_X7_tellCar; rw [if_neg (lo8 k h)]
theorem tc_8 (n : F1) : f_X7_tellCar n 8 = f_X6_asNumber (f_X7_isActive n) := by
  unfold f_X7_tellCar f_X6_asNumber; rw [if_pos (show (8 : Int32) ≤ nI 8 by decide), if_pos (show nI 8 = 8 by rfl)]
theorem tc_9 (n : F1) : f_X7_tellCar n 9 = n 8 := by
  unfold f_X7_tellCar; rw [if_pos (show (8 : Int32) ≤ nI 9 by decide), if_neg (show ¬ nI 9 = 8 by decide)]
theorem RC.ex {tb : Int} {u : CarS} {n : F1} (h : RC tb u n) : f_X1_excludedWheels (u.1 2) (u.1 3) (u.1 4) (u.1 5) = f_X7_outs n :=
  excl_eq (h.w0.1.1 7 (by decide)) (h.w1.1.1 7 (by decide)) (h.w2.1.1 7 (by decide)) (h.w3.1.1 7 (by decide)) h.w0.2.1.2.2.2.1 h.w1.2.1.2.2.2.1 h.w2.2.1.2.2.2.1 h.w3.2.1.2.2.2.1
theorem RC.act {tb : Int} {u : CarS} {n : F1} (h : RC tb u n) : f_X1_isActive (u.1 1) (u.1 2) (u.1 3) (u.1 4) (u.1 5) ((u.1 0) 3) = f_X7_isActive n :=
  act_eq h.z.1 h.z.2.2.2.2.1 h.i9.2.2.2.1 h.c3 (h.w0.1.1 7 (by decide)) (h.w1.1.1 7 (by decide)) (h.w2.1.1 7 (by decide)) (h.w3.1.1 7 (by decide)) h.w0.2.1.2.2.2.1 h.w1.2.1.2.2.2.1 h.w2.2.1.2.2.2.1 h.w3.2.1.2.2.2.1
theorem val_car {tb : Int} {u : CarS} {n : F1} {k : Nat} (h : RC tb u n) (hk : k < 10) : f_X0_carValue u (nI k) = f_X7_tellCar n k := by
  unfold f_X0_carValue
  exact pick10 hk (fun q => by subst q; rw [tc_lo (by decide)]; exact h.c0) (fun q => by subst q; rw [tc_lo (by decide)]; exact h.c1) (fun q => by subst q; rw [tc_lo (by decide)]; exact h.c2) (fun q => by subst q; rw [tc_lo (by decide)]; exact h.c3) (fun q => by subst q; rw [tc_lo (by decide)]; exact h.z.1) (fun q => by subst q; rw [tc_lo (by decide)]; exact h.z.2.1) (fun q => by subst q; rw [tc_lo (by decide)]; exact h.z.2.2.1) (fun q => by subst q; rw [tc_lo (by decide)]; exact h.z.2.2.2.1) (fun q => by subst q; rw [tc_8, h.act]) (fun q => by subst q; rw [tc_9, asN (by rw [h.z.2.2.2.2.1]; exact h.i9.2.2.2.1)]; exact h.z.2.2.2.2.1)
theorem val_repair {tb : Int} {u : CarS} {n : F1} (h : RC tb u n) : f_X6_repair u = f_X7_outs n := h.ex
theorem isB_1 {x : Int32} (h : isB x) : x = (if x = 1 then 1 else 0) := by
  rcases h with e | e
  · rw [e]; decide
  · rw [e]; decide
theorem val_on {tb : Int} {u : CarS} {n : F1} (h : RC tb u n) : f_X6_setOn u = v_X7_setOn_1 n := by
  unfold f_X6_setOn v_X7_setOn_1
  rw [h.z.2.2.2.2.1]; exact isB_1 h.i9.2.2.2.1
theorem val_fault_0 {tb : Int} {u : CarS} {n : F1} (h : RC tb u n) : f_X6_setFault_0 u = f_X7_setFault_ok n 0 := by
  unfold f_X6_setFault_0 f_X7_setFault_ok v_X7_setFault_ok_1
  rw [h.w0.1.1 9 (by decide)]; exact isB_1 h.w0.2.1.2.2.2.2.1
theorem val_fault_1 {tb : Int} {u : CarS} {n : F1} (h : RC tb u n) : f_X6_setFault_1 u = f_X7_setFault_ok n 1 := by
  unfold f_X6_setFault_1 f_X7_setFault_ok v_X7_setFault_ok_1
  rw [h.w1.1.1 9 (by decide)]; exact isB_1 h.w1.2.1.2.2.2.2.1
theorem val_fault_2 {tb : Int} {u : CarS} {n : F1} (h : RC tb u n) : f_X6_setFault_2 u = f_X7_setFault_ok n 2 := by
  unfold f_X6_setFault_2 f_X7_setFault_ok v_X7_setFault_ok_1
  rw [h.w2.1.1 9 (by decide)]; exact isB_1 h.w2.2.1.2.2.2.2.1
theorem val_fault_3 {tb : Int} {u : CarS} {n : F1} (h : RC tb u n) : f_X6_setFault_3 u = f_X7_setFault_ok n 3 := by
  unfold f_X6_setFault_3 f_X7_setFault_ok v_X7_setFault_ok_1
  rw [h.w3.1.1 9 (by decide)]; exact isB_1 h.w3.2.1.2.2.2.2.1
