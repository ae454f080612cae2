theorem val_fric_0 {tb : Int} {u : CarS} {n : F1} (h : RC tb u n) : f_X6_friction_0 u = f_X7_friction_ok n 0 :=
  (grip_eq (lf := 1) h.M (show 0 < 4 by decide) h.r h.sr h.c0 h.c1 (h.w0.1.1 0 (by decide)) h.bV (h.bW 0 (by decide)) (by decide)).1
theorem val_fric_1 {tb : Int} {u : CarS} {n : F1} (h : RC tb u n) : f_X6_friction_1 u = f_X7_friction_ok n 1 :=
  (grip_eq (lf := 0) h.M (show 1 < 4 by decide) h.r h.sr h.c0 h.c1 (h.w1.1.1 0 (by decide)) h.bV (h.bW 1 (by decide)) (by decide)).1
theorem val_fric_2 {tb : Int} {u : CarS} {n : F1} (h : RC tb u n) : f_X6_friction_2 u = f_X7_friction_ok n 2 :=
  (grip_eq (lf := 1) h.M (show 2 < 4 by decide) h.r h.sr h.c0 h.c1 (h.w2.1.1 0 (by decide)) h.bV (h.bW 2 (by decide)) (by decide)).1
theorem val_fric_3 {tb : Int} {u : CarS} {n : F1} (h : RC tb u n) : f_X6_friction_3 u = f_X7_friction_ok n 3 :=
  (grip_eq (lf := 0) h.M (show 3 < 4 by decide) h.r h.sr h.c0 h.c1 (h.w3.1.1 0 (by decide)) h.bV (h.bW 3 (by decide)) (by decide)).1
