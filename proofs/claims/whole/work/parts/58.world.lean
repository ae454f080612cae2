/-! the world of the law, and a step of its loop -/
def LWg (ty : Nat → ClassId) (h sv_ sn x0 x1 x2 ou o a b c_ : Nat) (ad ae af0 af1 af2 : Nat → Nat) (u ut u0 u1 u2 : CarS) (g n pa qa : F1) (hs : Int64) (f : Nat → Int64) : va_W := [(h, abE sn (ad 0) (ae 0) sv_), (sv_, ccE ty x0 x1 x2), ((ad 0), caE (u.1 0) (ad 1) (ad 2) (ad 11) (ad 15) (ad 19)), ((ad 1), ctE (u.1 1) (ad 2) (ad 11)), ((ad 2), waE ty (ad 3) (ad 4) (ad 5) (ad 6)), ((ad 3), whE (u.1 2) (ad 7)), ((ad 4), whE (u.1 3) (ad 8)), ((ad 5), whE (u.1 4) (ad 9)), ((ad 6), whE (u.1 5) (ad 10)), ((ad 7), arE ty 5 (u.1 6)), ((ad 8), arE ty 5 (u.1 7)), ((ad 9), arE ty 5 (u.1 8)), ((ad 10), arE ty 5 (u.1 9)), ((ad 11), loE (u.2 0) (u.2 1) (ad 12) (ad 13) (ad 14)), ((ad 12), arE ty 40 (u.1 10)), ((ad 13), arE ty 40 (u.1 11)), ((ad 14), arE ty 40 (u.1 12)), ((ad 15), roE (u.2 2) (ad 16) (ad 17) (ad 18)), ((ad 16), arE ty 12 (u.1 13)), ((ad 17), arE ty 12 (u.1 14)), ((ad 18), arE ty 12 (u.1 15)), ((ad 19), scE (u.2 3) (ad 20) (ad 21)), ((ad 20), arE ty 10 (u.1 16)), ((ad 21), arE ty 10 (u.1 17)), ((af0 0), caE (u0.1 0) (af0 1) (af0 2) (af0 11) (af0 15) (af0 19)), ((af0 1), ctE (u0.1 1) (af0 2) (af0 11)), ((af0 2), waE ty (af0 3) (af0 4) (af0 5) (af0 6)), ((af0 3), whE (u0.1 2) (af0 7)), ((af0 4), whE (u0.1 3) (af0 8)), ((af0 5), whE (u0.1 4) (af0 9)), ((af0 6), whE (u0.1 5) (af0 10)), ((af0 7), arE ty 5 (u0.1 6)), ((af0 8), arE ty 5 (u0.1 7)), ((af0 9), arE ty 5 (u0.1 8)), ((af0 10), arE ty 5 (u0.1 9)), ((af0 11), loE (u0.2 0) (u0.2 1) (af0 12) (af0 13) (af0 14)), ((af0 12), arE ty 40 (u0.1 10)), ((af0 13), arE ty 40 (u0.1 11)), ((af0 14), arE ty 40 (u0.1 12)), ((af0 15), roE (u0.2 2) (af0 16) (af0 17) (af0 18)), ((af0 16), arE ty 12 (u0.1 13)), ((af0 17), arE ty 12 (u0.1 14)), ((af0 18), arE ty 12 (u0.1 15)), ((af0 19), scE (u0.2 3) (af0 20) (af0 21)), ((af0 20), arE ty 10 (u0.1 16)), ((af0 21), arE ty 10 (u0.1 17)), ((af1 0), caE (u1.1 0) (af1 1) (af1 2) (af1 11) (af1 15) (af1 19)), ((af1 1), ctE (u1.1 1) (af1 2) (af1 11)), ((af1 2), waE ty (af1 3) (af1 4) (af1 5) (af1 6)), ((af1 3), whE (u1.1 2) (af1 7)), ((af1 4), whE (u1.1 3) (af1 8)), ((af1 5), whE (u1.1 4) (af1 9)), ((af1 6), whE (u1.1 5) (af1 10)), ((af1 7), arE ty 5 (u1.1 6)), ((af1 8), arE ty 5 (u1.1 7)), ((af1 9), arE ty 5 (u1.1 8)), ((af1 10), arE ty 5 (u1.1 9)), ((af1 11), loE (u1.2 0) (u1.2 1) (af1 12) (af1 13) (af1 14)), ((af1 12), arE ty 40 (u1.1 10)), ((af1 13), arE ty 40 (u1.1 11)), ((af1 14), arE ty 40 (u1.1 12)), ((af1 15), roE (u1.2 2) (af1 16) (af1 17) (af1 18)), ((af1 16), arE ty 12 (u1.1 13)), ((af1 17), arE ty 12 (u1.1 14)), ((af1 18), arE ty 12 (u1.1 15)), ((af1 19), scE (u1.2 3) (af1 20) (af1 21)), ((af1 20), arE ty 10 (u1.1 16)), ((af1 21), arE ty 10 (u1.1 17)), ((af2 0), caE (u2.1 0) (af2 1) (af2 2) (af2 11) (af2 15) (af2 19)), ((af2 1), ctE (u2.1 1) (af2 2) (af2 11)), ((af2 2), waE ty (af2 3) (af2 4) (af2 5) (af2 6)), ((af2 3), whE (u2.1 2) (af2 7)), ((af2 4), whE (u2.1 3) (af2 8)), ((af2 5), whE (u2.1 4) (af2 9)), ((af2 6), whE (u2.1 5) (af2 10)), ((af2 7), arE ty 5 (u2.1 6)), ((af2 8), arE ty 5 (u2.1 7)), ((af2 9), arE ty 5 (u2.1 8)), ((af2 10), arE ty 5 (u2.1 9)), ((af2 11), loE (u2.2 0) (u2.2 1) (af2 12) (af2 13) (af2 14)), ((af2 12), arE ty 40 (u2.1 10)), ((af2 13), arE ty 40 (u2.1 11)), ((af2 14), arE ty 40 (u2.1 12)), ((af2 15), roE (u2.2 2) (af2 16) (af2 17) (af2 18)), ((af2 16), arE ty 12 (u2.1 13)), ((af2 17), arE ty 12 (u2.1 14)), ((af2 18), arE ty 12 (u2.1 15)), ((af2 19), scE (u2.2 3) (af2 20) (af2 21)), ((af2 20), arE ty 10 (u2.1 16)), ((af2 21), arE ty 10 (u2.1 17)), ((ae 0), caE (ut.1 0) (ae 1) (ae 2) (ae 11) (ae 15) (ae 19)), ((ae 1), ctE (ut.1 1) (ae 2) (ae 11)), ((ae 2), waE ty (ae 3) (ae 4) (ae 5) (ae 6)), ((ae 3), whE (ut.1 2) (ae 7)), ((ae 4), whE (ut.1 3) (ae 8)), ((ae 5), whE (ut.1 4) (ae 9)), ((ae 6), whE (ut.1 5) (ae 10)), ((ae 7), arE ty 5 (ut.1 6)), ((ae 8), arE ty 5 (ut.1 7)), ((ae 9), arE ty 5 (ut.1 8)), ((ae 10), arE ty 5 (ut.1 9)), ((ae 11), loE (ut.2 0) (ut.2 1) (ae 12) (ae 13) (ae 14)), ((ae 12), arE ty 40 (ut.1 10)), ((ae 13), arE ty 40 (ut.1 11)), ((ae 14), arE ty 40 (ut.1 12)), ((ae 15), roE (ut.2 2) (ae 16) (ae 17) (ae 18)), ((ae 16), arE ty 12 (ut.1 13)), ((ae 17), arE ty 12 (ut.1 14)), ((ae 18), arE ty 12 (ut.1 15)), ((ae 19), scE (ut.2 3) (ae 20) (ae 21)), ((ae 20), arE ty 10 (ut.1 16)), ((ae 21), arE ty 10 (ut.1 17)), (o, moE g hs a b c_), (a, arE ty 253 n), (b, arE ty 759 pa), (c_, arE ty 253 qa), (ou, laE ty f)]
def LWh (ty : Nat → ClassId) (h sv_ sn x0 x1 x2 : Nat) (ad ae : Nat → Nat) (u : CarS) : va_W := [(h, abE sn (ad 0) (ae 0) sv_), (sv_, ccE ty x0 x1 x2), ((ad 0), caE (u.1 0) (ad 1) (ad 2) (ad 11) (ad 15) (ad 19)), ((ad 1), ctE (u.1 1) (ad 2) (ad 11)), ((ad 2), waE ty (ad 3) (ad 4) (ad 5) (ad 6)), ((ad 3), whE (u.1 2) (ad 7)), ((ad 4), whE (u.1 3) (ad 8)), ((ad 5), whE (u.1 4) (ad 9)), ((ad 6), whE (u.1 5) (ad 10)), ((ad 7), arE ty 5 (u.1 6)), ((ad 8), arE ty 5 (u.1 7)), ((ad 9), arE ty 5 (u.1 8)), ((ad 10), arE ty 5 (u.1 9)), ((ad 11), loE (u.2 0) (u.2 1) (ad 12) (ad 13) (ad 14)), ((ad 12), arE ty 40 (u.1 10)), ((ad 13), arE ty 40 (u.1 11)), ((ad 14), arE ty 40 (u.1 12)), ((ad 15), roE (u.2 2) (ad 16) (ad 17) (ad 18)), ((ad 16), arE ty 12 (u.1 13)), ((ad 17), arE ty 12 (u.1 14)), ((ad 18), arE ty 12 (u.1 15)), ((ad 19), scE (u.2 3) (ad 20) (ad 21)), ((ad 20), arE ty 10 (u.1 16)), ((ad 21), arE ty 10 (u.1 17))]
def LWt (ty : Nat → ClassId) (ou o a b c_ : Nat) (ae : Nat → Nat) (ut : CarS) (g n pa qa : F1) (hs : Int64) (f : Nat → Int64) : va_W := [((ae 0), caE (ut.1 0) (ae 1) (ae 2) (ae 11) (ae 15) (ae 19)), ((ae 1), ctE (ut.1 1) (ae 2) (ae 11)), ((ae 2), waE ty (ae 3) (ae 4) (ae 5) (ae 6)), ((ae 3), whE (ut.1 2) (ae 7)), ((ae 4), whE (ut.1 3) (ae 8)), ((ae 5), whE (ut.1 4) (ae 9)), ((ae 6), whE (ut.1 5) (ae 10)), ((ae 7), arE ty 5 (ut.1 6)), ((ae 8), arE ty 5 (ut.1 7)), ((ae 9), arE ty 5 (ut.1 8)), ((ae 10), arE ty 5 (ut.1 9)), ((ae 11), loE (ut.2 0) (ut.2 1) (ae 12) (ae 13) (ae 14)), ((ae 12), arE ty 40 (ut.1 10)), ((ae 13), arE ty 40 (ut.1 11)), ((ae 14), arE ty 40 (ut.1 12)), ((ae 15), roE (ut.2 2) (ae 16) (ae 17) (ae 18)), ((ae 16), arE ty 12 (ut.1 13)), ((ae 17), arE ty 12 (ut.1 14)), ((ae 18), arE ty 12 (ut.1 15)), ((ae 19), scE (ut.2 3) (ae 20) (ae 21)), ((ae 20), arE ty 10 (ut.1 16)), ((ae 21), arE ty 10 (ut.1 17)), (o, moE g hs a b c_), (a, arE ty 253 n), (b, arE ty 759 pa), (c_, arE ty 253 qa), (ou, laE ty f)]
theorem LWg_eq (ty : Nat → ClassId) (h sv_ sn x0 x1 x2 ou o a b c_ : Nat) (ad ae af0 af1 af2 : Nat → Nat) (u ut u0 u1 u2 : CarS) (g n pa qa : F1) (hs : Int64) (f : Nat → Int64) : LWg ty h sv_ sn x0 x1 x2 ou o a b c_ ad ae af0 af1 af2 u ut u0 u1 u2 g n pa qa hs f = LWh ty h sv_ sn x0 x1 x2 ad ae u ++ (carW ty af0 u0 ++ ((carW ty af1 u1 ++ carW ty af2 u2) ++ LWt ty ou o a b c_ ae ut g n pa qa hs f)) := rfl
theorem Wd_rot {D : va_G} {A : Nat → Prop} {H0 H : Heap} {locs : List Loc} {a b c d : va_W} (X : Wd D A H0 (a ++ (b ++ (c ++ d))) H locs) : Wd D A H0 (a ++ (c ++ (b ++ d))) H locs := by
  obtain ⟨P, Dd, S⟩ := X
  refine ⟨?_, ?_, S⟩
  · have P1 : va_P D vwCl ((a ++ b) ++ (c ++ d)) H := by rw [List.append_assoc]; exact P
    have P2 : va_P D vwCl (((a ++ c) ++ d) ++ b) H := by rw [List.append_assoc a c d]; exact P1.swap
    have P3 := P2.swap
    rw [List.append_assoc, List.append_assoc] at P3
    exact P3
  · have P1 : va_D A ((a ++ b) ++ (c ++ d)) := by rw [List.append_assoc]; exact Dd
    have P2 : va_D A (((a ++ c) ++ d) ++ b) := by rw [List.append_assoc a c d]; exact P1.swap
    have P3 := P2.swap
    rw [List.append_assoc, List.append_assoc] at P3
    exact P3
theorem LW_rot {D : va_G} {A : Nat → Prop} {H0 H : Heap} {locs : List Loc} {ty : Nat → ClassId} {h sv_ sn x0 x1 x2 ou o a b c_ : Nat} {ad ae af0 af1 af2 : Nat → Nat} {u ut u0 u1 u2 : CarS} {g n pa qa : F1} {hs : Int64} {f : Nat → Int64} (X : Wd D A H0 (LWg ty h sv_ sn x0 x1 x2 ou o a b c_ ad ae af0 af1 af2 u ut u0 u1 u2 g n pa qa hs f) H locs) : Wd D A H0 (LWg ty h sv_ sn x0 x1 x2 ou o a b c_ ad ae af1 af2 af0 u ut u1 u2 u0 g n pa qa hs f) H locs := by
  rw [LWg_eq] at X ⊢
  have Y := Wd_rot X
  rw [List.append_assoc (carW ty af1 u1)] at Y
  rw [List.append_assoc (carW ty af2 u2)]
  exact Y
theorem sv_k {P : Prop} {D : va_G} {A : Nat → Prop} {H0 H : Heap} {locs : List Loc} {ty : Nat → ClassId} {h sv_ sn ou o a b c_ : Nat} {ad ae af0 af1 af2 : Nat → Nat} {u ut u0 u1 u2 : CarS} {g n pa qa : F1} {hs : Int64} {f : Nat → Int64} {tb tc : Int} {v : CarS} {q mm : F1} (hr : RS tb sn u u0 u1 u2 g n pa) (hc : RC tc v mm) (ht : tb ≤ tc)
    (X : Wd D A H0 (LWg ty h sv_ (svN sn) (rotA sn (af0 0) (af1 0)) (rotA sn (af1 0) (af2 0)) (rotA sn (af2 0) (af0 0)) ou o a b c_ ad ae af0 af1 af2 v ut (svU0 sn u0 u) (svU1 sn u1 u) (svU2 sn u2 u) (f_X7_saves_o q sn) mm (f_X7_saves_b n pa sn) qa hs f) H locs)
    (K : ∀ (sn : Nat) (af0 af1 af2 : Nat → Nat) (u0 u1 u2 : CarS) (g pa : F1), RS tc sn v u0 u1 u2 g mm pa → Wd D A H0 (LWg ty h sv_ sn (af0 0) (af1 0) (af2 0) ou o a b c_ ad ae af0 af1 af2 v ut u0 u1 u2 g mm pa qa hs f) H locs → P) : P := by
  have h3 := hr.1
  rcases (show sn = 0 ∨ sn = 1 ∨ sn = 2 ∨ sn = 3 by omega) with e | e | e | e <;> subst e
  · exact K 1 af0 af1 af2 (b_X0_copyFrom_u u0 u) u1 u2 (f_X7_saves_o q 0) (f_X7_saves_b n pa 0) (sv_rel0 hr hc ht) X
  · exact K 2 af0 af1 af2 u0 (b_X0_copyFrom_u u1 u) u2 (f_X7_saves_o q 1) (f_X7_saves_b n pa 1) (sv_rel1 hr hc ht) X
  · exact K 3 af0 af1 af2 u0 u1 (b_X0_copyFrom_u u2 u) (f_X7_saves_o q 2) (f_X7_saves_b n pa 2) (sv_rel2 hr hc ht) X
  · exact K 3 af1 af2 af0 u1 u2 (b_X0_copyFrom_u u0 u) (f_X7_saves_o q 3) (f_X7_saves_b n pa 3) (sv_rel3 hr hc ht) (LW_rot X)
def Kon (p : Program) (l : Launch) (e : Env) (s : State) (m : MethodId) (args : Array Value) (below : List Frame) (meth : Method) (c : Code) (D : va_G) (ty : Nat → ClassId) (A : Nat → Prop) (Q : State → Prop) (b0 i cells slots h sv_ ou o a b c_ : Nat) (ad ae : Nat → Nat) (tc : Int) : Prop :=
  ∀ (ls : Array Slot) (H : Heap) (locs : List Loc) (sn : Nat) (af0 af1 af2 : Nat → Nat) (u ut u0 u1 u2 : CarS) (g n pa qa : F1) (hs : Int64) (f : Nat → Int64), lv_has ls 7 [(0, .ref b0), (1, .ref h), (2, .ref o), (3, .ref ou), (4, .int (nI i))] → RS tc sn u u0 u1 u2 g n pa → Wd D A s.heap (LWg ty h sv_ sn (af0 0) (af1 0) (af2 0) ou o a b c_ ad ae af0 af1 af2 u ut u0 u1 u2 g n pa qa hs f) H locs → W p l e room_1 s m args below meth c H locs (cells + 1) (slots + 6) Q (F0 m 1199 ls [])
theorem wi01 (z lo hi : Int32) : f_X6_isWithin z lo hi = 0 ∨ f_X6_isWithin z lo hi = 1 := by
  unfold f_X6_isWithin; split
  · exact Or.inl rfl
  · split
    · exact Or.inl rfl
    · exact Or.inr rfl
theorem wi_bd {z lo hi : Int32} (h : f_X6_isWithin z lo hi = 1) : bd z lo.toInt hi.toInt := by
  unfold f_X6_isWithin at h
  by_cases c : z < lo
  · rw [if_pos c] at h; exact absurd h (by decide)
  · rw [if_neg c] at h
    by_cases d : hi < z
    · rw [if_pos d] at h; exact absurd h (by decide)
    · have c' : ¬ z.toInt < lo.toInt := fun q => c (Int32.lt_iff_toInt_lt.mpr q)
      have d' : ¬ hi.toInt < z.toInt := fun q => d (Int32.lt_iff_toInt_lt.mpr q)
      exact ⟨by omega, by omega⟩
theorem wi_of {z lo hi : Int32} (h : bd z lo.toInt hi.toInt) : f_X6_isWithin z lo hi = 1 := by
  unfold f_X6_isWithin
  obtain ⟨a, b⟩ := h
  rw [if_neg (fun q => by have := Int32.lt_iff_toInt_lt.mp q; omega), if_neg (fun q => by have := Int32.lt_iff_toInt_lt.mp q; omega)]
theorem wi_k {z : Int32} (h : 0 ≤ z.toInt) : z = nI z.toNatClampNeg ∧ (z.toNatClampNeg : Int) = z.toInt := ⟨nI_self h, Int.toNat_of_nonneg h⟩
theorem wi_ix {z : Int32} {c : Nat} (hc : c ≤ 40) (h : f_X6_isWithin z 0 (nI c - 1) = 1) : z = nI z.toNatClampNeg ∧ z.toNatClampNeg < c := by
  have e : (nI c).toInt = c := nI_toInt (by omega)
  have e2 : (nI c - 1 : Int32).toInt = (c : Int) - 1 := by
    rw [tS (by rw [e]; show -2147483648 ≤ (c : Int) - 1; omega) (by rw [e]; show (c : Int) - 1 < 2147483648; omega), e]; rfl
  obtain ⟨a, b⟩ := wi_bd h
  rw [e2] at b
  have a' : 0 ≤ z.toInt := a
  obtain ⟨x, y⟩ := wi_k a'
  exact ⟨x, by omega⟩
theorem wh4 {z : Int32} (h : f_X6_isWheel z = 1) : z = 0 ∨ z = 1 ∨ z = 2 ∨ z = 3 := by
  obtain ⟨a, b⟩ := wi_bd h
  have a' : 0 ≤ z.toInt := a
  have b' : z.toInt ≤ 3 := b
  rcases (show z.toInt = 0 ∨ z.toInt = 1 ∨ z.toInt = 2 ∨ z.toInt = 3 by omega) with e | e | e | e
  · exact Or.inl (tEq e)
  · exact Or.inr (Or.inl (tEq e))
  · exact Or.inr (Or.inr (Or.inl (tEq e)))
  · exact Or.inr (Or.inr (Or.inr (tEq e)))
theorem z1' {x : Int32} (h : x = 1) : ¬ x = 0 := by rw [h]; decide
theorem pair_spec (sf : Int32) : (f_X6_isSurfacePair sf = 1 ∧ f_X7_within sf 0 22 = 1 ∧ f_X7_isSurface (sf - sf / 10 * 10) = 1) ∨ (f_X6_isSurfacePair sf = 0 ∧ (f_X7_within sf 0 22 = 0 ∨ f_X7_isSurface (sf - sf / 10 * 10) = 0)) := by
  have t22 : (22 : Int32).toInt = 22 := rfl
  have t10 : (10 : Int32).toInt = 10 := rfl
  unfold f_X6_isSurfacePair
  by_cases c : sf < 0
  · rw [if_pos c]
    refine Or.inr ⟨rfl, Or.inl ?_⟩
    unfold f_X7_within; rw [if_pos c]
  · rw [if_neg c]
    have c' : 0 ≤ sf.toInt := by
      have : ¬ sf.toInt < (0 : Int32).toInt := fun q => c (Int32.lt_iff_toInt_lt.mpr q)
      have e : (0 : Int32).toInt = 0 := rfl
      omega
    have d1 : (sf / 10).toInt = sf.toInt / 10 := by rw [tD (by decide), t10, Int.tdiv_eq_ediv_of_nonneg c']
    have hlt : sf.toInt < 2147483648 := Int32.toInt_lt sf
    rcases wi01 (sf / 10) 0 2 with e | e
    · rw [if_pos (show f_X6_isSurface (sf / 10) = 0 from e)]
      refine Or.inr ⟨rfl, Or.inl ?_⟩
      rcases wi01 sf 0 22 with q | q
      · exact q
      · exfalso
        have b := (wi_bd q).2
        have : f_X6_isWithin (sf / 10) 0 2 = 1 := wi_of ⟨by rw [d1]; show (0 : Int) ≤ _; omega, by rw [d1]; show _ ≤ (2 : Int); omega⟩
        rw [this] at e; exact absurd e (by decide)
    · rw [if_neg (z1' (show f_X6_isSurface (sf / 10) = 1 from e))]
      rcases wi01 (sf - sf / 10 * 10) 0 2 with r | r
      · rw [if_pos (show f_X6_isSurface (sf - sf / 10 * 10) = 0 from r)]
        exact Or.inr ⟨rfl, Or.inr r⟩
      · rw [if_neg (z1' (show f_X6_isSurface (sf - sf / 10 * 10) = 1 from r))]
        refine Or.inl ⟨rfl, ?_, r⟩
        have b := (wi_bd e).2
        have b2 := (wi_bd r).2
        rw [d1] at b
        have bb : sf.toInt / 10 ≤ 2 := b
        have m1 : (sf / 10 * 10).toInt = sf.toInt / 10 * 10 := by
          rw [tM (by rw [d1, t10]; omega) (by rw [d1, t10]; omega), d1, t10]
        have m2 : (sf - sf / 10 * 10).toInt = sf.toInt - sf.toInt / 10 * 10 := by
          rw [tS (by rw [m1]; omega) (by rw [m1]; omega), m1]
        rw [m2] at b2
        have bb2 : sf.toInt - sf.toInt / 10 * 10 ≤ 2 := b2
        exact wi_of ⟨c', by rw [t22]; omega⟩
theorem dist1 {V sf dm : Int32} (hV : f_X7_within V 0 60000 = 1) (h1 : f_X7_within sf 0 22 = 1) (h2 : f_X7_isSurface (sf - sf / 10 * 10) = 1) (hd : f_X7_within dm 0 2000 = 1) : distOK V sf dm = 1 := by
  unfold distOK; rw [if_neg (z1' h1), if_neg (z1' h2), if_neg (z1' hV), if_neg (z1' hd)]
theorem dist0 {V sf dm : Int32} (h : f_X7_within V 0 60000 = 0 ∨ (f_X7_within sf 0 22 = 0 ∨ f_X7_isSurface (sf - sf / 10 * 10) = 0) ∨ f_X7_within dm 0 2000 = 0) : distOK V sf dm = 0 := by
  unfold distOK
  by_cases a : f_X7_within sf 0 22 = 0
  · rw [if_pos a]
  rw [if_neg a]
  by_cases b : f_X7_isSurface (sf - sf / 10 * 10) = 0
  · rw [if_pos b]
  rw [if_neg b]
  by_cases c : f_X7_within V 0 60000 = 0
  · rw [if_pos c]
  rw [if_neg c]
  by_cases d : f_X7_within dm 0 2000 = 0
  · rw [if_pos d]
  rcases h with h | (h | h) | h
  · exact absurd h c
  · exact absurd h a
  · exact absurd h b
  · exact absurd h d
theorem g_ref (g : F1) (w : Int32) : f_X7_refused_o g w 0 = g 0 := pk_un (by decide)
theorem g_upd (g : F1) (w : Int32) : upd g 1 w 0 = g 0 := pk_un (by decide)
theorem room01 (cn : Nat) (rs : F1) (a : Int32) : f_X3_hasRoomFor cn rs a = 0 ∨ f_X3_hasRoomFor cn rs a = 1 := by
  unfold f_X3_hasRoomFor; split
  · exact Or.inr rfl
  · split
    · exact Or.inl rfl
    · exact Or.inr rfl
theorem room_0 {cn : Nat} {rs : F1} {a : Int32} (hc : cn ≤ 12) (h : f_X3_hasRoomFor cn rs a = 0) : cn = 12 ∧ f_X3_isStart cn rs (plc cn rs a) a = 0 := by
  unfold f_X3_hasRoomFor at h
  by_cases c : nI cn < 12
  · rw [if_pos c] at h; exact absurd h (by decide)
  · rw [if_neg c] at h
    by_cases d : f_X3_isStart cn rs (plc cn rs a) a = 0
    · refine ⟨?_, d⟩
      have : ¬ cn < 12 := fun q => c ((nI_ltI (b := 12) (by omega) (by decide)).mpr q)
      omega
    · rw [if_neg d] at h; exact absurd h (by decide)
theorem room_1' {cn : Nat} {rs : F1} {a : Int32} (hc : cn ≤ 12) (h : f_X3_hasRoomFor cn rs a = 1) (d : f_X3_isStart cn rs (plc cn rs a) a = 0) : cn < 12 := by
  unfold f_X3_hasRoomFor at h
  by_cases c : nI cn < 12
  · exact (nI_ltI (b := 12) (by omega) (by decide)).mp c
  · rw [if_neg c, if_pos d] at h; exact absurd h (by decide)
theorem put_new {cn : Nat} {rs : F1} {a : Int32} (hc : cn < 12) (d : f_X3_isStart cn rs (plc cn rs a) a = 0) : f_X3_put_h_cn cn rs a = cn + 1 := by
  unfold f_X3_put_h_cn
  rw [if_pos d, if_neg (fun q => by
    have e : (nI cn).toInt = cn := nI_toInt (by omega)
    have h := le_iff.mp q
    rw [e] at h
    have h' : (12 : Int) ≤ cn := h
    omega)]
theorem put_same {cn : Nat} {rs : F1} {a : Int32} (d : ¬ f_X3_isStart cn rs (plc cn rs a) a = 0) : f_X3_put_h_cn cn rs a = cn := by
  unfold f_X3_put_h_cn; rw [if_neg d]
theorem seg1 {n : F1} {st_ lf rg : Int32} (h1 : f_X7_within st_ (n 1) 100000000 = 1) (h2 : f_X7_isSurface lf = 1) (h3 : f_X7_isSurface rg = 1) : segOK n st_ lf rg = 1 := by
  unfold segOK; rw [if_neg (z1' h1), if_neg (z1' h2), if_neg (z1' h3)]
theorem seg0 {n : F1} {st_ lf rg : Int32} (h : f_X7_within st_ (n 1) 100000000 = 0 ∨ f_X7_isSurface lf = 0 ∨ f_X7_isSurface rg = 0) : segOK n st_ lf rg = 0 := by
  unfold segOK
  by_cases a : f_X7_within st_ (n 1) 100000000 = 0
  · rw [if_pos a]
  rw [if_neg a]
  by_cases b : f_X7_isSurface lf = 0
  · rw [if_pos b]
  rw [if_neg b]
  by_cases c : f_X7_isSurface rg = 0
  · rw [if_pos c]
  rcases h with h | h | h
  · exact absurd h a
  · exact absurd h b
  · exact absurd h c
theorem plan1 {V U : Int32} (h1 : f_X7_within V 1 5000 = 1) (h2 : f_X7_within U 0 2000 = 1) : planOK V U = 1 := by
  unfold planOK; rw [if_neg (z1' h1), if_neg (z1' h2)]
theorem plan0 {V U : Int32} (h : f_X7_within V 1 5000 = 0 ∨ f_X7_within U 0 2000 = 0) : planOK V U = 0 := by
  unfold planOK
  by_cases a : f_X7_within V 1 5000 = 0
  · rw [if_pos a]
  rw [if_neg a]
  by_cases b : f_X7_within U 0 2000 = 0
  · rw [if_pos b]
  rcases h with h | h
  · exact absurd h a
  · exact absurd h b
