def F_X8_of (N : Nat) (b0 : Nat) (x1 : Int32) (x2 : Int32) (g : GS) : Option (Int32 × GS) := bd1 (ix (((11 : Int32) + ((7 : Int32) * x1)) + x2) (lenM b0)) (fun j1 => some ((g 11 b0 j1), g))
set_option maxRecDepth 100000 in
set_option maxHeartbeats 4000000 in
theorem c_X8_of (l : Launch) (D : va_G) (ad : Ky → Nat) (cy : Nat → ClassId) (hI : Inj ad) (N : Nat) (b0 : Nat) (x1 : Int32) (x2 : Int32) (g : GS) (r : Int32) (gq : GS) (kb0 : ((9, 11, b0) : Ky) ∈ keys) (h : F_X8_of N b0 x1 x2 g = some (r, gq)) : CtI l D ad cy yX8_of cX8_of 3 (some .int) 0 [.ref (ad (9, 11, b0)), .int x1, .int x2] g r gq := by
  refine CtI.of 0 hI (by decide +kernel) rfl (Nat.le_of_ble_eq_true rfl) (fun p e s m args below meth c X => ?_)
  unfold F_X8_of at h
  show Vy _ _ _ _ _ _ _ _ _ _ _ _ _ _ _ 0 [some (.ref (ad (9, 11, b0))), some (.int x1), some (.int x2)] [] g
  refine v_aloadn X dX8_of_0 rfl rfl ?_
  refine v_bipush (v := 11) X dX8_of_1 (by decide) ?_
  refine v_bipush (v := 7) X dX8_of_3 (by decide) ?_
  refine v_iloadn X dX8_of_5 rfl rfl ?_
  refine v_imul X dX8_of_6 ?_
  refine v_iadd X dX8_of_7 ?_
  refine v_iloadn X dX8_of_8 rfl rfl ?_
  refine v_iadd X dX8_of_9 ?_
  obtain ⟨j1, q2, h⟩ := bd1_some h
  obtain ⟨ej1, lj1⟩ := ix_spec q2
  refine alM X (by assumption) j1 ej1 lj1 dX8_of_10 ?_
  cases h
  exact v_iret X dX8_of_11 rfl rfl
def F_X8_cellOf (N : Nat) (b0 : Nat) (x1 : Int32) (g : GS) : Option (Int32 × GS) := bd2 (F_X8_of N b0 x1 (3 : Int32) g) (fun r3 g2 => if r3 = (2 : Int32) then bd2 (F_X8_of N b0 x1 (6 : Int32) g2) (fun r7 g6 => some (r7, g6)) else some ((-1000000 : Int32), g2))
set_option maxRecDepth 100000 in
set_option maxHeartbeats 4000000 in
theorem c_X8_cellOf (l : Launch) (D : va_G) (ad : Ky → Nat) (cy : Nat → ClassId) (hI : Inj ad) (N : Nat) (b0 : Nat) (x1 : Int32) (g : GS) (r : Int32) (gq : GS) (kb0 : ((9, 11, b0) : Ky) ∈ keys) (h : F_X8_cellOf N b0 x1 g = some (r, gq)) : CtI l D ad cy yX8_cellOf cX8_cellOf 2 (some .int) 1 [.ref (ad (9, 11, b0)), .int x1] g r gq := by
  refine CtI.of 0 hI (by decide +kernel) rfl (Nat.le_of_ble_eq_true rfl) (fun p e s m args below meth c X => ?_)
  unfold F_X8_cellOf at h
  show Vy _ _ _ _ _ _ _ _ _ _ _ _ _ _ _ 0 [some (.ref (ad (9, 11, b0))), some (.int x1)] [] g
  refine v_aloadn X dX8_cellOf_0 rfl rfl ?_
  refine v_iloadn X dX8_cellOf_1 rfl rfl ?_
  refine v_iconst (v := 3) X dX8_cellOf_2 (by decide) ?_
  obtain ⟨r3, g2, q1, h⟩ := bd2_some h
  refine v_callSI (As := [.ref (ad (9, 11, b0)), .int x1, .int (3 : Int32)]) (rest := []) X (c_X8_of l D ad cy X.2.2.2.2.2.2.2.2.1 N b0 x1 (3 : Int32) g r3 g2 (by assumption) q1) mw_X8_of ml_X8_155 (by decide) rfl rfl (Nat.le_of_ble_eq_true rfl) dX8_cellOf_3 ?_
  refine v_iconst (v := 2) X dX8_cellOf_6 (by decide) ?_
  refine v_icmp_ne X 20 dX8_cellOf_7 (by decide) (fun c4 => ?_) (fun c4 => ?_)
  · replace h := (if_neg c4).symm.trans h
    refine v_ldc X kc_X8_93 dX8_cellOf_20 ?_
    cases h
    exact v_iret X dX8_cellOf_22 rfl rfl
  · replace h := (if_pos c4).symm.trans h
    refine v_aloadn X dX8_cellOf_10 rfl rfl ?_
    refine v_iloadn X dX8_cellOf_11 rfl rfl ?_
    refine v_bipush (v := 6) X dX8_cellOf_12 (by decide) ?_
    obtain ⟨r7, g6, q5, h⟩ := bd2_some h
    refine v_callSI (As := [.ref (ad (9, 11, b0)), .int x1, .int (6 : Int32)]) (rest := []) X (c_X8_of l D ad cy X.2.2.2.2.2.2.2.2.1 N b0 x1 (6 : Int32) g2 r7 g6 (by assumption) q5) mw_X8_of ml_X8_155 (by decide) rfl rfl (Nat.le_of_ble_eq_true rfl) dX8_cellOf_14 ?_
    refine v_goto X 22 dX8_cellOf_17 (by decide) ?_
    cases h
    exact v_iret X dX8_cellOf_22 rfl rfl
def F_X8_forceOf (N : Nat) (b0 : Nat) (x1 : Int32) (g : GS) : Option (Int32 × GS) := bd1 (ix (1 : Int32) (lenM b0)) (fun j1 => if (g 11 b0 j1) = 0 then some ((0 : Int32), g) else bd1 (ix (1 : Int32) (lenM b0)) (fun j4 => if (g 11 b0 j4) = 0 then none else bd1 (ix ((5 : Int32) + (x1 - x1 / (g 11 b0 j4) * (g 11 b0 j4))) (lenM b0)) (fun j7 => some ((g 11 b0 j7), g))))
set_option maxRecDepth 100000 in
set_option maxHeartbeats 4000000 in
theorem c_X8_forceOf (l : Launch) (D : va_G) (ad : Ky → Nat) (cy : Nat → ClassId) (hI : Inj ad) (N : Nat) (b0 : Nat) (x1 : Int32) (g : GS) (r : Int32) (gq : GS) (kb0 : ((9, 11, b0) : Ky) ∈ keys) (h : F_X8_forceOf N b0 x1 g = some (r, gq)) : CtI l D ad cy yX8_forceOf cX8_forceOf 2 (some .int) 0 [.ref (ad (9, 11, b0)), .int x1] g r gq := by
  refine CtI.of 0 hI (by decide +kernel) rfl (Nat.le_of_ble_eq_true rfl) (fun p e s m args below meth c X => ?_)
  unfold F_X8_forceOf at h
  show Vy _ _ _ _ _ _ _ _ _ _ _ _ _ _ _ 0 [some (.ref (ad (9, 11, b0))), some (.int x1)] [] g
  refine v_aloadn X dX8_forceOf_0 rfl rfl ?_
  refine v_iconst (v := 1) X dX8_forceOf_1 (by decide) ?_
  obtain ⟨j1, q2, h⟩ := bd1_some h
  obtain ⟨ej1, lj1⟩ := ix_spec q2
  refine alM X (by assumption) j1 ej1 lj1 dX8_forceOf_2 ?_
  refine v_if_ne X 10 dX8_forceOf_3 (by decide) (fun c3 => ?_) (fun c3 => ?_)
  · replace h := (if_neg c3).symm.trans h
    refine v_aloadn X dX8_forceOf_10 rfl rfl ?_
    refine v_iconst (v := 5) X dX8_forceOf_11 (by decide) ?_
    refine v_iloadn X dX8_forceOf_12 rfl rfl ?_
    refine v_aloadn X dX8_forceOf_13 rfl rfl ?_
    refine v_iconst (v := 1) X dX8_forceOf_14 (by decide) ?_
    obtain ⟨j4, q5, h⟩ := bd1_some h
    obtain ⟨ej4, lj4⟩ := ix_spec q5
    refine alM X (by assumption) j4 ej4 lj4 dX8_forceOf_15 ?_
    by_cases c6 : (g 11 b0 j4) = 0
    · replace h := (if_pos c6).symm.trans h
      cases h
    replace h := (if_neg c6).symm.trans h
    refine v_irem X dX8_forceOf_16 c6 ?_
    refine v_iadd X dX8_forceOf_17 ?_
    obtain ⟨j7, q8, h⟩ := bd1_some h
    obtain ⟨ej7, lj7⟩ := ix_spec q8
    refine alM X (by assumption) j7 ej7 lj7 dX8_forceOf_18 ?_
    cases h
    exact v_iret X dX8_forceOf_19 rfl rfl
  · replace h := (if_pos c3).symm.trans h
    refine v_iconst (v := 0) X dX8_forceOf_6 (by decide) ?_
    refine v_goto X 19 dX8_forceOf_7 (by decide) ?_
    cases h
    exact v_iret X dX8_forceOf_19 rfl rfl
def F_X8_isUp (N : Nat) (b0 : Nat) (x1 : Int32) (g : GS) : Option (Int32 × GS) := bd2 (F_X8_of N b0 x1 (3 : Int32) g) (fun r3 g2 => if r3 = (1 : Int32) then some ((1 : Int32), g2) else some ((0 : Int32), g2))
set_option maxRecDepth 100000 in
set_option maxHeartbeats 4000000 in
theorem c_X8_isUp (l : Launch) (D : va_G) (ad : Ky → Nat) (cy : Nat → ClassId) (hI : Inj ad) (N : Nat) (b0 : Nat) (x1 : Int32) (g : GS) (r : Int32) (gq : GS) (kb0 : ((9, 11, b0) : Ky) ∈ keys) (h : F_X8_isUp N b0 x1 g = some (r, gq)) : CtI l D ad cy yX8_isUp cX8_isUp 2 (some .boolean) 1 [.ref (ad (9, 11, b0)), .int x1] g r gq := by
  refine CtI.of 0 hI (by decide +kernel) rfl (Nat.le_of_ble_eq_true rfl) (fun p e s m args below meth c X => ?_)
  unfold F_X8_isUp at h
  show Vy _ _ _ _ _ _ _ _ _ _ _ _ _ _ _ 0 [some (.ref (ad (9, 11, b0))), some (.int x1)] [] g
  refine v_aloadn X dX8_isUp_0 rfl rfl ?_
  refine v_iloadn X dX8_isUp_1 rfl rfl ?_
  refine v_iconst (v := 3) X dX8_isUp_2 (by decide) ?_
  obtain ⟨r3, g2, q1, h⟩ := bd2_some h
  refine v_callSI (As := [.ref (ad (9, 11, b0)), .int x1, .int (3 : Int32)]) (rest := []) X (c_X8_of l D ad cy X.2.2.2.2.2.2.2.2.1 N b0 x1 (3 : Int32) g r3 g2 (by assumption) q1) mw_X8_of ml_X8_155 (by decide) rfl rfl (Nat.le_of_ble_eq_true rfl) dX8_isUp_3 ?_
  refine v_iconst (v := 1) X dX8_isUp_6 (by decide) ?_
  refine v_icmp_ne X 14 dX8_isUp_7 (by decide) (fun c4 => ?_) (fun c4 => ?_)
  · replace h := (if_neg c4).symm.trans h
    refine v_iconst (v := 0) X dX8_isUp_14 (by decide) ?_
    cases h
    exact v_zret X dX8_isUp_15 rfl rfl rfl
  · replace h := (if_pos c4).symm.trans h
    refine v_iconst (v := 1) X dX8_isUp_10 (by decide) ?_
    refine v_goto X 15 dX8_isUp_11 (by decide) ?_
    cases h
    exact v_zret X dX8_isUp_15 rfl rfl rfl
def F_X8_be (N : Nat) (b0 : Nat) (x1 : Int32) (x2 : Int32) (x3 : Int32) (g : GS) : Option GS := bd1 (ix (((11 : Int32) + ((7 : Int32) * x1)) + x2) (lenM b0)) (fun j1 => some (g3 g 11 b0 j1 x3))
set_option maxRecDepth 100000 in
set_option maxHeartbeats 4000000 in
theorem c_X8_be (l : Launch) (D : va_G) (ad : Ky → Nat) (cy : Nat → ClassId) (hI : Inj ad) (N : Nat) (b0 : Nat) (x1 : Int32) (x2 : Int32) (x3 : Int32) (g : GS) (gq : GS) (kb0 : ((9, 11, b0) : Ky) ∈ keys) (h : F_X8_be N b0 x1 x2 x3 g = some gq) : CtV l D ad cy yX8_be cX8_be 4 0 [.ref (ad (9, 11, b0)), .int x1, .int x2, .int x3] g gq := by
  refine CtV.of 0 hI (by decide +kernel) rfl (Nat.le_of_ble_eq_true rfl) (fun p e s m args below meth c X => ?_)
  unfold F_X8_be at h
  show Vy _ _ _ _ _ _ _ _ _ _ _ _ _ _ _ 0 [some (.ref (ad (9, 11, b0))), some (.int x1), some (.int x2), some (.int x3)] [] g
  refine v_aloadn X dX8_be_0 rfl rfl ?_
  refine v_bipush (v := 11) X dX8_be_1 (by decide) ?_
  refine v_bipush (v := 7) X dX8_be_3 (by decide) ?_
  refine v_iloadn X dX8_be_5 rfl rfl ?_
  refine v_imul X dX8_be_6 ?_
  refine v_iadd X dX8_be_7 ?_
  refine v_iloadn X dX8_be_8 rfl rfl ?_
  refine v_iadd X dX8_be_9 ?_
  refine v_iloadn X dX8_be_10 rfl rfl ?_
  obtain ⟨j1, q2, h⟩ := bd1_some h
  obtain ⟨ej1, lj1⟩ := ix_spec q2
  refine asM X (by assumption) j1 ej1 lj1 dX8_be_11 ?_
  cases h
  exact v_vret X dX8_be_12 rfl
def F_X8_doesSnap (N : Nat) (b0 : Nat) (x1 : Int32) (x2 : Int32) (g : GS) : Option (Int32 × GS) := if x2 ≤ 0 then some ((0 : Int32), g) else bd2 (F_X8_of N b0 x1 (4 : Int32) g) (fun r4 g3 => bd2 (F_X8_of N b0 x1 (5 : Int32) g3) (fun r7 g6 => bd1 (ix (3 : Int32) (lenM b0)) (fun j8 => if (r4 + x2) ≤ (r7 + (g6 11 b0 j8)) then some ((0 : Int32), g6) else some ((1 : Int32), g6))))
set_option maxRecDepth 100000 in
set_option maxHeartbeats 4000000 in
theorem c_X8_doesSnap (l : Launch) (D : va_G) (ad : Ky → Nat) (cy : Nat → ClassId) (hI : Inj ad) (N : Nat) (b0 : Nat) (x1 : Int32) (x2 : Int32) (g : GS) (r : Int32) (gq : GS) (kb0 : ((9, 11, b0) : Ky) ∈ keys) (h : F_X8_doesSnap N b0 x1 x2 g = some (r, gq)) : CtI l D ad cy yX8_doesSnap cX8_doesSnap 3 (some .boolean) 1 [.ref (ad (9, 11, b0)), .int x1, .int x2] g r gq := by
  refine CtI.of 0 hI (by decide +kernel) rfl (Nat.le_of_ble_eq_true rfl) (fun p e s m args below meth c X => ?_)
  unfold F_X8_doesSnap at h
  show Vy _ _ _ _ _ _ _ _ _ _ _ _ _ _ _ 0 [some (.ref (ad (9, 11, b0))), some (.int x1), some (.int x2)] [] g
  refine v_iloadn X dX8_doesSnap_0 rfl rfl ?_
  refine v_if_le X 29 dX8_doesSnap_1 (by decide) (fun c1 => ?_) (fun c1 => ?_)
  · replace h := (if_pos c1).symm.trans h
    refine v_iconst (v := 0) X dX8_doesSnap_29 (by decide) ?_
    cases h
    exact v_zret X dX8_doesSnap_30 rfl rfl rfl
  · replace h := (if_neg c1).symm.trans h
    refine v_aloadn X dX8_doesSnap_4 rfl rfl ?_
    refine v_iloadn X dX8_doesSnap_5 rfl rfl ?_
    refine v_iconst (v := 4) X dX8_doesSnap_6 (by decide) ?_
    obtain ⟨r4, g3, q2, h⟩ := bd2_some h
    refine v_callSI (As := [.ref (ad (9, 11, b0)), .int x1, .int (4 : Int32)]) (rest := []) X (c_X8_of l D ad cy X.2.2.2.2.2.2.2.2.1 N b0 x1 (4 : Int32) g r4 g3 (by assumption) q2) mw_X8_of ml_X8_155 (by decide) rfl rfl (Nat.le_of_ble_eq_true rfl) dX8_doesSnap_7 ?_
    refine v_iloadn X dX8_doesSnap_10 rfl rfl ?_
    refine v_iadd X dX8_doesSnap_11 ?_
    refine v_aloadn X dX8_doesSnap_12 rfl rfl ?_
    refine v_iloadn X dX8_doesSnap_13 rfl rfl ?_
    refine v_iconst (v := 5) X dX8_doesSnap_14 (by decide) ?_
    obtain ⟨r7, g6, q5, h⟩ := bd2_some h
    refine v_callSI (As := [.ref (ad (9, 11, b0)), .int x1, .int (5 : Int32)]) (rest := [.int (r4 + x2)]) X (c_X8_of l D ad cy X.2.2.2.2.2.2.2.2.1 N b0 x1 (5 : Int32) g3 r7 g6 (by assumption) q5) mw_X8_of ml_X8_155 (by decide) rfl rfl (Nat.le_of_ble_eq_true rfl) dX8_doesSnap_15 ?_
    refine v_aloadn X dX8_doesSnap_18 rfl rfl ?_
    refine v_iconst (v := 3) X dX8_doesSnap_19 (by decide) ?_
    obtain ⟨j8, q9, h⟩ := bd1_some h
    obtain ⟨ej8, lj8⟩ := ix_spec q9
    refine alM X (by assumption) j8 ej8 lj8 dX8_doesSnap_20 ?_
    refine v_iadd X dX8_doesSnap_21 ?_
    refine v_icmp_le X 29 dX8_doesSnap_22 (by decide) (fun c10 => ?_) (fun c10 => ?_)
    · replace h := (if_pos c10).symm.trans h
      refine v_iconst (v := 0) X dX8_doesSnap_29 (by decide) ?_
      cases h
      exact v_zret X dX8_doesSnap_30 rfl rfl rfl
    · replace h := (if_neg c10).symm.trans h
      refine v_iconst (v := 1) X dX8_doesSnap_25 (by decide) ?_
      refine v_goto X 30 dX8_doesSnap_26 (by decide) ?_
      cases h
      exact v_zret X dX8_doesSnap_30 rfl rfl rfl
def F_X8_moves (N : Nat) (b0 : Nat) (x1 : Int32) (x2 : Int32) (x3 : Int32) (g : GS) : Option GS := bd2 (F_X8_of N b0 x1 (4 : Int32) g) (fun r3 g2 => bd2 (F_X8_of N b0 x1 (5 : Int32) g2) (fun r6 g5 => bd2 (F_X8_doesSnap N b0 x1 x2 g5) (fun r9 g8 => if r9 = 0 then if 0 ≤ x2 then if (r3 + x2) ≤ r6 then bd1 (F_X8_be N b0 x1 (4 : Int32) (r3 + x2) g8) (fun g14 => some g14) else bd1 (F_X8_be N b0 x1 (4 : Int32) r6 g8) (fun g16 => some g16) else if 0 < (r3 + x2) then if (r3 + x2) ≤ r6 then bd1 (F_X8_be N b0 x1 (4 : Int32) (r3 + x2) g8) (fun g20 => some g20) else bd1 (F_X8_be N b0 x1 (4 : Int32) r6 g8) (fun g22 => some g22) else bd1 (F_X8_be N b0 x1 (3 : Int32) (0 : Int32) g8) (fun g24 => bd1 (F_X8_be N b0 x1 (4 : Int32) (0 : Int32) g24) (fun g26 => bd1 (F_X8_be N b0 x1 (5 : Int32) (0 : Int32) g26) (fun g28 => some g28))) else bd1 (F_X8_be N b0 x1 (3 : Int32) (2 : Int32) g8) (fun g30 => bd1 (F_X8_be N b0 x1 (6 : Int32) (((x1 + r6) + x3) - ((x1 + r6) + x3) / (16 : Int32) * (16 : Int32)) g30) (fun g32 => bd1 (F_X8_be N b0 x1 (4 : Int32) (0 : Int32) g32) (fun g34 => bd1 (F_X8_be N b0 x1 (5 : Int32) (0 : Int32) g34) (fun g36 => some g36)))))))
set_option maxRecDepth 100000 in
set_option maxHeartbeats 4000000 in
theorem c_X8_moves (l : Launch) (D : va_G) (ad : Ky → Nat) (cy : Nat → ClassId) (hI : Inj ad) (N : Nat) (b0 : Nat) (x1 : Int32) (x2 : Int32) (x3 : Int32) (g : GS) (gq : GS) (kb0 : ((9, 11, b0) : Ky) ∈ keys) (h : F_X8_moves N b0 x1 x2 x3 g = some gq) : CtV l D ad cy yX8_moves cX8_moves 6 2 [.ref (ad (9, 11, b0)), .int x1, .int x2, .int x3] g gq := by
  refine CtV.of 2 hI (by decide +kernel) rfl (Nat.le_of_ble_eq_true rfl) (fun p e s m args below meth c X => ?_)
  unfold F_X8_moves at h
  show Vy _ _ _ _ _ _ _ _ _ _ _ _ _ _ _ 0 [some (.ref (ad (9, 11, b0))), some (.int x1), some (.int x2), some (.int x3), none, none] [] g
  refine v_aloadn X dX8_moves_0 rfl rfl ?_
  refine v_iloadn X dX8_moves_1 rfl rfl ?_
  refine v_iconst (v := 4) X dX8_moves_2 (by decide) ?_
  obtain ⟨r3, g2, q1, h⟩ := bd2_some h
  refine v_callSI (As := [.ref (ad (9, 11, b0)), .int x1, .int (4 : Int32)]) (rest := []) X (c_X8_of l D ad cy X.2.2.2.2.2.2.2.2.1 N b0 x1 (4 : Int32) g r3 g2 (by assumption) q1) mw_X8_of ml_X8_155 (by decide) rfl rfl (Nat.le_of_ble_eq_true rfl) dX8_moves_3 ?_
  refine v_iloadn X dX8_moves_6 rfl rfl ?_
  refine v_iadd X dX8_moves_7 ?_
  refine v_istore (lc' := [some (.ref (ad (9, 11, b0))), some (.int x1), some (.int x2), some (.int x3), some (.int (r3 + x2)), none]) X dX8_moves_8 (by decide) rfl rfl ?_
  refine v_aloadn X dX8_moves_10 rfl rfl ?_
  refine v_iloadn X dX8_moves_11 rfl rfl ?_
  refine v_iconst (v := 5) X dX8_moves_12 (by decide) ?_
  obtain ⟨r6, g5, q4, h⟩ := bd2_some h
  refine v_callSI (As := [.ref (ad (9, 11, b0)), .int x1, .int (5 : Int32)]) (rest := []) X (c_X8_of l D ad cy X.2.2.2.2.2.2.2.2.1 N b0 x1 (5 : Int32) g2 r6 g5 (by assumption) q4) mw_X8_of ml_X8_155 (by decide) rfl rfl (Nat.le_of_ble_eq_true rfl) dX8_moves_13 ?_
  refine v_istore (lc' := [some (.ref (ad (9, 11, b0))), some (.int x1), some (.int x2), some (.int x3), some (.int (r3 + x2)), some (.int r6)]) X dX8_moves_16 (by decide) rfl rfl ?_
  refine v_aloadn X dX8_moves_18 rfl rfl ?_
  refine v_iloadn X dX8_moves_19 rfl rfl ?_
  refine v_iloadn X dX8_moves_20 rfl rfl ?_
  obtain ⟨r9, g8, q7, h⟩ := bd2_some h
  refine v_callSI (As := [.ref (ad (9, 11, b0)), .int x1, .int x2]) (rest := []) X (c_X8_doesSnap l D ad cy X.2.2.2.2.2.2.2.2.1 N b0 x1 x2 g5 r9 g8 (by assumption) q7) mw_X8_doesSnap ml_X8_166 (by decide) rfl rfl (Nat.le_of_ble_eq_true rfl) dX8_moves_21 ?_
  refine v_if_eq X 67 dX8_moves_24 (by decide) (fun c10 => ?_) (fun c10 => ?_)
  · replace h := (if_pos c10).symm.trans h
    refine v_iloadn X dX8_moves_67 rfl rfl ?_
    refine v_if_ge X 100 dX8_moves_68 (by decide) (fun c11 => ?_) (fun c11 => ?_)
    · replace h := (if_pos c11).symm.trans h
      refine v_aloadn X dX8_moves_100 rfl rfl ?_
      refine v_iloadn X dX8_moves_101 rfl rfl ?_
      refine v_iconst (v := 4) X dX8_moves_102 (by decide) ?_
      refine v_iload X dX8_moves_103 rfl ?_
      refine v_iload X dX8_moves_105 rfl ?_
      refine v_icmp_le X 115 dX8_moves_107 (by decide) (fun c12 => ?_) (fun c12 => ?_)
      · replace h := (if_pos c12).symm.trans h
        refine v_iload X dX8_moves_115 rfl ?_
        obtain ⟨g14, q13, h⟩ := bd1_some h
        refine v_callSV (As := [.ref (ad (9, 11, b0)), .int x1, .int (4 : Int32), .int (r3 + x2)]) (rest := []) X (c_X8_be l D ad cy X.2.2.2.2.2.2.2.2.1 N b0 x1 (4 : Int32) (r3 + x2) g8 g14 (by assumption) q13) mw_X8_be ml_X8_170 (by decide) rfl rfl (Nat.le_of_ble_eq_true rfl) dX8_moves_117 ?_
        cases h
        exact v_vret X dX8_moves_120 rfl
      · replace h := (if_neg c12).symm.trans h
        refine v_iload X dX8_moves_110 rfl ?_
        refine v_goto X 117 dX8_moves_112 (by decide) ?_
        obtain ⟨g16, q15, h⟩ := bd1_some h
        refine v_callSV (As := [.ref (ad (9, 11, b0)), .int x1, .int (4 : Int32), .int r6]) (rest := []) X (c_X8_be l D ad cy X.2.2.2.2.2.2.2.2.1 N b0 x1 (4 : Int32) r6 g8 g16 (by assumption) q15) mw_X8_be ml_X8_170 (by decide) rfl rfl (Nat.le_of_ble_eq_true rfl) dX8_moves_117 ?_
        cases h
        exact v_vret X dX8_moves_120 rfl
    · replace h := (if_neg c11).symm.trans h
      refine v_iload X dX8_moves_71 rfl ?_
      refine v_if_gt X 100 dX8_moves_73 (by decide) (fun c17 => ?_) (fun c17 => ?_)
      · replace h := (if_pos c17).symm.trans h
        refine v_aloadn X dX8_moves_100 rfl rfl ?_
        refine v_iloadn X dX8_moves_101 rfl rfl ?_
        refine v_iconst (v := 4) X dX8_moves_102 (by decide) ?_
        refine v_iload X dX8_moves_103 rfl ?_
        refine v_iload X dX8_moves_105 rfl ?_
        refine v_icmp_le X 115 dX8_moves_107 (by decide) (fun c18 => ?_) (fun c18 => ?_)
        · replace h := (if_pos c18).symm.trans h
          refine v_iload X dX8_moves_115 rfl ?_
          obtain ⟨g20, q19, h⟩ := bd1_some h
          refine v_callSV (As := [.ref (ad (9, 11, b0)), .int x1, .int (4 : Int32), .int (r3 + x2)]) (rest := []) X (c_X8_be l D ad cy X.2.2.2.2.2.2.2.2.1 N b0 x1 (4 : Int32) (r3 + x2) g8 g20 (by assumption) q19) mw_X8_be ml_X8_170 (by decide) rfl rfl (Nat.le_of_ble_eq_true rfl) dX8_moves_117 ?_
          cases h
          exact v_vret X dX8_moves_120 rfl
        · replace h := (if_neg c18).symm.trans h
          refine v_iload X dX8_moves_110 rfl ?_
          refine v_goto X 117 dX8_moves_112 (by decide) ?_
          obtain ⟨g22, q21, h⟩ := bd1_some h
          refine v_callSV (As := [.ref (ad (9, 11, b0)), .int x1, .int (4 : Int32), .int r6]) (rest := []) X (c_X8_be l D ad cy X.2.2.2.2.2.2.2.2.1 N b0 x1 (4 : Int32) r6 g8 g22 (by assumption) q21) mw_X8_be ml_X8_170 (by decide) rfl rfl (Nat.le_of_ble_eq_true rfl) dX8_moves_117 ?_
          cases h
          exact v_vret X dX8_moves_120 rfl
      · replace h := (if_neg c17).symm.trans h
        refine v_aloadn X dX8_moves_76 rfl rfl ?_
        refine v_iloadn X dX8_moves_77 rfl rfl ?_
        refine v_iconst (v := 3) X dX8_moves_78 (by decide) ?_
        refine v_iconst (v := 0) X dX8_moves_79 (by decide) ?_
        obtain ⟨g24, q23, h⟩ := bd1_some h
        refine v_callSV (As := [.ref (ad (9, 11, b0)), .int x1, .int (3 : Int32), .int (0 : Int32)]) (rest := []) X (c_X8_be l D ad cy X.2.2.2.2.2.2.2.2.1 N b0 x1 (3 : Int32) (0 : Int32) g8 g24 (by assumption) q23) mw_X8_be ml_X8_170 (by decide) rfl rfl (Nat.le_of_ble_eq_true rfl) dX8_moves_80 ?_
        refine v_aloadn X dX8_moves_83 rfl rfl ?_
        refine v_iloadn X dX8_moves_84 rfl rfl ?_
        refine v_iconst (v := 4) X dX8_moves_85 (by decide) ?_
        refine v_iconst (v := 0) X dX8_moves_86 (by decide) ?_
        obtain ⟨g26, q25, h⟩ := bd1_some h
        refine v_callSV (As := [.ref (ad (9, 11, b0)), .int x1, .int (4 : Int32), .int (0 : Int32)]) (rest := []) X (c_X8_be l D ad cy X.2.2.2.2.2.2.2.2.1 N b0 x1 (4 : Int32) (0 : Int32) g24 g26 (by assumption) q25) mw_X8_be ml_X8_170 (by decide) rfl rfl (Nat.le_of_ble_eq_true rfl) dX8_moves_87 ?_
        refine v_aloadn X dX8_moves_90 rfl rfl ?_
        refine v_iloadn X dX8_moves_91 rfl rfl ?_
        refine v_iconst (v := 5) X dX8_moves_92 (by decide) ?_
        refine v_iconst (v := 0) X dX8_moves_93 (by decide) ?_
        obtain ⟨g28, q27, h⟩ := bd1_some h
        refine v_callSV (As := [.ref (ad (9, 11, b0)), .int x1, .int (5 : Int32), .int (0 : Int32)]) (rest := []) X (c_X8_be l D ad cy X.2.2.2.2.2.2.2.2.1 N b0 x1 (5 : Int32) (0 : Int32) g26 g28 (by assumption) q27) mw_X8_be ml_X8_170 (by decide) rfl rfl (Nat.le_of_ble_eq_true rfl) dX8_moves_94 ?_
        refine v_goto X 120 dX8_moves_97 (by decide) ?_
        cases h
        exact v_vret X dX8_moves_120 rfl
  · replace h := (if_neg c10).symm.trans h
    refine v_aloadn X dX8_moves_27 rfl rfl ?_
    refine v_iloadn X dX8_moves_28 rfl rfl ?_
    refine v_iconst (v := 3) X dX8_moves_29 (by decide) ?_
    refine v_iconst (v := 2) X dX8_moves_30 (by decide) ?_
    obtain ⟨g30, q29, h⟩ := bd1_some h
    refine v_callSV (As := [.ref (ad (9, 11, b0)), .int x1, .int (3 : Int32), .int (2 : Int32)]) (rest := []) X (c_X8_be l D ad cy X.2.2.2.2.2.2.2.2.1 N b0 x1 (3 : Int32) (2 : Int32) g8 g30 (by assumption) q29) mw_X8_be ml_X8_170 (by decide) rfl rfl (Nat.le_of_ble_eq_true rfl) dX8_moves_31 ?_
    refine v_aloadn X dX8_moves_34 rfl rfl ?_
    refine v_iloadn X dX8_moves_35 rfl rfl ?_
    refine v_bipush (v := 6) X dX8_moves_36 (by decide) ?_
    refine v_iloadn X dX8_moves_38 rfl rfl ?_
    refine v_iload X dX8_moves_39 rfl ?_
    refine v_iadd X dX8_moves_41 ?_
    refine v_iloadn X dX8_moves_42 rfl rfl ?_
    refine v_iadd X dX8_moves_43 ?_
    refine v_bipush (v := 16) X dX8_moves_44 (by decide) ?_
    refine v_irem X dX8_moves_46 (by decide) ?_
    obtain ⟨g32, q31, h⟩ := bd1_some h
    refine v_callSV (As := [.ref (ad (9, 11, b0)), .int x1, .int (6 : Int32), .int (((x1 + r6) + x3) - ((x1 + r6) + x3) / (16 : Int32) * (16 : Int32))]) (rest := []) X (c_X8_be l D ad cy X.2.2.2.2.2.2.2.2.1 N b0 x1 (6 : Int32) (((x1 + r6) + x3) - ((x1 + r6) + x3) / (16 : Int32) * (16 : Int32)) g30 g32 (by assumption) q31) mw_X8_be ml_X8_170 (by decide) rfl rfl (Nat.le_of_ble_eq_true rfl) dX8_moves_47 ?_
    refine v_aloadn X dX8_moves_50 rfl rfl ?_
    refine v_iloadn X dX8_moves_51 rfl rfl ?_
    refine v_iconst (v := 4) X dX8_moves_52 (by decide) ?_
    refine v_iconst (v := 0) X dX8_moves_53 (by decide) ?_
    obtain ⟨g34, q33, h⟩ := bd1_some h
    refine v_callSV (As := [.ref (ad (9, 11, b0)), .int x1, .int (4 : Int32), .int (0 : Int32)]) (rest := []) X (c_X8_be l D ad cy X.2.2.2.2.2.2.2.2.1 N b0 x1 (4 : Int32) (0 : Int32) g32 g34 (by assumption) q33) mw_X8_be ml_X8_170 (by decide) rfl rfl (Nat.le_of_ble_eq_true rfl) dX8_moves_54 ?_
    refine v_aloadn X dX8_moves_57 rfl rfl ?_
    refine v_iloadn X dX8_moves_58 rfl rfl ?_
    refine v_iconst (v := 5) X dX8_moves_59 (by decide) ?_
    refine v_iconst (v := 0) X dX8_moves_60 (by decide) ?_
    obtain ⟨g36, q35, h⟩ := bd1_some h
    refine v_callSV (As := [.ref (ad (9, 11, b0)), .int x1, .int (5 : Int32), .int (0 : Int32)]) (rest := []) X (c_X8_be l D ad cy X.2.2.2.2.2.2.2.2.1 N b0 x1 (5 : Int32) (0 : Int32) g34 g36 (by assumption) q35) mw_X8_be ml_X8_170 (by decide) rfl rfl (Nat.le_of_ble_eq_true rfl) dX8_moves_61 ?_
    refine v_goto X 120 dX8_moves_64 (by decide) ?_
    cases h
    exact v_vret X dX8_moves_120 rfl
def L_X8_isOtherUp_4 (N : Nat) (w0_1 : Nat) (z1 : Int32) : Nat → Int32 → Int32 → GS → Option (Int32 × Int32 × GS)
  | 0, _, _, _ => none
  | n + 1, y2, y3, g => bd1 (ix (0 : Int32) (lenM w0_1)) (fun j1 => if (g 11 w0_1 j1) ≤ y3 then some (y2, y3, g) else if y2 = 0 then if y3 = z1 then L_X8_isOtherUp_4 N w0_1 z1 n (0 : Int32) (y3 + 1) g else bd2 (F_X8_isUp N w0_1 y3 g) (fun r8 g7 => if r8 = 0 then L_X8_isOtherUp_4 N w0_1 z1 n (0 : Int32) (y3 + 1) g7 else bd2 (F_X8_of N w0_1 y3 (0 : Int32) g7) (fun r12 g11 => if r12 = (3 : Int32) then L_X8_isOtherUp_4 N w0_1 z1 n (1 : Int32) (y3 + 1) g11 else L_X8_isOtherUp_4 N w0_1 z1 n (0 : Int32) (y3 + 1) g11)) else L_X8_isOtherUp_4 N w0_1 z1 n (1 : Int32) (y3 + 1) g)
def F_X8_isOtherUp (N : Nat) (b0 : Nat) (x1 : Int32) (g : GS) : Option (Int32 × GS) := bd3 (L_X8_isOtherUp_4 N b0 x1 N (0 : Int32) (0 : Int32) g) (fun x14 x15 g16 => if x14 = 0 ∨ x14 = 1 then some (x14, g16) else none)
set_option maxRecDepth 100000 in
set_option maxHeartbeats 4000000 in
theorem w_X8_isOtherUp_4 {p : Program} {l : Launch} {e : Env} {s : State} {m : MethodId} {args : Array Value} {below : List Frame} {meth : Method} {c : Code} {D : va_G} {ad : Ky → Nat} {cy : Nat → ClassId} {r : Int32} {gq : GS} {N : Nat} (X : Cx p (rmd 2) s m args meth c RX8 cX8_isOtherUp 4 (some .boolean) D ad cy) (w0_1 : Nat) (z1 : Int32) (hh0 : ((9, 11, w0_1) : Ky) ∈ keys) : ∀ (n : Nat) (y2 : Int32) (y3 : Int32) (g : GS) (y2' : Int32) (y3' : Int32) (g' : GS), L_X8_isOtherUp_4 N w0_1 z1 n y2 y3 g = some (y2', y3', g') → Vy p l e (rmd 2) s m args below meth c 4 D ad cy (QI D ad cy below args s r gq) 50 [some (.ref (ad (9, 11, w0_1))), some (.int z1), some (.int y2'), some (.int y3')] [] g' → Vy p l e (rmd 2) s m args below meth c 4 D ad cy (QI D ad cy below args s r gq) 4 [some (.ref (ad (9, 11, w0_1))), some (.int z1), some (.int y2), some (.int y3)] [] g := by
  intro n
  induction n with
  | zero => intro y2 y3 g y2' y3' g' h k; cases h
  | succ n ih =>
    intro y2 y3 g y2' y3' g' h k
    rw [L_X8_isOtherUp_4] at h
    refine v_iloadn X dX8_isOtherUp_4 rfl rfl ?_
    refine v_aloadn X dX8_isOtherUp_5 rfl rfl ?_
    refine v_iconst (v := 0) X dX8_isOtherUp_6 (by decide) ?_
    obtain ⟨j1, q2, h⟩ := bd1_some h
    obtain ⟨ej1, lj1⟩ := ix_spec q2
    refine alM X (by assumption) j1 ej1 lj1 dX8_isOtherUp_7 ?_
    refine v_icmp_ge X 50 dX8_isOtherUp_8 (by decide) (fun c3 => ?_) (fun c3 => ?_)
    · replace h := (if_pos c3).symm.trans h
      cases h
      exact k
    · replace h := (if_neg c3).symm.trans h
      refine v_iloadn X dX8_isOtherUp_11 rfl rfl ?_
      refine v_if_ne X 38 dX8_isOtherUp_12 (by decide) (fun c4 => ?_) (fun c4 => ?_)
      · replace h := (if_neg c4).symm.trans h
        refine v_iconst (v := 1) X dX8_isOtherUp_38 (by decide) ?_
        refine v_goto X 43 dX8_isOtherUp_39 (by decide) ?_
        refine v_istoren (lc' := [some (.ref (ad (9, 11, w0_1))), some (.int z1), some (.int (1 : Int32)), some (.int y3)]) X dX8_isOtherUp_43 rfl (by decide) rfl rfl ?_
        refine v_iinc (v := (y3 + 1)) (lc' := [some (.ref (ad (9, 11, w0_1))), some (.int z1), some (.int (1 : Int32)), some (.int (y3 + 1))]) X dX8_isOtherUp_44 rfl rfl (by decide) rfl rfl ?_
        refine v_goto X 4 dX8_isOtherUp_47 (by decide) ?_
        exact ih (1 : Int32) (y3 + 1) g _ _ _ h k
      · replace h := (if_pos c4).symm.trans h
        refine v_iloadn X dX8_isOtherUp_15 rfl rfl ?_
        refine v_iloadn X dX8_isOtherUp_16 rfl rfl ?_
        refine v_icmp_eq X 42 dX8_isOtherUp_17 (by decide) (fun c5 => ?_) (fun c5 => ?_)
        · replace h := (if_pos c5).symm.trans h
          refine v_iconst (v := 0) X dX8_isOtherUp_42 (by decide) ?_
          refine v_istoren (lc' := [some (.ref (ad (9, 11, w0_1))), some (.int z1), some (.int (0 : Int32)), some (.int y3)]) X dX8_isOtherUp_43 rfl (by decide) rfl rfl ?_
          refine v_iinc (v := (y3 + 1)) (lc' := [some (.ref (ad (9, 11, w0_1))), some (.int z1), some (.int (0 : Int32)), some (.int (y3 + 1))]) X dX8_isOtherUp_44 rfl rfl (by decide) rfl rfl ?_
          refine v_goto X 4 dX8_isOtherUp_47 (by decide) ?_
          exact ih (0 : Int32) (y3 + 1) g _ _ _ h k
        · replace h := (if_neg c5).symm.trans h
          refine v_aloadn X dX8_isOtherUp_20 rfl rfl ?_
          refine v_iloadn X dX8_isOtherUp_21 rfl rfl ?_
          obtain ⟨r8, g7, q6, h⟩ := bd2_some h
          refine v_callSI (As := [.ref (ad (9, 11, w0_1)), .int y3]) (rest := []) X (c_X8_isUp l D ad cy X.2.2.2.2.2.2.2.2.1 N w0_1 y3 g r8 g7 (by assumption) q6) mw_X8_isUp ml_X8_159 (by decide) rfl rfl (Nat.le_of_ble_eq_true rfl) dX8_isOtherUp_22 ?_
          refine v_if_eq X 42 dX8_isOtherUp_25 (by decide) (fun c9 => ?_) (fun c9 => ?_)
          · replace h := (if_pos c9).symm.trans h
            refine v_iconst (v := 0) X dX8_isOtherUp_42 (by decide) ?_
            refine v_istoren (lc' := [some (.ref (ad (9, 11, w0_1))), some (.int z1), some (.int (0 : Int32)), some (.int y3)]) X dX8_isOtherUp_43 rfl (by decide) rfl rfl ?_
            refine v_iinc (v := (y3 + 1)) (lc' := [some (.ref (ad (9, 11, w0_1))), some (.int z1), some (.int (0 : Int32)), some (.int (y3 + 1))]) X dX8_isOtherUp_44 rfl rfl (by decide) rfl rfl ?_
            refine v_goto X 4 dX8_isOtherUp_47 (by decide) ?_
            exact ih (0 : Int32) (y3 + 1) g7 _ _ _ h k
          · replace h := (if_neg c9).symm.trans h
            refine v_aloadn X dX8_isOtherUp_28 rfl rfl ?_
            refine v_iloadn X dX8_isOtherUp_29 rfl rfl ?_
            refine v_iconst (v := 0) X dX8_isOtherUp_30 (by decide) ?_
            obtain ⟨r12, g11, q10, h⟩ := bd2_some h
            refine v_callSI (As := [.ref (ad (9, 11, w0_1)), .int y3, .int (0 : Int32)]) (rest := []) X (c_X8_of l D ad cy X.2.2.2.2.2.2.2.2.1 N w0_1 y3 (0 : Int32) g7 r12 g11 (by assumption) q10) mw_X8_of ml_X8_155 (by decide) rfl rfl (Nat.le_of_ble_eq_true rfl) dX8_isOtherUp_31 ?_
            refine v_iconst (v := 3) X dX8_isOtherUp_34 (by decide) ?_
            refine v_icmp_ne X 42 dX8_isOtherUp_35 (by decide) (fun c13 => ?_) (fun c13 => ?_)
            · replace h := (if_neg c13).symm.trans h
              refine v_iconst (v := 0) X dX8_isOtherUp_42 (by decide) ?_
              refine v_istoren (lc' := [some (.ref (ad (9, 11, w0_1))), some (.int z1), some (.int (0 : Int32)), some (.int y3)]) X dX8_isOtherUp_43 rfl (by decide) rfl rfl ?_
              refine v_iinc (v := (y3 + 1)) (lc' := [some (.ref (ad (9, 11, w0_1))), some (.int z1), some (.int (0 : Int32)), some (.int (y3 + 1))]) X dX8_isOtherUp_44 rfl rfl (by decide) rfl rfl ?_
              refine v_goto X 4 dX8_isOtherUp_47 (by decide) ?_
              exact ih (0 : Int32) (y3 + 1) g11 _ _ _ h k
            · replace h := (if_pos c13).symm.trans h
              refine v_iconst (v := 1) X dX8_isOtherUp_38 (by decide) ?_
              refine v_goto X 43 dX8_isOtherUp_39 (by decide) ?_
              refine v_istoren (lc' := [some (.ref (ad (9, 11, w0_1))), some (.int z1), some (.int (1 : Int32)), some (.int y3)]) X dX8_isOtherUp_43 rfl (by decide) rfl rfl ?_
              refine v_iinc (v := (y3 + 1)) (lc' := [some (.ref (ad (9, 11, w0_1))), some (.int z1), some (.int (1 : Int32)), some (.int (y3 + 1))]) X dX8_isOtherUp_44 rfl rfl (by decide) rfl rfl ?_
              refine v_goto X 4 dX8_isOtherUp_47 (by decide) ?_
              exact ih (1 : Int32) (y3 + 1) g11 _ _ _ h k
set_option maxRecDepth 100000 in
set_option maxHeartbeats 4000000 in
theorem c_X8_isOtherUp (l : Launch) (D : va_G) (ad : Ky → Nat) (cy : Nat → ClassId) (hI : Inj ad) (N : Nat) (b0 : Nat) (x1 : Int32) (g : GS) (r : Int32) (gq : GS) (kb0 : ((9, 11, b0) : Ky) ∈ keys) (h : F_X8_isOtherUp N b0 x1 g = some (r, gq)) : CtI l D ad cy yX8_isOtherUp cX8_isOtherUp 4 (some .boolean) 2 [.ref (ad (9, 11, b0)), .int x1] g r gq := by
  refine CtI.of 2 hI (by decide +kernel) rfl (Nat.le_of_ble_eq_true rfl) (fun p e s m args below meth c X => ?_)
  unfold F_X8_isOtherUp at h
  show Vy _ _ _ _ _ _ _ _ _ _ _ _ _ _ _ 0 [some (.ref (ad (9, 11, b0))), some (.int x1), none, none] [] g
  refine v_iconst (v := 0) X dX8_isOtherUp_0 (by decide) ?_
  refine v_istoren (lc' := [some (.ref (ad (9, 11, b0))), some (.int x1), some (.int (0 : Int32)), none]) X dX8_isOtherUp_1 rfl (by decide) rfl rfl ?_
  refine v_iconst (v := 0) X dX8_isOtherUp_2 (by decide) ?_
  refine v_istoren (lc' := [some (.ref (ad (9, 11, b0))), some (.int x1), some (.int (0 : Int32)), some (.int (0 : Int32))]) X dX8_isOtherUp_3 rfl (by decide) rfl rfl ?_
  obtain ⟨x14, x15, g16, q17, h⟩ := bd3_some h
  refine w_X8_isOtherUp_4 X b0 x1 (by assumption) N (0 : Int32) (0 : Int32) g x14 x15 g16 q17 ?_
  refine v_iloadn X dX8_isOtherUp_50 rfl rfl ?_
  by_cases c18 : x14 = 0 ∨ x14 = 1
  · replace h := (if_pos c18).symm.trans h
    cases h
    exact v_zret X dX8_isOtherUp_51 (nb c18) rfl rfl
  · replace h := (if_neg c18).symm.trans h
    cases h
def F_X8_riseOf (N : Nat) (b0 : Nat) (x1 : Int32) (x2 : Int32) (g : GS) : Option (Int32 × GS) := bd2 (F_X8_of N b0 x1 (1 : Int32) g) (fun r3 g2 => bd2 (F_X8_of N b0 x1 (4 : Int32) g2) (fun r6 g5 => bd2 (F_X8_of N b0 x1 (0 : Int32) g5) (fun r9 g8 => if r9 = 1 then bd2 (F_X8_of N b0 x1 (0 : Int32) g8) (fun r13 g12 => if r13 = (5 : Int32) then if r6 < (30 : Int32) then bd2 (F_X8_of N b0 x1 (2 : Int32) g12) (fun r21 g20 => some (((r3 * x2) - r21), g20)) else if (30 : Int32) ≤ (r3 * x2) then bd2 (F_X8_of N b0 x1 (2 : Int32) g12) (fun r25 g24 => some (((r3 * x2) - r25), g24)) else bd2 (F_X8_of N b0 x1 (2 : Int32) g12) (fun r28 g27 => some (((30 : Int32) - r28), g27)) else bd2 (F_X8_of N b0 x1 (2 : Int32) g12) (fun r17 g16 => some (((r3 * x2) - r17), g16))) else if r9 = 2 then if r6 < (20 : Int32) then bd2 (F_X8_of N b0 x1 (0 : Int32) g8) (fun r33 g32 => if r33 = (5 : Int32) then if r6 < (30 : Int32) then bd2 (F_X8_of N b0 x1 (2 : Int32) g32) (fun r41 g40 => some ((((r3 * x2) / (2 : Int32)) - r41), g40)) else if (30 : Int32) ≤ ((r3 * x2) / (2 : Int32)) then bd2 (F_X8_of N b0 x1 (2 : Int32) g32) (fun r45 g44 => some ((((r3 * x2) / (2 : Int32)) - r45), g44)) else bd2 (F_X8_of N b0 x1 (2 : Int32) g32) (fun r48 g47 => some (((30 : Int32) - r48), g47)) else bd2 (F_X8_of N b0 x1 (2 : Int32) g32) (fun r37 g36 => some ((((r3 * x2) / (2 : Int32)) - r37), g36))) else bd2 (F_X8_of N b0 x1 (0 : Int32) g8) (fun r51 g50 => if r51 = (5 : Int32) then if r6 < (30 : Int32) then bd2 (F_X8_of N b0 x1 (2 : Int32) g50) (fun r59 g58 => some (((r3 * x2) - r59), g58)) else if (30 : Int32) ≤ (r3 * x2) then bd2 (F_X8_of N b0 x1 (2 : Int32) g50) (fun r63 g62 => some (((r3 * x2) - r63), g62)) else bd2 (F_X8_of N b0 x1 (2 : Int32) g50) (fun r66 g65 => some (((30 : Int32) - r66), g65)) else bd2 (F_X8_of N b0 x1 (2 : Int32) g50) (fun r55 g54 => some (((r3 * x2) - r55), g54))) else if r9 = 3 then bd2 (F_X8_isOtherUp N b0 x1 g8) (fun r70 g69 => if r70 = 0 then bd2 (F_X8_of N b0 x1 (0 : Int32) g69) (fun r74 g73 => if r74 = (5 : Int32) then if r6 < (30 : Int32) then bd2 (F_X8_of N b0 x1 (2 : Int32) g73) (fun r82 g81 => some (((r3 * x2) - r82), g81)) else if (30 : Int32) ≤ (r3 * x2) then bd2 (F_X8_of N b0 x1 (2 : Int32) g73) (fun r86 g85 => some (((r3 * x2) - r86), g85)) else bd2 (F_X8_of N b0 x1 (2 : Int32) g73) (fun r89 g88 => some (((30 : Int32) - r89), g88)) else bd2 (F_X8_of N b0 x1 (2 : Int32) g73) (fun r78 g77 => some (((r3 * x2) - r78), g77))) else bd2 (F_X8_of N b0 x1 (0 : Int32) g69) (fun r92 g91 => if r92 = (5 : Int32) then if r6 < (30 : Int32) then bd2 (F_X8_of N b0 x1 (2 : Int32) g91) (fun r100 g99 => some ((((2 : Int32) * (r3 * x2)) - r100), g99)) else if (30 : Int32) ≤ ((2 : Int32) * (r3 * x2)) then bd2 (F_X8_of N b0 x1 (2 : Int32) g91) (fun r104 g103 => some ((((2 : Int32) * (r3 * x2)) - r104), g103)) else bd2 (F_X8_of N b0 x1 (2 : Int32) g91) (fun r107 g106 => some (((30 : Int32) - r107), g106)) else bd2 (F_X8_of N b0 x1 (2 : Int32) g91) (fun r96 g95 => some ((((2 : Int32) * (r3 * x2)) - r96), g95)))) else bd2 (F_X8_of N b0 x1 (0 : Int32) g8) (fun r110 g109 => if r110 = (5 : Int32) then if r6 < (30 : Int32) then bd2 (F_X8_of N b0 x1 (2 : Int32) g109) (fun r118 g117 => some ((((4 : Int32) * x2) - r118), g117)) else if (30 : Int32) ≤ ((4 : Int32) * x2) then bd2 (F_X8_of N b0 x1 (2 : Int32) g109) (fun r122 g121 => some ((((4 : Int32) * x2) - r122), g121)) else bd2 (F_X8_of N b0 x1 (2 : Int32) g109) (fun r125 g124 => some (((30 : Int32) - r125), g124)) else bd2 (F_X8_of N b0 x1 (2 : Int32) g109) (fun r114 g113 => some ((((4 : Int32) * x2) - r114), g113))))))
set_option maxRecDepth 100000 in
set_option maxHeartbeats 4000000 in
theorem c_X8_riseOf (l : Launch) (D : va_G) (ad : Ky → Nat) (cy : Nat → ClassId) (hI : Inj ad) (N : Nat) (b0 : Nat) (x1 : Int32) (x2 : Int32) (g : GS) (r : Int32) (gq : GS) (kb0 : ((9, 11, b0) : Ky) ∈ keys) (h : F_X8_riseOf N b0 x1 x2 g = some (r, gq)) : CtI l D ad cy yX8_riseOf cX8_riseOf 6 (some .int) 3 [.ref (ad (9, 11, b0)), .int x1, .int x2] g r gq := by
  refine CtI.of 3 hI (by decide +kernel) rfl (Nat.le_of_ble_eq_true rfl) (fun p e s m args below meth c X => ?_)
  unfold F_X8_riseOf at h
  show Vy _ _ _ _ _ _ _ _ _ _ _ _ _ _ _ 0 [some (.ref (ad (9, 11, b0))), some (.int x1), some (.int x2), none, none, none] [] g
  refine v_aloadn X dX8_riseOf_0 rfl rfl ?_
  refine v_iloadn X dX8_riseOf_1 rfl rfl ?_
  refine v_iconst (v := 1) X dX8_riseOf_2 (by decide) ?_
  obtain ⟨r3, g2, q1, h⟩ := bd2_some h
  refine v_callSI (As := [.ref (ad (9, 11, b0)), .int x1, .int (1 : Int32)]) (rest := []) X (c_X8_of l D ad cy X.2.2.2.2.2.2.2.2.1 N b0 x1 (1 : Int32) g r3 g2 (by assumption) q1) mw_X8_of ml_X8_155 (by decide) rfl rfl (Nat.le_of_ble_eq_true rfl) dX8_riseOf_3 ?_
  refine v_iloadn X dX8_riseOf_6 rfl rfl ?_
  refine v_imul X dX8_riseOf_7 ?_
  refine v_istoren (lc' := [some (.ref (ad (9, 11, b0))), some (.int x1), some (.int x2), some (.int (r3 * x2)), none, none]) X dX8_riseOf_8 rfl (by decide) rfl rfl ?_
  refine v_aloadn X dX8_riseOf_9 rfl rfl ?_
  refine v_iloadn X dX8_riseOf_10 rfl rfl ?_
  refine v_iconst (v := 4) X dX8_riseOf_11 (by decide) ?_
  obtain ⟨r6, g5, q4, h⟩ := bd2_some h
  refine v_callSI (As := [.ref (ad (9, 11, b0)), .int x1, .int (4 : Int32)]) (rest := []) X (c_X8_of l D ad cy X.2.2.2.2.2.2.2.2.1 N b0 x1 (4 : Int32) g2 r6 g5 (by assumption) q4) mw_X8_of ml_X8_155 (by decide) rfl rfl (Nat.le_of_ble_eq_true rfl) dX8_riseOf_12 ?_
  refine v_istore (lc' := [some (.ref (ad (9, 11, b0))), some (.int x1), some (.int x2), some (.int (r3 * x2)), some (.int r6), none]) X dX8_riseOf_15 (by decide) rfl rfl ?_
  refine v_iconst (v := 0) X dX8_riseOf_17 (by decide) ?_
  refine v_istore (lc' := [some (.ref (ad (9, 11, b0))), some (.int x1), some (.int x2), some (.int (r3 * x2)), some (.int r6), some (.int (0 : Int32))]) X dX8_riseOf_18 (by decide) rfl rfl ?_
  refine v_aloadn X dX8_riseOf_20 rfl rfl ?_
  refine v_iloadn X dX8_riseOf_21 rfl rfl ?_
  refine v_iconst (v := 0) X dX8_riseOf_22 (by decide) ?_
  obtain ⟨r9, g8, q7, h⟩ := bd2_some h
  refine v_callSI (As := [.ref (ad (9, 11, b0)), .int x1, .int (0 : Int32)]) (rest := []) X (c_X8_of l D ad cy X.2.2.2.2.2.2.2.2.1 N b0 x1 (0 : Int32) g5 r9 g8 (by assumption) q7) mw_X8_of ml_X8_155 (by decide) rfl rfl (Nat.le_of_ble_eq_true rfl) dX8_riseOf_23 ?_
  by_cases c10 : r9 = 1
  · replace h := (if_pos c10).symm.trans h
    refine v_tableIn X 52 dX8_riseOf_26 (by rw [c10]; decide) (by rw [c10]; decide) (by rw [c10]; rfl) (by decide) ?_
    refine v_iloadn X dX8_riseOf_52 rfl rfl ?_
    refine v_istore (lc' := [some (.ref (ad (9, 11, b0))), some (.int x1), some (.int x2), some (.int (r3 * x2)), some (.int r6), some (.int (r3 * x2))]) X dX8_riseOf_53 (by decide) rfl rfl ?_
    refine v_goto X 102 dX8_riseOf_55 (by decide) ?_
    refine v_aloadn X dX8_riseOf_102 rfl rfl ?_
    refine v_iloadn X dX8_riseOf_103 rfl rfl ?_
    refine v_iconst (v := 0) X dX8_riseOf_104 (by decide) ?_
    obtain ⟨r13, g12, q11, h⟩ := bd2_some h
    refine v_callSI (As := [.ref (ad (9, 11, b0)), .int x1, .int (0 : Int32)]) (rest := []) X (c_X8_of l D ad cy X.2.2.2.2.2.2.2.2.1 N b0 x1 (0 : Int32) g8 r13 g12 (by assumption) q11) mw_X8_of ml_X8_155 (by decide) rfl rfl (Nat.le_of_ble_eq_true rfl) dX8_riseOf_105 ?_
    refine v_iconst (v := 5) X dX8_riseOf_108 (by decide) ?_
    refine v_icmp_ne X 130 dX8_riseOf_109 (by decide) (fun c14 => ?_) (fun c14 => ?_)
    · replace h := (if_neg c14).symm.trans h
      refine v_iload X dX8_riseOf_130 rfl ?_
      refine v_aloadn X dX8_riseOf_132 rfl rfl ?_
      refine v_iloadn X dX8_riseOf_133 rfl rfl ?_
      refine v_iconst (v := 2) X dX8_riseOf_134 (by decide) ?_
      obtain ⟨r17, g16, q15, h⟩ := bd2_some h
      refine v_callSI (As := [.ref (ad (9, 11, b0)), .int x1, .int (2 : Int32)]) (rest := [.int (r3 * x2)]) X (c_X8_of l D ad cy X.2.2.2.2.2.2.2.2.1 N b0 x1 (2 : Int32) g12 r17 g16 (by assumption) q15) mw_X8_of ml_X8_155 (by decide) rfl rfl (Nat.le_of_ble_eq_true rfl) dX8_riseOf_135 ?_
      refine v_isub X dX8_riseOf_138 ?_
      cases h
      exact v_iret X dX8_riseOf_139 rfl rfl
    · replace h := (if_pos c14).symm.trans h
      refine v_iload X dX8_riseOf_112 rfl ?_
      refine v_bipush (v := 30) X dX8_riseOf_114 (by decide) ?_
      refine v_icmp_lt X 130 dX8_riseOf_116 (by decide) (fun c18 => ?_) (fun c18 => ?_)
      · replace h := (if_pos c18).symm.trans h
        refine v_iload X dX8_riseOf_130 rfl ?_
        refine v_aloadn X dX8_riseOf_132 rfl rfl ?_
        refine v_iloadn X dX8_riseOf_133 rfl rfl ?_
        refine v_iconst (v := 2) X dX8_riseOf_134 (by decide) ?_
        obtain ⟨r21, g20, q19, h⟩ := bd2_some h
        refine v_callSI (As := [.ref (ad (9, 11, b0)), .int x1, .int (2 : Int32)]) (rest := [.int (r3 * x2)]) X (c_X8_of l D ad cy X.2.2.2.2.2.2.2.2.1 N b0 x1 (2 : Int32) g12 r21 g20 (by assumption) q19) mw_X8_of ml_X8_155 (by decide) rfl rfl (Nat.le_of_ble_eq_true rfl) dX8_riseOf_135 ?_
        refine v_isub X dX8_riseOf_138 ?_
        cases h
        exact v_iret X dX8_riseOf_139 rfl rfl
      · replace h := (if_neg c18).symm.trans h
        refine v_iload X dX8_riseOf_119 rfl ?_
        refine v_bipush (v := 30) X dX8_riseOf_121 (by decide) ?_
        refine v_icmp_ge X 130 dX8_riseOf_123 (by decide) (fun c22 => ?_) (fun c22 => ?_)
        · replace h := (if_pos c22).symm.trans h
          refine v_iload X dX8_riseOf_130 rfl ?_
          refine v_aloadn X dX8_riseOf_132 rfl rfl ?_
          refine v_iloadn X dX8_riseOf_133 rfl rfl ?_
          refine v_iconst (v := 2) X dX8_riseOf_134 (by decide) ?_
          obtain ⟨r25, g24, q23, h⟩ := bd2_some h
          refine v_callSI (As := [.ref (ad (9, 11, b0)), .int x1, .int (2 : Int32)]) (rest := [.int (r3 * x2)]) X (c_X8_of l D ad cy X.2.2.2.2.2.2.2.2.1 N b0 x1 (2 : Int32) g12 r25 g24 (by assumption) q23) mw_X8_of ml_X8_155 (by decide) rfl rfl (Nat.le_of_ble_eq_true rfl) dX8_riseOf_135 ?_
          refine v_isub X dX8_riseOf_138 ?_
          cases h
          exact v_iret X dX8_riseOf_139 rfl rfl
        · replace h := (if_neg c22).symm.trans h
          refine v_bipush (v := 30) X dX8_riseOf_126 (by decide) ?_
          refine v_istore (lc' := [some (.ref (ad (9, 11, b0))), some (.int x1), some (.int x2), some (.int (r3 * x2)), some (.int r6), some (.int (30 : Int32))]) X dX8_riseOf_128 (by decide) rfl rfl ?_
          refine v_iload X dX8_riseOf_130 rfl ?_
          refine v_aloadn X dX8_riseOf_132 rfl rfl ?_
          refine v_iloadn X dX8_riseOf_133 rfl rfl ?_
          refine v_iconst (v := 2) X dX8_riseOf_134 (by decide) ?_
          obtain ⟨r28, g27, q26, h⟩ := bd2_some h
          refine v_callSI (As := [.ref (ad (9, 11, b0)), .int x1, .int (2 : Int32)]) (rest := [.int (30 : Int32)]) X (c_X8_of l D ad cy X.2.2.2.2.2.2.2.2.1 N b0 x1 (2 : Int32) g12 r28 g27 (by assumption) q26) mw_X8_of ml_X8_155 (by decide) rfl rfl (Nat.le_of_ble_eq_true rfl) dX8_riseOf_135 ?_
          refine v_isub X dX8_riseOf_138 ?_
          cases h
          exact v_iret X dX8_riseOf_139 rfl rfl
  replace h := (if_neg c10).symm.trans h
  by_cases c29 : r9 = 2
  · replace h := (if_pos c29).symm.trans h
    refine v_tableIn X 58 dX8_riseOf_26 (by rw [c29]; decide) (by rw [c29]; decide) (by rw [c29]; rfl) (by decide) ?_
    refine v_iload X dX8_riseOf_58 rfl ?_
    refine v_bipush (v := 20) X dX8_riseOf_60 (by decide) ?_
    refine v_icmp_lt X 69 dX8_riseOf_62 (by decide) (fun c30 => ?_) (fun c30 => ?_)
    · replace h := (if_pos c30).symm.trans h
      refine v_iloadn X dX8_riseOf_69 rfl rfl ?_
      refine v_iconst (v := 2) X dX8_riseOf_70 (by decide) ?_
      refine v_idiv X dX8_riseOf_71 (by decide) ?_
      refine v_istore (lc' := [some (.ref (ad (9, 11, b0))), some (.int x1), some (.int x2), some (.int (r3 * x2)), some (.int r6), some (.int ((r3 * x2) / (2 : Int32)))]) X dX8_riseOf_72 (by decide) rfl rfl ?_
      refine v_goto X 102 dX8_riseOf_74 (by decide) ?_
      refine v_aloadn X dX8_riseOf_102 rfl rfl ?_
      refine v_iloadn X dX8_riseOf_103 rfl rfl ?_
      refine v_iconst (v := 0) X dX8_riseOf_104 (by decide) ?_
      obtain ⟨r33, g32, q31, h⟩ := bd2_some h
      refine v_callSI (As := [.ref (ad (9, 11, b0)), .int x1, .int (0 : Int32)]) (rest := []) X (c_X8_of l D ad cy X.2.2.2.2.2.2.2.2.1 N b0 x1 (0 : Int32) g8 r33 g32 (by assumption) q31) mw_X8_of ml_X8_155 (by decide) rfl rfl (Nat.le_of_ble_eq_true rfl) dX8_riseOf_105 ?_
      refine v_iconst (v := 5) X dX8_riseOf_108 (by decide) ?_
      refine v_icmp_ne X 130 dX8_riseOf_109 (by decide) (fun c34 => ?_) (fun c34 => ?_)
      · replace h := (if_neg c34).symm.trans h
        refine v_iload X dX8_riseOf_130 rfl ?_
        refine v_aloadn X dX8_riseOf_132 rfl rfl ?_
        refine v_iloadn X dX8_riseOf_133 rfl rfl ?_
        refine v_iconst (v := 2) X dX8_riseOf_134 (by decide) ?_
        obtain ⟨r37, g36, q35, h⟩ := bd2_some h
        refine v_callSI (As := [.ref (ad (9, 11, b0)), .int x1, .int (2 : Int32)]) (rest := [.int ((r3 * x2) / (2 : Int32))]) X (c_X8_of l D ad cy X.2.2.2.2.2.2.2.2.1 N b0 x1 (2 : Int32) g32 r37 g36 (by assumption) q35) mw_X8_of ml_X8_155 (by decide) rfl rfl (Nat.le_of_ble_eq_true rfl) dX8_riseOf_135 ?_
        refine v_isub X dX8_riseOf_138 ?_
        cases h
        exact v_iret X dX8_riseOf_139 rfl rfl
      · replace h := (if_pos c34).symm.trans h
        refine v_iload X dX8_riseOf_112 rfl ?_
        refine v_bipush (v := 30) X dX8_riseOf_114 (by decide) ?_
        refine v_icmp_lt X 130 dX8_riseOf_116 (by decide) (fun c38 => ?_) (fun c38 => ?_)
        · replace h := (if_pos c38).symm.trans h
          refine v_iload X dX8_riseOf_130 rfl ?_
          refine v_aloadn X dX8_riseOf_132 rfl rfl ?_
          refine v_iloadn X dX8_riseOf_133 rfl rfl ?_
          refine v_iconst (v := 2) X dX8_riseOf_134 (by decide) ?_
          obtain ⟨r41, g40, q39, h⟩ := bd2_some h
          refine v_callSI (As := [.ref (ad (9, 11, b0)), .int x1, .int (2 : Int32)]) (rest := [.int ((r3 * x2) / (2 : Int32))]) X (c_X8_of l D ad cy X.2.2.2.2.2.2.2.2.1 N b0 x1 (2 : Int32) g32 r41 g40 (by assumption) q39) mw_X8_of ml_X8_155 (by decide) rfl rfl (Nat.le_of_ble_eq_true rfl) dX8_riseOf_135 ?_
          refine v_isub X dX8_riseOf_138 ?_
          cases h
          exact v_iret X dX8_riseOf_139 rfl rfl
        · replace h := (if_neg c38).symm.trans h
          refine v_iload X dX8_riseOf_119 rfl ?_
          refine v_bipush (v := 30) X dX8_riseOf_121 (by decide) ?_
          refine v_icmp_ge X 130 dX8_riseOf_123 (by decide) (fun c42 => ?_) (fun c42 => ?_)
          · replace h := (if_pos c42).symm.trans h
            refine v_iload X dX8_riseOf_130 rfl ?_
            refine v_aloadn X dX8_riseOf_132 rfl rfl ?_
            refine v_iloadn X dX8_riseOf_133 rfl rfl ?_
            refine v_iconst (v := 2) X dX8_riseOf_134 (by decide) ?_
            obtain ⟨r45, g44, q43, h⟩ := bd2_some h
            refine v_callSI (As := [.ref (ad (9, 11, b0)), .int x1, .int (2 : Int32)]) (rest := [.int ((r3 * x2) / (2 : Int32))]) X (c_X8_of l D ad cy X.2.2.2.2.2.2.2.2.1 N b0 x1 (2 : Int32) g32 r45 g44 (by assumption) q43) mw_X8_of ml_X8_155 (by decide) rfl rfl (Nat.le_of_ble_eq_true rfl) dX8_riseOf_135 ?_
            refine v_isub X dX8_riseOf_138 ?_
            cases h
            exact v_iret X dX8_riseOf_139 rfl rfl
          · replace h := (if_neg c42).symm.trans h
            refine v_bipush (v := 30) X dX8_riseOf_126 (by decide) ?_
            refine v_istore (lc' := [some (.ref (ad (9, 11, b0))), some (.int x1), some (.int x2), some (.int (r3 * x2)), some (.int r6), some (.int (30 : Int32))]) X dX8_riseOf_128 (by decide) rfl rfl ?_
            refine v_iload X dX8_riseOf_130 rfl ?_
            refine v_aloadn X dX8_riseOf_132 rfl rfl ?_
            refine v_iloadn X dX8_riseOf_133 rfl rfl ?_
            refine v_iconst (v := 2) X dX8_riseOf_134 (by decide) ?_
            obtain ⟨r48, g47, q46, h⟩ := bd2_some h
            refine v_callSI (As := [.ref (ad (9, 11, b0)), .int x1, .int (2 : Int32)]) (rest := [.int (30 : Int32)]) X (c_X8_of l D ad cy X.2.2.2.2.2.2.2.2.1 N b0 x1 (2 : Int32) g32 r48 g47 (by assumption) q46) mw_X8_of ml_X8_155 (by decide) rfl rfl (Nat.le_of_ble_eq_true rfl) dX8_riseOf_135 ?_
            refine v_isub X dX8_riseOf_138 ?_
            cases h
            exact v_iret X dX8_riseOf_139 rfl rfl
    · replace h := (if_neg c30).symm.trans h
      refine v_iloadn X dX8_riseOf_65 rfl rfl ?_
      refine v_goto X 72 dX8_riseOf_66 (by decide) ?_
      refine v_istore (lc' := [some (.ref (ad (9, 11, b0))), some (.int x1), some (.int x2), some (.int (r3 * x2)), some (.int r6), some (.int (r3 * x2))]) X dX8_riseOf_72 (by decide) rfl rfl ?_
      refine v_goto X 102 dX8_riseOf_74 (by decide) ?_
      refine v_aloadn X dX8_riseOf_102 rfl rfl ?_
      refine v_iloadn X dX8_riseOf_103 rfl rfl ?_
      refine v_iconst (v := 0) X dX8_riseOf_104 (by decide) ?_
      obtain ⟨r51, g50, q49, h⟩ := bd2_some h
      refine v_callSI (As := [.ref (ad (9, 11, b0)), .int x1, .int (0 : Int32)]) (rest := []) X (c_X8_of l D ad cy X.2.2.2.2.2.2.2.2.1 N b0 x1 (0 : Int32) g8 r51 g50 (by assumption) q49) mw_X8_of ml_X8_155 (by decide) rfl rfl (Nat.le_of_ble_eq_true rfl) dX8_riseOf_105 ?_
      refine v_iconst (v := 5) X dX8_riseOf_108 (by decide) ?_
      refine v_icmp_ne X 130 dX8_riseOf_109 (by decide) (fun c52 => ?_) (fun c52 => ?_)
      · replace h := (if_neg c52).symm.trans h
        refine v_iload X dX8_riseOf_130 rfl ?_
        refine v_aloadn X dX8_riseOf_132 rfl rfl ?_
        refine v_iloadn X dX8_riseOf_133 rfl rfl ?_
        refine v_iconst (v := 2) X dX8_riseOf_134 (by decide) ?_
        obtain ⟨r55, g54, q53, h⟩ := bd2_some h
        refine v_callSI (As := [.ref (ad (9, 11, b0)), .int x1, .int (2 : Int32)]) (rest := [.int (r3 * x2)]) X (c_X8_of l D ad cy X.2.2.2.2.2.2.2.2.1 N b0 x1 (2 : Int32) g50 r55 g54 (by assumption) q53) mw_X8_of ml_X8_155 (by decide) rfl rfl (Nat.le_of_ble_eq_true rfl) dX8_riseOf_135 ?_
        refine v_isub X dX8_riseOf_138 ?_
        cases h
        exact v_iret X dX8_riseOf_139 rfl rfl
      · replace h := (if_pos c52).symm.trans h
        refine v_iload X dX8_riseOf_112 rfl ?_
        refine v_bipush (v := 30) X dX8_riseOf_114 (by decide) ?_
        refine v_icmp_lt X 130 dX8_riseOf_116 (by decide) (fun c56 => ?_) (fun c56 => ?_)
        · replace h := (if_pos c56).symm.trans h
          refine v_iload X dX8_riseOf_130 rfl ?_
          refine v_aloadn X dX8_riseOf_132 rfl rfl ?_
          refine v_iloadn X dX8_riseOf_133 rfl rfl ?_
          refine v_iconst (v := 2) X dX8_riseOf_134 (by decide) ?_
          obtain ⟨r59, g58, q57, h⟩ := bd2_some h
          refine v_callSI (As := [.ref (ad (9, 11, b0)), .int x1, .int (2 : Int32)]) (rest := [.int (r3 * x2)]) X (c_X8_of l D ad cy X.2.2.2.2.2.2.2.2.1 N b0 x1 (2 : Int32) g50 r59 g58 (by assumption) q57) mw_X8_of ml_X8_155 (by decide) rfl rfl (Nat.le_of_ble_eq_true rfl) dX8_riseOf_135 ?_
          refine v_isub X dX8_riseOf_138 ?_
          cases h
          exact v_iret X dX8_riseOf_139 rfl rfl
        · replace h := (if_neg c56).symm.trans h
          refine v_iload X dX8_riseOf_119 rfl ?_
          refine v_bipush (v := 30) X dX8_riseOf_121 (by decide) ?_
          refine v_icmp_ge X 130 dX8_riseOf_123 (by decide) (fun c60 => ?_) (fun c60 => ?_)
          · replace h := (if_pos c60).symm.trans h
            refine v_iload X dX8_riseOf_130 rfl ?_
            refine v_aloadn X dX8_riseOf_132 rfl rfl ?_
            refine v_iloadn X dX8_riseOf_133 rfl rfl ?_
            refine v_iconst (v := 2) X dX8_riseOf_134 (by decide) ?_
            obtain ⟨r63, g62, q61, h⟩ := bd2_some h
            refine v_callSI (As := [.ref (ad (9, 11, b0)), .int x1, .int (2 : Int32)]) (rest := [.int (r3 * x2)]) X (c_X8_of l D ad cy X.2.2.2.2.2.2.2.2.1 N b0 x1 (2 : Int32) g50 r63 g62 (by assumption) q61) mw_X8_of ml_X8_155 (by decide) rfl rfl (Nat.le_of_ble_eq_true rfl) dX8_riseOf_135 ?_
            refine v_isub X dX8_riseOf_138 ?_
            cases h
            exact v_iret X dX8_riseOf_139 rfl rfl
          · replace h := (if_neg c60).symm.trans h
            refine v_bipush (v := 30) X dX8_riseOf_126 (by decide) ?_
            refine v_istore (lc' := [some (.ref (ad (9, 11, b0))), some (.int x1), some (.int x2), some (.int (r3 * x2)), some (.int r6), some (.int (30 : Int32))]) X dX8_riseOf_128 (by decide) rfl rfl ?_
            refine v_iload X dX8_riseOf_130 rfl ?_
            refine v_aloadn X dX8_riseOf_132 rfl rfl ?_
            refine v_iloadn X dX8_riseOf_133 rfl rfl ?_
            refine v_iconst (v := 2) X dX8_riseOf_134 (by decide) ?_
            obtain ⟨r66, g65, q64, h⟩ := bd2_some h
            refine v_callSI (As := [.ref (ad (9, 11, b0)), .int x1, .int (2 : Int32)]) (rest := [.int (30 : Int32)]) X (c_X8_of l D ad cy X.2.2.2.2.2.2.2.2.1 N b0 x1 (2 : Int32) g50 r66 g65 (by assumption) q64) mw_X8_of ml_X8_155 (by decide) rfl rfl (Nat.le_of_ble_eq_true rfl) dX8_riseOf_135 ?_
            refine v_isub X dX8_riseOf_138 ?_
            cases h
            exact v_iret X dX8_riseOf_139 rfl rfl
  replace h := (if_neg c29).symm.trans h
  by_cases c67 : r9 = 3
  · replace h := (if_pos c67).symm.trans h
    refine v_tableIn X 77 dX8_riseOf_26 (by rw [c67]; decide) (by rw [c67]; decide) (by rw [c67]; rfl) (by decide) ?_
    refine v_aloadn X dX8_riseOf_77 rfl rfl ?_
    refine v_iloadn X dX8_riseOf_78 rfl rfl ?_
    obtain ⟨r70, g69, q68, h⟩ := bd2_some h
    refine v_callSI (As := [.ref (ad (9, 11, b0)), .int x1]) (rest := []) X (c_X8_isOtherUp l D ad cy X.2.2.2.2.2.2.2.2.1 N b0 x1 g8 r70 g69 (by assumption) q68) mw_X8_isOtherUp ml_X8_163 (by decide) rfl rfl (Nat.le_of_ble_eq_true rfl) dX8_riseOf_79 ?_
    refine v_if_eq X 91 dX8_riseOf_82 (by decide) (fun c71 => ?_) (fun c71 => ?_)
    · replace h := (if_pos c71).symm.trans h
      refine v_iloadn X dX8_riseOf_91 rfl rfl ?_
      refine v_istore (lc' := [some (.ref (ad (9, 11, b0))), some (.int x1), some (.int x2), some (.int (r3 * x2)), some (.int r6), some (.int (r3 * x2))]) X dX8_riseOf_92 (by decide) rfl rfl ?_
      refine v_goto X 102 dX8_riseOf_94 (by decide) ?_
      refine v_aloadn X dX8_riseOf_102 rfl rfl ?_
      refine v_iloadn X dX8_riseOf_103 rfl rfl ?_
      refine v_iconst (v := 0) X dX8_riseOf_104 (by decide) ?_
      obtain ⟨r74, g73, q72, h⟩ := bd2_some h
      refine v_callSI (As := [.ref (ad (9, 11, b0)), .int x1, .int (0 : Int32)]) (rest := []) X (c_X8_of l D ad cy X.2.2.2.2.2.2.2.2.1 N b0 x1 (0 : Int32) g69 r74 g73 (by assumption) q72) mw_X8_of ml_X8_155 (by decide) rfl rfl (Nat.le_of_ble_eq_true rfl) dX8_riseOf_105 ?_
      refine v_iconst (v := 5) X dX8_riseOf_108 (by decide) ?_
      refine v_icmp_ne X 130 dX8_riseOf_109 (by decide) (fun c75 => ?_) (fun c75 => ?_)
      · replace h := (if_neg c75).symm.trans h
        refine v_iload X dX8_riseOf_130 rfl ?_
        refine v_aloadn X dX8_riseOf_132 rfl rfl ?_
        refine v_iloadn X dX8_riseOf_133 rfl rfl ?_
        refine v_iconst (v := 2) X dX8_riseOf_134 (by decide) ?_
        obtain ⟨r78, g77, q76, h⟩ := bd2_some h
        refine v_callSI (As := [.ref (ad (9, 11, b0)), .int x1, .int (2 : Int32)]) (rest := [.int (r3 * x2)]) X (c_X8_of l D ad cy X.2.2.2.2.2.2.2.2.1 N b0 x1 (2 : Int32) g73 r78 g77 (by assumption) q76) mw_X8_of ml_X8_155 (by decide) rfl rfl (Nat.le_of_ble_eq_true rfl) dX8_riseOf_135 ?_
        refine v_isub X dX8_riseOf_138 ?_
        cases h
        exact v_iret X dX8_riseOf_139 rfl rfl
      · replace h := (if_pos c75).symm.trans h
        refine v_iload X dX8_riseOf_112 rfl ?_
        refine v_bipush (v := 30) X dX8_riseOf_114 (by decide) ?_
        refine v_icmp_lt X 130 dX8_riseOf_116 (by decide) (fun c79 => ?_) (fun c79 => ?_)
        · replace h := (if_pos c79).symm.trans h
          refine v_iload X dX8_riseOf_130 rfl ?_
          refine v_aloadn X dX8_riseOf_132 rfl rfl ?_
          refine v_iloadn X dX8_riseOf_133 rfl rfl ?_
          refine v_iconst (v := 2) X dX8_riseOf_134 (by decide) ?_
          obtain ⟨r82, g81, q80, h⟩ := bd2_some h
          refine v_callSI (As := [.ref (ad (9, 11, b0)), .int x1, .int (2 : Int32)]) (rest := [.int (r3 * x2)]) X (c_X8_of l D ad cy X.2.2.2.2.2.2.2.2.1 N b0 x1 (2 : Int32) g73 r82 g81 (by assumption) q80) mw_X8_of ml_X8_155 (by decide) rfl rfl (Nat.le_of_ble_eq_true rfl) dX8_riseOf_135 ?_
          refine v_isub X dX8_riseOf_138 ?_
          cases h
          exact v_iret X dX8_riseOf_139 rfl rfl
        · replace h := (if_neg c79).symm.trans h
          refine v_iload X dX8_riseOf_119 rfl ?_
          refine v_bipush (v := 30) X dX8_riseOf_121 (by decide) ?_
          refine v_icmp_ge X 130 dX8_riseOf_123 (by decide) (fun c83 => ?_) (fun c83 => ?_)
          · replace h := (if_pos c83).symm.trans h
            refine v_iload X dX8_riseOf_130 rfl ?_
            refine v_aloadn X dX8_riseOf_132 rfl rfl ?_
            refine v_iloadn X dX8_riseOf_133 rfl rfl ?_
            refine v_iconst (v := 2) X dX8_riseOf_134 (by decide) ?_
            obtain ⟨r86, g85, q84, h⟩ := bd2_some h
            refine v_callSI (As := [.ref (ad (9, 11, b0)), .int x1, .int (2 : Int32)]) (rest := [.int (r3 * x2)]) X (c_X8_of l D ad cy X.2.2.2.2.2.2.2.2.1 N b0 x1 (2 : Int32) g73 r86 g85 (by assumption) q84) mw_X8_of ml_X8_155 (by decide) rfl rfl (Nat.le_of_ble_eq_true rfl) dX8_riseOf_135 ?_
            refine v_isub X dX8_riseOf_138 ?_
            cases h
            exact v_iret X dX8_riseOf_139 rfl rfl
          · replace h := (if_neg c83).symm.trans h
            refine v_bipush (v := 30) X dX8_riseOf_126 (by decide) ?_
            refine v_istore (lc' := [some (.ref (ad (9, 11, b0))), some (.int x1), some (.int x2), some (.int (r3 * x2)), some (.int r6), some (.int (30 : Int32))]) X dX8_riseOf_128 (by decide) rfl rfl ?_
            refine v_iload X dX8_riseOf_130 rfl ?_
            refine v_aloadn X dX8_riseOf_132 rfl rfl ?_
            refine v_iloadn X dX8_riseOf_133 rfl rfl ?_
            refine v_iconst (v := 2) X dX8_riseOf_134 (by decide) ?_
            obtain ⟨r89, g88, q87, h⟩ := bd2_some h
            refine v_callSI (As := [.ref (ad (9, 11, b0)), .int x1, .int (2 : Int32)]) (rest := [.int (30 : Int32)]) X (c_X8_of l D ad cy X.2.2.2.2.2.2.2.2.1 N b0 x1 (2 : Int32) g73 r89 g88 (by assumption) q87) mw_X8_of ml_X8_155 (by decide) rfl rfl (Nat.le_of_ble_eq_true rfl) dX8_riseOf_135 ?_
            refine v_isub X dX8_riseOf_138 ?_
            cases h
            exact v_iret X dX8_riseOf_139 rfl rfl
    · replace h := (if_neg c71).symm.trans h
      refine v_iconst (v := 2) X dX8_riseOf_85 (by decide) ?_
      refine v_iloadn X dX8_riseOf_86 rfl rfl ?_
      refine v_imul X dX8_riseOf_87 ?_
      refine v_goto X 92 dX8_riseOf_88 (by decide) ?_
      refine v_istore (lc' := [some (.ref (ad (9, 11, b0))), some (.int x1), some (.int x2), some (.int (r3 * x2)), some (.int r6), some (.int ((2 : Int32) * (r3 * x2)))]) X dX8_riseOf_92 (by decide) rfl rfl ?_
      refine v_goto X 102 dX8_riseOf_94 (by decide) ?_
      refine v_aloadn X dX8_riseOf_102 rfl rfl ?_
      refine v_iloadn X dX8_riseOf_103 rfl rfl ?_
      refine v_iconst (v := 0) X dX8_riseOf_104 (by decide) ?_
      obtain ⟨r92, g91, q90, h⟩ := bd2_some h
      refine v_callSI (As := [.ref (ad (9, 11, b0)), .int x1, .int (0 : Int32)]) (rest := []) X (c_X8_of l D ad cy X.2.2.2.2.2.2.2.2.1 N b0 x1 (0 : Int32) g69 r92 g91 (by assumption) q90) mw_X8_of ml_X8_155 (by decide) rfl rfl (Nat.le_of_ble_eq_true rfl) dX8_riseOf_105 ?_
      refine v_iconst (v := 5) X dX8_riseOf_108 (by decide) ?_
      refine v_icmp_ne X 130 dX8_riseOf_109 (by decide) (fun c93 => ?_) (fun c93 => ?_)
      · replace h := (if_neg c93).symm.trans h
        refine v_iload X dX8_riseOf_130 rfl ?_
        refine v_aloadn X dX8_riseOf_132 rfl rfl ?_
        refine v_iloadn X dX8_riseOf_133 rfl rfl ?_
        refine v_iconst (v := 2) X dX8_riseOf_134 (by decide) ?_
        obtain ⟨r96, g95, q94, h⟩ := bd2_some h
        refine v_callSI (As := [.ref (ad (9, 11, b0)), .int x1, .int (2 : Int32)]) (rest := [.int ((2 : Int32) * (r3 * x2))]) X (c_X8_of l D ad cy X.2.2.2.2.2.2.2.2.1 N b0 x1 (2 : Int32) g91 r96 g95 (by assumption) q94) mw_X8_of ml_X8_155 (by decide) rfl rfl (Nat.le_of_ble_eq_true rfl) dX8_riseOf_135 ?_
        refine v_isub X dX8_riseOf_138 ?_
        cases h
        exact v_iret X dX8_riseOf_139 rfl rfl
      · replace h := (if_pos c93).symm.trans h
        refine v_iload X dX8_riseOf_112 rfl ?_
        refine v_bipush (v := 30) X dX8_riseOf_114 (by decide) ?_
        refine v_icmp_lt X 130 dX8_riseOf_116 (by decide) (fun c97 => ?_) (fun c97 => ?_)
        · replace h := (if_pos c97).symm.trans h
          refine v_iload X dX8_riseOf_130 rfl ?_
          refine v_aloadn X dX8_riseOf_132 rfl rfl ?_
          refine v_iloadn X dX8_riseOf_133 rfl rfl ?_
          refine v_iconst (v := 2) X dX8_riseOf_134 (by decide) ?_
          obtain ⟨r100, g99, q98, h⟩ := bd2_some h
          refine v_callSI (As := [.ref (ad (9, 11, b0)), .int x1, .int (2 : Int32)]) (rest := [.int ((2 : Int32) * (r3 * x2))]) X (c_X8_of l D ad cy X.2.2.2.2.2.2.2.2.1 N b0 x1 (2 : Int32) g91 r100 g99 (by assumption) q98) mw_X8_of ml_X8_155 (by decide) rfl rfl (Nat.le_of_ble_eq_true rfl) dX8_riseOf_135 ?_
          refine v_isub X dX8_riseOf_138 ?_
          cases h
          exact v_iret X dX8_riseOf_139 rfl rfl
        · replace h := (if_neg c97).symm.trans h
          refine v_iload X dX8_riseOf_119 rfl ?_
          refine v_bipush (v := 30) X dX8_riseOf_121 (by decide) ?_
          refine v_icmp_ge X 130 dX8_riseOf_123 (by decide) (fun c101 => ?_) (fun c101 => ?_)
          · replace h := (if_pos c101).symm.trans h
            refine v_iload X dX8_riseOf_130 rfl ?_
            refine v_aloadn X dX8_riseOf_132 rfl rfl ?_
            refine v_iloadn X dX8_riseOf_133 rfl rfl ?_
            refine v_iconst (v := 2) X dX8_riseOf_134 (by decide) ?_
            obtain ⟨r104, g103, q102, h⟩ := bd2_some h
            refine v_callSI (As := [.ref (ad (9, 11, b0)), .int x1, .int (2 : Int32)]) (rest := [.int ((2 : Int32) * (r3 * x2))]) X (c_X8_of l D ad cy X.2.2.2.2.2.2.2.2.1 N b0 x1 (2 : Int32) g91 r104 g103 (by assumption) q102) mw_X8_of ml_X8_155 (by decide) rfl rfl (Nat.le_of_ble_eq_true rfl) dX8_riseOf_135 ?_
            refine v_isub X dX8_riseOf_138 ?_
            cases h
            exact v_iret X dX8_riseOf_139 rfl rfl
          · replace h := (if_neg c101).symm.trans h
            refine v_bipush (v := 30) X dX8_riseOf_126 (by decide) ?_
            refine v_istore (lc' := [some (.ref (ad (9, 11, b0))), some (.int x1), some (.int x2), some (.int (r3 * x2)), some (.int r6), some (.int (30 : Int32))]) X dX8_riseOf_128 (by decide) rfl rfl ?_
            refine v_iload X dX8_riseOf_130 rfl ?_
            refine v_aloadn X dX8_riseOf_132 rfl rfl ?_
            refine v_iloadn X dX8_riseOf_133 rfl rfl ?_
            refine v_iconst (v := 2) X dX8_riseOf_134 (by decide) ?_
            obtain ⟨r107, g106, q105, h⟩ := bd2_some h
            refine v_callSI (As := [.ref (ad (9, 11, b0)), .int x1, .int (2 : Int32)]) (rest := [.int (30 : Int32)]) X (c_X8_of l D ad cy X.2.2.2.2.2.2.2.2.1 N b0 x1 (2 : Int32) g91 r107 g106 (by assumption) q105) mw_X8_of ml_X8_155 (by decide) rfl rfl (Nat.le_of_ble_eq_true rfl) dX8_riseOf_135 ?_
            refine v_isub X dX8_riseOf_138 ?_
            cases h
            exact v_iret X dX8_riseOf_139 rfl rfl
  replace h := (if_neg c67).symm.trans h
  have t126 := tab_ne (k := 1) (n := 1) c10 (by decide)
  have t127 := tab_ne (k := 2) (n := 2) c29 (by decide)
  have t128 := tab_ne (k := 3) (n := 3) c67 (by decide)
  refine v_tableOut X 97 dX8_riseOf_26 (by omega) (by decide) ?_
  refine v_iconst (v := 4) X dX8_riseOf_97 (by decide) ?_
  refine v_iloadn X dX8_riseOf_98 rfl rfl ?_
  refine v_imul X dX8_riseOf_99 ?_
  refine v_istore (lc' := [some (.ref (ad (9, 11, b0))), some (.int x1), some (.int x2), some (.int (r3 * x2)), some (.int r6), some (.int ((4 : Int32) * x2))]) X dX8_riseOf_100 (by decide) rfl rfl ?_
  refine v_aloadn X dX8_riseOf_102 rfl rfl ?_
  refine v_iloadn X dX8_riseOf_103 rfl rfl ?_
  refine v_iconst (v := 0) X dX8_riseOf_104 (by decide) ?_
  obtain ⟨r110, g109, q108, h⟩ := bd2_some h
  refine v_callSI (As := [.ref (ad (9, 11, b0)), .int x1, .int (0 : Int32)]) (rest := []) X (c_X8_of l D ad cy X.2.2.2.2.2.2.2.2.1 N b0 x1 (0 : Int32) g8 r110 g109 (by assumption) q108) mw_X8_of ml_X8_155 (by decide) rfl rfl (Nat.le_of_ble_eq_true rfl) dX8_riseOf_105 ?_
  refine v_iconst (v := 5) X dX8_riseOf_108 (by decide) ?_
  refine v_icmp_ne X 130 dX8_riseOf_109 (by decide) (fun c111 => ?_) (fun c111 => ?_)
  · replace h := (if_neg c111).symm.trans h
    refine v_iload X dX8_riseOf_130 rfl ?_
    refine v_aloadn X dX8_riseOf_132 rfl rfl ?_
    refine v_iloadn X dX8_riseOf_133 rfl rfl ?_
    refine v_iconst (v := 2) X dX8_riseOf_134 (by decide) ?_
    obtain ⟨r114, g113, q112, h⟩ := bd2_some h
    refine v_callSI (As := [.ref (ad (9, 11, b0)), .int x1, .int (2 : Int32)]) (rest := [.int ((4 : Int32) * x2)]) X (c_X8_of l D ad cy X.2.2.2.2.2.2.2.2.1 N b0 x1 (2 : Int32) g109 r114 g113 (by assumption) q112) mw_X8_of ml_X8_155 (by decide) rfl rfl (Nat.le_of_ble_eq_true rfl) dX8_riseOf_135 ?_
    refine v_isub X dX8_riseOf_138 ?_
    cases h
    exact v_iret X dX8_riseOf_139 rfl rfl
  · replace h := (if_pos c111).symm.trans h
    refine v_iload X dX8_riseOf_112 rfl ?_
    refine v_bipush (v := 30) X dX8_riseOf_114 (by decide) ?_
    refine v_icmp_lt X 130 dX8_riseOf_116 (by decide) (fun c115 => ?_) (fun c115 => ?_)
    · replace h := (if_pos c115).symm.trans h
      refine v_iload X dX8_riseOf_130 rfl ?_
      refine v_aloadn X dX8_riseOf_132 rfl rfl ?_
      refine v_iloadn X dX8_riseOf_133 rfl rfl ?_
      refine v_iconst (v := 2) X dX8_riseOf_134 (by decide) ?_
      obtain ⟨r118, g117, q116, h⟩ := bd2_some h
      refine v_callSI (As := [.ref (ad (9, 11, b0)), .int x1, .int (2 : Int32)]) (rest := [.int ((4 : Int32) * x2)]) X (c_X8_of l D ad cy X.2.2.2.2.2.2.2.2.1 N b0 x1 (2 : Int32) g109 r118 g117 (by assumption) q116) mw_X8_of ml_X8_155 (by decide) rfl rfl (Nat.le_of_ble_eq_true rfl) dX8_riseOf_135 ?_
      refine v_isub X dX8_riseOf_138 ?_
      cases h
      exact v_iret X dX8_riseOf_139 rfl rfl
    · replace h := (if_neg c115).symm.trans h
      refine v_iload X dX8_riseOf_119 rfl ?_
      refine v_bipush (v := 30) X dX8_riseOf_121 (by decide) ?_
      refine v_icmp_ge X 130 dX8_riseOf_123 (by decide) (fun c119 => ?_) (fun c119 => ?_)
      · replace h := (if_pos c119).symm.trans h
        refine v_iload X dX8_riseOf_130 rfl ?_
        refine v_aloadn X dX8_riseOf_132 rfl rfl ?_
        refine v_iloadn X dX8_riseOf_133 rfl rfl ?_
        refine v_iconst (v := 2) X dX8_riseOf_134 (by decide) ?_
        obtain ⟨r122, g121, q120, h⟩ := bd2_some h
        refine v_callSI (As := [.ref (ad (9, 11, b0)), .int x1, .int (2 : Int32)]) (rest := [.int ((4 : Int32) * x2)]) X (c_X8_of l D ad cy X.2.2.2.2.2.2.2.2.1 N b0 x1 (2 : Int32) g109 r122 g121 (by assumption) q120) mw_X8_of ml_X8_155 (by decide) rfl rfl (Nat.le_of_ble_eq_true rfl) dX8_riseOf_135 ?_
        refine v_isub X dX8_riseOf_138 ?_
        cases h
        exact v_iret X dX8_riseOf_139 rfl rfl
      · replace h := (if_neg c119).symm.trans h
        refine v_bipush (v := 30) X dX8_riseOf_126 (by decide) ?_
        refine v_istore (lc' := [some (.ref (ad (9, 11, b0))), some (.int x1), some (.int x2), some (.int (r3 * x2)), some (.int r6), some (.int (30 : Int32))]) X dX8_riseOf_128 (by decide) rfl rfl ?_
        refine v_iload X dX8_riseOf_130 rfl ?_
        refine v_aloadn X dX8_riseOf_132 rfl rfl ?_
        refine v_iloadn X dX8_riseOf_133 rfl rfl ?_
        refine v_iconst (v := 2) X dX8_riseOf_134 (by decide) ?_
        obtain ⟨r125, g124, q123, h⟩ := bd2_some h
        refine v_callSI (As := [.ref (ad (9, 11, b0)), .int x1, .int (2 : Int32)]) (rest := [.int (30 : Int32)]) X (c_X8_of l D ad cy X.2.2.2.2.2.2.2.2.1 N b0 x1 (2 : Int32) g109 r125 g124 (by assumption) q123) mw_X8_of ml_X8_155 (by decide) rfl rfl (Nat.le_of_ble_eq_true rfl) dX8_riseOf_135 ?_
        refine v_isub X dX8_riseOf_138 ?_
        cases h
        exact v_iret X dX8_riseOf_139 rfl rfl
def L_X8_hourBy_2 (N : Nat) (w1_1 : Nat) (z2 : Int32) : Nat → Int32 → GS → Option (Int32 × GS)
  | 0, _, _ => none
  | n + 1, y3, g => bd1 (ix (0 : Int32) (lenM w1_1)) (fun j1 => if (g 11 w1_1 j1) ≤ y3 then some (y3, g) else bd2 (F_X8_riseOf N w1_1 y3 z2 g) (fun r6 g5 => bd1 (ix y3 6) (fun j7 => L_X8_hourBy_2 N w1_1 z2 n (y3 + 1) (g3 g5 11 8 j7 r6))))
def L_X8_hourBy_29 (N : Nat) (w1_1 : Nat) (z2 : Int32) : Nat → Int32 → GS → Option (Int32 × GS)
  | 0, _, _ => none
  | n + 1, y3, g => bd1 (ix (0 : Int32) (lenM w1_1)) (fun j12 => if (g 11 w1_1 j12) ≤ y3 then some (y3, g) else bd2 (F_X8_isUp N w1_1 y3 g) (fun r17 g16 => if r17 = 0 then L_X8_hourBy_29 N w1_1 z2 n (y3 + 1) g16 else bd1 (ix y3 6) (fun j19 => bd1 (F_X8_moves N w1_1 y3 (g16 11 8 j19) z2 g16) (fun g22 => L_X8_hourBy_29 N w1_1 z2 n (y3 + 1) g22))))
def F_X8_hourBy (N : Nat) (b1 : Nat) (x2 : Int32) (g : GS) : Option GS := bd2 (L_X8_hourBy_2 N b1 x2 N (0 : Int32) g) (fun x9 g10 => bd2 (L_X8_hourBy_29 N b1 x2 N (0 : Int32) g10) (fun x23 g24 => bd1 (ix (4 : Int32) (lenM b1)) (fun j26 => bd1 (ix (4 : Int32) (lenM b1)) (fun j28 => some (g3 g24 11 b1 j28 ((g24 11 b1 j26) + (1 : Int32)))))))
set_option maxRecDepth 100000 in
set_option maxHeartbeats 4000000 in
theorem w_X8_hourBy_2 {p : Program} {l : Launch} {e : Env} {s : State} {m : MethodId} {args : Array Value} {below : List Frame} {meth : Method} {c : Code} {D : va_G} {ad : Ky → Nat} {cy : Nat → ClassId} {gq : GS} {N : Nat} (X : Cx p (rmd 4) s m args meth c RX8 cX8_hourBy 4 none D ad cy) (w1_1 : Nat) (z2 : Int32) (hh0 : ((9, 11, w1_1) : Ky) ∈ keys) : ∀ (n : Nat) (y3 : Int32) (g : GS) (y3' : Int32) (g' : GS), L_X8_hourBy_2 N w1_1 z2 n y3 g = some (y3', g') → Vy p l e (rmd 4) s m args below meth c 4 D ad cy (QV D ad cy below args s gq) 27 [some (.ref (ad (8, 0, 0))), some (.ref (ad (9, 11, w1_1))), some (.int z2), some (.int y3')] [] g' → Vy p l e (rmd 4) s m args below meth c 4 D ad cy (QV D ad cy below args s gq) 2 [some (.ref (ad (8, 0, 0))), some (.ref (ad (9, 11, w1_1))), some (.int z2), some (.int y3)] [] g := by
  intro n
  induction n with
  | zero => intro y3 g y3' g' h k; cases h
  | succ n ih =>
    intro y3 g y3' g' h k
    rw [L_X8_hourBy_2] at h
    refine v_iloadn X dX8_hourBy_2 rfl rfl ?_
    refine v_aloadn X dX8_hourBy_3 rfl rfl ?_
    refine v_iconst (v := 0) X dX8_hourBy_4 (by decide) ?_
    obtain ⟨j1, q2, h⟩ := bd1_some h
    obtain ⟨ej1, lj1⟩ := ix_spec q2
    refine alM X (by assumption) j1 ej1 lj1 dX8_hourBy_5 ?_
    refine v_icmp_ge X 27 dX8_hourBy_6 (by decide) (fun c3 => ?_) (fun c3 => ?_)
    · replace h := (if_pos c3).symm.trans h
      cases h
      exact k
    · replace h := (if_neg c3).symm.trans h
      refine v_aloadn X dX8_hourBy_9 rfl rfl ?_
      refine gf_X8_28 X dX8_hourBy_10 ?_
      refine v_iloadn X dX8_hourBy_13 rfl rfl ?_
      refine v_aloadn X dX8_hourBy_14 rfl rfl ?_
      refine v_iloadn X dX8_hourBy_15 rfl rfl ?_
      refine v_iloadn X dX8_hourBy_16 rfl rfl ?_
      obtain ⟨r6, g5, q4, h⟩ := bd2_some h
      refine v_callSI (As := [.ref (ad (9, 11, w1_1)), .int y3, .int z2]) (rest := [.int y3, .ref (ad (9, 11, 8))]) X (c_X8_riseOf l D ad cy X.2.2.2.2.2.2.2.2.1 N w1_1 y3 z2 g r6 g5 (by assumption) q4) mw_X8_riseOf ml_X8_174 (by decide) rfl rfl (Nat.le_of_ble_eq_true rfl) dX8_hourBy_17 ?_
      obtain ⟨j7, q8, h⟩ := bd1_some h
      obtain ⟨ej7, lj7⟩ := ix_spec q8
      refine asM X (by decide +kernel) j7 ej7 lj7 dX8_hourBy_20 ?_
      refine v_iinc (v := (y3 + 1)) (lc' := [some (.ref (ad (8, 0, 0))), some (.ref (ad (9, 11, w1_1))), some (.int z2), some (.int (y3 + 1))]) X dX8_hourBy_21 rfl rfl (by decide) rfl rfl ?_
      refine v_goto X 2 dX8_hourBy_24 (by decide) ?_
      exact ih (y3 + 1) (g3 g5 11 8 j7 r6) _ _ h k
set_option maxRecDepth 100000 in
set_option maxHeartbeats 4000000 in
theorem w_X8_hourBy_29 {p : Program} {l : Launch} {e : Env} {s : State} {m : MethodId} {args : Array Value} {below : List Frame} {meth : Method} {c : Code} {D : va_G} {ad : Ky → Nat} {cy : Nat → ClassId} {gq : GS} {N : Nat} (X : Cx p (rmd 4) s m args meth c RX8 cX8_hourBy 4 none D ad cy) (w1_1 : Nat) (z2 : Int32) (hh0 : ((9, 11, w1_1) : Ky) ∈ keys) : ∀ (n : Nat) (y3 : Int32) (g : GS) (y3' : Int32) (g' : GS), L_X8_hourBy_29 N w1_1 z2 n y3 g = some (y3', g') → Vy p l e (rmd 4) s m args below meth c 4 D ad cy (QV D ad cy below args s gq) 62 [some (.ref (ad (8, 0, 0))), some (.ref (ad (9, 11, w1_1))), some (.int z2), some (.int y3')] [] g' → Vy p l e (rmd 4) s m args below meth c 4 D ad cy (QV D ad cy below args s gq) 29 [some (.ref (ad (8, 0, 0))), some (.ref (ad (9, 11, w1_1))), some (.int z2), some (.int y3)] [] g := by
  intro n
  induction n with
  | zero => intro y3 g y3' g' h k; cases h
  | succ n ih =>
    intro y3 g y3' g' h k
    rw [L_X8_hourBy_29] at h
    refine v_iloadn X dX8_hourBy_29 rfl rfl ?_
    refine v_aloadn X dX8_hourBy_30 rfl rfl ?_
    refine v_iconst (v := 0) X dX8_hourBy_31 (by decide) ?_
    obtain ⟨j12, q13, h⟩ := bd1_some h
    obtain ⟨ej12, lj12⟩ := ix_spec q13
    refine alM X (by assumption) j12 ej12 lj12 dX8_hourBy_32 ?_
    refine v_icmp_ge X 62 dX8_hourBy_33 (by decide) (fun c14 => ?_) (fun c14 => ?_)
    · replace h := (if_pos c14).symm.trans h
      cases h
      exact k
    · replace h := (if_neg c14).symm.trans h
      refine v_aloadn X dX8_hourBy_36 rfl rfl ?_
      refine v_iloadn X dX8_hourBy_37 rfl rfl ?_
      obtain ⟨r17, g16, q15, h⟩ := bd2_some h
      refine v_callSI (As := [.ref (ad (9, 11, w1_1)), .int y3]) (rest := []) X (c_X8_isUp l D ad cy X.2.2.2.2.2.2.2.2.1 N w1_1 y3 g r17 g16 (by assumption) q15) mw_X8_isUp ml_X8_159 (by decide) rfl rfl (Nat.le_of_ble_eq_true rfl) dX8_hourBy_38 ?_
      refine v_if_eq X 56 dX8_hourBy_41 (by decide) (fun c18 => ?_) (fun c18 => ?_)
      · replace h := (if_pos c18).symm.trans h
        refine v_iinc (v := (y3 + 1)) (lc' := [some (.ref (ad (8, 0, 0))), some (.ref (ad (9, 11, w1_1))), some (.int z2), some (.int (y3 + 1))]) X dX8_hourBy_56 rfl rfl (by decide) rfl rfl ?_
        refine v_goto X 29 dX8_hourBy_59 (by decide) ?_
        exact ih (y3 + 1) g16 _ _ h k
      · replace h := (if_neg c18).symm.trans h
        refine v_aloadn X dX8_hourBy_44 rfl rfl ?_
        refine v_iloadn X dX8_hourBy_45 rfl rfl ?_
        refine v_aloadn X dX8_hourBy_46 rfl rfl ?_
        refine gf_X8_28 X dX8_hourBy_47 ?_
        refine v_iloadn X dX8_hourBy_50 rfl rfl ?_
        obtain ⟨j19, q20, h⟩ := bd1_some h
        obtain ⟨ej19, lj19⟩ := ix_spec q20
        refine alM X (by decide +kernel) j19 ej19 lj19 dX8_hourBy_51 ?_
        refine v_iloadn X dX8_hourBy_52 rfl rfl ?_
        obtain ⟨g22, q21, h⟩ := bd1_some h
        refine v_callSV (As := [.ref (ad (9, 11, w1_1)), .int y3, .int (g16 11 8 j19), .int z2]) (rest := []) X (c_X8_moves l D ad cy X.2.2.2.2.2.2.2.2.1 N w1_1 y3 (g16 11 8 j19) z2 g16 g22 (by assumption) q21) mw_X8_moves ml_X8_177 (by decide) rfl rfl (Nat.le_of_ble_eq_true rfl) dX8_hourBy_53 ?_
        refine v_iinc (v := (y3 + 1)) (lc' := [some (.ref (ad (8, 0, 0))), some (.ref (ad (9, 11, w1_1))), some (.int z2), some (.int (y3 + 1))]) X dX8_hourBy_56 rfl rfl (by decide) rfl rfl ?_
        refine v_goto X 29 dX8_hourBy_59 (by decide) ?_
        exact ih (y3 + 1) g22 _ _ h k
set_option maxRecDepth 100000 in
set_option maxHeartbeats 4000000 in
theorem c_X8_hourBy (l : Launch) (D : va_G) (ad : Ky → Nat) (cy : Nat → ClassId) (hI : Inj ad) (N : Nat) (b1 : Nat) (x2 : Int32) (g : GS) (gq : GS) (kb1 : ((9, 11, b1) : Ky) ∈ keys) (h : F_X8_hourBy N b1 x2 g = some gq) : CtV l D ad cy yX8_hourBy cX8_hourBy 4 4 [.ref (ad (8, 0, 0)), .ref (ad (9, 11, b1)), .int x2] g gq := by
  refine CtV.of 1 hI (by decide +kernel) rfl (Nat.le_of_ble_eq_true rfl) (fun p e s m args below meth c X => ?_)
  unfold F_X8_hourBy at h
  show Vy _ _ _ _ _ _ _ _ _ _ _ _ _ _ _ 0 [some (.ref (ad (8, 0, 0))), some (.ref (ad (9, 11, b1))), some (.int x2), none] [] g
  refine v_iconst (v := 0) X dX8_hourBy_0 (by decide) ?_
  refine v_istoren (lc' := [some (.ref (ad (8, 0, 0))), some (.ref (ad (9, 11, b1))), some (.int x2), some (.int (0 : Int32))]) X dX8_hourBy_1 rfl (by decide) rfl rfl ?_
  obtain ⟨x9, g10, q11, h⟩ := bd2_some h
  refine w_X8_hourBy_2 X b1 x2 (by assumption) N (0 : Int32) g x9 g10 q11 ?_
  refine v_iconst (v := 0) X dX8_hourBy_27 (by decide) ?_
  refine v_istoren (lc' := [some (.ref (ad (8, 0, 0))), some (.ref (ad (9, 11, b1))), some (.int x2), some (.int (0 : Int32))]) X dX8_hourBy_28 rfl (by decide) rfl rfl ?_
  obtain ⟨x23, g24, q25, h⟩ := bd2_some h
  refine w_X8_hourBy_29 X b1 x2 (by assumption) N (0 : Int32) g10 x23 g24 q25 ?_
  refine v_aloadn X dX8_hourBy_62 rfl rfl ?_
  refine v_iconst (v := 4) X dX8_hourBy_63 (by decide) ?_
  refine v_dup2 X dX8_hourBy_64 rfl rfl ?_
  obtain ⟨j26, q27, h⟩ := bd1_some h
  obtain ⟨ej26, lj26⟩ := ix_spec q27
  refine alM X (by assumption) j26 ej26 lj26 dX8_hourBy_65 ?_
  refine v_iconst (v := 1) X dX8_hourBy_66 (by decide) ?_
  refine v_iadd X dX8_hourBy_67 ?_
  obtain ⟨j28, q29, h⟩ := bd1_some h
  obtain ⟨ej28, lj28⟩ := ix_spec q29
  refine asM X (by assumption) j28 ej28 lj28 dX8_hourBy_68 ?_
  cases h
  exact v_vret X dX8_hourBy_69 rfl
def F_X8_hour (N : Nat) (b1 : Nat) (g : GS) : Option GS := bd1 (ix (4 : Int32) (lenM b1)) (fun j1 => bd2 (F_X8_forceOf N b1 (g 11 b1 j1) g) (fun r5 g4 => bd1 (F_X8_hourBy N b1 r5 g4) (fun g7 => some g7)))
set_option maxRecDepth 100000 in
set_option maxHeartbeats 4000000 in
theorem c_X8_hour (l : Launch) (D : va_G) (ad : Ky → Nat) (cy : Nat → ClassId) (hI : Inj ad) (N : Nat) (b1 : Nat) (g : GS) (gq : GS) (kb1 : ((9, 11, b1) : Ky) ∈ keys) (h : F_X8_hour N b1 g = some gq) : CtV l D ad cy yX8_hour cX8_hour 2 5 [.ref (ad (8, 0, 0)), .ref (ad (9, 11, b1))] g gq := by
  refine CtV.of 0 hI (by decide +kernel) rfl (Nat.le_of_ble_eq_true rfl) (fun p e s m args below meth c X => ?_)
  unfold F_X8_hour at h
  show Vy _ _ _ _ _ _ _ _ _ _ _ _ _ _ _ 0 [some (.ref (ad (8, 0, 0))), some (.ref (ad (9, 11, b1)))] [] g
  refine v_aloadn X dX8_hour_0 rfl rfl ?_
  refine v_aloadn X dX8_hour_1 rfl rfl ?_
  refine v_aloadn X dX8_hour_2 rfl rfl ?_
  refine v_aloadn X dX8_hour_3 rfl rfl ?_
  refine v_iconst (v := 4) X dX8_hour_4 (by decide) ?_
  obtain ⟨j1, q2, h⟩ := bd1_some h
  obtain ⟨ej1, lj1⟩ := ix_spec q2
  refine alM X (by assumption) j1 ej1 lj1 dX8_hour_5 ?_
  obtain ⟨r5, g4, q3, h⟩ := bd2_some h
  refine v_callSI (As := [.ref (ad (9, 11, b1)), .int (g 11 b1 j1)]) (rest := [.ref (ad (9, 11, b1)), .ref (ad (8, 0, 0))]) X (c_X8_forceOf l D ad cy X.2.2.2.2.2.2.2.2.1 N b1 (g 11 b1 j1) g r5 g4 (by assumption) q3) mw_X8_forceOf ml_X8_180 (by decide) rfl rfl (Nat.le_of_ble_eq_true rfl) dX8_hour_6 ?_
  obtain ⟨g7, q6, h⟩ := bd1_some h
  refine v_callVV (As := [.ref (ad (9, 11, b1)), .int r5]) (rest := []) X (c_X8_hourBy l D ad cy X.2.2.2.2.2.2.2.2.1 N b1 r5 g4 g7 (by assumption) q6) mw_X8_hourBy ml_X8_184 (by decide) (by decide +kernel) (by decide) rfl rfl rfl rfl (Nat.le_of_ble_eq_true rfl) dX8_hour_9 ?_
  cases h
  exact v_vret X dX8_hour_12 rfl
def L_X8_hoursOf_2 (N : Nat) (w1_1 : Nat) (z2 : Int32) : Nat → Int32 → GS → Option (Int32 × GS)
  | 0, _, _ => none
  | n + 1, y3, g => if z2 ≤ y3 then some (y3, g) else bd1 (F_X8_hour N w1_1 g) (fun g3 => L_X8_hoursOf_2 N w1_1 z2 n (y3 + 1) g3)
def F_X8_hoursOf (N : Nat) (b1 : Nat) (x2 : Int32) (g : GS) : Option GS := bd2 (L_X8_hoursOf_2 N b1 x2 N (0 : Int32) g) (fun x4 g5 => some g5)
set_option maxRecDepth 100000 in
set_option maxHeartbeats 4000000 in
theorem w_X8_hoursOf_2 {p : Program} {l : Launch} {e : Env} {s : State} {m : MethodId} {args : Array Value} {below : List Frame} {meth : Method} {c : Code} {D : va_G} {ad : Ky → Nat} {cy : Nat → ClassId} {gq : GS} {N : Nat} (X : Cx p (rmd 6) s m args meth c RX8 cX8_hoursOf 4 none D ad cy) (w1_1 : Nat) (z2 : Int32) (hh0 : ((9, 11, w1_1) : Ky) ∈ keys) : ∀ (n : Nat) (y3 : Int32) (g : GS) (y3' : Int32) (g' : GS), L_X8_hoursOf_2 N w1_1 z2 n y3 g = some (y3', g') → Vy p l e (rmd 6) s m args below meth c 4 D ad cy (QV D ad cy below args s gq) 18 [some (.ref (ad (8, 0, 0))), some (.ref (ad (9, 11, w1_1))), some (.int z2), some (.int y3')] [] g' → Vy p l e (rmd 6) s m args below meth c 4 D ad cy (QV D ad cy below args s gq) 2 [some (.ref (ad (8, 0, 0))), some (.ref (ad (9, 11, w1_1))), some (.int z2), some (.int y3)] [] g := by
  intro n
  induction n with
  | zero => intro y3 g y3' g' h k; cases h
  | succ n ih =>
    intro y3 g y3' g' h k
    rw [L_X8_hoursOf_2] at h
    refine v_iloadn X dX8_hoursOf_2 rfl rfl ?_
    refine v_iloadn X dX8_hoursOf_3 rfl rfl ?_
    refine v_icmp_ge X 18 dX8_hoursOf_4 (by decide) (fun c1 => ?_) (fun c1 => ?_)
    · replace h := (if_pos c1).symm.trans h
      cases h
      exact k
    · replace h := (if_neg c1).symm.trans h
      refine v_aloadn X dX8_hoursOf_7 rfl rfl ?_
      refine v_aloadn X dX8_hoursOf_8 rfl rfl ?_
      obtain ⟨g3, q2, h⟩ := bd1_some h
      refine v_callVV (As := [.ref (ad (9, 11, w1_1))]) (rest := []) X (c_X8_hour l D ad cy X.2.2.2.2.2.2.2.2.1 N w1_1 g g3 (by assumption) q2) mw_X8_hour ml_X8_188 (by decide) (by decide +kernel) (by decide) rfl rfl rfl rfl (Nat.le_of_ble_eq_true rfl) dX8_hoursOf_9 ?_
      refine v_iinc (v := (y3 + 1)) (lc' := [some (.ref (ad (8, 0, 0))), some (.ref (ad (9, 11, w1_1))), some (.int z2), some (.int (y3 + 1))]) X dX8_hoursOf_12 rfl rfl (by decide) rfl rfl ?_
      refine v_goto X 2 dX8_hoursOf_15 (by decide) ?_
      exact ih (y3 + 1) g3 _ _ h k
set_option maxRecDepth 100000 in
set_option maxHeartbeats 4000000 in
theorem c_X8_hoursOf (l : Launch) (D : va_G) (ad : Ky → Nat) (cy : Nat → ClassId) (hI : Inj ad) (N : Nat) (b1 : Nat) (x2 : Int32) (g : GS) (gq : GS) (kb1 : ((9, 11, b1) : Ky) ∈ keys) (h : F_X8_hoursOf N b1 x2 g = some gq) : CtV l D ad cy yX8_hoursOf cX8_hoursOf 4 6 [.ref (ad (8, 0, 0)), .ref (ad (9, 11, b1)), .int x2] g gq := by
  refine CtV.of 1 hI (by decide +kernel) rfl (Nat.le_of_ble_eq_true rfl) (fun p e s m args below meth c X => ?_)
  unfold F_X8_hoursOf at h
  show Vy _ _ _ _ _ _ _ _ _ _ _ _ _ _ _ 0 [some (.ref (ad (8, 0, 0))), some (.ref (ad (9, 11, b1))), some (.int x2), none] [] g
  refine v_iconst (v := 0) X dX8_hoursOf_0 (by decide) ?_
  refine v_istoren (lc' := [some (.ref (ad (8, 0, 0))), some (.ref (ad (9, 11, b1))), some (.int x2), some (.int (0 : Int32))]) X dX8_hoursOf_1 rfl (by decide) rfl rfl ?_
  obtain ⟨x4, g5, q6, h⟩ := bd2_some h
  refine w_X8_hoursOf_2 X b1 x2 (by assumption) N (0 : Int32) g x4 g5 q6 ?_
  cases h
  exact v_vret X dX8_hoursOf_18 rfl
def F_X8_in (N : Nat) (x0 : Int64) (x2 : Int64) (x4 : Int64) (g : GS) : Option (Int32 × GS) := if (lg_cmp x0 x2) < 0 then some ((0 : Int32), g) else if 0 < (lg_cmp x0 x4) then some ((0 : Int32), g) else some ((1 : Int32), g)
set_option maxRecDepth 100000 in
set_option maxHeartbeats 4000000 in
theorem c_X8_in (l : Launch) (D : va_G) (ad : Ky → Nat) (cy : Nat → ClassId) (hI : Inj ad) (N : Nat) (x0 : Int64) (x2 : Int64) (x4 : Int64) (g : GS) (r : Int32) (gq : GS) (h : F_X8_in N x0 x2 x4 g = some (r, gq)) : CtI l D ad cy yX8_in cX8_in 6 (some .boolean) 0 [.long x0, .long x2, .long x4] g r gq := by
  refine CtI.of 0 hI (by decide +kernel) rfl (Nat.le_of_ble_eq_true rfl) (fun p e s m args below meth c X => ?_)
  unfold F_X8_in at h
  show Vy _ _ _ _ _ _ _ _ _ _ _ _ _ _ _ 0 [some (.long x0), none, some (.long x2), none, some (.long x4), none] [] g
  refine v_lloadn X dX8_in_0 rfl rfl ?_
  refine v_lloadn X dX8_in_1 rfl rfl ?_
  refine v_lcmp X dX8_in_2 ?_
  refine v_if_lt X 17 dX8_in_3 (by decide) (fun c1 => ?_) (fun c1 => ?_)
  · replace h := (if_pos c1).symm.trans h
    refine v_iconst (v := 0) X dX8_in_17 (by decide) ?_
    cases h
    exact v_zret X dX8_in_18 rfl rfl rfl
  · replace h := (if_neg c1).symm.trans h
    refine v_lloadn X dX8_in_6 rfl rfl ?_
    refine v_lload X dX8_in_7 rfl ?_
    refine v_lcmp X dX8_in_9 ?_
    refine v_if_gt X 17 dX8_in_10 (by decide) (fun c2 => ?_) (fun c2 => ?_)
    · replace h := (if_pos c2).symm.trans h
      refine v_iconst (v := 0) X dX8_in_17 (by decide) ?_
      cases h
      exact v_zret X dX8_in_18 rfl rfl rfl
    · replace h := (if_neg c2).symm.trans h
      refine v_iconst (v := 1) X dX8_in_13 (by decide) ?_
      refine v_goto X 18 dX8_in_14 (by decide) ?_
      cases h
      exact v_zret X dX8_in_18 rfl rfl rfl
def F_X8_isPaper (N : Nat) (x1 : Int32) (g : GS) : Option (Int32 × GS) := bd1 (ix (0 : Int32) 53) (fun j1 => bd2 (F_X8_in N (x1.toInt64) (0 : Int64) (((g 11 5 j1) - (1 : Int32)).toInt64) g) (fun r5 g4 => if r5 = 0 ∨ r5 = 1 then some (r5, g4) else none))
set_option maxRecDepth 100000 in
set_option maxHeartbeats 4000000 in
theorem c_X8_isPaper (l : Launch) (D : va_G) (ad : Ky → Nat) (cy : Nat → ClassId) (hI : Inj ad) (N : Nat) (x1 : Int32) (g : GS) (r : Int32) (gq : GS) (h : F_X8_isPaper N x1 g = some (r, gq)) : CtI l D ad cy yX8_isPaper cX8_isPaper 2 (some .boolean) 1 [.ref (ad (8, 0, 0)), .int x1] g r gq := by
  refine CtI.of 0 hI (by decide +kernel) rfl (Nat.le_of_ble_eq_true rfl) (fun p e s m args below meth c X => ?_)
  unfold F_X8_isPaper at h
  show Vy _ _ _ _ _ _ _ _ _ _ _ _ _ _ _ 0 [some (.ref (ad (8, 0, 0))), some (.int x1)] [] g
  refine v_iloadn X dX8_isPaper_0 rfl rfl ?_
  refine v_i2l X dX8_isPaper_1 ?_
  refine v_lconst (v := 0) X dX8_isPaper_2 (by decide) ?_
  refine v_aloadn X dX8_isPaper_3 rfl rfl ?_
  refine gf_X8_19 X dX8_isPaper_4 ?_
  refine v_iconst (v := 0) X dX8_isPaper_7 (by decide) ?_
  obtain ⟨j1, q2, h⟩ := bd1_some h
  obtain ⟨ej1, lj1⟩ := ix_spec q2
  refine alM X (by decide +kernel) j1 ej1 lj1 dX8_isPaper_8 ?_
  refine v_iconst (v := 1) X dX8_isPaper_9 (by decide) ?_
  refine v_isub X dX8_isPaper_10 ?_
  refine v_i2l X dX8_isPaper_11 ?_
  obtain ⟨r5, g4, q3, h⟩ := bd2_some h
  refine v_callSI (As := [.long (x1.toInt64), .long (0 : Int64), .long (((g 11 5 j1) - (1 : Int32)).toInt64)]) (rest := []) X (c_X8_in l D ad cy X.2.2.2.2.2.2.2.2.1 N (x1.toInt64) (0 : Int64) (((g 11 5 j1) - (1 : Int32)).toInt64) g r5 g4  q3) mw_X8_in ml_X8_60 (by decide) rfl rfl (Nat.le_of_ble_eq_true rfl) dX8_isPaper_12 ?_
  by_cases c6 : r5 = 0 ∨ r5 = 1
  · replace h := (if_pos c6).symm.trans h
    cases h
    exact v_zret X dX8_isPaper_15 (nb c6) rfl rfl
  · replace h := (if_neg c6).symm.trans h
    cases h
def L_X8_layThen_2 (N : Nat) : Nat → Int32 → GS → Option (Int32 × GS)
  | 0, _, _ => none
  | n + 1, y1, g => if (53 : Int32) ≤ y1 then some (y1, g) else bd1 (ix y1 53) (fun j2 => bd1 (ix y1 53) (fun j4 => L_X8_layThen_2 N n (y1 + 1) (g3 g 11 7 j4 (g 11 5 j2))))
def F_X8_layThen (N : Nat) (g : GS) : Option GS := bd2 (L_X8_layThen_2 N N (0 : Int32) g) (fun x6 g7 => some g7)
set_option maxRecDepth 100000 in
set_option maxHeartbeats 4000000 in
theorem w_X8_layThen_2 {p : Program} {l : Launch} {e : Env} {s : State} {m : MethodId} {args : Array Value} {below : List Frame} {meth : Method} {c : Code} {D : va_G} {ad : Ky → Nat} {cy : Nat → ClassId} {gq : GS} {N : Nat} (X : Cx p (rmd 0) s m args meth c RX8 cX8_layThen 2 none D ad cy) : ∀ (n : Nat) (y1 : Int32) (g : GS) (y1' : Int32) (g' : GS), L_X8_layThen_2 N n y1 g = some (y1', g') → Vy p l e (rmd 0) s m args below meth c 2 D ad cy (QV D ad cy below args s gq) 26 [some (.ref (ad (8, 0, 0))), some (.int y1')] [] g' → Vy p l e (rmd 0) s m args below meth c 2 D ad cy (QV D ad cy below args s gq) 2 [some (.ref (ad (8, 0, 0))), some (.int y1)] [] g := by
  intro n
  induction n with
  | zero => intro y1 g y1' g' h k; cases h
  | succ n ih =>
    intro y1 g y1' g' h k
    rw [L_X8_layThen_2] at h
    refine v_iloadn X dX8_layThen_2 rfl rfl ?_
    refine v_bipush (v := 53) X dX8_layThen_3 (by decide) ?_
    refine v_icmp_ge X 26 dX8_layThen_5 (by decide) (fun c1 => ?_) (fun c1 => ?_)
    · replace h := (if_pos c1).symm.trans h
      cases h
      exact k
    · replace h := (if_neg c1).symm.trans h
      refine v_aloadn X dX8_layThen_8 rfl rfl ?_
      refine gf_X8_25 X dX8_layThen_9 ?_
      refine v_iloadn X dX8_layThen_12 rfl rfl ?_
      refine v_aloadn X dX8_layThen_13 rfl rfl ?_
      refine gf_X8_19 X dX8_layThen_14 ?_
      refine v_iloadn X dX8_layThen_17 rfl rfl ?_
      obtain ⟨j2, q3, h⟩ := bd1_some h
      obtain ⟨ej2, lj2⟩ := ix_spec q3
      refine alM X (by decide +kernel) j2 ej2 lj2 dX8_layThen_18 ?_
      obtain ⟨j4, q5, h⟩ := bd1_some h
      obtain ⟨ej4, lj4⟩ := ix_spec q5
      refine asM X (by decide +kernel) j4 ej4 lj4 dX8_layThen_19 ?_
      refine v_iinc (v := (y1 + 1)) (lc' := [some (.ref (ad (8, 0, 0))), some (.int (y1 + 1))]) X dX8_layThen_20 rfl rfl (by decide) rfl rfl ?_
      refine v_goto X 2 dX8_layThen_23 (by decide) ?_
      exact ih (y1 + 1) (g3 g 11 7 j4 (g 11 5 j2)) _ _ h k
set_option maxRecDepth 100000 in
set_option maxHeartbeats 4000000 in
theorem c_X8_layThen (l : Launch) (D : va_G) (ad : Ky → Nat) (cy : Nat → ClassId) (hI : Inj ad) (N : Nat) (g : GS) (gq : GS) (h : F_X8_layThen N  g = some gq) : CtV l D ad cy yX8_layThen cX8_layThen 2 0 [.ref (ad (8, 0, 0))] g gq := by
  refine CtV.of 1 hI (by decide +kernel) rfl (Nat.le_of_ble_eq_true rfl) (fun p e s m args below meth c X => ?_)
  unfold F_X8_layThen at h
  show Vy _ _ _ _ _ _ _ _ _ _ _ _ _ _ _ 0 [some (.ref (ad (8, 0, 0))), none] [] g
  refine v_iconst (v := 0) X dX8_layThen_0 (by decide) ?_
  refine v_istoren (lc' := [some (.ref (ad (8, 0, 0))), some (.int (0 : Int32))]) X dX8_layThen_1 rfl (by decide) rfl rfl ?_
  obtain ⟨x6, g7, q8, h⟩ := bd2_some h
  refine w_X8_layThen_2 X  N (0 : Int32) g x6 g7 q8 ?_
  cases h
  exact v_vret X dX8_layThen_26 rfl
def F_X8_ahead (N : Nat) (x1 : Int32) (x2 : Int32) (x3 : Int32) (g : GS) : Option (Int32 × GS) := bd2 (F_X8_isPaper N x1 (g3 g 10 0 0 (0 : Int32))) (fun r3 g2 => if r3 = 0 then some ((-1000001 : Int32), g2) else bd2 (F_X8_in N (x2.toInt64) (0 : Int64) (60 : Int64) g2) (fun r7 g6 => if r7 = 0 then some ((-1000001 : Int32), g6) else bd2 (F_X8_in N (x3.toInt64) (0 : Int64) (2 : Int64) g6) (fun r11 g10 => if r11 = 0 then some ((-1000001 : Int32), g10) else bd1 (F_X8_layThen N  g10) (fun g14 => bd1 (F_X8_hoursOf N 7 x2 g14) (fun g16 => if x3 = 0 then bd2 (F_X8_of N 7 x1 (4 : Int32) g16) (fun r27 g26 => some (r27, g26)) else if x3 = (1 : Int32) then bd2 (F_X8_of N 7 x1 (5 : Int32) g16) (fun r24 g23 => some (r24, g23)) else bd2 (F_X8_cellOf N 7 x1 g16) (fun r21 g20 => some (r21, g20)))))))
set_option maxRecDepth 100000 in
set_option maxHeartbeats 4000000 in
theorem c_X8_ahead (l : Launch) (D : va_G) (ad : Ky → Nat) (cy : Nat → ClassId) (hI : Inj ad) (N : Nat) (x1 : Int32) (x2 : Int32) (x3 : Int32) (g : GS) (r : Int32) (gq : GS) (h : F_X8_ahead N x1 x2 x3 g = some (r, gq)) : CtI l D ad cy yX8_ahead cX8_ahead 4 (some .int) 7 [.ref (ad (8, 0, 0)), .int x1, .int x2, .int x3] g r gq := by
  refine CtI.of 0 hI (by decide +kernel) rfl (Nat.le_of_ble_eq_true rfl) (fun p e s m args below meth c X => ?_)
  unfold F_X8_ahead at h
  show Vy _ _ _ _ _ _ _ _ _ _ _ _ _ _ _ 0 [some (.ref (ad (8, 0, 0))), some (.int x1), some (.int x2), some (.int x3)] [] g
  refine v_aloadn X dX8_ahead_0 rfl rfl ?_
  refine v_iconst (v := 0) X dX8_ahead_1 (by decide) ?_
  refine pf_X8_50 X dX8_ahead_2 ?_
  refine v_aloadn X dX8_ahead_5 rfl rfl ?_
  refine v_iloadn X dX8_ahead_6 rfl rfl ?_
  obtain ⟨r3, g2, q1, h⟩ := bd2_some h
  refine v_callVI (As := [.int x1]) (rest := []) X (c_X8_isPaper l D ad cy X.2.2.2.2.2.2.2.2.1 N x1 (g3 g 10 0 0 (0 : Int32)) r3 g2  q1) mw_X8_isPaper ml_X8_208 (by decide) (by decide +kernel) (by decide) rfl rfl rfl rfl (Nat.le_of_ble_eq_true rfl) dX8_ahead_7 ?_
  refine v_if_eq X 37 dX8_ahead_10 (by decide) (fun c4 => ?_) (fun c4 => ?_)
  · replace h := (if_pos c4).symm.trans h
    refine v_ldc X kc_X8_70 dX8_ahead_37 ?_
    cases h
    exact v_iret X dX8_ahead_39 rfl rfl
  · replace h := (if_neg c4).symm.trans h
    refine v_iloadn X dX8_ahead_13 rfl rfl ?_
    refine v_i2l X dX8_ahead_14 ?_
    refine v_lconst (v := 0) X dX8_ahead_15 (by decide) ?_
    refine v_ldc2 X kl_X8_225 dX8_ahead_16 ?_
    obtain ⟨r7, g6, q5, h⟩ := bd2_some h
    refine v_callSI (As := [.long (x2.toInt64), .long (0 : Int64), .long (60 : Int64)]) (rest := []) X (c_X8_in l D ad cy X.2.2.2.2.2.2.2.2.1 N (x2.toInt64) (0 : Int64) (60 : Int64) g2 r7 g6  q5) mw_X8_in ml_X8_60 (by decide) rfl rfl (Nat.le_of_ble_eq_true rfl) dX8_ahead_19 ?_
    refine v_if_eq X 37 dX8_ahead_22 (by decide) (fun c8 => ?_) (fun c8 => ?_)
    · replace h := (if_pos c8).symm.trans h
      refine v_ldc X kc_X8_70 dX8_ahead_37 ?_
      cases h
      exact v_iret X dX8_ahead_39 rfl rfl
    · replace h := (if_neg c8).symm.trans h
      refine v_iloadn X dX8_ahead_25 rfl rfl ?_
      refine v_i2l X dX8_ahead_26 ?_
      refine v_lconst (v := 0) X dX8_ahead_27 (by decide) ?_
      refine v_ldc2 X kl_X8_68 dX8_ahead_28 ?_
      obtain ⟨r11, g10, q9, h⟩ := bd2_some h
      refine v_callSI (As := [.long (x3.toInt64), .long (0 : Int64), .long (2 : Int64)]) (rest := []) X (c_X8_in l D ad cy X.2.2.2.2.2.2.2.2.1 N (x3.toInt64) (0 : Int64) (2 : Int64) g6 r11 g10  q9) mw_X8_in ml_X8_60 (by decide) rfl rfl (Nat.le_of_ble_eq_true rfl) dX8_ahead_31 ?_
      refine v_if_ne X 40 dX8_ahead_34 (by decide) (fun c12 => ?_) (fun c12 => ?_)
      · replace h := (if_neg c12).symm.trans h
        refine v_aloadn X dX8_ahead_40 rfl rfl ?_
        obtain ⟨g14, q13, h⟩ := bd1_some h
        refine v_callVV (As := []) (rest := []) X (c_X8_layThen l D ad cy X.2.2.2.2.2.2.2.2.1 N  g10 g14  q13) mw_X8_layThen ml_X8_232 (by decide) (by decide +kernel) (by decide) rfl rfl rfl rfl (Nat.le_of_ble_eq_true rfl) dX8_ahead_41 ?_
        refine v_aloadn X dX8_ahead_44 rfl rfl ?_
        refine v_aloadn X dX8_ahead_45 rfl rfl ?_
        refine gf_X8_25 X dX8_ahead_46 ?_
        refine v_iloadn X dX8_ahead_49 rfl rfl ?_
        obtain ⟨g16, q15, h⟩ := bd1_some h
        refine v_callVV (As := [.ref (ad (9, 11, 7)), .int x2]) (rest := []) X (c_X8_hoursOf l D ad cy X.2.2.2.2.2.2.2.2.1 N 7 x2 g14 g16 (by decide +kernel) q15) mw_X8_hoursOf ml_X8_235 (by decide) (by decide +kernel) (by decide) rfl rfl rfl rfl (Nat.le_of_ble_eq_true rfl) dX8_ahead_50 ?_
        refine v_iloadn X dX8_ahead_53 rfl rfl ?_
        refine v_if_ne X 69 dX8_ahead_54 (by decide) (fun c17 => ?_) (fun c17 => ?_)
        · replace h := (if_neg c17).symm.trans h
          refine v_iloadn X dX8_ahead_69 rfl rfl ?_
          refine v_iconst (v := 1) X dX8_ahead_70 (by decide) ?_
          refine v_icmp_ne X 86 dX8_ahead_71 (by decide) (fun c18 => ?_) (fun c18 => ?_)
          · replace h := (if_neg c18).symm.trans h
            refine v_aloadn X dX8_ahead_86 rfl rfl ?_
            refine gf_X8_25 X dX8_ahead_87 ?_
            refine v_iloadn X dX8_ahead_90 rfl rfl ?_
            obtain ⟨r21, g20, q19, h⟩ := bd2_some h
            refine v_callSI (As := [.ref (ad (9, 11, 7)), .int x1]) (rest := []) X (c_X8_cellOf l D ad cy X.2.2.2.2.2.2.2.2.1 N 7 x1 g16 r21 g20 (by decide +kernel) q19) mw_X8_cellOf ml_X8_229 (by decide) rfl rfl (Nat.le_of_ble_eq_true rfl) dX8_ahead_91 ?_
            cases h
            exact v_iret X dX8_ahead_94 rfl rfl
          · replace h := (if_pos c18).symm.trans h
            refine v_aloadn X dX8_ahead_74 rfl rfl ?_
            refine gf_X8_25 X dX8_ahead_75 ?_
            refine v_iloadn X dX8_ahead_78 rfl rfl ?_
            refine v_iconst (v := 5) X dX8_ahead_79 (by decide) ?_
            obtain ⟨r24, g23, q22, h⟩ := bd2_some h
            refine v_callSI (As := [.ref (ad (9, 11, 7)), .int x1, .int (5 : Int32)]) (rest := []) X (c_X8_of l D ad cy X.2.2.2.2.2.2.2.2.1 N 7 x1 (5 : Int32) g16 r24 g23 (by decide +kernel) q22) mw_X8_of ml_X8_155 (by decide) rfl rfl (Nat.le_of_ble_eq_true rfl) dX8_ahead_80 ?_
            refine v_goto X 94 dX8_ahead_83 (by decide) ?_
            cases h
            exact v_iret X dX8_ahead_94 rfl rfl
        · replace h := (if_pos c17).symm.trans h
          refine v_aloadn X dX8_ahead_57 rfl rfl ?_
          refine gf_X8_25 X dX8_ahead_58 ?_
          refine v_iloadn X dX8_ahead_61 rfl rfl ?_
          refine v_iconst (v := 4) X dX8_ahead_62 (by decide) ?_
          obtain ⟨r27, g26, q25, h⟩ := bd2_some h
          refine v_callSI (As := [.ref (ad (9, 11, 7)), .int x1, .int (4 : Int32)]) (rest := []) X (c_X8_of l D ad cy X.2.2.2.2.2.2.2.2.1 N 7 x1 (4 : Int32) g16 r27 g26 (by decide +kernel) q25) mw_X8_of ml_X8_155 (by decide) rfl rfl (Nat.le_of_ble_eq_true rfl) dX8_ahead_63 ?_
          refine v_goto X 94 dX8_ahead_66 (by decide) ?_
          cases h
          exact v_iret X dX8_ahead_94 rfl rfl
      · replace h := (if_pos c12).symm.trans h
        refine v_ldc X kc_X8_70 dX8_ahead_37 ?_
        cases h
        exact v_iret X dX8_ahead_39 rfl rfl
def F_X8_finding (N : Nat) (x1 : Int32) (g : GS) : Option (Int32 × GS) := some (((-1000010 : Int32) - x1), (g3 g 10 0 1 x1))
set_option maxRecDepth 100000 in
set_option maxHeartbeats 4000000 in
theorem c_X8_finding (l : Launch) (D : va_G) (ad : Ky → Nat) (cy : Nat → ClassId) (hI : Inj ad) (N : Nat) (x1 : Int32) (g : GS) (r : Int32) (gq : GS) (h : F_X8_finding N x1 g = some (r, gq)) : CtI l D ad cy yX8_finding cX8_finding 2 (some .int) 0 [.ref (ad (8, 0, 0)), .int x1] g r gq := by
  refine CtI.of 0 hI (by decide +kernel) rfl (Nat.le_of_ble_eq_true rfl) (fun p e s m args below meth c X => ?_)
  unfold F_X8_finding at h
  show Vy _ _ _ _ _ _ _ _ _ _ _ _ _ _ _ 0 [some (.ref (ad (8, 0, 0))), some (.int x1)] [] g
  refine v_aloadn X dX8_finding_0 rfl rfl ?_
  refine v_iloadn X dX8_finding_1 rfl rfl ?_
  refine pf_X8_54 X dX8_finding_2 ?_
  refine v_ldc X kc_X8_57 dX8_finding_5 ?_
  refine v_iloadn X dX8_finding_7 rfl rfl ?_
  refine v_isub X dX8_finding_8 ?_
  cases h
  exact v_iret X dX8_finding_9 rfl rfl
def F_X8_isOf (N : Nat) (x0 : Int32) (x1 : Int32) (g : GS) : Option (Int32 × GS) := if x1 = 0 then some ((1 : Int32), g) else if x0 = x1 then some ((1 : Int32), g) else if x1 = (1 : Int32) then if x0 < (4 : Int32) then some ((1 : Int32), g) else if x1 = (4 : Int32) then if x0 = (5 : Int32) then some ((1 : Int32), g) else some ((0 : Int32), g) else some ((0 : Int32), g) else if x1 = (4 : Int32) then if x0 = (5 : Int32) then some ((1 : Int32), g) else some ((0 : Int32), g) else some ((0 : Int32), g)
set_option maxRecDepth 100000 in
set_option maxHeartbeats 4000000 in
theorem c_X8_isOf (l : Launch) (D : va_G) (ad : Ky → Nat) (cy : Nat → ClassId) (hI : Inj ad) (N : Nat) (x0 : Int32) (x1 : Int32) (g : GS) (r : Int32) (gq : GS) (h : F_X8_isOf N x0 x1 g = some (r, gq)) : CtI l D ad cy yX8_isOf cX8_isOf 2 (some .boolean) 0 [.int x0, .int x1] g r gq := by
  refine CtI.of 0 hI (by decide +kernel) rfl (Nat.le_of_ble_eq_true rfl) (fun p e s m args below meth c X => ?_)
  unfold F_X8_isOf at h
  show Vy _ _ _ _ _ _ _ _ _ _ _ _ _ _ _ 0 [some (.int x0), some (.int x1)] [] g
  refine v_iloadn X dX8_isOf_0 rfl rfl ?_
  refine v_if_eq X 29 dX8_isOf_1 (by decide) (fun c1 => ?_) (fun c1 => ?_)
  · replace h := (if_pos c1).symm.trans h
    refine v_iconst (v := 1) X dX8_isOf_29 (by decide) ?_
    refine v_goto X 34 dX8_isOf_30 (by decide) ?_
    cases h
    exact v_zret X dX8_isOf_34 rfl rfl rfl
  · replace h := (if_neg c1).symm.trans h
    refine v_iloadn X dX8_isOf_4 rfl rfl ?_
    refine v_iloadn X dX8_isOf_5 rfl rfl ?_
    refine v_icmp_eq X 29 dX8_isOf_6 (by decide) (fun c2 => ?_) (fun c2 => ?_)
    · replace h := (if_pos c2).symm.trans h
      refine v_iconst (v := 1) X dX8_isOf_29 (by decide) ?_
      refine v_goto X 34 dX8_isOf_30 (by decide) ?_
      cases h
      exact v_zret X dX8_isOf_34 rfl rfl rfl
    · replace h := (if_neg c2).symm.trans h
      refine v_iloadn X dX8_isOf_9 rfl rfl ?_
      refine v_iconst (v := 1) X dX8_isOf_10 (by decide) ?_
      refine v_icmp_ne X 19 dX8_isOf_11 (by decide) (fun c3 => ?_) (fun c3 => ?_)
      · replace h := (if_neg c3).symm.trans h
        refine v_iloadn X dX8_isOf_19 rfl rfl ?_
        refine v_iconst (v := 4) X dX8_isOf_20 (by decide) ?_
        refine v_icmp_ne X 33 dX8_isOf_21 (by decide) (fun c4 => ?_) (fun c4 => ?_)
        · replace h := (if_neg c4).symm.trans h
          refine v_iconst (v := 0) X dX8_isOf_33 (by decide) ?_
          cases h
          exact v_zret X dX8_isOf_34 rfl rfl rfl
        · replace h := (if_pos c4).symm.trans h
          refine v_iloadn X dX8_isOf_24 rfl rfl ?_
          refine v_iconst (v := 5) X dX8_isOf_25 (by decide) ?_
          refine v_icmp_ne X 33 dX8_isOf_26 (by decide) (fun c5 => ?_) (fun c5 => ?_)
          · replace h := (if_neg c5).symm.trans h
            refine v_iconst (v := 0) X dX8_isOf_33 (by decide) ?_
            cases h
            exact v_zret X dX8_isOf_34 rfl rfl rfl
          · replace h := (if_pos c5).symm.trans h
            refine v_iconst (v := 1) X dX8_isOf_29 (by decide) ?_
            refine v_goto X 34 dX8_isOf_30 (by decide) ?_
            cases h
            exact v_zret X dX8_isOf_34 rfl rfl rfl
      · replace h := (if_pos c3).symm.trans h
        refine v_iloadn X dX8_isOf_14 rfl rfl ?_
        refine v_iconst (v := 4) X dX8_isOf_15 (by decide) ?_
        refine v_icmp_lt X 29 dX8_isOf_16 (by decide) (fun c6 => ?_) (fun c6 => ?_)
        · replace h := (if_pos c6).symm.trans h
          refine v_iconst (v := 1) X dX8_isOf_29 (by decide) ?_
          refine v_goto X 34 dX8_isOf_30 (by decide) ?_
          cases h
          exact v_zret X dX8_isOf_34 rfl rfl rfl
        · replace h := (if_neg c6).symm.trans h
          refine v_iloadn X dX8_isOf_19 rfl rfl ?_
          refine v_iconst (v := 4) X dX8_isOf_20 (by decide) ?_
          refine v_icmp_ne X 33 dX8_isOf_21 (by decide) (fun c7 => ?_) (fun c7 => ?_)
          · replace h := (if_neg c7).symm.trans h
            refine v_iconst (v := 0) X dX8_isOf_33 (by decide) ?_
            cases h
            exact v_zret X dX8_isOf_34 rfl rfl rfl
          · replace h := (if_pos c7).symm.trans h
            refine v_iloadn X dX8_isOf_24 rfl rfl ?_
            refine v_iconst (v := 5) X dX8_isOf_25 (by decide) ?_
            refine v_icmp_ne X 33 dX8_isOf_26 (by decide) (fun c8 => ?_) (fun c8 => ?_)
            · replace h := (if_neg c8).symm.trans h
              refine v_iconst (v := 0) X dX8_isOf_33 (by decide) ?_
              cases h
              exact v_zret X dX8_isOf_34 rfl rfl rfl
            · replace h := (if_pos c8).symm.trans h
              refine v_iconst (v := 1) X dX8_isOf_29 (by decide) ?_
              refine v_goto X 34 dX8_isOf_30 (by decide) ?_
              cases h
              exact v_zret X dX8_isOf_34 rfl rfl rfl
def F_X8_as (N : Nat) (x1 : Int32) (x2 : Int32) (g : GS) : Option (Int32 × GS) := bd2 (F_X8_isPaper N x1 (g3 g 10 0 0 (0 : Int32))) (fun r3 g2 => if r3 = 0 then some ((-1000001 : Int32), g2) else bd2 (F_X8_in N (x2.toInt64) (0 : Int64) (5 : Int64) g2) (fun r7 g6 => if r7 = 0 then some ((-1000001 : Int32), g6) else bd2 (F_X8_of N 5 x1 (0 : Int32) (g3 g6 10 0 1 (0 : Int32))) (fun r11 g10 => bd2 (F_X8_isOf N r11 x2 g10) (fun r14 g13 => if r14 = 0 then bd2 (F_X8_finding N (3 : Int32) g13) (fun r18 g17 => some (r18, g17)) else some (x1, g13)))))
set_option maxRecDepth 100000 in
set_option maxHeartbeats 4000000 in
theorem c_X8_as (l : Launch) (D : va_G) (ad : Ky → Nat) (cy : Nat → ClassId) (hI : Inj ad) (N : Nat) (x1 : Int32) (x2 : Int32) (g : GS) (r : Int32) (gq : GS) (h : F_X8_as N x1 x2 g = some (r, gq)) : CtI l D ad cy yX8_as cX8_as 3 (some .int) 2 [.ref (ad (8, 0, 0)), .int x1, .int x2] g r gq := by
  refine CtI.of 0 hI (by decide +kernel) rfl (Nat.le_of_ble_eq_true rfl) (fun p e s m args below meth c X => ?_)
  unfold F_X8_as at h
  show Vy _ _ _ _ _ _ _ _ _ _ _ _ _ _ _ 0 [some (.ref (ad (8, 0, 0))), some (.int x1), some (.int x2)] [] g
  refine v_aloadn X dX8_as_0 rfl rfl ?_
  refine v_iconst (v := 0) X dX8_as_1 (by decide) ?_
  refine pf_X8_50 X dX8_as_2 ?_
  refine v_aloadn X dX8_as_5 rfl rfl ?_
  refine v_iloadn X dX8_as_6 rfl rfl ?_
  obtain ⟨r3, g2, q1, h⟩ := bd2_some h
  refine v_callVI (As := [.int x1]) (rest := []) X (c_X8_isPaper l D ad cy X.2.2.2.2.2.2.2.2.1 N x1 (g3 g 10 0 0 (0 : Int32)) r3 g2  q1) mw_X8_isPaper ml_X8_208 (by decide) (by decide +kernel) (by decide) rfl rfl rfl rfl (Nat.le_of_ble_eq_true rfl) dX8_as_7 ?_
  refine v_if_eq X 25 dX8_as_10 (by decide) (fun c4 => ?_) (fun c4 => ?_)
  · replace h := (if_pos c4).symm.trans h
    refine v_ldc X kc_X8_70 dX8_as_25 ?_
    cases h
    exact v_iret X dX8_as_27 rfl rfl
  · replace h := (if_neg c4).symm.trans h
    refine v_iloadn X dX8_as_13 rfl rfl ?_
    refine v_i2l X dX8_as_14 ?_
    refine v_lconst (v := 0) X dX8_as_15 (by decide) ?_
    refine v_ldc2 X kl_X8_274 dX8_as_16 ?_
    obtain ⟨r7, g6, q5, h⟩ := bd2_some h
    refine v_callSI (As := [.long (x2.toInt64), .long (0 : Int64), .long (5 : Int64)]) (rest := []) X (c_X8_in l D ad cy X.2.2.2.2.2.2.2.2.1 N (x2.toInt64) (0 : Int64) (5 : Int64) g2 r7 g6  q5) mw_X8_in ml_X8_60 (by decide) rfl rfl (Nat.le_of_ble_eq_true rfl) dX8_as_19 ?_
    refine v_if_ne X 28 dX8_as_22 (by decide) (fun c8 => ?_) (fun c8 => ?_)
    · replace h := (if_neg c8).symm.trans h
      refine v_aloadn X dX8_as_28 rfl rfl ?_
      refine v_iconst (v := 0) X dX8_as_29 (by decide) ?_
      refine pf_X8_54 X dX8_as_30 ?_
      refine v_aloadn X dX8_as_33 rfl rfl ?_
      refine gf_X8_19 X dX8_as_34 ?_
      refine v_iloadn X dX8_as_37 rfl rfl ?_
      refine v_iconst (v := 0) X dX8_as_38 (by decide) ?_
      obtain ⟨r11, g10, q9, h⟩ := bd2_some h
      refine v_callSI (As := [.ref (ad (9, 11, 5)), .int x1, .int (0 : Int32)]) (rest := []) X (c_X8_of l D ad cy X.2.2.2.2.2.2.2.2.1 N 5 x1 (0 : Int32) (g3 g6 10 0 1 (0 : Int32)) r11 g10 (by decide +kernel) q9) mw_X8_of ml_X8_155 (by decide) rfl rfl (Nat.le_of_ble_eq_true rfl) dX8_as_39 ?_
      refine v_iloadn X dX8_as_42 rfl rfl ?_
      obtain ⟨r14, g13, q12, h⟩ := bd2_some h
      refine v_callSI (As := [.int r11, .int x2]) (rest := []) X (c_X8_isOf l D ad cy X.2.2.2.2.2.2.2.2.1 N r11 x2 g10 r14 g13  q12) mw_X8_isOf ml_X8_276 (by decide) rfl rfl (Nat.le_of_ble_eq_true rfl) dX8_as_43 ?_
      refine v_if_eq X 53 dX8_as_46 (by decide) (fun c15 => ?_) (fun c15 => ?_)
      · replace h := (if_pos c15).symm.trans h
        refine v_aloadn X dX8_as_53 rfl rfl ?_
        refine v_iconst (v := 3) X dX8_as_54 (by decide) ?_
        obtain ⟨r18, g17, q16, h⟩ := bd2_some h
        refine v_callVI (As := [.int (3 : Int32)]) (rest := []) X (c_X8_finding l D ad cy X.2.2.2.2.2.2.2.2.1 N (3 : Int32) g13 r18 g17  q16) mw_X8_finding ml_X8_71 (by decide) (by decide +kernel) (by decide) rfl rfl rfl rfl (Nat.le_of_ble_eq_true rfl) dX8_as_55 ?_
        cases h
        exact v_iret X dX8_as_58 rfl rfl
      · replace h := (if_neg c15).symm.trans h
        refine v_iloadn X dX8_as_49 rfl rfl ?_
        refine v_goto X 58 dX8_as_50 (by decide) ?_
        cases h
        exact v_iret X dX8_as_58 rfl rfl
    · replace h := (if_pos c8).symm.trans h
      refine v_ldc X kc_X8_70 dX8_as_25 ?_
      cases h
      exact v_iret X dX8_as_27 rfl rfl
def F_X8_began (N : Nat) (x1 : Int32) (g : GS) : Option GS := if (16 : Int32) ≤ (g 10 0 24) then some g else bd1 (ix (g 10 0 24) 16) (fun j2 => some (g3 (g3 g 11 23 j2 x1) 10 0 24 (((g3 g 11 23 j2 x1) 10 0 24) + (1 : Int32))))
set_option maxRecDepth 100000 in
set_option maxHeartbeats 4000000 in
theorem c_X8_began (l : Launch) (D : va_G) (ad : Ky → Nat) (cy : Nat → ClassId) (hI : Inj ad) (N : Nat) (x1 : Int32) (g : GS) (gq : GS) (h : F_X8_began N x1 g = some gq) : CtV l D ad cy yX8_began cX8_began 2 0 [.ref (ad (8, 0, 0)), .int x1] g gq := by
  refine CtV.of 0 hI (by decide +kernel) rfl (Nat.le_of_ble_eq_true rfl) (fun p e s m args below meth c X => ?_)
  unfold F_X8_began at h
  show Vy _ _ _ _ _ _ _ _ _ _ _ _ _ _ _ 0 [some (.ref (ad (8, 0, 0))), some (.int x1)] [] g
  refine v_aloadn X dX8_began_0 rfl rfl ?_
  refine gf_X8_279 X dX8_began_1 ?_
  refine v_bipush (v := 16) X dX8_began_4 (by decide) ?_
  refine v_icmp_ge X 29 dX8_began_6 (by decide) (fun c1 => ?_) (fun c1 => ?_)
  · replace h := (if_pos c1).symm.trans h
    cases h
    exact v_vret X dX8_began_29 rfl
  · replace h := (if_neg c1).symm.trans h
    refine v_aloadn X dX8_began_9 rfl rfl ?_
    refine gf_X8_47 X dX8_began_10 ?_
    refine v_aloadn X dX8_began_13 rfl rfl ?_
    refine gf_X8_279 X dX8_began_14 ?_
    refine v_iloadn X dX8_began_17 rfl rfl ?_
    obtain ⟨j2, q3, h⟩ := bd1_some h
    obtain ⟨ej2, lj2⟩ := ix_spec q3
    refine asM X (by decide +kernel) j2 ej2 lj2 dX8_began_18 ?_
    refine v_aloadn X dX8_began_19 rfl rfl ?_
    refine v_dup X dX8_began_20 rfl ?_
    refine gf_X8_279 X dX8_began_21 ?_
    refine v_iconst (v := 1) X dX8_began_24 (by decide) ?_
    refine v_iadd X dX8_began_25 ?_
    refine pf_X8_279 X dX8_began_26 ?_
    cases h
    exact v_vret X dX8_began_29 rfl
def F_X8_plainSize (N : Nat) (x1 : Int32) (g : GS) : Option (Int32 × GS) := bd1 (F_X8_began N (10 : Int32) g) (fun g2 => bd2 (F_X8_of N 5 x1 (2 : Int32) g2) (fun r5 g4 => some (r5, g4)))
set_option maxRecDepth 100000 in
set_option maxHeartbeats 4000000 in
theorem c_X8_plainSize (l : Launch) (D : va_G) (ad : Ky → Nat) (cy : Nat → ClassId) (hI : Inj ad) (N : Nat) (x1 : Int32) (g : GS) (r : Int32) (gq : GS) (h : F_X8_plainSize N x1 g = some (r, gq)) : CtI l D ad cy yX8_plainSize cX8_plainSize 2 (some .int) 1 [.ref (ad (8, 0, 0)), .int x1] g r gq := by
  refine CtI.of 0 hI (by decide +kernel) rfl (Nat.le_of_ble_eq_true rfl) (fun p e s m args below meth c X => ?_)
  unfold F_X8_plainSize at h
  show Vy _ _ _ _ _ _ _ _ _ _ _ _ _ _ _ 0 [some (.ref (ad (8, 0, 0))), some (.int x1)] [] g
  refine v_aloadn X dX8_plainSize_0 rfl rfl ?_
  refine v_bipush (v := 10) X dX8_plainSize_1 (by decide) ?_
  obtain ⟨g2, q1, h⟩ := bd1_some h
  refine v_callVV (As := [.int (10 : Int32)]) (rest := []) X (c_X8_began l D ad cy X.2.2.2.2.2.2.2.2.1 N (10 : Int32) g g2  q1) mw_X8_began ml_X8_282 (by decide) (by decide +kernel) (by decide) rfl rfl rfl rfl (Nat.le_of_ble_eq_true rfl) dX8_plainSize_3 ?_
  refine v_aloadn X dX8_plainSize_6 rfl rfl ?_
  refine gf_X8_19 X dX8_plainSize_7 ?_
  refine v_iloadn X dX8_plainSize_10 rfl rfl ?_
  refine v_iconst (v := 2) X dX8_plainSize_11 (by decide) ?_
  obtain ⟨r5, g4, q3, h⟩ := bd2_some h
  refine v_callSI (As := [.ref (ad (9, 11, 5)), .int x1, .int (2 : Int32)]) (rest := []) X (c_X8_of l D ad cy X.2.2.2.2.2.2.2.2.1 N 5 x1 (2 : Int32) g2 r5 g4 (by decide +kernel) q3) mw_X8_of ml_X8_155 (by decide) rfl rfl (Nat.le_of_ble_eq_true rfl) dX8_plainSize_12 ?_
  cases h
  exact v_iret X dX8_plainSize_15 rfl rfl
def F_X8_leafSize (N : Nat) (x1 : Int32) (g : GS) : Option (Int32 × GS) := bd2 (F_X8_of N 5 x1 (0 : Int32) g) (fun r3 g2 => if r3 = (5 : Int32) then if (1 : Int32) = 0 then bd1 (F_X8_began N (13 : Int32) g2) (fun g22 => bd2 (F_X8_plainSize N x1 g22) (fun r25 g24 => if (1 : Int32) = 0 then some ((r25 - (100 : Int32)), g24) else some (((2 : Int32) * (r25 - (100 : Int32))), g24))) else bd1 (F_X8_began N (14 : Int32) g2) (fun g28 => bd1 (F_X8_began N (13 : Int32) g28) (fun g30 => bd2 (F_X8_plainSize N x1 g30) (fun r33 g32 => if (1 : Int32) = 0 then some ((r33 - (100 : Int32)), g32) else some (((2 : Int32) * (r33 - (100 : Int32))), g32)))) else if (0 : Int32) = 0 then bd1 (F_X8_began N (13 : Int32) g2) (fun g7 => bd2 (F_X8_plainSize N x1 g7) (fun r10 g9 => if (0 : Int32) = 0 then some ((r10 - (100 : Int32)), g9) else some (((2 : Int32) * (r10 - (100 : Int32))), g9))) else bd1 (F_X8_began N (14 : Int32) g2) (fun g13 => bd1 (F_X8_began N (13 : Int32) g13) (fun g15 => bd2 (F_X8_plainSize N x1 g15) (fun r18 g17 => if (0 : Int32) = 0 then some ((r18 - (100 : Int32)), g17) else some (((2 : Int32) * (r18 - (100 : Int32))), g17)))))
set_option maxRecDepth 100000 in
set_option maxHeartbeats 4000000 in
theorem c_X8_leafSize (l : Launch) (D : va_G) (ad : Ky → Nat) (cy : Nat → ClassId) (hI : Inj ad) (N : Nat) (x1 : Int32) (g : GS) (r : Int32) (gq : GS) (h : F_X8_leafSize N x1 g = some (r, gq)) : CtI l D ad cy yX8_leafSize cX8_leafSize 4 (some .int) 2 [.ref (ad (8, 0, 0)), .int x1] g r gq := by
  refine CtI.of 2 hI (by decide +kernel) rfl (Nat.le_of_ble_eq_true rfl) (fun p e s m args below meth c X => ?_)
  unfold F_X8_leafSize at h
  show Vy _ _ _ _ _ _ _ _ _ _ _ _ _ _ _ 0 [some (.ref (ad (8, 0, 0))), some (.int x1), none, none] [] g
  refine v_aloadn X dX8_leafSize_0 rfl rfl ?_
  refine gf_X8_19 X dX8_leafSize_1 ?_
  refine v_iloadn X dX8_leafSize_4 rfl rfl ?_
  refine v_iconst (v := 0) X dX8_leafSize_5 (by decide) ?_
  obtain ⟨r3, g2, q1, h⟩ := bd2_some h
  refine v_callSI (As := [.ref (ad (9, 11, 5)), .int x1, .int (0 : Int32)]) (rest := []) X (c_X8_of l D ad cy X.2.2.2.2.2.2.2.2.1 N 5 x1 (0 : Int32) g r3 g2 (by decide +kernel) q1) mw_X8_of ml_X8_155 (by decide) rfl rfl (Nat.le_of_ble_eq_true rfl) dX8_leafSize_6 ?_
  refine v_iconst (v := 5) X dX8_leafSize_9 (by decide) ?_
  refine v_icmp_ne X 17 dX8_leafSize_10 (by decide) (fun c4 => ?_) (fun c4 => ?_)
  · replace h := (if_neg c4).symm.trans h
    refine v_iconst (v := 0) X dX8_leafSize_17 (by decide) ?_
    refine v_istoren (lc' := [some (.ref (ad (8, 0, 0))), some (.int x1), some (.int (0 : Int32)), none]) X dX8_leafSize_18 rfl (by decide) rfl rfl ?_
    refine v_iloadn X dX8_leafSize_19 rfl rfl ?_
    refine v_if_eq X 29 dX8_leafSize_20 (by decide) (fun c5 => ?_) (fun c5 => ?_)
    · replace h := (if_pos c5).symm.trans h
      refine v_aloadn X dX8_leafSize_29 rfl rfl ?_
      refine v_bipush (v := 13) X dX8_leafSize_30 (by decide) ?_
      obtain ⟨g7, q6, h⟩ := bd1_some h
      refine v_callVV (As := [.int (13 : Int32)]) (rest := []) X (c_X8_began l D ad cy X.2.2.2.2.2.2.2.2.1 N (13 : Int32) g2 g7  q6) mw_X8_began ml_X8_282 (by decide) (by decide +kernel) (by decide) rfl rfl rfl rfl (Nat.le_of_ble_eq_true rfl) dX8_leafSize_32 ?_
      refine v_aloadn X dX8_leafSize_35 rfl rfl ?_
      refine v_iloadn X dX8_leafSize_36 rfl rfl ?_
      obtain ⟨r10, g9, q8, h⟩ := bd2_some h
      refine v_callVI (As := [.int x1]) (rest := []) X (c_X8_plainSize l D ad cy X.2.2.2.2.2.2.2.2.1 N x1 g7 r10 g9  q8) mw_X8_plainSize ml_X8_285 (by decide) (by decide +kernel) (by decide) rfl rfl rfl rfl (Nat.le_of_ble_eq_true rfl) dX8_leafSize_37 ?_
      refine v_bipush (v := 100) X dX8_leafSize_40 (by decide) ?_
      refine v_isub X dX8_leafSize_42 ?_
      refine v_istoren (lc' := [some (.ref (ad (8, 0, 0))), some (.int x1), some (.int (0 : Int32)), some (.int (r10 - (100 : Int32)))]) X dX8_leafSize_43 rfl (by decide) rfl rfl ?_
      refine v_iloadn X dX8_leafSize_44 rfl rfl ?_
      refine v_if_eq X 54 dX8_leafSize_45 (by decide) (fun c11 => ?_) (fun c11 => ?_)
      · replace h := (if_pos c11).symm.trans h
        refine v_iloadn X dX8_leafSize_54 rfl rfl ?_
        cases h
        exact v_iret X dX8_leafSize_55 rfl rfl
      · replace h := (if_neg c11).symm.trans h
        refine v_iconst (v := 2) X dX8_leafSize_48 (by decide) ?_
        refine v_iloadn X dX8_leafSize_49 rfl rfl ?_
        refine v_imul X dX8_leafSize_50 ?_
        refine v_goto X 55 dX8_leafSize_51 (by decide) ?_
        cases h
        exact v_iret X dX8_leafSize_55 rfl rfl
    · replace h := (if_neg c5).symm.trans h
      refine v_aloadn X dX8_leafSize_23 rfl rfl ?_
      refine v_bipush (v := 14) X dX8_leafSize_24 (by decide) ?_
      obtain ⟨g13, q12, h⟩ := bd1_some h
      refine v_callVV (As := [.int (14 : Int32)]) (rest := []) X (c_X8_began l D ad cy X.2.2.2.2.2.2.2.2.1 N (14 : Int32) g2 g13  q12) mw_X8_began ml_X8_282 (by decide) (by decide +kernel) (by decide) rfl rfl rfl rfl (Nat.le_of_ble_eq_true rfl) dX8_leafSize_26 ?_
      refine v_aloadn X dX8_leafSize_29 rfl rfl ?_
      refine v_bipush (v := 13) X dX8_leafSize_30 (by decide) ?_
      obtain ⟨g15, q14, h⟩ := bd1_some h
      refine v_callVV (As := [.int (13 : Int32)]) (rest := []) X (c_X8_began l D ad cy X.2.2.2.2.2.2.2.2.1 N (13 : Int32) g13 g15  q14) mw_X8_began ml_X8_282 (by decide) (by decide +kernel) (by decide) rfl rfl rfl rfl (Nat.le_of_ble_eq_true rfl) dX8_leafSize_32 ?_
      refine v_aloadn X dX8_leafSize_35 rfl rfl ?_
      refine v_iloadn X dX8_leafSize_36 rfl rfl ?_
      obtain ⟨r18, g17, q16, h⟩ := bd2_some h
      refine v_callVI (As := [.int x1]) (rest := []) X (c_X8_plainSize l D ad cy X.2.2.2.2.2.2.2.2.1 N x1 g15 r18 g17  q16) mw_X8_plainSize ml_X8_285 (by decide) (by decide +kernel) (by decide) rfl rfl rfl rfl (Nat.le_of_ble_eq_true rfl) dX8_leafSize_37 ?_
      refine v_bipush (v := 100) X dX8_leafSize_40 (by decide) ?_
      refine v_isub X dX8_leafSize_42 ?_
      refine v_istoren (lc' := [some (.ref (ad (8, 0, 0))), some (.int x1), some (.int (0 : Int32)), some (.int (r18 - (100 : Int32)))]) X dX8_leafSize_43 rfl (by decide) rfl rfl ?_
      refine v_iloadn X dX8_leafSize_44 rfl rfl ?_
      refine v_if_eq X 54 dX8_leafSize_45 (by decide) (fun c19 => ?_) (fun c19 => ?_)
      · replace h := (if_pos c19).symm.trans h
        refine v_iloadn X dX8_leafSize_54 rfl rfl ?_
        cases h
        exact v_iret X dX8_leafSize_55 rfl rfl
      · replace h := (if_neg c19).symm.trans h
        refine v_iconst (v := 2) X dX8_leafSize_48 (by decide) ?_
        refine v_iloadn X dX8_leafSize_49 rfl rfl ?_
        refine v_imul X dX8_leafSize_50 ?_
        refine v_goto X 55 dX8_leafSize_51 (by decide) ?_
        cases h
        exact v_iret X dX8_leafSize_55 rfl rfl
  · replace h := (if_pos c4).symm.trans h
    refine v_iconst (v := 1) X dX8_leafSize_13 (by decide) ?_
    refine v_goto X 18 dX8_leafSize_14 (by decide) ?_
    refine v_istoren (lc' := [some (.ref (ad (8, 0, 0))), some (.int x1), some (.int (1 : Int32)), none]) X dX8_leafSize_18 rfl (by decide) rfl rfl ?_
    refine v_iloadn X dX8_leafSize_19 rfl rfl ?_
    refine v_if_eq X 29 dX8_leafSize_20 (by decide) (fun c20 => ?_) (fun c20 => ?_)
    · replace h := (if_pos c20).symm.trans h
      refine v_aloadn X dX8_leafSize_29 rfl rfl ?_
      refine v_bipush (v := 13) X dX8_leafSize_30 (by decide) ?_
      obtain ⟨g22, q21, h⟩ := bd1_some h
      refine v_callVV (As := [.int (13 : Int32)]) (rest := []) X (c_X8_began l D ad cy X.2.2.2.2.2.2.2.2.1 N (13 : Int32) g2 g22  q21) mw_X8_began ml_X8_282 (by decide) (by decide +kernel) (by decide) rfl rfl rfl rfl (Nat.le_of_ble_eq_true rfl) dX8_leafSize_32 ?_
      refine v_aloadn X dX8_leafSize_35 rfl rfl ?_
      refine v_iloadn X dX8_leafSize_36 rfl rfl ?_
      obtain ⟨r25, g24, q23, h⟩ := bd2_some h
      refine v_callVI (As := [.int x1]) (rest := []) X (c_X8_plainSize l D ad cy X.2.2.2.2.2.2.2.2.1 N x1 g22 r25 g24  q23) mw_X8_plainSize ml_X8_285 (by decide) (by decide +kernel) (by decide) rfl rfl rfl rfl (Nat.le_of_ble_eq_true rfl) dX8_leafSize_37 ?_
      refine v_bipush (v := 100) X dX8_leafSize_40 (by decide) ?_
      refine v_isub X dX8_leafSize_42 ?_
      refine v_istoren (lc' := [some (.ref (ad (8, 0, 0))), some (.int x1), some (.int (1 : Int32)), some (.int (r25 - (100 : Int32)))]) X dX8_leafSize_43 rfl (by decide) rfl rfl ?_
      refine v_iloadn X dX8_leafSize_44 rfl rfl ?_
      refine v_if_eq X 54 dX8_leafSize_45 (by decide) (fun c26 => ?_) (fun c26 => ?_)
      · replace h := (if_pos c26).symm.trans h
        refine v_iloadn X dX8_leafSize_54 rfl rfl ?_
        cases h
        exact v_iret X dX8_leafSize_55 rfl rfl
      · replace h := (if_neg c26).symm.trans h
        refine v_iconst (v := 2) X dX8_leafSize_48 (by decide) ?_
        refine v_iloadn X dX8_leafSize_49 rfl rfl ?_
        refine v_imul X dX8_leafSize_50 ?_
        refine v_goto X 55 dX8_leafSize_51 (by decide) ?_
        cases h
        exact v_iret X dX8_leafSize_55 rfl rfl
    · replace h := (if_neg c20).symm.trans h
      refine v_aloadn X dX8_leafSize_23 rfl rfl ?_
      refine v_bipush (v := 14) X dX8_leafSize_24 (by decide) ?_
      obtain ⟨g28, q27, h⟩ := bd1_some h
      refine v_callVV (As := [.int (14 : Int32)]) (rest := []) X (c_X8_began l D ad cy X.2.2.2.2.2.2.2.2.1 N (14 : Int32) g2 g28  q27) mw_X8_began ml_X8_282 (by decide) (by decide +kernel) (by decide) rfl rfl rfl rfl (Nat.le_of_ble_eq_true rfl) dX8_leafSize_26 ?_
      refine v_aloadn X dX8_leafSize_29 rfl rfl ?_
      refine v_bipush (v := 13) X dX8_leafSize_30 (by decide) ?_
      obtain ⟨g30, q29, h⟩ := bd1_some h
      refine v_callVV (As := [.int (13 : Int32)]) (rest := []) X (c_X8_began l D ad cy X.2.2.2.2.2.2.2.2.1 N (13 : Int32) g28 g30  q29) mw_X8_began ml_X8_282 (by decide) (by decide +kernel) (by decide) rfl rfl rfl rfl (Nat.le_of_ble_eq_true rfl) dX8_leafSize_32 ?_
      refine v_aloadn X dX8_leafSize_35 rfl rfl ?_
      refine v_iloadn X dX8_leafSize_36 rfl rfl ?_
      obtain ⟨r33, g32, q31, h⟩ := bd2_some h
      refine v_callVI (As := [.int x1]) (rest := []) X (c_X8_plainSize l D ad cy X.2.2.2.2.2.2.2.2.1 N x1 g30 r33 g32  q31) mw_X8_plainSize ml_X8_285 (by decide) (by decide +kernel) (by decide) rfl rfl rfl rfl (Nat.le_of_ble_eq_true rfl) dX8_leafSize_37 ?_
      refine v_bipush (v := 100) X dX8_leafSize_40 (by decide) ?_
      refine v_isub X dX8_leafSize_42 ?_
      refine v_istoren (lc' := [some (.ref (ad (8, 0, 0))), some (.int x1), some (.int (1 : Int32)), some (.int (r33 - (100 : Int32)))]) X dX8_leafSize_43 rfl (by decide) rfl rfl ?_
      refine v_iloadn X dX8_leafSize_44 rfl rfl ?_
      refine v_if_eq X 54 dX8_leafSize_45 (by decide) (fun c34 => ?_) (fun c34 => ?_)
      · replace h := (if_pos c34).symm.trans h
        refine v_iloadn X dX8_leafSize_54 rfl rfl ?_
        cases h
        exact v_iret X dX8_leafSize_55 rfl rfl
      · replace h := (if_neg c34).symm.trans h
        refine v_iconst (v := 2) X dX8_leafSize_48 (by decide) ?_
        refine v_iloadn X dX8_leafSize_49 rfl rfl ?_
        refine v_imul X dX8_leafSize_50 ?_
        refine v_goto X 55 dX8_leafSize_51 (by decide) ?_
        cases h
        exact v_iret X dX8_leafSize_55 rfl rfl
def F_X8_markOf (N : Nat) (x1 : Int32) (g : GS) : Option (Int32 × GS) := bd2 (F_X8_of N 5 x1 (0 : Int32) g) (fun r3 g2 => if r3 < (4 : Int32) then if r3 = (1 : Int32) then bd1 (F_X8_began N (21 : Int32) g2) (fun g7 => bd1 (F_X8_began N (20 : Int32) g7) (fun g9 => bd2 (F_X8_of N 5 x1 (4 : Int32) g9) (fun r12 g11 => if r3 = (1 : Int32) then some ((x1 + r12), g11) else if r3 = (3 : Int32) then some (((x1 + r12) - (1000 : Int32)), g11) else some (((2 : Int32) * (x1 + r12)), g11)))) else if r3 = (3 : Int32) then bd1 (F_X8_began N (22 : Int32) g2) (fun g28 => bd1 (F_X8_began N (21 : Int32) g28) (fun g30 => bd1 (F_X8_began N (20 : Int32) g30) (fun g32 => bd2 (F_X8_of N 5 x1 (4 : Int32) g32) (fun r35 g34 => if r3 = (1 : Int32) then some ((x1 + r35), g34) else if r3 = (3 : Int32) then some (((x1 + r35) - (1000 : Int32)), g34) else some (((2 : Int32) * (x1 + r35)), g34))))) else bd1 (F_X8_began N (24 : Int32) g2) (fun g17 => bd1 (F_X8_began N (21 : Int32) g17) (fun g19 => bd1 (F_X8_began N (20 : Int32) g19) (fun g21 => bd2 (F_X8_of N 5 x1 (4 : Int32) g21) (fun r24 g23 => if r3 = (1 : Int32) then some ((x1 + r24), g23) else if r3 = (3 : Int32) then some (((x1 + r24) - (1000 : Int32)), g23) else some (((2 : Int32) * (x1 + r24)), g23))))) else bd1 (F_X8_began N (23 : Int32) g2) (fun g39 => bd1 (F_X8_began N (20 : Int32) g39) (fun g41 => bd2 (F_X8_leafSize N x1 g41) (fun r44 g43 => some ((x1 - r44), g43)))))
set_option maxRecDepth 100000 in
set_option maxHeartbeats 4000000 in
theorem c_X8_markOf (l : Launch) (D : va_G) (ad : Ky → Nat) (cy : Nat → ClassId) (hI : Inj ad) (N : Nat) (x1 : Int32) (g : GS) (r : Int32) (gq : GS) (h : F_X8_markOf N x1 g = some (r, gq)) : CtI l D ad cy yX8_markOf cX8_markOf 4 (some .int) 3 [.ref (ad (8, 0, 0)), .int x1] g r gq := by
  refine CtI.of 2 hI (by decide +kernel) rfl (Nat.le_of_ble_eq_true rfl) (fun p e s m args below meth c X => ?_)
  unfold F_X8_markOf at h
  show Vy _ _ _ _ _ _ _ _ _ _ _ _ _ _ _ 0 [some (.ref (ad (8, 0, 0))), some (.int x1), none, none] [] g
  refine v_aloadn X dX8_markOf_0 rfl rfl ?_
  refine gf_X8_19 X dX8_markOf_1 ?_
  refine v_iloadn X dX8_markOf_4 rfl rfl ?_
  refine v_iconst (v := 0) X dX8_markOf_5 (by decide) ?_
  obtain ⟨r3, g2, q1, h⟩ := bd2_some h
  refine v_callSI (As := [.ref (ad (9, 11, 5)), .int x1, .int (0 : Int32)]) (rest := []) X (c_X8_of l D ad cy X.2.2.2.2.2.2.2.2.1 N 5 x1 (0 : Int32) g r3 g2 (by decide +kernel) q1) mw_X8_of ml_X8_155 (by decide) rfl rfl (Nat.le_of_ble_eq_true rfl) dX8_markOf_6 ?_
  refine v_istoren (lc' := [some (.ref (ad (8, 0, 0))), some (.int x1), some (.int r3), none]) X dX8_markOf_9 rfl (by decide) rfl rfl ?_
  refine v_iloadn X dX8_markOf_10 rfl rfl ?_
  refine v_iconst (v := 4) X dX8_markOf_11 (by decide) ?_
  refine v_icmp_lt X 35 dX8_markOf_12 (by decide) (fun c4 => ?_) (fun c4 => ?_)
  · replace h := (if_pos c4).symm.trans h
    refine v_iloadn X dX8_markOf_35 rfl rfl ?_
    refine v_iconst (v := 1) X dX8_markOf_36 (by decide) ?_
    refine v_icmp_eq X 56 dX8_markOf_37 (by decide) (fun c5 => ?_) (fun c5 => ?_)
    · replace h := (if_pos c5).symm.trans h
      refine v_aloadn X dX8_markOf_56 rfl rfl ?_
      refine v_bipush (v := 21) X dX8_markOf_57 (by decide) ?_
      obtain ⟨g7, q6, h⟩ := bd1_some h
      refine v_callVV (As := [.int (21 : Int32)]) (rest := []) X (c_X8_began l D ad cy X.2.2.2.2.2.2.2.2.1 N (21 : Int32) g2 g7  q6) mw_X8_began ml_X8_282 (by decide) (by decide +kernel) (by decide) rfl rfl rfl rfl (Nat.le_of_ble_eq_true rfl) dX8_markOf_59 ?_
      refine v_aloadn X dX8_markOf_62 rfl rfl ?_
      refine v_bipush (v := 20) X dX8_markOf_63 (by decide) ?_
      obtain ⟨g9, q8, h⟩ := bd1_some h
      refine v_callVV (As := [.int (20 : Int32)]) (rest := []) X (c_X8_began l D ad cy X.2.2.2.2.2.2.2.2.1 N (20 : Int32) g7 g9  q8) mw_X8_began ml_X8_282 (by decide) (by decide +kernel) (by decide) rfl rfl rfl rfl (Nat.le_of_ble_eq_true rfl) dX8_markOf_65 ?_
      refine v_iloadn X dX8_markOf_68 rfl rfl ?_
      refine v_aloadn X dX8_markOf_69 rfl rfl ?_
      refine gf_X8_19 X dX8_markOf_70 ?_
      refine v_iloadn X dX8_markOf_73 rfl rfl ?_
      refine v_iconst (v := 4) X dX8_markOf_74 (by decide) ?_
      obtain ⟨r12, g11, q10, h⟩ := bd2_some h
      refine v_callSI (As := [.ref (ad (9, 11, 5)), .int x1, .int (4 : Int32)]) (rest := [.int x1]) X (c_X8_of l D ad cy X.2.2.2.2.2.2.2.2.1 N 5 x1 (4 : Int32) g9 r12 g11 (by decide +kernel) q10) mw_X8_of ml_X8_155 (by decide) rfl rfl (Nat.le_of_ble_eq_true rfl) dX8_markOf_75 ?_
      refine v_iadd X dX8_markOf_78 ?_
      refine v_istoren (lc' := [some (.ref (ad (8, 0, 0))), some (.int x1), some (.int r3), some (.int (x1 + r12))]) X dX8_markOf_79 rfl (by decide) rfl rfl ?_
      refine v_iloadn X dX8_markOf_80 rfl rfl ?_
      refine v_iconst (v := 1) X dX8_markOf_81 (by decide) ?_
      refine v_icmp_ne X 89 dX8_markOf_82 (by decide) (fun c13 => ?_) (fun c13 => ?_)
      · replace h := (if_neg c13).symm.trans h
        refine v_iloadn X dX8_markOf_89 rfl rfl ?_
        refine v_iconst (v := 3) X dX8_markOf_90 (by decide) ?_
        refine v_icmp_ne X 102 dX8_markOf_91 (by decide) (fun c14 => ?_) (fun c14 => ?_)
        · replace h := (if_neg c14).symm.trans h
          refine v_iconst (v := 2) X dX8_markOf_102 (by decide) ?_
          refine v_iloadn X dX8_markOf_103 rfl rfl ?_
          refine v_imul X dX8_markOf_104 ?_
          cases h
          exact v_iret X dX8_markOf_105 rfl rfl
        · replace h := (if_pos c14).symm.trans h
          refine v_iloadn X dX8_markOf_94 rfl rfl ?_
          refine v_sipush (v := 1000) X dX8_markOf_95 (by decide) ?_
          refine v_isub X dX8_markOf_98 ?_
          refine v_goto X 105 dX8_markOf_99 (by decide) ?_
          cases h
          exact v_iret X dX8_markOf_105 rfl rfl
      · replace h := (if_pos c13).symm.trans h
        refine v_iloadn X dX8_markOf_85 rfl rfl ?_
        refine v_goto X 105 dX8_markOf_86 (by decide) ?_
        cases h
        exact v_iret X dX8_markOf_105 rfl rfl
    · replace h := (if_neg c5).symm.trans h
      refine v_aloadn X dX8_markOf_40 rfl rfl ?_
      refine v_iloadn X dX8_markOf_41 rfl rfl ?_
      refine v_iconst (v := 3) X dX8_markOf_42 (by decide) ?_
      refine v_icmp_ne X 51 dX8_markOf_43 (by decide) (fun c15 => ?_) (fun c15 => ?_)
      · replace h := (if_neg c15).symm.trans h
        refine v_bipush (v := 24) X dX8_markOf_51 (by decide) ?_
        obtain ⟨g17, q16, h⟩ := bd1_some h
        refine v_callVV (As := [.int (24 : Int32)]) (rest := []) X (c_X8_began l D ad cy X.2.2.2.2.2.2.2.2.1 N (24 : Int32) g2 g17  q16) mw_X8_began ml_X8_282 (by decide) (by decide +kernel) (by decide) rfl rfl rfl rfl (Nat.le_of_ble_eq_true rfl) dX8_markOf_53 ?_
        refine v_aloadn X dX8_markOf_56 rfl rfl ?_
        refine v_bipush (v := 21) X dX8_markOf_57 (by decide) ?_
        obtain ⟨g19, q18, h⟩ := bd1_some h
        refine v_callVV (As := [.int (21 : Int32)]) (rest := []) X (c_X8_began l D ad cy X.2.2.2.2.2.2.2.2.1 N (21 : Int32) g17 g19  q18) mw_X8_began ml_X8_282 (by decide) (by decide +kernel) (by decide) rfl rfl rfl rfl (Nat.le_of_ble_eq_true rfl) dX8_markOf_59 ?_
        refine v_aloadn X dX8_markOf_62 rfl rfl ?_
        refine v_bipush (v := 20) X dX8_markOf_63 (by decide) ?_
        obtain ⟨g21, q20, h⟩ := bd1_some h
        refine v_callVV (As := [.int (20 : Int32)]) (rest := []) X (c_X8_began l D ad cy X.2.2.2.2.2.2.2.2.1 N (20 : Int32) g19 g21  q20) mw_X8_began ml_X8_282 (by decide) (by decide +kernel) (by decide) rfl rfl rfl rfl (Nat.le_of_ble_eq_true rfl) dX8_markOf_65 ?_
        refine v_iloadn X dX8_markOf_68 rfl rfl ?_
        refine v_aloadn X dX8_markOf_69 rfl rfl ?_
        refine gf_X8_19 X dX8_markOf_70 ?_
        refine v_iloadn X dX8_markOf_73 rfl rfl ?_
        refine v_iconst (v := 4) X dX8_markOf_74 (by decide) ?_
        obtain ⟨r24, g23, q22, h⟩ := bd2_some h
        refine v_callSI (As := [.ref (ad (9, 11, 5)), .int x1, .int (4 : Int32)]) (rest := [.int x1]) X (c_X8_of l D ad cy X.2.2.2.2.2.2.2.2.1 N 5 x1 (4 : Int32) g21 r24 g23 (by decide +kernel) q22) mw_X8_of ml_X8_155 (by decide) rfl rfl (Nat.le_of_ble_eq_true rfl) dX8_markOf_75 ?_
        refine v_iadd X dX8_markOf_78 ?_
        refine v_istoren (lc' := [some (.ref (ad (8, 0, 0))), some (.int x1), some (.int r3), some (.int (x1 + r24))]) X dX8_markOf_79 rfl (by decide) rfl rfl ?_
        refine v_iloadn X dX8_markOf_80 rfl rfl ?_
        refine v_iconst (v := 1) X dX8_markOf_81 (by decide) ?_
        refine v_icmp_ne X 89 dX8_markOf_82 (by decide) (fun c25 => ?_) (fun c25 => ?_)
        · replace h := (if_neg c25).symm.trans h
          refine v_iloadn X dX8_markOf_89 rfl rfl ?_
          refine v_iconst (v := 3) X dX8_markOf_90 (by decide) ?_
          refine v_icmp_ne X 102 dX8_markOf_91 (by decide) (fun c26 => ?_) (fun c26 => ?_)
          · replace h := (if_neg c26).symm.trans h
            refine v_iconst (v := 2) X dX8_markOf_102 (by decide) ?_
            refine v_iloadn X dX8_markOf_103 rfl rfl ?_
            refine v_imul X dX8_markOf_104 ?_
            cases h
            exact v_iret X dX8_markOf_105 rfl rfl
          · replace h := (if_pos c26).symm.trans h
            refine v_iloadn X dX8_markOf_94 rfl rfl ?_
            refine v_sipush (v := 1000) X dX8_markOf_95 (by decide) ?_
            refine v_isub X dX8_markOf_98 ?_
            refine v_goto X 105 dX8_markOf_99 (by decide) ?_
            cases h
            exact v_iret X dX8_markOf_105 rfl rfl
        · replace h := (if_pos c25).symm.trans h
          refine v_iloadn X dX8_markOf_85 rfl rfl ?_
          refine v_goto X 105 dX8_markOf_86 (by decide) ?_
          cases h
          exact v_iret X dX8_markOf_105 rfl rfl
      · replace h := (if_pos c15).symm.trans h
        refine v_bipush (v := 22) X dX8_markOf_46 (by decide) ?_
        refine v_goto X 53 dX8_markOf_48 (by decide) ?_
        obtain ⟨g28, q27, h⟩ := bd1_some h
        refine v_callVV (As := [.int (22 : Int32)]) (rest := []) X (c_X8_began l D ad cy X.2.2.2.2.2.2.2.2.1 N (22 : Int32) g2 g28  q27) mw_X8_began ml_X8_282 (by decide) (by decide +kernel) (by decide) rfl rfl rfl rfl (Nat.le_of_ble_eq_true rfl) dX8_markOf_53 ?_
        refine v_aloadn X dX8_markOf_56 rfl rfl ?_
        refine v_bipush (v := 21) X dX8_markOf_57 (by decide) ?_
        obtain ⟨g30, q29, h⟩ := bd1_some h
        refine v_callVV (As := [.int (21 : Int32)]) (rest := []) X (c_X8_began l D ad cy X.2.2.2.2.2.2.2.2.1 N (21 : Int32) g28 g30  q29) mw_X8_began ml_X8_282 (by decide) (by decide +kernel) (by decide) rfl rfl rfl rfl (Nat.le_of_ble_eq_true rfl) dX8_markOf_59 ?_
        refine v_aloadn X dX8_markOf_62 rfl rfl ?_
        refine v_bipush (v := 20) X dX8_markOf_63 (by decide) ?_
        obtain ⟨g32, q31, h⟩ := bd1_some h
        refine v_callVV (As := [.int (20 : Int32)]) (rest := []) X (c_X8_began l D ad cy X.2.2.2.2.2.2.2.2.1 N (20 : Int32) g30 g32  q31) mw_X8_began ml_X8_282 (by decide) (by decide +kernel) (by decide) rfl rfl rfl rfl (Nat.le_of_ble_eq_true rfl) dX8_markOf_65 ?_
        refine v_iloadn X dX8_markOf_68 rfl rfl ?_
        refine v_aloadn X dX8_markOf_69 rfl rfl ?_
        refine gf_X8_19 X dX8_markOf_70 ?_
        refine v_iloadn X dX8_markOf_73 rfl rfl ?_
        refine v_iconst (v := 4) X dX8_markOf_74 (by decide) ?_
        obtain ⟨r35, g34, q33, h⟩ := bd2_some h
        refine v_callSI (As := [.ref (ad (9, 11, 5)), .int x1, .int (4 : Int32)]) (rest := [.int x1]) X (c_X8_of l D ad cy X.2.2.2.2.2.2.2.2.1 N 5 x1 (4 : Int32) g32 r35 g34 (by decide +kernel) q33) mw_X8_of ml_X8_155 (by decide) rfl rfl (Nat.le_of_ble_eq_true rfl) dX8_markOf_75 ?_
        refine v_iadd X dX8_markOf_78 ?_
        refine v_istoren (lc' := [some (.ref (ad (8, 0, 0))), some (.int x1), some (.int r3), some (.int (x1 + r35))]) X dX8_markOf_79 rfl (by decide) rfl rfl ?_
        refine v_iloadn X dX8_markOf_80 rfl rfl ?_
        refine v_iconst (v := 1) X dX8_markOf_81 (by decide) ?_
        refine v_icmp_ne X 89 dX8_markOf_82 (by decide) (fun c36 => ?_) (fun c36 => ?_)
        · replace h := (if_neg c36).symm.trans h
          refine v_iloadn X dX8_markOf_89 rfl rfl ?_
          refine v_iconst (v := 3) X dX8_markOf_90 (by decide) ?_
          refine v_icmp_ne X 102 dX8_markOf_91 (by decide) (fun c37 => ?_) (fun c37 => ?_)
          · replace h := (if_neg c37).symm.trans h
            refine v_iconst (v := 2) X dX8_markOf_102 (by decide) ?_
            refine v_iloadn X dX8_markOf_103 rfl rfl ?_
            refine v_imul X dX8_markOf_104 ?_
            cases h
            exact v_iret X dX8_markOf_105 rfl rfl
          · replace h := (if_pos c37).symm.trans h
            refine v_iloadn X dX8_markOf_94 rfl rfl ?_
            refine v_sipush (v := 1000) X dX8_markOf_95 (by decide) ?_
            refine v_isub X dX8_markOf_98 ?_
            refine v_goto X 105 dX8_markOf_99 (by decide) ?_
            cases h
            exact v_iret X dX8_markOf_105 rfl rfl
        · replace h := (if_pos c36).symm.trans h
          refine v_iloadn X dX8_markOf_85 rfl rfl ?_
          refine v_goto X 105 dX8_markOf_86 (by decide) ?_
          cases h
          exact v_iret X dX8_markOf_105 rfl rfl
  · replace h := (if_neg c4).symm.trans h
    refine v_aloadn X dX8_markOf_15 rfl rfl ?_
    refine v_bipush (v := 23) X dX8_markOf_16 (by decide) ?_
    obtain ⟨g39, q38, h⟩ := bd1_some h
    refine v_callVV (As := [.int (23 : Int32)]) (rest := []) X (c_X8_began l D ad cy X.2.2.2.2.2.2.2.2.1 N (23 : Int32) g2 g39  q38) mw_X8_began ml_X8_282 (by decide) (by decide +kernel) (by decide) rfl rfl rfl rfl (Nat.le_of_ble_eq_true rfl) dX8_markOf_18 ?_
    refine v_aloadn X dX8_markOf_21 rfl rfl ?_
    refine v_bipush (v := 20) X dX8_markOf_22 (by decide) ?_
    obtain ⟨g41, q40, h⟩ := bd1_some h
    refine v_callVV (As := [.int (20 : Int32)]) (rest := []) X (c_X8_began l D ad cy X.2.2.2.2.2.2.2.2.1 N (20 : Int32) g39 g41  q40) mw_X8_began ml_X8_282 (by decide) (by decide +kernel) (by decide) rfl rfl rfl rfl (Nat.le_of_ble_eq_true rfl) dX8_markOf_24 ?_
    refine v_iloadn X dX8_markOf_27 rfl rfl ?_
    refine v_aloadn X dX8_markOf_28 rfl rfl ?_
    refine v_iloadn X dX8_markOf_29 rfl rfl ?_
    obtain ⟨r44, g43, q42, h⟩ := bd2_some h
    refine v_callVI (As := [.int x1]) (rest := [.int x1]) X (c_X8_leafSize l D ad cy X.2.2.2.2.2.2.2.2.1 N x1 g41 r44 g43  q42) mw_X8_leafSize ml_X8_288 (by decide) (by decide +kernel) (by decide) rfl rfl rfl rfl (Nat.le_of_ble_eq_true rfl) dX8_markOf_30 ?_
    refine v_isub X dX8_markOf_33 ?_
    cases h
    exact v_iret X dX8_markOf_34 rfl rfl
def F_X8_sizeOf (N : Nat) (x1 : Int32) (g : GS) : Option (Int32 × GS) := bd2 (F_X8_of N 5 x1 (0 : Int32) g) (fun r3 g2 => if r3 < (4 : Int32) then if r3 = (2 : Int32) then bd1 (F_X8_began N (12 : Int32) g2) (fun g16 => bd1 (F_X8_began N (11 : Int32) g16) (fun g18 => bd2 (F_X8_plainSize N x1 g18) (fun r21 g20 => bd2 (F_X8_markOf N x1 g20) (fun r24 g23 => if r3 = (2 : Int32) then some ((-(r21 + r24)), g23) else some ((r21 + r24), g23))))) else bd1 (F_X8_began N (11 : Int32) g2) (fun g7 => bd2 (F_X8_plainSize N x1 g7) (fun r10 g9 => bd2 (F_X8_markOf N x1 g9) (fun r13 g12 => if r3 = (2 : Int32) then some ((-(r10 + r13)), g12) else some ((r10 + r13), g12)))) else bd2 (F_X8_leafSize N x1 g2) (fun r28 g27 => some (r28, g27)))
set_option maxRecDepth 100000 in
set_option maxHeartbeats 4000000 in
theorem c_X8_sizeOf (l : Launch) (D : va_G) (ad : Ky → Nat) (cy : Nat → ClassId) (hI : Inj ad) (N : Nat) (x1 : Int32) (g : GS) (r : Int32) (gq : GS) (h : F_X8_sizeOf N x1 g = some (r, gq)) : CtI l D ad cy yX8_sizeOf cX8_sizeOf 4 (some .int) 4 [.ref (ad (8, 0, 0)), .int x1] g r gq := by
  refine CtI.of 2 hI (by decide +kernel) rfl (Nat.le_of_ble_eq_true rfl) (fun p e s m args below meth c X => ?_)
  unfold F_X8_sizeOf at h
  show Vy _ _ _ _ _ _ _ _ _ _ _ _ _ _ _ 0 [some (.ref (ad (8, 0, 0))), some (.int x1), none, none] [] g
  refine v_aloadn X dX8_sizeOf_0 rfl rfl ?_
  refine gf_X8_19 X dX8_sizeOf_1 ?_
  refine v_iloadn X dX8_sizeOf_4 rfl rfl ?_
  refine v_iconst (v := 0) X dX8_sizeOf_5 (by decide) ?_
  obtain ⟨r3, g2, q1, h⟩ := bd2_some h
  refine v_callSI (As := [.ref (ad (9, 11, 5)), .int x1, .int (0 : Int32)]) (rest := []) X (c_X8_of l D ad cy X.2.2.2.2.2.2.2.2.1 N 5 x1 (0 : Int32) g r3 g2 (by decide +kernel) q1) mw_X8_of ml_X8_155 (by decide) rfl rfl (Nat.le_of_ble_eq_true rfl) dX8_sizeOf_6 ?_
  refine v_istoren (lc' := [some (.ref (ad (8, 0, 0))), some (.int x1), some (.int r3), none]) X dX8_sizeOf_9 rfl (by decide) rfl rfl ?_
  refine v_iloadn X dX8_sizeOf_10 rfl rfl ?_
  refine v_iconst (v := 4) X dX8_sizeOf_11 (by decide) ?_
  refine v_icmp_lt X 21 dX8_sizeOf_12 (by decide) (fun c4 => ?_) (fun c4 => ?_)
  · replace h := (if_pos c4).symm.trans h
    refine v_iloadn X dX8_sizeOf_21 rfl rfl ?_
    refine v_iconst (v := 2) X dX8_sizeOf_22 (by decide) ?_
    refine v_icmp_ne X 32 dX8_sizeOf_23 (by decide) (fun c5 => ?_) (fun c5 => ?_)
    · replace h := (if_neg c5).symm.trans h
      refine v_aloadn X dX8_sizeOf_32 rfl rfl ?_
      refine v_bipush (v := 11) X dX8_sizeOf_33 (by decide) ?_
      obtain ⟨g7, q6, h⟩ := bd1_some h
      refine v_callVV (As := [.int (11 : Int32)]) (rest := []) X (c_X8_began l D ad cy X.2.2.2.2.2.2.2.2.1 N (11 : Int32) g2 g7  q6) mw_X8_began ml_X8_282 (by decide) (by decide +kernel) (by decide) rfl rfl rfl rfl (Nat.le_of_ble_eq_true rfl) dX8_sizeOf_35 ?_
      refine v_aloadn X dX8_sizeOf_38 rfl rfl ?_
      refine v_iloadn X dX8_sizeOf_39 rfl rfl ?_
      obtain ⟨r10, g9, q8, h⟩ := bd2_some h
      refine v_callVI (As := [.int x1]) (rest := []) X (c_X8_plainSize l D ad cy X.2.2.2.2.2.2.2.2.1 N x1 g7 r10 g9  q8) mw_X8_plainSize ml_X8_285 (by decide) (by decide +kernel) (by decide) rfl rfl rfl rfl (Nat.le_of_ble_eq_true rfl) dX8_sizeOf_40 ?_
      refine v_istoren (lc' := [some (.ref (ad (8, 0, 0))), some (.int x1), some (.int r3), some (.int r10)]) X dX8_sizeOf_43 rfl (by decide) rfl rfl ?_
      refine v_iloadn X dX8_sizeOf_44 rfl rfl ?_
      refine v_aloadn X dX8_sizeOf_45 rfl rfl ?_
      refine v_iloadn X dX8_sizeOf_46 rfl rfl ?_
      obtain ⟨r13, g12, q11, h⟩ := bd2_some h
      refine v_callVI (As := [.int x1]) (rest := [.int r10]) X (c_X8_markOf l D ad cy X.2.2.2.2.2.2.2.2.1 N x1 g9 r13 g12  q11) mw_X8_markOf ml_X8_291 (by decide) (by decide +kernel) (by decide) rfl rfl rfl rfl (Nat.le_of_ble_eq_true rfl) dX8_sizeOf_47 ?_
      refine v_iadd X dX8_sizeOf_50 ?_
      refine v_istoren (lc' := [some (.ref (ad (8, 0, 0))), some (.int x1), some (.int r3), some (.int (r10 + r13))]) X dX8_sizeOf_51 rfl (by decide) rfl rfl ?_
      refine v_iloadn X dX8_sizeOf_52 rfl rfl ?_
      refine v_iconst (v := 2) X dX8_sizeOf_53 (by decide) ?_
      refine v_icmp_ne X 62 dX8_sizeOf_54 (by decide) (fun c14 => ?_) (fun c14 => ?_)
      · replace h := (if_neg c14).symm.trans h
        refine v_iloadn X dX8_sizeOf_62 rfl rfl ?_
        cases h
        exact v_iret X dX8_sizeOf_63 rfl rfl
      · replace h := (if_pos c14).symm.trans h
        refine v_iloadn X dX8_sizeOf_57 rfl rfl ?_
        refine v_ineg X dX8_sizeOf_58 ?_
        refine v_goto X 63 dX8_sizeOf_59 (by decide) ?_
        cases h
        exact v_iret X dX8_sizeOf_63 rfl rfl
    · replace h := (if_pos c5).symm.trans h
      refine v_aloadn X dX8_sizeOf_26 rfl rfl ?_
      refine v_bipush (v := 12) X dX8_sizeOf_27 (by decide) ?_
      obtain ⟨g16, q15, h⟩ := bd1_some h
      refine v_callVV (As := [.int (12 : Int32)]) (rest := []) X (c_X8_began l D ad cy X.2.2.2.2.2.2.2.2.1 N (12 : Int32) g2 g16  q15) mw_X8_began ml_X8_282 (by decide) (by decide +kernel) (by decide) rfl rfl rfl rfl (Nat.le_of_ble_eq_true rfl) dX8_sizeOf_29 ?_
      refine v_aloadn X dX8_sizeOf_32 rfl rfl ?_
      refine v_bipush (v := 11) X dX8_sizeOf_33 (by decide) ?_
      obtain ⟨g18, q17, h⟩ := bd1_some h
      refine v_callVV (As := [.int (11 : Int32)]) (rest := []) X (c_X8_began l D ad cy X.2.2.2.2.2.2.2.2.1 N (11 : Int32) g16 g18  q17) mw_X8_began ml_X8_282 (by decide) (by decide +kernel) (by decide) rfl rfl rfl rfl (Nat.le_of_ble_eq_true rfl) dX8_sizeOf_35 ?_
      refine v_aloadn X dX8_sizeOf_38 rfl rfl ?_
      refine v_iloadn X dX8_sizeOf_39 rfl rfl ?_
      obtain ⟨r21, g20, q19, h⟩ := bd2_some h
      refine v_callVI (As := [.int x1]) (rest := []) X (c_X8_plainSize l D ad cy X.2.2.2.2.2.2.2.2.1 N x1 g18 r21 g20  q19) mw_X8_plainSize ml_X8_285 (by decide) (by decide +kernel) (by decide) rfl rfl rfl rfl (Nat.le_of_ble_eq_true rfl) dX8_sizeOf_40 ?_
      refine v_istoren (lc' := [some (.ref (ad (8, 0, 0))), some (.int x1), some (.int r3), some (.int r21)]) X dX8_sizeOf_43 rfl (by decide) rfl rfl ?_
      refine v_iloadn X dX8_sizeOf_44 rfl rfl ?_
      refine v_aloadn X dX8_sizeOf_45 rfl rfl ?_
      refine v_iloadn X dX8_sizeOf_46 rfl rfl ?_
      obtain ⟨r24, g23, q22, h⟩ := bd2_some h
      refine v_callVI (As := [.int x1]) (rest := [.int r21]) X (c_X8_markOf l D ad cy X.2.2.2.2.2.2.2.2.1 N x1 g20 r24 g23  q22) mw_X8_markOf ml_X8_291 (by decide) (by decide +kernel) (by decide) rfl rfl rfl rfl (Nat.le_of_ble_eq_true rfl) dX8_sizeOf_47 ?_
      refine v_iadd X dX8_sizeOf_50 ?_
      refine v_istoren (lc' := [some (.ref (ad (8, 0, 0))), some (.int x1), some (.int r3), some (.int (r21 + r24))]) X dX8_sizeOf_51 rfl (by decide) rfl rfl ?_
      refine v_iloadn X dX8_sizeOf_52 rfl rfl ?_
      refine v_iconst (v := 2) X dX8_sizeOf_53 (by decide) ?_
      refine v_icmp_ne X 62 dX8_sizeOf_54 (by decide) (fun c25 => ?_) (fun c25 => ?_)
      · replace h := (if_neg c25).symm.trans h
        refine v_iloadn X dX8_sizeOf_62 rfl rfl ?_
        cases h
        exact v_iret X dX8_sizeOf_63 rfl rfl
      · replace h := (if_pos c25).symm.trans h
        refine v_iloadn X dX8_sizeOf_57 rfl rfl ?_
        refine v_ineg X dX8_sizeOf_58 ?_
        refine v_goto X 63 dX8_sizeOf_59 (by decide) ?_
        cases h
        exact v_iret X dX8_sizeOf_63 rfl rfl
  · replace h := (if_neg c4).symm.trans h
    refine v_aloadn X dX8_sizeOf_15 rfl rfl ?_
    refine v_iloadn X dX8_sizeOf_16 rfl rfl ?_
    obtain ⟨r28, g27, q26, h⟩ := bd2_some h
    refine v_callVI (As := [.int x1]) (rest := []) X (c_X8_leafSize l D ad cy X.2.2.2.2.2.2.2.2.1 N x1 g2 r28 g27  q26) mw_X8_leafSize ml_X8_288 (by decide) (by decide +kernel) (by decide) rfl rfl rfl rfl (Nat.le_of_ble_eq_true rfl) dX8_sizeOf_17 ?_
    cases h
    exact v_iret X dX8_sizeOf_20 rfl rfl
def F_X8_ask (N : Nat) (x1 : Int32) (x2 : Int32) (g : GS) : Option (Int32 × GS) := bd2 (F_X8_isPaper N x1 (g3 g 10 0 0 (0 : Int32))) (fun r3 g2 => if r3 = 0 then some ((-1000001 : Int32), g2) else bd2 (F_X8_in N (x2.toInt64) (0 : Int64) (1 : Int64) g2) (fun r7 g6 => if r7 = 0 then some ((-1000001 : Int32), g6) else if x2 = 0 then bd2 (F_X8_sizeOf N x1 (g3 g6 10 0 24 (0 : Int32))) (fun r15 g14 => some (r15, g14)) else bd2 (F_X8_markOf N x1 (g3 g6 10 0 24 (0 : Int32))) (fun r12 g11 => some (r12, g11))))
set_option maxRecDepth 100000 in
set_option maxHeartbeats 4000000 in
theorem c_X8_ask (l : Launch) (D : va_G) (ad : Ky → Nat) (cy : Nat → ClassId) (hI : Inj ad) (N : Nat) (x1 : Int32) (x2 : Int32) (g : GS) (r : Int32) (gq : GS) (h : F_X8_ask N x1 x2 g = some (r, gq)) : CtI l D ad cy yX8_ask cX8_ask 3 (some .int) 5 [.ref (ad (8, 0, 0)), .int x1, .int x2] g r gq := by
  refine CtI.of 0 hI (by decide +kernel) rfl (Nat.le_of_ble_eq_true rfl) (fun p e s m args below meth c X => ?_)
  unfold F_X8_ask at h
  show Vy _ _ _ _ _ _ _ _ _ _ _ _ _ _ _ 0 [some (.ref (ad (8, 0, 0))), some (.int x1), some (.int x2)] [] g
  refine v_aloadn X dX8_ask_0 rfl rfl ?_
  refine v_iconst (v := 0) X dX8_ask_1 (by decide) ?_
  refine pf_X8_50 X dX8_ask_2 ?_
  refine v_aloadn X dX8_ask_5 rfl rfl ?_
  refine v_iloadn X dX8_ask_6 rfl rfl ?_
  obtain ⟨r3, g2, q1, h⟩ := bd2_some h
  refine v_callVI (As := [.int x1]) (rest := []) X (c_X8_isPaper l D ad cy X.2.2.2.2.2.2.2.2.1 N x1 (g3 g 10 0 0 (0 : Int32)) r3 g2  q1) mw_X8_isPaper ml_X8_208 (by decide) (by decide +kernel) (by decide) rfl rfl rfl rfl (Nat.le_of_ble_eq_true rfl) dX8_ask_7 ?_
  refine v_if_eq X 23 dX8_ask_10 (by decide) (fun c4 => ?_) (fun c4 => ?_)
  · replace h := (if_pos c4).symm.trans h
    refine v_ldc X kc_X8_70 dX8_ask_23 ?_
    cases h
    exact v_iret X dX8_ask_25 rfl rfl
  · replace h := (if_neg c4).symm.trans h
    refine v_iloadn X dX8_ask_13 rfl rfl ?_
    refine v_i2l X dX8_ask_14 ?_
    refine v_lconst (v := 0) X dX8_ask_15 (by decide) ?_
    refine v_lconst (v := 1) X dX8_ask_16 (by decide) ?_
    obtain ⟨r7, g6, q5, h⟩ := bd2_some h
    refine v_callSI (As := [.long (x2.toInt64), .long (0 : Int64), .long (1 : Int64)]) (rest := []) X (c_X8_in l D ad cy X.2.2.2.2.2.2.2.2.1 N (x2.toInt64) (0 : Int64) (1 : Int64) g2 r7 g6  q5) mw_X8_in ml_X8_60 (by decide) rfl rfl (Nat.le_of_ble_eq_true rfl) dX8_ask_17 ?_
    refine v_if_ne X 26 dX8_ask_20 (by decide) (fun c8 => ?_) (fun c8 => ?_)
    · replace h := (if_neg c8).symm.trans h
      refine v_aloadn X dX8_ask_26 rfl rfl ?_
      refine v_iconst (v := 0) X dX8_ask_27 (by decide) ?_
      refine pf_X8_279 X dX8_ask_28 ?_
      refine v_iloadn X dX8_ask_31 rfl rfl ?_
      refine v_if_ne X 43 dX8_ask_32 (by decide) (fun c9 => ?_) (fun c9 => ?_)
      · replace h := (if_neg c9).symm.trans h
        refine v_aloadn X dX8_ask_43 rfl rfl ?_
        refine v_iloadn X dX8_ask_44 rfl rfl ?_
        obtain ⟨r12, g11, q10, h⟩ := bd2_some h
        refine v_callVI (As := [.int x1]) (rest := []) X (c_X8_markOf l D ad cy X.2.2.2.2.2.2.2.2.1 N x1 (g3 g6 10 0 24 (0 : Int32)) r12 g11  q10) mw_X8_markOf ml_X8_291 (by decide) (by decide +kernel) (by decide) rfl rfl rfl rfl (Nat.le_of_ble_eq_true rfl) dX8_ask_45 ?_
        cases h
        exact v_iret X dX8_ask_48 rfl rfl
      · replace h := (if_pos c9).symm.trans h
        refine v_aloadn X dX8_ask_35 rfl rfl ?_
        refine v_iloadn X dX8_ask_36 rfl rfl ?_
        obtain ⟨r15, g14, q13, h⟩ := bd2_some h
        refine v_callVI (As := [.int x1]) (rest := []) X (c_X8_sizeOf l D ad cy X.2.2.2.2.2.2.2.2.1 N x1 (g3 g6 10 0 24 (0 : Int32)) r15 g14  q13) mw_X8_sizeOf ml_X8_294 (by decide) (by decide +kernel) (by decide) rfl rfl rfl rfl (Nat.le_of_ble_eq_true rfl) dX8_ask_37 ?_
        refine v_goto X 48 dX8_ask_40 (by decide) ?_
        cases h
        exact v_iret X dX8_ask_48 rfl rfl
    · replace h := (if_pos c8).symm.trans h
      refine v_ldc X kc_X8_70 dX8_ask_23 ?_
      cases h
      exact v_iret X dX8_ask_25 rfl rfl
def F_X8_bad (N : Nat) (x1 : Int32) (g : GS) : Option GS := if (g 10 0 17) = 0 then some (g3 (g3 g 10 0 17 x1) 10 0 18 ((g3 g 10 0 17 x1) 10 0 14)) else some g
set_option maxRecDepth 100000 in
set_option maxHeartbeats 4000000 in
theorem c_X8_bad (l : Launch) (D : va_G) (ad : Ky → Nat) (cy : Nat → ClassId) (hI : Inj ad) (N : Nat) (x1 : Int32) (g : GS) (gq : GS) (h : F_X8_bad N x1 g = some gq) : CtV l D ad cy yX8_bad cX8_bad 2 0 [.ref (ad (8, 0, 0)), .int x1] g gq := by
  refine CtV.of 0 hI (by decide +kernel) rfl (Nat.le_of_ble_eq_true rfl) (fun p e s m args below meth c X => ?_)
  unfold F_X8_bad at h
  show Vy _ _ _ _ _ _ _ _ _ _ _ _ _ _ _ 0 [some (.ref (ad (8, 0, 0))), some (.int x1)] [] g
  refine v_aloadn X dX8_bad_0 rfl rfl ?_
  refine gf_X8_81 X dX8_bad_1 ?_
  refine v_if_ne X 20 dX8_bad_4 (by decide) (fun c1 => ?_) (fun c1 => ?_)
  · replace h := (if_neg c1).symm.trans h
    cases h
    exact v_vret X dX8_bad_20 rfl
  · replace h := (if_pos c1).symm.trans h
    refine v_aloadn X dX8_bad_7 rfl rfl ?_
    refine v_iloadn X dX8_bad_8 rfl rfl ?_
    refine pf_X8_81 X dX8_bad_9 ?_
    refine v_aloadn X dX8_bad_12 rfl rfl ?_
    refine v_aloadn X dX8_bad_13 rfl rfl ?_
    refine gf_X8_84 X dX8_bad_14 ?_
    refine pf_X8_87 X dX8_bad_17 ?_
    cases h
    exact v_vret X dX8_bad_20 rfl
def L_X8_nextToken_165 (N : Nat) : Nat → GS → Option (GS)
  | 0, _ => none
  | n + 1, g => if (g 10 0 12) ≤ (g 10 0 13) then some (g) else bd1 (ix (g 10 0 13) 100) (fun j15 => bd2 (F_X8_in N ((g 11 11 j15).toInt64) (48 : Int64) (57 : Int64) g) (fun r19 g18 => if r19 = 0 then some (g18) else if (2 : Int32) ≤ ((g18 10 0 13) - (g18 10 0 14)) then L_X8_nextToken_165 N n  (g3 (g3 g18 10 0 16 (g18 10 0 16)) 10 0 13 (((g3 g18 10 0 16 (g18 10 0 16)) 10 0 13) + (1 : Int32))) else bd1 (ix (g18 10 0 13) 100) (fun j22 => L_X8_nextToken_165 N n  (g3 (g3 g18 10 0 16 ((((10 : Int32) * (g18 10 0 16)) + (g18 11 11 j22)) - (48 : Int32))) 10 0 13 (((g3 g18 10 0 16 ((((10 : Int32) * (g18 10 0 16)) + (g18 11 11 j22)) - (48 : Int32))) 10 0 13) + (1 : Int32))))))
def F_X8_nextToken (N : Nat) (g : GS) : Option GS := if ((g3 g 10 0 14 (g 10 0 13)) 10 0 12) ≤ ((g3 g 10 0 14 (g 10 0 13)) 10 0 13) then if ((g3 (g3 g 10 0 14 (g 10 0 13)) 10 0 16 (-1000000 : Int32)) 10 0 13) = ((g3 (g3 g 10 0 14 (g 10 0 13)) 10 0 16 (-1000000 : Int32)) 10 0 12) then if ((g3 (g3 (g3 g 10 0 14 (g 10 0 13)) 10 0 16 (-1000000 : Int32)) 10 0 15 (1 : Int32)) 10 0 12) ≤ ((g3 (g3 (g3 g 10 0 14 (g 10 0 13)) 10 0 16 (-1000000 : Int32)) 10 0 15 (1 : Int32)) 10 0 13) then if ((g3 (g3 (g3 (g3 g 10 0 14 (g 10 0 13)) 10 0 16 (-1000000 : Int32)) 10 0 15 (1 : Int32)) 10 0 13 (((g3 (g3 (g3 g 10 0 14 (g 10 0 13)) 10 0 16 (-1000000 : Int32)) 10 0 15 (1 : Int32)) 10 0 13) + (0 : Int32))) 10 0 15) = (3 : Int32) then bd1 (L_X8_nextToken_165 N N  (g3 (g3 (g3 (g3 (g3 g 10 0 14 (g 10 0 13)) 10 0 16 (-1000000 : Int32)) 10 0 15 (1 : Int32)) 10 0 13 (((g3 (g3 (g3 g 10 0 14 (g 10 0 13)) 10 0 16 (-1000000 : Int32)) 10 0 15 (1 : Int32)) 10 0 13) + (0 : Int32))) 10 0 16 (((g3 (g3 (g3 (g3 g 10 0 14 (g 10 0 13)) 10 0 16 (-1000000 : Int32)) 10 0 15 (1 : Int32)) 10 0 13 (((g3 (g3 (g3 g 10 0 14 (g 10 0 13)) 10 0 16 (-1000000 : Int32)) 10 0 15 (1 : Int32)) 10 0 13) + (0 : Int32))) 10 0 16) - (48 : Int32)))) (fun g70 => if ((g70 10 0 13) - (g70 10 0 14)) ≤ (2 : Int32) then some (g3 g70 10 0 15 (3 : Int32)) else some (g3 g70 10 0 15 (0 : Int32))) else some (g3 (g3 (g3 (g3 g 10 0 14 (g 10 0 13)) 10 0 16 (-1000000 : Int32)) 10 0 15 (1 : Int32)) 10 0 13 (((g3 (g3 (g3 g 10 0 14 (g 10 0 13)) 10 0 16 (-1000000 : Int32)) 10 0 15 (1 : Int32)) 10 0 13) + (0 : Int32))) else if ((g3 (g3 (g3 (g3 g 10 0 14 (g 10 0 13)) 10 0 16 (-1000000 : Int32)) 10 0 15 (1 : Int32)) 10 0 13 (((g3 (g3 (g3 g 10 0 14 (g 10 0 13)) 10 0 16 (-1000000 : Int32)) 10 0 15 (1 : Int32)) 10 0 13) + (1 : Int32))) 10 0 15) = (3 : Int32) then bd1 (L_X8_nextToken_165 N N  (g3 (g3 (g3 (g3 (g3 g 10 0 14 (g 10 0 13)) 10 0 16 (-1000000 : Int32)) 10 0 15 (1 : Int32)) 10 0 13 (((g3 (g3 (g3 g 10 0 14 (g 10 0 13)) 10 0 16 (-1000000 : Int32)) 10 0 15 (1 : Int32)) 10 0 13) + (1 : Int32))) 10 0 16 (((g3 (g3 (g3 (g3 g 10 0 14 (g 10 0 13)) 10 0 16 (-1000000 : Int32)) 10 0 15 (1 : Int32)) 10 0 13 (((g3 (g3 (g3 g 10 0 14 (g 10 0 13)) 10 0 16 (-1000000 : Int32)) 10 0 15 (1 : Int32)) 10 0 13) + (1 : Int32))) 10 0 16) - (48 : Int32)))) (fun g74 => if ((g74 10 0 13) - (g74 10 0 14)) ≤ (2 : Int32) then some (g3 g74 10 0 15 (3 : Int32)) else some (g3 g74 10 0 15 (0 : Int32))) else some (g3 (g3 (g3 (g3 g 10 0 14 (g 10 0 13)) 10 0 16 (-1000000 : Int32)) 10 0 15 (1 : Int32)) 10 0 13 (((g3 (g3 (g3 g 10 0 14 (g 10 0 13)) 10 0 16 (-1000000 : Int32)) 10 0 15 (1 : Int32)) 10 0 13) + (1 : Int32))) else bd2 (F_X8_in N (((g3 (g3 g 10 0 14 (g 10 0 13)) 10 0 16 (-1000000 : Int32)) 10 0 16).toInt64) (97 : Int64) (122 : Int64) (g3 (g3 g 10 0 14 (g 10 0 13)) 10 0 16 (-1000000 : Int32))) (fun r5 g4 => if r5 = 0 then bd2 (F_X8_in N ((g4 10 0 16).toInt64) (48 : Int64) (57 : Int64) g4) (fun r9 g8 => if r9 = 0 then if (g8 10 0 16) = (44 : Int32) then if ((g3 g8 10 0 15 (4 : Int32)) 10 0 12) ≤ ((g3 g8 10 0 15 (4 : Int32)) 10 0 13) then if ((g3 (g3 g8 10 0 15 (4 : Int32)) 10 0 13 (((g3 g8 10 0 15 (4 : Int32)) 10 0 13) + (0 : Int32))) 10 0 15) = (3 : Int32) then bd1 (L_X8_nextToken_165 N N  (g3 (g3 (g3 g8 10 0 15 (4 : Int32)) 10 0 13 (((g3 g8 10 0 15 (4 : Int32)) 10 0 13) + (0 : Int32))) 10 0 16 (((g3 (g3 g8 10 0 15 (4 : Int32)) 10 0 13 (((g3 g8 10 0 15 (4 : Int32)) 10 0 13) + (0 : Int32))) 10 0 16) - (48 : Int32)))) (fun g24 => if ((g24 10 0 13) - (g24 10 0 14)) ≤ (2 : Int32) then some (g3 g24 10 0 15 (3 : Int32)) else some (g3 g24 10 0 15 (0 : Int32))) else some (g3 (g3 g8 10 0 15 (4 : Int32)) 10 0 13 (((g3 g8 10 0 15 (4 : Int32)) 10 0 13) + (0 : Int32))) else if ((g3 (g3 g8 10 0 15 (4 : Int32)) 10 0 13 (((g3 g8 10 0 15 (4 : Int32)) 10 0 13) + (1 : Int32))) 10 0 15) = (3 : Int32) then bd1 (L_X8_nextToken_165 N N  (g3 (g3 (g3 g8 10 0 15 (4 : Int32)) 10 0 13 (((g3 g8 10 0 15 (4 : Int32)) 10 0 13) + (1 : Int32))) 10 0 16 (((g3 (g3 g8 10 0 15 (4 : Int32)) 10 0 13 (((g3 g8 10 0 15 (4 : Int32)) 10 0 13) + (1 : Int32))) 10 0 16) - (48 : Int32)))) (fun g28 => if ((g28 10 0 13) - (g28 10 0 14)) ≤ (2 : Int32) then some (g3 g28 10 0 15 (3 : Int32)) else some (g3 g28 10 0 15 (0 : Int32))) else some (g3 (g3 g8 10 0 15 (4 : Int32)) 10 0 13 (((g3 g8 10 0 15 (4 : Int32)) 10 0 13) + (1 : Int32))) else if (g8 10 0 16) = (59 : Int32) then if ((g3 g8 10 0 15 (4 : Int32)) 10 0 12) ≤ ((g3 g8 10 0 15 (4 : Int32)) 10 0 13) then if ((g3 (g3 g8 10 0 15 (4 : Int32)) 10 0 13 (((g3 g8 10 0 15 (4 : Int32)) 10 0 13) + (0 : Int32))) 10 0 15) = (3 : Int32) then bd1 (L_X8_nextToken_165 N N  (g3 (g3 (g3 g8 10 0 15 (4 : Int32)) 10 0 13 (((g3 g8 10 0 15 (4 : Int32)) 10 0 13) + (0 : Int32))) 10 0 16 (((g3 (g3 g8 10 0 15 (4 : Int32)) 10 0 13 (((g3 g8 10 0 15 (4 : Int32)) 10 0 13) + (0 : Int32))) 10 0 16) - (48 : Int32)))) (fun g43 => if ((g43 10 0 13) - (g43 10 0 14)) ≤ (2 : Int32) then some (g3 g43 10 0 15 (3 : Int32)) else some (g3 g43 10 0 15 (0 : Int32))) else some (g3 (g3 g8 10 0 15 (4 : Int32)) 10 0 13 (((g3 g8 10 0 15 (4 : Int32)) 10 0 13) + (0 : Int32))) else if ((g3 (g3 g8 10 0 15 (4 : Int32)) 10 0 13 (((g3 g8 10 0 15 (4 : Int32)) 10 0 13) + (1 : Int32))) 10 0 15) = (3 : Int32) then bd1 (L_X8_nextToken_165 N N  (g3 (g3 (g3 g8 10 0 15 (4 : Int32)) 10 0 13 (((g3 g8 10 0 15 (4 : Int32)) 10 0 13) + (1 : Int32))) 10 0 16 (((g3 (g3 g8 10 0 15 (4 : Int32)) 10 0 13 (((g3 g8 10 0 15 (4 : Int32)) 10 0 13) + (1 : Int32))) 10 0 16) - (48 : Int32)))) (fun g47 => if ((g47 10 0 13) - (g47 10 0 14)) ≤ (2 : Int32) then some (g3 g47 10 0 15 (3 : Int32)) else some (g3 g47 10 0 15 (0 : Int32))) else some (g3 (g3 g8 10 0 15 (4 : Int32)) 10 0 13 (((g3 g8 10 0 15 (4 : Int32)) 10 0 13) + (1 : Int32))) else if ((g3 g8 10 0 15 (0 : Int32)) 10 0 12) ≤ ((g3 g8 10 0 15 (0 : Int32)) 10 0 13) then if ((g3 (g3 g8 10 0 15 (0 : Int32)) 10 0 13 (((g3 g8 10 0 15 (0 : Int32)) 10 0 13) + (0 : Int32))) 10 0 15) = (3 : Int32) then bd1 (L_X8_nextToken_165 N N  (g3 (g3 (g3 g8 10 0 15 (0 : Int32)) 10 0 13 (((g3 g8 10 0 15 (0 : Int32)) 10 0 13) + (0 : Int32))) 10 0 16 (((g3 (g3 g8 10 0 15 (0 : Int32)) 10 0 13 (((g3 g8 10 0 15 (0 : Int32)) 10 0 13) + (0 : Int32))) 10 0 16) - (48 : Int32)))) (fun g34 => if ((g34 10 0 13) - (g34 10 0 14)) ≤ (2 : Int32) then some (g3 g34 10 0 15 (3 : Int32)) else some (g3 g34 10 0 15 (0 : Int32))) else some (g3 (g3 g8 10 0 15 (0 : Int32)) 10 0 13 (((g3 g8 10 0 15 (0 : Int32)) 10 0 13) + (0 : Int32))) else if ((g3 (g3 g8 10 0 15 (0 : Int32)) 10 0 13 (((g3 g8 10 0 15 (0 : Int32)) 10 0 13) + (1 : Int32))) 10 0 15) = (3 : Int32) then bd1 (L_X8_nextToken_165 N N  (g3 (g3 (g3 g8 10 0 15 (0 : Int32)) 10 0 13 (((g3 g8 10 0 15 (0 : Int32)) 10 0 13) + (1 : Int32))) 10 0 16 (((g3 (g3 g8 10 0 15 (0 : Int32)) 10 0 13 (((g3 g8 10 0 15 (0 : Int32)) 10 0 13) + (1 : Int32))) 10 0 16) - (48 : Int32)))) (fun g38 => if ((g38 10 0 13) - (g38 10 0 14)) ≤ (2 : Int32) then some (g3 g38 10 0 15 (3 : Int32)) else some (g3 g38 10 0 15 (0 : Int32))) else some (g3 (g3 g8 10 0 15 (0 : Int32)) 10 0 13 (((g3 g8 10 0 15 (0 : Int32)) 10 0 13) + (1 : Int32))) else if ((g3 g8 10 0 15 (3 : Int32)) 10 0 12) ≤ ((g3 g8 10 0 15 (3 : Int32)) 10 0 13) then if ((g3 (g3 g8 10 0 15 (3 : Int32)) 10 0 13 (((g3 g8 10 0 15 (3 : Int32)) 10 0 13) + (0 : Int32))) 10 0 15) = (3 : Int32) then bd1 (L_X8_nextToken_165 N N  (g3 (g3 (g3 g8 10 0 15 (3 : Int32)) 10 0 13 (((g3 g8 10 0 15 (3 : Int32)) 10 0 13) + (0 : Int32))) 10 0 16 (((g3 (g3 g8 10 0 15 (3 : Int32)) 10 0 13 (((g3 g8 10 0 15 (3 : Int32)) 10 0 13) + (0 : Int32))) 10 0 16) - (48 : Int32)))) (fun g52 => if ((g52 10 0 13) - (g52 10 0 14)) ≤ (2 : Int32) then some (g3 g52 10 0 15 (3 : Int32)) else some (g3 g52 10 0 15 (0 : Int32))) else some (g3 (g3 g8 10 0 15 (3 : Int32)) 10 0 13 (((g3 g8 10 0 15 (3 : Int32)) 10 0 13) + (0 : Int32))) else if ((g3 (g3 g8 10 0 15 (3 : Int32)) 10 0 13 (((g3 g8 10 0 15 (3 : Int32)) 10 0 13) + (1 : Int32))) 10 0 15) = (3 : Int32) then bd1 (L_X8_nextToken_165 N N  (g3 (g3 (g3 g8 10 0 15 (3 : Int32)) 10 0 13 (((g3 g8 10 0 15 (3 : Int32)) 10 0 13) + (1 : Int32))) 10 0 16 (((g3 (g3 g8 10 0 15 (3 : Int32)) 10 0 13 (((g3 g8 10 0 15 (3 : Int32)) 10 0 13) + (1 : Int32))) 10 0 16) - (48 : Int32)))) (fun g56 => if ((g56 10 0 13) - (g56 10 0 14)) ≤ (2 : Int32) then some (g3 g56 10 0 15 (3 : Int32)) else some (g3 g56 10 0 15 (0 : Int32))) else some (g3 (g3 g8 10 0 15 (3 : Int32)) 10 0 13 (((g3 g8 10 0 15 (3 : Int32)) 10 0 13) + (1 : Int32)))) else if ((g3 g4 10 0 15 (2 : Int32)) 10 0 12) ≤ ((g3 g4 10 0 15 (2 : Int32)) 10 0 13) then if ((g3 (g3 g4 10 0 15 (2 : Int32)) 10 0 13 (((g3 g4 10 0 15 (2 : Int32)) 10 0 13) + (0 : Int32))) 10 0 15) = (3 : Int32) then bd1 (L_X8_nextToken_165 N N  (g3 (g3 (g3 g4 10 0 15 (2 : Int32)) 10 0 13 (((g3 g4 10 0 15 (2 : Int32)) 10 0 13) + (0 : Int32))) 10 0 16 (((g3 (g3 g4 10 0 15 (2 : Int32)) 10 0 13 (((g3 g4 10 0 15 (2 : Int32)) 10 0 13) + (0 : Int32))) 10 0 16) - (48 : Int32)))) (fun g61 => if ((g61 10 0 13) - (g61 10 0 14)) ≤ (2 : Int32) then some (g3 g61 10 0 15 (3 : Int32)) else some (g3 g61 10 0 15 (0 : Int32))) else some (g3 (g3 g4 10 0 15 (2 : Int32)) 10 0 13 (((g3 g4 10 0 15 (2 : Int32)) 10 0 13) + (0 : Int32))) else if ((g3 (g3 g4 10 0 15 (2 : Int32)) 10 0 13 (((g3 g4 10 0 15 (2 : Int32)) 10 0 13) + (1 : Int32))) 10 0 15) = (3 : Int32) then bd1 (L_X8_nextToken_165 N N  (g3 (g3 (g3 g4 10 0 15 (2 : Int32)) 10 0 13 (((g3 g4 10 0 15 (2 : Int32)) 10 0 13) + (1 : Int32))) 10 0 16 (((g3 (g3 g4 10 0 15 (2 : Int32)) 10 0 13 (((g3 g4 10 0 15 (2 : Int32)) 10 0 13) + (1 : Int32))) 10 0 16) - (48 : Int32)))) (fun g65 => if ((g65 10 0 13) - (g65 10 0 14)) ≤ (2 : Int32) then some (g3 g65 10 0 15 (3 : Int32)) else some (g3 g65 10 0 15 (0 : Int32))) else some (g3 (g3 g4 10 0 15 (2 : Int32)) 10 0 13 (((g3 g4 10 0 15 (2 : Int32)) 10 0 13) + (1 : Int32)))) else bd1 (ix ((g3 g 10 0 14 (g 10 0 13)) 10 0 13) 100) (fun j77 => if ((g3 (g3 g 10 0 14 (g 10 0 13)) 10 0 16 ((g3 g 10 0 14 (g 10 0 13)) 11 11 j77)) 10 0 13) = ((g3 (g3 g 10 0 14 (g 10 0 13)) 10 0 16 ((g3 g 10 0 14 (g 10 0 13)) 11 11 j77)) 10 0 12) then if ((g3 (g3 (g3 g 10 0 14 (g 10 0 13)) 10 0 16 ((g3 g 10 0 14 (g 10 0 13)) 11 11 j77)) 10 0 15 (1 : Int32)) 10 0 12) ≤ ((g3 (g3 (g3 g 10 0 14 (g 10 0 13)) 10 0 16 ((g3 g 10 0 14 (g 10 0 13)) 11 11 j77)) 10 0 15 (1 : Int32)) 10 0 13) then if ((g3 (g3 (g3 (g3 g 10 0 14 (g 10 0 13)) 10 0 16 ((g3 g 10 0 14 (g 10 0 13)) 11 11 j77)) 10 0 15 (1 : Int32)) 10 0 13 (((g3 (g3 (g3 g 10 0 14 (g 10 0 13)) 10 0 16 ((g3 g 10 0 14 (g 10 0 13)) 11 11 j77)) 10 0 15 (1 : Int32)) 10 0 13) + (0 : Int32))) 10 0 15) = (3 : Int32) then bd1 (L_X8_nextToken_165 N N  (g3 (g3 (g3 (g3 (g3 g 10 0 14 (g 10 0 13)) 10 0 16 ((g3 g 10 0 14 (g 10 0 13)) 11 11 j77)) 10 0 15 (1 : Int32)) 10 0 13 (((g3 (g3 (g3 g 10 0 14 (g 10 0 13)) 10 0 16 ((g3 g 10 0 14 (g 10 0 13)) 11 11 j77)) 10 0 15 (1 : Int32)) 10 0 13) + (0 : Int32))) 10 0 16 (((g3 (g3 (g3 (g3 g 10 0 14 (g 10 0 13)) 10 0 16 ((g3 g 10 0 14 (g 10 0 13)) 11 11 j77)) 10 0 15 (1 : Int32)) 10 0 13 (((g3 (g3 (g3 g 10 0 14 (g 10 0 13)) 10 0 16 ((g3 g 10 0 14 (g 10 0 13)) 11 11 j77)) 10 0 15 (1 : Int32)) 10 0 13) + (0 : Int32))) 10 0 16) - (48 : Int32)))) (fun g137 => if ((g137 10 0 13) - (g137 10 0 14)) ≤ (2 : Int32) then some (g3 g137 10 0 15 (3 : Int32)) else some (g3 g137 10 0 15 (0 : Int32))) else some (g3 (g3 (g3 (g3 g 10 0 14 (g 10 0 13)) 10 0 16 ((g3 g 10 0 14 (g 10 0 13)) 11 11 j77)) 10 0 15 (1 : Int32)) 10 0 13 (((g3 (g3 (g3 g 10 0 14 (g 10 0 13)) 10 0 16 ((g3 g 10 0 14 (g 10 0 13)) 11 11 j77)) 10 0 15 (1 : Int32)) 10 0 13) + (0 : Int32))) else if ((g3 (g3 (g3 (g3 g 10 0 14 (g 10 0 13)) 10 0 16 ((g3 g 10 0 14 (g 10 0 13)) 11 11 j77)) 10 0 15 (1 : Int32)) 10 0 13 (((g3 (g3 (g3 g 10 0 14 (g 10 0 13)) 10 0 16 ((g3 g 10 0 14 (g 10 0 13)) 11 11 j77)) 10 0 15 (1 : Int32)) 10 0 13) + (1 : Int32))) 10 0 15) = (3 : Int32) then bd1 (L_X8_nextToken_165 N N  (g3 (g3 (g3 (g3 (g3 g 10 0 14 (g 10 0 13)) 10 0 16 ((g3 g 10 0 14 (g 10 0 13)) 11 11 j77)) 10 0 15 (1 : Int32)) 10 0 13 (((g3 (g3 (g3 g 10 0 14 (g 10 0 13)) 10 0 16 ((g3 g 10 0 14 (g 10 0 13)) 11 11 j77)) 10 0 15 (1 : Int32)) 10 0 13) + (1 : Int32))) 10 0 16 (((g3 (g3 (g3 (g3 g 10 0 14 (g 10 0 13)) 10 0 16 ((g3 g 10 0 14 (g 10 0 13)) 11 11 j77)) 10 0 15 (1 : Int32)) 10 0 13 (((g3 (g3 (g3 g 10 0 14 (g 10 0 13)) 10 0 16 ((g3 g 10 0 14 (g 10 0 13)) 11 11 j77)) 10 0 15 (1 : Int32)) 10 0 13) + (1 : Int32))) 10 0 16) - (48 : Int32)))) (fun g141 => if ((g141 10 0 13) - (g141 10 0 14)) ≤ (2 : Int32) then some (g3 g141 10 0 15 (3 : Int32)) else some (g3 g141 10 0 15 (0 : Int32))) else some (g3 (g3 (g3 (g3 g 10 0 14 (g 10 0 13)) 10 0 16 ((g3 g 10 0 14 (g 10 0 13)) 11 11 j77)) 10 0 15 (1 : Int32)) 10 0 13 (((g3 (g3 (g3 g 10 0 14 (g 10 0 13)) 10 0 16 ((g3 g 10 0 14 (g 10 0 13)) 11 11 j77)) 10 0 15 (1 : Int32)) 10 0 13) + (1 : Int32))) else bd2 (F_X8_in N (((g3 (g3 g 10 0 14 (g 10 0 13)) 10 0 16 ((g3 g 10 0 14 (g 10 0 13)) 11 11 j77)) 10 0 16).toInt64) (97 : Int64) (122 : Int64) (g3 (g3 g 10 0 14 (g 10 0 13)) 10 0 16 ((g3 g 10 0 14 (g 10 0 13)) 11 11 j77))) (fun r82 g81 => if r82 = 0 then bd2 (F_X8_in N ((g81 10 0 16).toInt64) (48 : Int64) (57 : Int64) g81) (fun r86 g85 => if r86 = 0 then if (g85 10 0 16) = (44 : Int32) then if ((g3 g85 10 0 15 (4 : Int32)) 10 0 12) ≤ ((g3 g85 10 0 15 (4 : Int32)) 10 0 13) then if ((g3 (g3 g85 10 0 15 (4 : Int32)) 10 0 13 (((g3 g85 10 0 15 (4 : Int32)) 10 0 13) + (0 : Int32))) 10 0 15) = (3 : Int32) then bd1 (L_X8_nextToken_165 N N  (g3 (g3 (g3 g85 10 0 15 (4 : Int32)) 10 0 13 (((g3 g85 10 0 15 (4 : Int32)) 10 0 13) + (0 : Int32))) 10 0 16 (((g3 (g3 g85 10 0 15 (4 : Int32)) 10 0 13 (((g3 g85 10 0 15 (4 : Int32)) 10 0 13) + (0 : Int32))) 10 0 16) - (48 : Int32)))) (fun g91 => if ((g91 10 0 13) - (g91 10 0 14)) ≤ (2 : Int32) then some (g3 g91 10 0 15 (3 : Int32)) else some (g3 g91 10 0 15 (0 : Int32))) else some (g3 (g3 g85 10 0 15 (4 : Int32)) 10 0 13 (((g3 g85 10 0 15 (4 : Int32)) 10 0 13) + (0 : Int32))) else if ((g3 (g3 g85 10 0 15 (4 : Int32)) 10 0 13 (((g3 g85 10 0 15 (4 : Int32)) 10 0 13) + (1 : Int32))) 10 0 15) = (3 : Int32) then bd1 (L_X8_nextToken_165 N N  (g3 (g3 (g3 g85 10 0 15 (4 : Int32)) 10 0 13 (((g3 g85 10 0 15 (4 : Int32)) 10 0 13) + (1 : Int32))) 10 0 16 (((g3 (g3 g85 10 0 15 (4 : Int32)) 10 0 13 (((g3 g85 10 0 15 (4 : Int32)) 10 0 13) + (1 : Int32))) 10 0 16) - (48 : Int32)))) (fun g95 => if ((g95 10 0 13) - (g95 10 0 14)) ≤ (2 : Int32) then some (g3 g95 10 0 15 (3 : Int32)) else some (g3 g95 10 0 15 (0 : Int32))) else some (g3 (g3 g85 10 0 15 (4 : Int32)) 10 0 13 (((g3 g85 10 0 15 (4 : Int32)) 10 0 13) + (1 : Int32))) else if (g85 10 0 16) = (59 : Int32) then if ((g3 g85 10 0 15 (4 : Int32)) 10 0 12) ≤ ((g3 g85 10 0 15 (4 : Int32)) 10 0 13) then if ((g3 (g3 g85 10 0 15 (4 : Int32)) 10 0 13 (((g3 g85 10 0 15 (4 : Int32)) 10 0 13) + (0 : Int32))) 10 0 15) = (3 : Int32) then bd1 (L_X8_nextToken_165 N N  (g3 (g3 (g3 g85 10 0 15 (4 : Int32)) 10 0 13 (((g3 g85 10 0 15 (4 : Int32)) 10 0 13) + (0 : Int32))) 10 0 16 (((g3 (g3 g85 10 0 15 (4 : Int32)) 10 0 13 (((g3 g85 10 0 15 (4 : Int32)) 10 0 13) + (0 : Int32))) 10 0 16) - (48 : Int32)))) (fun g110 => if ((g110 10 0 13) - (g110 10 0 14)) ≤ (2 : Int32) then some (g3 g110 10 0 15 (3 : Int32)) else some (g3 g110 10 0 15 (0 : Int32))) else some (g3 (g3 g85 10 0 15 (4 : Int32)) 10 0 13 (((g3 g85 10 0 15 (4 : Int32)) 10 0 13) + (0 : Int32))) else if ((g3 (g3 g85 10 0 15 (4 : Int32)) 10 0 13 (((g3 g85 10 0 15 (4 : Int32)) 10 0 13) + (1 : Int32))) 10 0 15) = (3 : Int32) then bd1 (L_X8_nextToken_165 N N  (g3 (g3 (g3 g85 10 0 15 (4 : Int32)) 10 0 13 (((g3 g85 10 0 15 (4 : Int32)) 10 0 13) + (1 : Int32))) 10 0 16 (((g3 (g3 g85 10 0 15 (4 : Int32)) 10 0 13 (((g3 g85 10 0 15 (4 : Int32)) 10 0 13) + (1 : Int32))) 10 0 16) - (48 : Int32)))) (fun g114 => if ((g114 10 0 13) - (g114 10 0 14)) ≤ (2 : Int32) then some (g3 g114 10 0 15 (3 : Int32)) else some (g3 g114 10 0 15 (0 : Int32))) else some (g3 (g3 g85 10 0 15 (4 : Int32)) 10 0 13 (((g3 g85 10 0 15 (4 : Int32)) 10 0 13) + (1 : Int32))) else if ((g3 g85 10 0 15 (0 : Int32)) 10 0 12) ≤ ((g3 g85 10 0 15 (0 : Int32)) 10 0 13) then if ((g3 (g3 g85 10 0 15 (0 : Int32)) 10 0 13 (((g3 g85 10 0 15 (0 : Int32)) 10 0 13) + (0 : Int32))) 10 0 15) = (3 : Int32) then bd1 (L_X8_nextToken_165 N N  (g3 (g3 (g3 g85 10 0 15 (0 : Int32)) 10 0 13 (((g3 g85 10 0 15 (0 : Int32)) 10 0 13) + (0 : Int32))) 10 0 16 (((g3 (g3 g85 10 0 15 (0 : Int32)) 10 0 13 (((g3 g85 10 0 15 (0 : Int32)) 10 0 13) + (0 : Int32))) 10 0 16) - (48 : Int32)))) (fun g101 => if ((g101 10 0 13) - (g101 10 0 14)) ≤ (2 : Int32) then some (g3 g101 10 0 15 (3 : Int32)) else some (g3 g101 10 0 15 (0 : Int32))) else some (g3 (g3 g85 10 0 15 (0 : Int32)) 10 0 13 (((g3 g85 10 0 15 (0 : Int32)) 10 0 13) + (0 : Int32))) else if ((g3 (g3 g85 10 0 15 (0 : Int32)) 10 0 13 (((g3 g85 10 0 15 (0 : Int32)) 10 0 13) + (1 : Int32))) 10 0 15) = (3 : Int32) then bd1 (L_X8_nextToken_165 N N  (g3 (g3 (g3 g85 10 0 15 (0 : Int32)) 10 0 13 (((g3 g85 10 0 15 (0 : Int32)) 10 0 13) + (1 : Int32))) 10 0 16 (((g3 (g3 g85 10 0 15 (0 : Int32)) 10 0 13 (((g3 g85 10 0 15 (0 : Int32)) 10 0 13) + (1 : Int32))) 10 0 16) - (48 : Int32)))) (fun g105 => if ((g105 10 0 13) - (g105 10 0 14)) ≤ (2 : Int32) then some (g3 g105 10 0 15 (3 : Int32)) else some (g3 g105 10 0 15 (0 : Int32))) else some (g3 (g3 g85 10 0 15 (0 : Int32)) 10 0 13 (((g3 g85 10 0 15 (0 : Int32)) 10 0 13) + (1 : Int32))) else if ((g3 g85 10 0 15 (3 : Int32)) 10 0 12) ≤ ((g3 g85 10 0 15 (3 : Int32)) 10 0 13) then if ((g3 (g3 g85 10 0 15 (3 : Int32)) 10 0 13 (((g3 g85 10 0 15 (3 : Int32)) 10 0 13) + (0 : Int32))) 10 0 15) = (3 : Int32) then bd1 (L_X8_nextToken_165 N N  (g3 (g3 (g3 g85 10 0 15 (3 : Int32)) 10 0 13 (((g3 g85 10 0 15 (3 : Int32)) 10 0 13) + (0 : Int32))) 10 0 16 (((g3 (g3 g85 10 0 15 (3 : Int32)) 10 0 13 (((g3 g85 10 0 15 (3 : Int32)) 10 0 13) + (0 : Int32))) 10 0 16) - (48 : Int32)))) (fun g119 => if ((g119 10 0 13) - (g119 10 0 14)) ≤ (2 : Int32) then some (g3 g119 10 0 15 (3 : Int32)) else some (g3 g119 10 0 15 (0 : Int32))) else some (g3 (g3 g85 10 0 15 (3 : Int32)) 10 0 13 (((g3 g85 10 0 15 (3 : Int32)) 10 0 13) + (0 : Int32))) else if ((g3 (g3 g85 10 0 15 (3 : Int32)) 10 0 13 (((g3 g85 10 0 15 (3 : Int32)) 10 0 13) + (1 : Int32))) 10 0 15) = (3 : Int32) then bd1 (L_X8_nextToken_165 N N  (g3 (g3 (g3 g85 10 0 15 (3 : Int32)) 10 0 13 (((g3 g85 10 0 15 (3 : Int32)) 10 0 13) + (1 : Int32))) 10 0 16 (((g3 (g3 g85 10 0 15 (3 : Int32)) 10 0 13 (((g3 g85 10 0 15 (3 : Int32)) 10 0 13) + (1 : Int32))) 10 0 16) - (48 : Int32)))) (fun g123 => if ((g123 10 0 13) - (g123 10 0 14)) ≤ (2 : Int32) then some (g3 g123 10 0 15 (3 : Int32)) else some (g3 g123 10 0 15 (0 : Int32))) else some (g3 (g3 g85 10 0 15 (3 : Int32)) 10 0 13 (((g3 g85 10 0 15 (3 : Int32)) 10 0 13) + (1 : Int32)))) else if ((g3 g81 10 0 15 (2 : Int32)) 10 0 12) ≤ ((g3 g81 10 0 15 (2 : Int32)) 10 0 13) then if ((g3 (g3 g81 10 0 15 (2 : Int32)) 10 0 13 (((g3 g81 10 0 15 (2 : Int32)) 10 0 13) + (0 : Int32))) 10 0 15) = (3 : Int32) then bd1 (L_X8_nextToken_165 N N  (g3 (g3 (g3 g81 10 0 15 (2 : Int32)) 10 0 13 (((g3 g81 10 0 15 (2 : Int32)) 10 0 13) + (0 : Int32))) 10 0 16 (((g3 (g3 g81 10 0 15 (2 : Int32)) 10 0 13 (((g3 g81 10 0 15 (2 : Int32)) 10 0 13) + (0 : Int32))) 10 0 16) - (48 : Int32)))) (fun g128 => if ((g128 10 0 13) - (g128 10 0 14)) ≤ (2 : Int32) then some (g3 g128 10 0 15 (3 : Int32)) else some (g3 g128 10 0 15 (0 : Int32))) else some (g3 (g3 g81 10 0 15 (2 : Int32)) 10 0 13 (((g3 g81 10 0 15 (2 : Int32)) 10 0 13) + (0 : Int32))) else if ((g3 (g3 g81 10 0 15 (2 : Int32)) 10 0 13 (((g3 g81 10 0 15 (2 : Int32)) 10 0 13) + (1 : Int32))) 10 0 15) = (3 : Int32) then bd1 (L_X8_nextToken_165 N N  (g3 (g3 (g3 g81 10 0 15 (2 : Int32)) 10 0 13 (((g3 g81 10 0 15 (2 : Int32)) 10 0 13) + (1 : Int32))) 10 0 16 (((g3 (g3 g81 10 0 15 (2 : Int32)) 10 0 13 (((g3 g81 10 0 15 (2 : Int32)) 10 0 13) + (1 : Int32))) 10 0 16) - (48 : Int32)))) (fun g132 => if ((g132 10 0 13) - (g132 10 0 14)) ≤ (2 : Int32) then some (g3 g132 10 0 15 (3 : Int32)) else some (g3 g132 10 0 15 (0 : Int32))) else some (g3 (g3 g81 10 0 15 (2 : Int32)) 10 0 13 (((g3 g81 10 0 15 (2 : Int32)) 10 0 13) + (1 : Int32)))))
set_option maxRecDepth 100000 in
set_option maxHeartbeats 4000000 in
theorem w_X8_nextToken_165 {p : Program} {l : Launch} {e : Env} {s : State} {m : MethodId} {args : Array Value} {below : List Frame} {meth : Method} {c : Code} {D : va_G} {ad : Ky → Nat} {cy : Nat → ClassId} {gq : GS} {N : Nat} (X : Cx p (rmd 1) s m args meth c RX8 cX8_nextToken 1 none D ad cy) : ∀ (n : Nat)  (g : GS)  (g' : GS), L_X8_nextToken_165 N n  g = some (g') → Vy p l e (rmd 1) s m args below meth c 1 D ad cy (QV D ad cy below args s gq) 255 [some (.ref (ad (8, 0, 0)))] [] g' → Vy p l e (rmd 1) s m args below meth c 1 D ad cy (QV D ad cy below args s gq) 165 [some (.ref (ad (8, 0, 0)))] [] g := by
  intro n
  induction n with
  | zero => intro g g' h k; cases h
  | succ n ih =>
    intro g g' h k
    rw [L_X8_nextToken_165] at h
    refine v_aloadn X dX8_nextToken_165 rfl rfl ?_
    refine gf_X8_90 X dX8_nextToken_166 ?_
    refine v_aloadn X dX8_nextToken_169 rfl rfl ?_
    refine gf_X8_77 X dX8_nextToken_170 ?_
    refine v_icmp_ge X 255 dX8_nextToken_173 (by decide) (fun c14 => ?_) (fun c14 => ?_)
    · replace h := (if_pos c14).symm.trans h
      cases h
      exact k
    · replace h := (if_neg c14).symm.trans h
      refine v_aloadn X dX8_nextToken_176 rfl rfl ?_
      refine gf_X8_34 X dX8_nextToken_177 ?_
      refine v_aloadn X dX8_nextToken_180 rfl rfl ?_
      refine gf_X8_90 X dX8_nextToken_181 ?_
      obtain ⟨j15, q16, h⟩ := bd1_some h
      obtain ⟨ej15, lj15⟩ := ix_spec q16
      refine alM X (by decide +kernel) j15 ej15 lj15 dX8_nextToken_184 ?_
      refine v_i2l X dX8_nextToken_185 ?_
      refine v_ldc2 X kl_X8_101 dX8_nextToken_186 ?_
      refine v_ldc2 X kl_X8_103 dX8_nextToken_189 ?_
      obtain ⟨r19, g18, q17, h⟩ := bd2_some h
      refine v_callSI (As := [.long ((g 11 11 j15).toInt64), .long (48 : Int64), .long (57 : Int64)]) (rest := []) X (c_X8_in l D ad cy X.2.2.2.2.2.2.2.2.1 N ((g 11 11 j15).toInt64) (48 : Int64) (57 : Int64) g r19 g18  q17) mw_X8_in ml_X8_60 (by decide) rfl rfl (Nat.le_of_ble_eq_true rfl) dX8_nextToken_192 ?_
      refine v_if_eq X 255 dX8_nextToken_195 (by decide) (fun c20 => ?_) (fun c20 => ?_)
      · replace h := (if_pos c20).symm.trans h
        cases h
        exact k
      · replace h := (if_neg c20).symm.trans h
        refine v_aloadn X dX8_nextToken_198 rfl rfl ?_
        refine v_aloadn X dX8_nextToken_199 rfl rfl ?_
        refine gf_X8_90 X dX8_nextToken_200 ?_
        refine v_aloadn X dX8_nextToken_203 rfl rfl ?_
        refine gf_X8_84 X dX8_nextToken_204 ?_
        refine v_isub X dX8_nextToken_207 ?_
        refine v_iconst (v := 2) X dX8_nextToken_208 (by decide) ?_
        refine v_icmp_ge X 235 dX8_nextToken_209 (by decide) (fun c21 => ?_) (fun c21 => ?_)
        · replace h := (if_pos c21).symm.trans h
          refine v_aloadn X dX8_nextToken_235 rfl rfl ?_
          refine gf_X8_94 X dX8_nextToken_236 ?_
          refine pf_X8_94 X dX8_nextToken_239 ?_
          refine v_aloadn X dX8_nextToken_242 rfl rfl ?_
          refine v_dup X dX8_nextToken_243 rfl ?_
          refine gf_X8_90 X dX8_nextToken_244 ?_
          refine v_iconst (v := 1) X dX8_nextToken_247 (by decide) ?_
          refine v_iadd X dX8_nextToken_248 ?_
          refine pf_X8_90 X dX8_nextToken_249 ?_
          refine v_goto X 165 dX8_nextToken_252 (by decide) ?_
          exact ih  (g3 (g3 g18 10 0 16 (g18 10 0 16)) 10 0 13 (((g3 g18 10 0 16 (g18 10 0 16)) 10 0 13) + (1 : Int32))) _ h k
        · replace h := (if_neg c21).symm.trans h
          refine v_bipush (v := 10) X dX8_nextToken_212 (by decide) ?_
          refine v_aloadn X dX8_nextToken_214 rfl rfl ?_
          refine gf_X8_94 X dX8_nextToken_215 ?_
          refine v_imul X dX8_nextToken_218 ?_
          refine v_aloadn X dX8_nextToken_219 rfl rfl ?_
          refine gf_X8_34 X dX8_nextToken_220 ?_
          refine v_aloadn X dX8_nextToken_223 rfl rfl ?_
          refine gf_X8_90 X dX8_nextToken_224 ?_
          obtain ⟨j22, q23, h⟩ := bd1_some h
          obtain ⟨ej22, lj22⟩ := ix_spec q23
          refine alM X (by decide +kernel) j22 ej22 lj22 dX8_nextToken_227 ?_
          refine v_iadd X dX8_nextToken_228 ?_
          refine v_bipush (v := 48) X dX8_nextToken_229 (by decide) ?_
          refine v_isub X dX8_nextToken_231 ?_
          refine v_goto X 239 dX8_nextToken_232 (by decide) ?_
          refine pf_X8_94 X dX8_nextToken_239 ?_
          refine v_aloadn X dX8_nextToken_242 rfl rfl ?_
          refine v_dup X dX8_nextToken_243 rfl ?_
          refine gf_X8_90 X dX8_nextToken_244 ?_
          refine v_iconst (v := 1) X dX8_nextToken_247 (by decide) ?_
          refine v_iadd X dX8_nextToken_248 ?_
          refine pf_X8_90 X dX8_nextToken_249 ?_
          refine v_goto X 165 dX8_nextToken_252 (by decide) ?_
          exact ih  (g3 (g3 g18 10 0 16 ((((10 : Int32) * (g18 10 0 16)) + (g18 11 11 j22)) - (48 : Int32))) 10 0 13 (((g3 g18 10 0 16 ((((10 : Int32) * (g18 10 0 16)) + (g18 11 11 j22)) - (48 : Int32))) 10 0 13) + (1 : Int32))) _ h k
set_option maxRecDepth 100000 in
set_option maxHeartbeats 4000000 in
theorem c_X8_nextToken (l : Launch) (D : va_G) (ad : Ky → Nat) (cy : Nat → ClassId) (hI : Inj ad) (N : Nat) (g : GS) (gq : GS) (h : F_X8_nextToken N  g = some gq) : CtV l D ad cy yX8_nextToken cX8_nextToken 1 1 [.ref (ad (8, 0, 0))] g gq := by
  refine CtV.of 0 hI (by decide +kernel) rfl (Nat.le_of_ble_eq_true rfl) (fun p e s m args below meth c X => ?_)
  unfold F_X8_nextToken at h
  show Vy _ _ _ _ _ _ _ _ _ _ _ _ _ _ _ 0 [some (.ref (ad (8, 0, 0)))] [] g
  refine v_aloadn X dX8_nextToken_0 rfl rfl ?_
  refine v_aloadn X dX8_nextToken_1 rfl rfl ?_
  refine gf_X8_90 X dX8_nextToken_2 ?_
  refine pf_X8_84 X dX8_nextToken_5 ?_
  refine v_aloadn X dX8_nextToken_8 rfl rfl ?_
  refine v_aloadn X dX8_nextToken_9 rfl rfl ?_
  refine gf_X8_90 X dX8_nextToken_10 ?_
  refine v_aloadn X dX8_nextToken_13 rfl rfl ?_
  refine gf_X8_77 X dX8_nextToken_14 ?_
  refine v_icmp_ge X 32 dX8_nextToken_17 (by decide) (fun c1 => ?_) (fun c1 => ?_)
  · replace h := (if_pos c1).symm.trans h
    refine v_ldc X kc_X8_93 dX8_nextToken_32 ?_
    refine pf_X8_94 X dX8_nextToken_34 ?_
    refine v_aloadn X dX8_nextToken_37 rfl rfl ?_
    refine v_aloadn X dX8_nextToken_38 rfl rfl ?_
    refine gf_X8_90 X dX8_nextToken_39 ?_
    refine v_aloadn X dX8_nextToken_42 rfl rfl ?_
    refine gf_X8_77 X dX8_nextToken_43 ?_
    refine v_icmp_ne X 53 dX8_nextToken_46 (by decide) (fun c2 => ?_) (fun c2 => ?_)
    · replace h := (if_neg c2).symm.trans h
      refine v_aloadn X dX8_nextToken_53 rfl rfl ?_
      refine gf_X8_94 X dX8_nextToken_54 ?_
      refine v_i2l X dX8_nextToken_57 ?_
      refine v_ldc2 X kl_X8_97 dX8_nextToken_58 ?_
      refine v_ldc2 X kl_X8_99 dX8_nextToken_61 ?_
      obtain ⟨r5, g4, q3, h⟩ := bd2_some h
      refine v_callSI (As := [.long (((g3 (g3 g 10 0 14 (g 10 0 13)) 10 0 16 (-1000000 : Int32)) 10 0 16).toInt64), .long (97 : Int64), .long (122 : Int64)]) (rest := [.ref (ad (8, 0, 0))]) X (c_X8_in l D ad cy X.2.2.2.2.2.2.2.2.1 N (((g3 (g3 g 10 0 14 (g 10 0 13)) 10 0 16 (-1000000 : Int32)) 10 0 16).toInt64) (97 : Int64) (122 : Int64) (g3 (g3 g 10 0 14 (g 10 0 13)) 10 0 16 (-1000000 : Int32)) r5 g4  q3) mw_X8_in ml_X8_60 (by decide) rfl rfl (Nat.le_of_ble_eq_true rfl) dX8_nextToken_64 ?_
      refine v_if_eq X 74 dX8_nextToken_67 (by decide) (fun c6 => ?_) (fun c6 => ?_)
      · replace h := (if_pos c6).symm.trans h
        refine v_aloadn X dX8_nextToken_74 rfl rfl ?_
        refine gf_X8_94 X dX8_nextToken_75 ?_
        refine v_i2l X dX8_nextToken_78 ?_
        refine v_ldc2 X kl_X8_101 dX8_nextToken_79 ?_
        refine v_ldc2 X kl_X8_103 dX8_nextToken_82 ?_
        obtain ⟨r9, g8, q7, h⟩ := bd2_some h
        refine v_callSI (As := [.long ((g4 10 0 16).toInt64), .long (48 : Int64), .long (57 : Int64)]) (rest := [.ref (ad (8, 0, 0))]) X (c_X8_in l D ad cy X.2.2.2.2.2.2.2.2.1 N ((g4 10 0 16).toInt64) (48 : Int64) (57 : Int64) g4 r9 g8  q7) mw_X8_in ml_X8_60 (by decide) rfl rfl (Nat.le_of_ble_eq_true rfl) dX8_nextToken_85 ?_
        refine v_if_eq X 95 dX8_nextToken_88 (by decide) (fun c10 => ?_) (fun c10 => ?_)
        · replace h := (if_pos c10).symm.trans h
          refine v_aloadn X dX8_nextToken_95 rfl rfl ?_
          refine gf_X8_94 X dX8_nextToken_96 ?_
          refine v_bipush (v := 44) X dX8_nextToken_99 (by decide) ?_
          refine v_icmp_eq X 113 dX8_nextToken_101 (by decide) (fun c11 => ?_) (fun c11 => ?_)
          · replace h := (if_pos c11).symm.trans h
            refine v_iconst (v := 4) X dX8_nextToken_113 (by decide) ?_
            refine v_goto X 118 dX8_nextToken_114 (by decide) ?_
            refine pf_X8_105 X dX8_nextToken_118 ?_
            refine v_aloadn X dX8_nextToken_121 rfl rfl ?_
            refine v_dup X dX8_nextToken_122 rfl ?_
            refine gf_X8_90 X dX8_nextToken_123 ?_
            refine v_aloadn X dX8_nextToken_126 rfl rfl ?_
            refine gf_X8_90 X dX8_nextToken_127 ?_
            refine v_aloadn X dX8_nextToken_130 rfl rfl ?_
            refine gf_X8_77 X dX8_nextToken_131 ?_
            refine v_icmp_ge X 141 dX8_nextToken_134 (by decide) (fun c12 => ?_) (fun c12 => ?_)
            · replace h := (if_pos c12).symm.trans h
              refine v_iconst (v := 0) X dX8_nextToken_141 (by decide) ?_
              refine v_iadd X dX8_nextToken_142 ?_
              refine pf_X8_90 X dX8_nextToken_143 ?_
              refine v_aloadn X dX8_nextToken_146 rfl rfl ?_
              refine gf_X8_105 X dX8_nextToken_147 ?_
              refine v_iconst (v := 3) X dX8_nextToken_150 (by decide) ?_
              refine v_icmp_ne X 277 dX8_nextToken_151 (by decide) (fun c13 => ?_) (fun c13 => ?_)
              · replace h := (if_neg c13).symm.trans h
                cases h
                exact v_vret X dX8_nextToken_277 rfl
              · replace h := (if_pos c13).symm.trans h
                refine v_aloadn X dX8_nextToken_154 rfl rfl ?_
                refine v_dup X dX8_nextToken_155 rfl ?_
                refine gf_X8_94 X dX8_nextToken_156 ?_
                refine v_bipush (v := 48) X dX8_nextToken_159 (by decide) ?_
                refine v_isub X dX8_nextToken_161 ?_
                refine pf_X8_94 X dX8_nextToken_162 ?_
                obtain ⟨g24, q25, h⟩ := bd1_some h
                refine w_X8_nextToken_165 X  N  (g3 (g3 (g3 g8 10 0 15 (4 : Int32)) 10 0 13 (((g3 g8 10 0 15 (4 : Int32)) 10 0 13) + (0 : Int32))) 10 0 16 (((g3 (g3 g8 10 0 15 (4 : Int32)) 10 0 13 (((g3 g8 10 0 15 (4 : Int32)) 10 0 13) + (0 : Int32))) 10 0 16) - (48 : Int32))) g24 q25 ?_
                refine v_aloadn X dX8_nextToken_255 rfl rfl ?_
                refine v_aloadn X dX8_nextToken_256 rfl rfl ?_
                refine gf_X8_90 X dX8_nextToken_257 ?_
                refine v_aloadn X dX8_nextToken_260 rfl rfl ?_
                refine gf_X8_84 X dX8_nextToken_261 ?_
                refine v_isub X dX8_nextToken_264 ?_
                refine v_iconst (v := 2) X dX8_nextToken_265 (by decide) ?_
                refine v_icmp_le X 273 dX8_nextToken_266 (by decide) (fun c26 => ?_) (fun c26 => ?_)
                · replace h := (if_pos c26).symm.trans h
                  refine v_iconst (v := 3) X dX8_nextToken_273 (by decide) ?_
                  refine pf_X8_105 X dX8_nextToken_274 ?_
                  cases h
                  exact v_vret X dX8_nextToken_277 rfl
                · replace h := (if_neg c26).symm.trans h
                  refine v_iconst (v := 0) X dX8_nextToken_269 (by decide) ?_
                  refine v_goto X 274 dX8_nextToken_270 (by decide) ?_
                  refine pf_X8_105 X dX8_nextToken_274 ?_
                  cases h
                  exact v_vret X dX8_nextToken_277 rfl
            · replace h := (if_neg c12).symm.trans h
              refine v_iconst (v := 1) X dX8_nextToken_137 (by decide) ?_
              refine v_goto X 142 dX8_nextToken_138 (by decide) ?_
              refine v_iadd X dX8_nextToken_142 ?_
              refine pf_X8_90 X dX8_nextToken_143 ?_
              refine v_aloadn X dX8_nextToken_146 rfl rfl ?_
              refine gf_X8_105 X dX8_nextToken_147 ?_
              refine v_iconst (v := 3) X dX8_nextToken_150 (by decide) ?_
              refine v_icmp_ne X 277 dX8_nextToken_151 (by decide) (fun c27 => ?_) (fun c27 => ?_)
              · replace h := (if_neg c27).symm.trans h
                cases h
                exact v_vret X dX8_nextToken_277 rfl
              · replace h := (if_pos c27).symm.trans h
                refine v_aloadn X dX8_nextToken_154 rfl rfl ?_
                refine v_dup X dX8_nextToken_155 rfl ?_
                refine gf_X8_94 X dX8_nextToken_156 ?_
                refine v_bipush (v := 48) X dX8_nextToken_159 (by decide) ?_
                refine v_isub X dX8_nextToken_161 ?_
                refine pf_X8_94 X dX8_nextToken_162 ?_
                obtain ⟨g28, q29, h⟩ := bd1_some h
                refine w_X8_nextToken_165 X  N  (g3 (g3 (g3 g8 10 0 15 (4 : Int32)) 10 0 13 (((g3 g8 10 0 15 (4 : Int32)) 10 0 13) + (1 : Int32))) 10 0 16 (((g3 (g3 g8 10 0 15 (4 : Int32)) 10 0 13 (((g3 g8 10 0 15 (4 : Int32)) 10 0 13) + (1 : Int32))) 10 0 16) - (48 : Int32))) g28 q29 ?_
                refine v_aloadn X dX8_nextToken_255 rfl rfl ?_
                refine v_aloadn X dX8_nextToken_256 rfl rfl ?_
                refine gf_X8_90 X dX8_nextToken_257 ?_
                refine v_aloadn X dX8_nextToken_260 rfl rfl ?_
                refine gf_X8_84 X dX8_nextToken_261 ?_
                refine v_isub X dX8_nextToken_264 ?_
                refine v_iconst (v := 2) X dX8_nextToken_265 (by decide) ?_
                refine v_icmp_le X 273 dX8_nextToken_266 (by decide) (fun c30 => ?_) (fun c30 => ?_)
                · replace h := (if_pos c30).symm.trans h
                  refine v_iconst (v := 3) X dX8_nextToken_273 (by decide) ?_
                  refine pf_X8_105 X dX8_nextToken_274 ?_
                  cases h
                  exact v_vret X dX8_nextToken_277 rfl
                · replace h := (if_neg c30).symm.trans h
                  refine v_iconst (v := 0) X dX8_nextToken_269 (by decide) ?_
                  refine v_goto X 274 dX8_nextToken_270 (by decide) ?_
                  refine pf_X8_105 X dX8_nextToken_274 ?_
                  cases h
                  exact v_vret X dX8_nextToken_277 rfl
          · replace h := (if_neg c11).symm.trans h
            refine v_aloadn X dX8_nextToken_104 rfl rfl ?_
            refine gf_X8_94 X dX8_nextToken_105 ?_
            refine v_bipush (v := 59) X dX8_nextToken_108 (by decide) ?_
            refine v_icmp_ne X 117 dX8_nextToken_110 (by decide) (fun c31 => ?_) (fun c31 => ?_)
            · replace h := (if_neg c31).symm.trans h
              refine v_iconst (v := 0) X dX8_nextToken_117 (by decide) ?_
              refine pf_X8_105 X dX8_nextToken_118 ?_
              refine v_aloadn X dX8_nextToken_121 rfl rfl ?_
              refine v_dup X dX8_nextToken_122 rfl ?_
              refine gf_X8_90 X dX8_nextToken_123 ?_
              refine v_aloadn X dX8_nextToken_126 rfl rfl ?_
              refine gf_X8_90 X dX8_nextToken_127 ?_
              refine v_aloadn X dX8_nextToken_130 rfl rfl ?_
              refine gf_X8_77 X dX8_nextToken_131 ?_
              refine v_icmp_ge X 141 dX8_nextToken_134 (by decide) (fun c32 => ?_) (fun c32 => ?_)
              · replace h := (if_pos c32).symm.trans h
                refine v_iconst (v := 0) X dX8_nextToken_141 (by decide) ?_
                refine v_iadd X dX8_nextToken_142 ?_
                refine pf_X8_90 X dX8_nextToken_143 ?_
                refine v_aloadn X dX8_nextToken_146 rfl rfl ?_
                refine gf_X8_105 X dX8_nextToken_147 ?_
                refine v_iconst (v := 3) X dX8_nextToken_150 (by decide) ?_
                refine v_icmp_ne X 277 dX8_nextToken_151 (by decide) (fun c33 => ?_) (fun c33 => ?_)
                · replace h := (if_neg c33).symm.trans h
                  cases h
                  exact v_vret X dX8_nextToken_277 rfl
                · replace h := (if_pos c33).symm.trans h
                  refine v_aloadn X dX8_nextToken_154 rfl rfl ?_
                  refine v_dup X dX8_nextToken_155 rfl ?_
                  refine gf_X8_94 X dX8_nextToken_156 ?_
                  refine v_bipush (v := 48) X dX8_nextToken_159 (by decide) ?_
                  refine v_isub X dX8_nextToken_161 ?_
                  refine pf_X8_94 X dX8_nextToken_162 ?_
                  obtain ⟨g34, q35, h⟩ := bd1_some h
                  refine w_X8_nextToken_165 X  N  (g3 (g3 (g3 g8 10 0 15 (0 : Int32)) 10 0 13 (((g3 g8 10 0 15 (0 : Int32)) 10 0 13) + (0 : Int32))) 10 0 16 (((g3 (g3 g8 10 0 15 (0 : Int32)) 10 0 13 (((g3 g8 10 0 15 (0 : Int32)) 10 0 13) + (0 : Int32))) 10 0 16) - (48 : Int32))) g34 q35 ?_
                  refine v_aloadn X dX8_nextToken_255 rfl rfl ?_
                  refine v_aloadn X dX8_nextToken_256 rfl rfl ?_
                  refine gf_X8_90 X dX8_nextToken_257 ?_
                  refine v_aloadn X dX8_nextToken_260 rfl rfl ?_
                  refine gf_X8_84 X dX8_nextToken_261 ?_
                  refine v_isub X dX8_nextToken_264 ?_
                  refine v_iconst (v := 2) X dX8_nextToken_265 (by decide) ?_
                  refine v_icmp_le X 273 dX8_nextToken_266 (by decide) (fun c36 => ?_) (fun c36 => ?_)
                  · replace h := (if_pos c36).symm.trans h
                    refine v_iconst (v := 3) X dX8_nextToken_273 (by decide) ?_
                    refine pf_X8_105 X dX8_nextToken_274 ?_
                    cases h
                    exact v_vret X dX8_nextToken_277 rfl
                  · replace h := (if_neg c36).symm.trans h
                    refine v_iconst (v := 0) X dX8_nextToken_269 (by decide) ?_
                    refine v_goto X 274 dX8_nextToken_270 (by decide) ?_
                    refine pf_X8_105 X dX8_nextToken_274 ?_
                    cases h
                    exact v_vret X dX8_nextToken_277 rfl
              · replace h := (if_neg c32).symm.trans h
                refine v_iconst (v := 1) X dX8_nextToken_137 (by decide) ?_
                refine v_goto X 142 dX8_nextToken_138 (by decide) ?_
                refine v_iadd X dX8_nextToken_142 ?_
                refine pf_X8_90 X dX8_nextToken_143 ?_
                refine v_aloadn X dX8_nextToken_146 rfl rfl ?_
                refine gf_X8_105 X dX8_nextToken_147 ?_
                refine v_iconst (v := 3) X dX8_nextToken_150 (by decide) ?_
                refine v_icmp_ne X 277 dX8_nextToken_151 (by decide) (fun c37 => ?_) (fun c37 => ?_)
                · replace h := (if_neg c37).symm.trans h
                  cases h
                  exact v_vret X dX8_nextToken_277 rfl
                · replace h := (if_pos c37).symm.trans h
                  refine v_aloadn X dX8_nextToken_154 rfl rfl ?_
                  refine v_dup X dX8_nextToken_155 rfl ?_
                  refine gf_X8_94 X dX8_nextToken_156 ?_
                  refine v_bipush (v := 48) X dX8_nextToken_159 (by decide) ?_
                  refine v_isub X dX8_nextToken_161 ?_
                  refine pf_X8_94 X dX8_nextToken_162 ?_
                  obtain ⟨g38, q39, h⟩ := bd1_some h
                  refine w_X8_nextToken_165 X  N  (g3 (g3 (g3 g8 10 0 15 (0 : Int32)) 10 0 13 (((g3 g8 10 0 15 (0 : Int32)) 10 0 13) + (1 : Int32))) 10 0 16 (((g3 (g3 g8 10 0 15 (0 : Int32)) 10 0 13 (((g3 g8 10 0 15 (0 : Int32)) 10 0 13) + (1 : Int32))) 10 0 16) - (48 : Int32))) g38 q39 ?_
                  refine v_aloadn X dX8_nextToken_255 rfl rfl ?_
                  refine v_aloadn X dX8_nextToken_256 rfl rfl ?_
                  refine gf_X8_90 X dX8_nextToken_257 ?_
                  refine v_aloadn X dX8_nextToken_260 rfl rfl ?_
                  refine gf_X8_84 X dX8_nextToken_261 ?_
                  refine v_isub X dX8_nextToken_264 ?_
                  refine v_iconst (v := 2) X dX8_nextToken_265 (by decide) ?_
                  refine v_icmp_le X 273 dX8_nextToken_266 (by decide) (fun c40 => ?_) (fun c40 => ?_)
                  · replace h := (if_pos c40).symm.trans h
                    refine v_iconst (v := 3) X dX8_nextToken_273 (by decide) ?_
                    refine pf_X8_105 X dX8_nextToken_274 ?_
                    cases h
                    exact v_vret X dX8_nextToken_277 rfl
                  · replace h := (if_neg c40).symm.trans h
                    refine v_iconst (v := 0) X dX8_nextToken_269 (by decide) ?_
                    refine v_goto X 274 dX8_nextToken_270 (by decide) ?_
                    refine pf_X8_105 X dX8_nextToken_274 ?_
                    cases h
                    exact v_vret X dX8_nextToken_277 rfl
            · replace h := (if_pos c31).symm.trans h
              refine v_iconst (v := 4) X dX8_nextToken_113 (by decide) ?_
              refine v_goto X 118 dX8_nextToken_114 (by decide) ?_
              refine pf_X8_105 X dX8_nextToken_118 ?_
              refine v_aloadn X dX8_nextToken_121 rfl rfl ?_
              refine v_dup X dX8_nextToken_122 rfl ?_
              refine gf_X8_90 X dX8_nextToken_123 ?_
              refine v_aloadn X dX8_nextToken_126 rfl rfl ?_
              refine gf_X8_90 X dX8_nextToken_127 ?_
              refine v_aloadn X dX8_nextToken_130 rfl rfl ?_
              refine gf_X8_77 X dX8_nextToken_131 ?_
              refine v_icmp_ge X 141 dX8_nextToken_134 (by decide) (fun c41 => ?_) (fun c41 => ?_)
              · replace h := (if_pos c41).symm.trans h
                refine v_iconst (v := 0) X dX8_nextToken_141 (by decide) ?_
                refine v_iadd X dX8_nextToken_142 ?_
                refine pf_X8_90 X dX8_nextToken_143 ?_
                refine v_aloadn X dX8_nextToken_146 rfl rfl ?_
                refine gf_X8_105 X dX8_nextToken_147 ?_
                refine v_iconst (v := 3) X dX8_nextToken_150 (by decide) ?_
                refine v_icmp_ne X 277 dX8_nextToken_151 (by decide) (fun c42 => ?_) (fun c42 => ?_)
                · replace h := (if_neg c42).symm.trans h
                  cases h
                  exact v_vret X dX8_nextToken_277 rfl
                · replace h := (if_pos c42).symm.trans h
                  refine v_aloadn X dX8_nextToken_154 rfl rfl ?_
                  refine v_dup X dX8_nextToken_155 rfl ?_
                  refine gf_X8_94 X dX8_nextToken_156 ?_
                  refine v_bipush (v := 48) X dX8_nextToken_159 (by decide) ?_
                  refine v_isub X dX8_nextToken_161 ?_
                  refine pf_X8_94 X dX8_nextToken_162 ?_
                  obtain ⟨g43, q44, h⟩ := bd1_some h
                  refine w_X8_nextToken_165 X  N  (g3 (g3 (g3 g8 10 0 15 (4 : Int32)) 10 0 13 (((g3 g8 10 0 15 (4 : Int32)) 10 0 13) + (0 : Int32))) 10 0 16 (((g3 (g3 g8 10 0 15 (4 : Int32)) 10 0 13 (((g3 g8 10 0 15 (4 : Int32)) 10 0 13) + (0 : Int32))) 10 0 16) - (48 : Int32))) g43 q44 ?_
                  refine v_aloadn X dX8_nextToken_255 rfl rfl ?_
                  refine v_aloadn X dX8_nextToken_256 rfl rfl ?_
                  refine gf_X8_90 X dX8_nextToken_257 ?_
                  refine v_aloadn X dX8_nextToken_260 rfl rfl ?_
                  refine gf_X8_84 X dX8_nextToken_261 ?_
                  refine v_isub X dX8_nextToken_264 ?_
                  refine v_iconst (v := 2) X dX8_nextToken_265 (by decide) ?_
                  refine v_icmp_le X 273 dX8_nextToken_266 (by decide) (fun c45 => ?_) (fun c45 => ?_)
                  · replace h := (if_pos c45).symm.trans h
                    refine v_iconst (v := 3) X dX8_nextToken_273 (by decide) ?_
                    refine pf_X8_105 X dX8_nextToken_274 ?_
                    cases h
                    exact v_vret X dX8_nextToken_277 rfl
                  · replace h := (if_neg c45).symm.trans h
                    refine v_iconst (v := 0) X dX8_nextToken_269 (by decide) ?_
                    refine v_goto X 274 dX8_nextToken_270 (by decide) ?_
                    refine pf_X8_105 X dX8_nextToken_274 ?_
                    cases h
                    exact v_vret X dX8_nextToken_277 rfl
              · replace h := (if_neg c41).symm.trans h
                refine v_iconst (v := 1) X dX8_nextToken_137 (by decide) ?_
                refine v_goto X 142 dX8_nextToken_138 (by decide) ?_
                refine v_iadd X dX8_nextToken_142 ?_
                refine pf_X8_90 X dX8_nextToken_143 ?_
                refine v_aloadn X dX8_nextToken_146 rfl rfl ?_
                refine gf_X8_105 X dX8_nextToken_147 ?_
                refine v_iconst (v := 3) X dX8_nextToken_150 (by decide) ?_
                refine v_icmp_ne X 277 dX8_nextToken_151 (by decide) (fun c46 => ?_) (fun c46 => ?_)
                · replace h := (if_neg c46).symm.trans h
                  cases h
                  exact v_vret X dX8_nextToken_277 rfl
                · replace h := (if_pos c46).symm.trans h
                  refine v_aloadn X dX8_nextToken_154 rfl rfl ?_
                  refine v_dup X dX8_nextToken_155 rfl ?_
                  refine gf_X8_94 X dX8_nextToken_156 ?_
                  refine v_bipush (v := 48) X dX8_nextToken_159 (by decide) ?_
                  refine v_isub X dX8_nextToken_161 ?_
                  refine pf_X8_94 X dX8_nextToken_162 ?_
                  obtain ⟨g47, q48, h⟩ := bd1_some h
                  refine w_X8_nextToken_165 X  N  (g3 (g3 (g3 g8 10 0 15 (4 : Int32)) 10 0 13 (((g3 g8 10 0 15 (4 : Int32)) 10 0 13) + (1 : Int32))) 10 0 16 (((g3 (g3 g8 10 0 15 (4 : Int32)) 10 0 13 (((g3 g8 10 0 15 (4 : Int32)) 10 0 13) + (1 : Int32))) 10 0 16) - (48 : Int32))) g47 q48 ?_
                  refine v_aloadn X dX8_nextToken_255 rfl rfl ?_
                  refine v_aloadn X dX8_nextToken_256 rfl rfl ?_
                  refine gf_X8_90 X dX8_nextToken_257 ?_
                  refine v_aloadn X dX8_nextToken_260 rfl rfl ?_
                  refine gf_X8_84 X dX8_nextToken_261 ?_
                  refine v_isub X dX8_nextToken_264 ?_
                  refine v_iconst (v := 2) X dX8_nextToken_265 (by decide) ?_
                  refine v_icmp_le X 273 dX8_nextToken_266 (by decide) (fun c49 => ?_) (fun c49 => ?_)
                  · replace h := (if_pos c49).symm.trans h
                    refine v_iconst (v := 3) X dX8_nextToken_273 (by decide) ?_
                    refine pf_X8_105 X dX8_nextToken_274 ?_
                    cases h
                    exact v_vret X dX8_nextToken_277 rfl
                  · replace h := (if_neg c49).symm.trans h
                    refine v_iconst (v := 0) X dX8_nextToken_269 (by decide) ?_
                    refine v_goto X 274 dX8_nextToken_270 (by decide) ?_
                    refine pf_X8_105 X dX8_nextToken_274 ?_
                    cases h
                    exact v_vret X dX8_nextToken_277 rfl
        · replace h := (if_neg c10).symm.trans h
          refine v_iconst (v := 3) X dX8_nextToken_91 (by decide) ?_
          refine v_goto X 118 dX8_nextToken_92 (by decide) ?_
          refine pf_X8_105 X dX8_nextToken_118 ?_
          refine v_aloadn X dX8_nextToken_121 rfl rfl ?_
          refine v_dup X dX8_nextToken_122 rfl ?_
          refine gf_X8_90 X dX8_nextToken_123 ?_
          refine v_aloadn X dX8_nextToken_126 rfl rfl ?_
          refine gf_X8_90 X dX8_nextToken_127 ?_
          refine v_aloadn X dX8_nextToken_130 rfl rfl ?_
          refine gf_X8_77 X dX8_nextToken_131 ?_
          refine v_icmp_ge X 141 dX8_nextToken_134 (by decide) (fun c50 => ?_) (fun c50 => ?_)
          · replace h := (if_pos c50).symm.trans h
            refine v_iconst (v := 0) X dX8_nextToken_141 (by decide) ?_
            refine v_iadd X dX8_nextToken_142 ?_
            refine pf_X8_90 X dX8_nextToken_143 ?_
            refine v_aloadn X dX8_nextToken_146 rfl rfl ?_
            refine gf_X8_105 X dX8_nextToken_147 ?_
            refine v_iconst (v := 3) X dX8_nextToken_150 (by decide) ?_
            refine v_icmp_ne X 277 dX8_nextToken_151 (by decide) (fun c51 => ?_) (fun c51 => ?_)
            · replace h := (if_neg c51).symm.trans h
              cases h
              exact v_vret X dX8_nextToken_277 rfl
            · replace h := (if_pos c51).symm.trans h
              refine v_aloadn X dX8_nextToken_154 rfl rfl ?_
              refine v_dup X dX8_nextToken_155 rfl ?_
              refine gf_X8_94 X dX8_nextToken_156 ?_
              refine v_bipush (v := 48) X dX8_nextToken_159 (by decide) ?_
              refine v_isub X dX8_nextToken_161 ?_
              refine pf_X8_94 X dX8_nextToken_162 ?_
              obtain ⟨g52, q53, h⟩ := bd1_some h
              refine w_X8_nextToken_165 X  N  (g3 (g3 (g3 g8 10 0 15 (3 : Int32)) 10 0 13 (((g3 g8 10 0 15 (3 : Int32)) 10 0 13) + (0 : Int32))) 10 0 16 (((g3 (g3 g8 10 0 15 (3 : Int32)) 10 0 13 (((g3 g8 10 0 15 (3 : Int32)) 10 0 13) + (0 : Int32))) 10 0 16) - (48 : Int32))) g52 q53 ?_
              refine v_aloadn X dX8_nextToken_255 rfl rfl ?_
              refine v_aloadn X dX8_nextToken_256 rfl rfl ?_
              refine gf_X8_90 X dX8_nextToken_257 ?_
              refine v_aloadn X dX8_nextToken_260 rfl rfl ?_
              refine gf_X8_84 X dX8_nextToken_261 ?_
              refine v_isub X dX8_nextToken_264 ?_
              refine v_iconst (v := 2) X dX8_nextToken_265 (by decide) ?_
              refine v_icmp_le X 273 dX8_nextToken_266 (by decide) (fun c54 => ?_) (fun c54 => ?_)
              · replace h := (if_pos c54).symm.trans h
                refine v_iconst (v := 3) X dX8_nextToken_273 (by decide) ?_
                refine pf_X8_105 X dX8_nextToken_274 ?_
                cases h
                exact v_vret X dX8_nextToken_277 rfl
              · replace h := (if_neg c54).symm.trans h
                refine v_iconst (v := 0) X dX8_nextToken_269 (by decide) ?_
                refine v_goto X 274 dX8_nextToken_270 (by decide) ?_
                refine pf_X8_105 X dX8_nextToken_274 ?_
                cases h
                exact v_vret X dX8_nextToken_277 rfl
          · replace h := (if_neg c50).symm.trans h
            refine v_iconst (v := 1) X dX8_nextToken_137 (by decide) ?_
            refine v_goto X 142 dX8_nextToken_138 (by decide) ?_
            refine v_iadd X dX8_nextToken_142 ?_
            refine pf_X8_90 X dX8_nextToken_143 ?_
            refine v_aloadn X dX8_nextToken_146 rfl rfl ?_
            refine gf_X8_105 X dX8_nextToken_147 ?_
            refine v_iconst (v := 3) X dX8_nextToken_150 (by decide) ?_
            refine v_icmp_ne X 277 dX8_nextToken_151 (by decide) (fun c55 => ?_) (fun c55 => ?_)
            · replace h := (if_neg c55).symm.trans h
              cases h
              exact v_vret X dX8_nextToken_277 rfl
            · replace h := (if_pos c55).symm.trans h
              refine v_aloadn X dX8_nextToken_154 rfl rfl ?_
              refine v_dup X dX8_nextToken_155 rfl ?_
              refine gf_X8_94 X dX8_nextToken_156 ?_
              refine v_bipush (v := 48) X dX8_nextToken_159 (by decide) ?_
              refine v_isub X dX8_nextToken_161 ?_
              refine pf_X8_94 X dX8_nextToken_162 ?_
              obtain ⟨g56, q57, h⟩ := bd1_some h
              refine w_X8_nextToken_165 X  N  (g3 (g3 (g3 g8 10 0 15 (3 : Int32)) 10 0 13 (((g3 g8 10 0 15 (3 : Int32)) 10 0 13) + (1 : Int32))) 10 0 16 (((g3 (g3 g8 10 0 15 (3 : Int32)) 10 0 13 (((g3 g8 10 0 15 (3 : Int32)) 10 0 13) + (1 : Int32))) 10 0 16) - (48 : Int32))) g56 q57 ?_
              refine v_aloadn X dX8_nextToken_255 rfl rfl ?_
              refine v_aloadn X dX8_nextToken_256 rfl rfl ?_
              refine gf_X8_90 X dX8_nextToken_257 ?_
              refine v_aloadn X dX8_nextToken_260 rfl rfl ?_
              refine gf_X8_84 X dX8_nextToken_261 ?_
              refine v_isub X dX8_nextToken_264 ?_
              refine v_iconst (v := 2) X dX8_nextToken_265 (by decide) ?_
              refine v_icmp_le X 273 dX8_nextToken_266 (by decide) (fun c58 => ?_) (fun c58 => ?_)
              · replace h := (if_pos c58).symm.trans h
                refine v_iconst (v := 3) X dX8_nextToken_273 (by decide) ?_
                refine pf_X8_105 X dX8_nextToken_274 ?_
                cases h
                exact v_vret X dX8_nextToken_277 rfl
              · replace h := (if_neg c58).symm.trans h
                refine v_iconst (v := 0) X dX8_nextToken_269 (by decide) ?_
                refine v_goto X 274 dX8_nextToken_270 (by decide) ?_
                refine pf_X8_105 X dX8_nextToken_274 ?_
                cases h
                exact v_vret X dX8_nextToken_277 rfl
      · replace h := (if_neg c6).symm.trans h
        refine v_iconst (v := 2) X dX8_nextToken_70 (by decide) ?_
        refine v_goto X 118 dX8_nextToken_71 (by decide) ?_
        refine pf_X8_105 X dX8_nextToken_118 ?_
        refine v_aloadn X dX8_nextToken_121 rfl rfl ?_
        refine v_dup X dX8_nextToken_122 rfl ?_
        refine gf_X8_90 X dX8_nextToken_123 ?_
        refine v_aloadn X dX8_nextToken_126 rfl rfl ?_
        refine gf_X8_90 X dX8_nextToken_127 ?_
        refine v_aloadn X dX8_nextToken_130 rfl rfl ?_
        refine gf_X8_77 X dX8_nextToken_131 ?_
        refine v_icmp_ge X 141 dX8_nextToken_134 (by decide) (fun c59 => ?_) (fun c59 => ?_)
        · replace h := (if_pos c59).symm.trans h
          refine v_iconst (v := 0) X dX8_nextToken_141 (by decide) ?_
          refine v_iadd X dX8_nextToken_142 ?_
          refine pf_X8_90 X dX8_nextToken_143 ?_
          refine v_aloadn X dX8_nextToken_146 rfl rfl ?_
          refine gf_X8_105 X dX8_nextToken_147 ?_
          refine v_iconst (v := 3) X dX8_nextToken_150 (by decide) ?_
          refine v_icmp_ne X 277 dX8_nextToken_151 (by decide) (fun c60 => ?_) (fun c60 => ?_)
          · replace h := (if_neg c60).symm.trans h
            cases h
            exact v_vret X dX8_nextToken_277 rfl
          · replace h := (if_pos c60).symm.trans h
            refine v_aloadn X dX8_nextToken_154 rfl rfl ?_
            refine v_dup X dX8_nextToken_155 rfl ?_
            refine gf_X8_94 X dX8_nextToken_156 ?_
            refine v_bipush (v := 48) X dX8_nextToken_159 (by decide) ?_
            refine v_isub X dX8_nextToken_161 ?_
            refine pf_X8_94 X dX8_nextToken_162 ?_
            obtain ⟨g61, q62, h⟩ := bd1_some h
            refine w_X8_nextToken_165 X  N  (g3 (g3 (g3 g4 10 0 15 (2 : Int32)) 10 0 13 (((g3 g4 10 0 15 (2 : Int32)) 10 0 13) + (0 : Int32))) 10 0 16 (((g3 (g3 g4 10 0 15 (2 : Int32)) 10 0 13 (((g3 g4 10 0 15 (2 : Int32)) 10 0 13) + (0 : Int32))) 10 0 16) - (48 : Int32))) g61 q62 ?_
            refine v_aloadn X dX8_nextToken_255 rfl rfl ?_
            refine v_aloadn X dX8_nextToken_256 rfl rfl ?_
            refine gf_X8_90 X dX8_nextToken_257 ?_
            refine v_aloadn X dX8_nextToken_260 rfl rfl ?_
            refine gf_X8_84 X dX8_nextToken_261 ?_
            refine v_isub X dX8_nextToken_264 ?_
            refine v_iconst (v := 2) X dX8_nextToken_265 (by decide) ?_
            refine v_icmp_le X 273 dX8_nextToken_266 (by decide) (fun c63 => ?_) (fun c63 => ?_)
            · replace h := (if_pos c63).symm.trans h
              refine v_iconst (v := 3) X dX8_nextToken_273 (by decide) ?_
              refine pf_X8_105 X dX8_nextToken_274 ?_
              cases h
              exact v_vret X dX8_nextToken_277 rfl
            · replace h := (if_neg c63).symm.trans h
              refine v_iconst (v := 0) X dX8_nextToken_269 (by decide) ?_
              refine v_goto X 274 dX8_nextToken_270 (by decide) ?_
              refine pf_X8_105 X dX8_nextToken_274 ?_
              cases h
              exact v_vret X dX8_nextToken_277 rfl
        · replace h := (if_neg c59).symm.trans h
          refine v_iconst (v := 1) X dX8_nextToken_137 (by decide) ?_
          refine v_goto X 142 dX8_nextToken_138 (by decide) ?_
          refine v_iadd X dX8_nextToken_142 ?_
          refine pf_X8_90 X dX8_nextToken_143 ?_
          refine v_aloadn X dX8_nextToken_146 rfl rfl ?_
          refine gf_X8_105 X dX8_nextToken_147 ?_
          refine v_iconst (v := 3) X dX8_nextToken_150 (by decide) ?_
          refine v_icmp_ne X 277 dX8_nextToken_151 (by decide) (fun c64 => ?_) (fun c64 => ?_)
          · replace h := (if_neg c64).symm.trans h
            cases h
            exact v_vret X dX8_nextToken_277 rfl
          · replace h := (if_pos c64).symm.trans h
            refine v_aloadn X dX8_nextToken_154 rfl rfl ?_
            refine v_dup X dX8_nextToken_155 rfl ?_
            refine gf_X8_94 X dX8_nextToken_156 ?_
            refine v_bipush (v := 48) X dX8_nextToken_159 (by decide) ?_
            refine v_isub X dX8_nextToken_161 ?_
            refine pf_X8_94 X dX8_nextToken_162 ?_
            obtain ⟨g65, q66, h⟩ := bd1_some h
            refine w_X8_nextToken_165 X  N  (g3 (g3 (g3 g4 10 0 15 (2 : Int32)) 10 0 13 (((g3 g4 10 0 15 (2 : Int32)) 10 0 13) + (1 : Int32))) 10 0 16 (((g3 (g3 g4 10 0 15 (2 : Int32)) 10 0 13 (((g3 g4 10 0 15 (2 : Int32)) 10 0 13) + (1 : Int32))) 10 0 16) - (48 : Int32))) g65 q66 ?_
            refine v_aloadn X dX8_nextToken_255 rfl rfl ?_
            refine v_aloadn X dX8_nextToken_256 rfl rfl ?_
            refine gf_X8_90 X dX8_nextToken_257 ?_
            refine v_aloadn X dX8_nextToken_260 rfl rfl ?_
            refine gf_X8_84 X dX8_nextToken_261 ?_
            refine v_isub X dX8_nextToken_264 ?_
            refine v_iconst (v := 2) X dX8_nextToken_265 (by decide) ?_
            refine v_icmp_le X 273 dX8_nextToken_266 (by decide) (fun c67 => ?_) (fun c67 => ?_)
            · replace h := (if_pos c67).symm.trans h
              refine v_iconst (v := 3) X dX8_nextToken_273 (by decide) ?_
              refine pf_X8_105 X dX8_nextToken_274 ?_
              cases h
              exact v_vret X dX8_nextToken_277 rfl
            · replace h := (if_neg c67).symm.trans h
              refine v_iconst (v := 0) X dX8_nextToken_269 (by decide) ?_
              refine v_goto X 274 dX8_nextToken_270 (by decide) ?_
              refine pf_X8_105 X dX8_nextToken_274 ?_
              cases h
              exact v_vret X dX8_nextToken_277 rfl
    · replace h := (if_pos c2).symm.trans h
      refine v_iconst (v := 1) X dX8_nextToken_49 (by decide) ?_
      refine v_goto X 118 dX8_nextToken_50 (by decide) ?_
      refine pf_X8_105 X dX8_nextToken_118 ?_
      refine v_aloadn X dX8_nextToken_121 rfl rfl ?_
      refine v_dup X dX8_nextToken_122 rfl ?_
      refine gf_X8_90 X dX8_nextToken_123 ?_
      refine v_aloadn X dX8_nextToken_126 rfl rfl ?_
      refine gf_X8_90 X dX8_nextToken_127 ?_
      refine v_aloadn X dX8_nextToken_130 rfl rfl ?_
      refine gf_X8_77 X dX8_nextToken_131 ?_
      refine v_icmp_ge X 141 dX8_nextToken_134 (by decide) (fun c68 => ?_) (fun c68 => ?_)
      · replace h := (if_pos c68).symm.trans h
        refine v_iconst (v := 0) X dX8_nextToken_141 (by decide) ?_
        refine v_iadd X dX8_nextToken_142 ?_
        refine pf_X8_90 X dX8_nextToken_143 ?_
        refine v_aloadn X dX8_nextToken_146 rfl rfl ?_
        refine gf_X8_105 X dX8_nextToken_147 ?_
        refine v_iconst (v := 3) X dX8_nextToken_150 (by decide) ?_
        refine v_icmp_ne X 277 dX8_nextToken_151 (by decide) (fun c69 => ?_) (fun c69 => ?_)
        · replace h := (if_neg c69).symm.trans h
          cases h
          exact v_vret X dX8_nextToken_277 rfl
        · replace h := (if_pos c69).symm.trans h
          refine v_aloadn X dX8_nextToken_154 rfl rfl ?_
          refine v_dup X dX8_nextToken_155 rfl ?_
          refine gf_X8_94 X dX8_nextToken_156 ?_
          refine v_bipush (v := 48) X dX8_nextToken_159 (by decide) ?_
          refine v_isub X dX8_nextToken_161 ?_
          refine pf_X8_94 X dX8_nextToken_162 ?_
          obtain ⟨g70, q71, h⟩ := bd1_some h
          refine w_X8_nextToken_165 X  N  (g3 (g3 (g3 (g3 (g3 g 10 0 14 (g 10 0 13)) 10 0 16 (-1000000 : Int32)) 10 0 15 (1 : Int32)) 10 0 13 (((g3 (g3 (g3 g 10 0 14 (g 10 0 13)) 10 0 16 (-1000000 : Int32)) 10 0 15 (1 : Int32)) 10 0 13) + (0 : Int32))) 10 0 16 (((g3 (g3 (g3 (g3 g 10 0 14 (g 10 0 13)) 10 0 16 (-1000000 : Int32)) 10 0 15 (1 : Int32)) 10 0 13 (((g3 (g3 (g3 g 10 0 14 (g 10 0 13)) 10 0 16 (-1000000 : Int32)) 10 0 15 (1 : Int32)) 10 0 13) + (0 : Int32))) 10 0 16) - (48 : Int32))) g70 q71 ?_
          refine v_aloadn X dX8_nextToken_255 rfl rfl ?_
          refine v_aloadn X dX8_nextToken_256 rfl rfl ?_
          refine gf_X8_90 X dX8_nextToken_257 ?_
          refine v_aloadn X dX8_nextToken_260 rfl rfl ?_
          refine gf_X8_84 X dX8_nextToken_261 ?_
          refine v_isub X dX8_nextToken_264 ?_
          refine v_iconst (v := 2) X dX8_nextToken_265 (by decide) ?_
          refine v_icmp_le X 273 dX8_nextToken_266 (by decide) (fun c72 => ?_) (fun c72 => ?_)
          · replace h := (if_pos c72).symm.trans h
            refine v_iconst (v := 3) X dX8_nextToken_273 (by decide) ?_
            refine pf_X8_105 X dX8_nextToken_274 ?_
            cases h
            exact v_vret X dX8_nextToken_277 rfl
          · replace h := (if_neg c72).symm.trans h
            refine v_iconst (v := 0) X dX8_nextToken_269 (by decide) ?_
            refine v_goto X 274 dX8_nextToken_270 (by decide) ?_
            refine pf_X8_105 X dX8_nextToken_274 ?_
            cases h
            exact v_vret X dX8_nextToken_277 rfl
      · replace h := (if_neg c68).symm.trans h
        refine v_iconst (v := 1) X dX8_nextToken_137 (by decide) ?_
        refine v_goto X 142 dX8_nextToken_138 (by decide) ?_
        refine v_iadd X dX8_nextToken_142 ?_
        refine pf_X8_90 X dX8_nextToken_143 ?_
        refine v_aloadn X dX8_nextToken_146 rfl rfl ?_
        refine gf_X8_105 X dX8_nextToken_147 ?_
        refine v_iconst (v := 3) X dX8_nextToken_150 (by decide) ?_
        refine v_icmp_ne X 277 dX8_nextToken_151 (by decide) (fun c73 => ?_) (fun c73 => ?_)
        · replace h := (if_neg c73).symm.trans h
          cases h
          exact v_vret X dX8_nextToken_277 rfl
        · replace h := (if_pos c73).symm.trans h
          refine v_aloadn X dX8_nextToken_154 rfl rfl ?_
          refine v_dup X dX8_nextToken_155 rfl ?_
          refine gf_X8_94 X dX8_nextToken_156 ?_
          refine v_bipush (v := 48) X dX8_nextToken_159 (by decide) ?_
          refine v_isub X dX8_nextToken_161 ?_
          refine pf_X8_94 X dX8_nextToken_162 ?_
          obtain ⟨g74, q75, h⟩ := bd1_some h
          refine w_X8_nextToken_165 X  N  (g3 (g3 (g3 (g3 (g3 g 10 0 14 (g 10 0 13)) 10 0 16 (-1000000 : Int32)) 10 0 15 (1 : Int32)) 10 0 13 (((g3 (g3 (g3 g 10 0 14 (g 10 0 13)) 10 0 16 (-1000000 : Int32)) 10 0 15 (1 : Int32)) 10 0 13) + (1 : Int32))) 10 0 16 (((g3 (g3 (g3 (g3 g 10 0 14 (g 10 0 13)) 10 0 16 (-1000000 : Int32)) 10 0 15 (1 : Int32)) 10 0 13 (((g3 (g3 (g3 g 10 0 14 (g 10 0 13)) 10 0 16 (-1000000 : Int32)) 10 0 15 (1 : Int32)) 10 0 13) + (1 : Int32))) 10 0 16) - (48 : Int32))) g74 q75 ?_
          refine v_aloadn X dX8_nextToken_255 rfl rfl ?_
          refine v_aloadn X dX8_nextToken_256 rfl rfl ?_
          refine gf_X8_90 X dX8_nextToken_257 ?_
          refine v_aloadn X dX8_nextToken_260 rfl rfl ?_
          refine gf_X8_84 X dX8_nextToken_261 ?_
          refine v_isub X dX8_nextToken_264 ?_
          refine v_iconst (v := 2) X dX8_nextToken_265 (by decide) ?_
          refine v_icmp_le X 273 dX8_nextToken_266 (by decide) (fun c76 => ?_) (fun c76 => ?_)
          · replace h := (if_pos c76).symm.trans h
            refine v_iconst (v := 3) X dX8_nextToken_273 (by decide) ?_
            refine pf_X8_105 X dX8_nextToken_274 ?_
            cases h
            exact v_vret X dX8_nextToken_277 rfl
          · replace h := (if_neg c76).symm.trans h
            refine v_iconst (v := 0) X dX8_nextToken_269 (by decide) ?_
            refine v_goto X 274 dX8_nextToken_270 (by decide) ?_
            refine pf_X8_105 X dX8_nextToken_274 ?_
            cases h
            exact v_vret X dX8_nextToken_277 rfl
  · replace h := (if_neg c1).symm.trans h
    refine v_aloadn X dX8_nextToken_20 rfl rfl ?_
    refine gf_X8_34 X dX8_nextToken_21 ?_
    refine v_aloadn X dX8_nextToken_24 rfl rfl ?_
    refine gf_X8_90 X dX8_nextToken_25 ?_
    obtain ⟨j77, q78, h⟩ := bd1_some h
    obtain ⟨ej77, lj77⟩ := ix_spec q78
    refine alM X (by decide +kernel) j77 ej77 lj77 dX8_nextToken_28 ?_
    refine v_goto X 34 dX8_nextToken_29 (by decide) ?_
    refine pf_X8_94 X dX8_nextToken_34 ?_
    refine v_aloadn X dX8_nextToken_37 rfl rfl ?_
    refine v_aloadn X dX8_nextToken_38 rfl rfl ?_
    refine gf_X8_90 X dX8_nextToken_39 ?_
    refine v_aloadn X dX8_nextToken_42 rfl rfl ?_
    refine gf_X8_77 X dX8_nextToken_43 ?_
    refine v_icmp_ne X 53 dX8_nextToken_46 (by decide) (fun c79 => ?_) (fun c79 => ?_)
    · replace h := (if_neg c79).symm.trans h
      refine v_aloadn X dX8_nextToken_53 rfl rfl ?_
      refine gf_X8_94 X dX8_nextToken_54 ?_
      refine v_i2l X dX8_nextToken_57 ?_
      refine v_ldc2 X kl_X8_97 dX8_nextToken_58 ?_
      refine v_ldc2 X kl_X8_99 dX8_nextToken_61 ?_
      obtain ⟨r82, g81, q80, h⟩ := bd2_some h
      refine v_callSI (As := [.long (((g3 (g3 g 10 0 14 (g 10 0 13)) 10 0 16 ((g3 g 10 0 14 (g 10 0 13)) 11 11 j77)) 10 0 16).toInt64), .long (97 : Int64), .long (122 : Int64)]) (rest := [.ref (ad (8, 0, 0))]) X (c_X8_in l D ad cy X.2.2.2.2.2.2.2.2.1 N (((g3 (g3 g 10 0 14 (g 10 0 13)) 10 0 16 ((g3 g 10 0 14 (g 10 0 13)) 11 11 j77)) 10 0 16).toInt64) (97 : Int64) (122 : Int64) (g3 (g3 g 10 0 14 (g 10 0 13)) 10 0 16 ((g3 g 10 0 14 (g 10 0 13)) 11 11 j77)) r82 g81  q80) mw_X8_in ml_X8_60 (by decide) rfl rfl (Nat.le_of_ble_eq_true rfl) dX8_nextToken_64 ?_
      refine v_if_eq X 74 dX8_nextToken_67 (by decide) (fun c83 => ?_) (fun c83 => ?_)
      · replace h := (if_pos c83).symm.trans h
        refine v_aloadn X dX8_nextToken_74 rfl rfl ?_
        refine gf_X8_94 X dX8_nextToken_75 ?_
        refine v_i2l X dX8_nextToken_78 ?_
        refine v_ldc2 X kl_X8_101 dX8_nextToken_79 ?_
        refine v_ldc2 X kl_X8_103 dX8_nextToken_82 ?_
        obtain ⟨r86, g85, q84, h⟩ := bd2_some h
        refine v_callSI (As := [.long ((g81 10 0 16).toInt64), .long (48 : Int64), .long (57 : Int64)]) (rest := [.ref (ad (8, 0, 0))]) X (c_X8_in l D ad cy X.2.2.2.2.2.2.2.2.1 N ((g81 10 0 16).toInt64) (48 : Int64) (57 : Int64) g81 r86 g85  q84) mw_X8_in ml_X8_60 (by decide) rfl rfl (Nat.le_of_ble_eq_true rfl) dX8_nextToken_85 ?_
        refine v_if_eq X 95 dX8_nextToken_88 (by decide) (fun c87 => ?_) (fun c87 => ?_)
        · replace h := (if_pos c87).symm.trans h
          refine v_aloadn X dX8_nextToken_95 rfl rfl ?_
          refine gf_X8_94 X dX8_nextToken_96 ?_
          refine v_bipush (v := 44) X dX8_nextToken_99 (by decide) ?_
          refine v_icmp_eq X 113 dX8_nextToken_101 (by decide) (fun c88 => ?_) (fun c88 => ?_)
          · replace h := (if_pos c88).symm.trans h
            refine v_iconst (v := 4) X dX8_nextToken_113 (by decide) ?_
            refine v_goto X 118 dX8_nextToken_114 (by decide) ?_
            refine pf_X8_105 X dX8_nextToken_118 ?_
            refine v_aloadn X dX8_nextToken_121 rfl rfl ?_
            refine v_dup X dX8_nextToken_122 rfl ?_
            refine gf_X8_90 X dX8_nextToken_123 ?_
            refine v_aloadn X dX8_nextToken_126 rfl rfl ?_
            refine gf_X8_90 X dX8_nextToken_127 ?_
            refine v_aloadn X dX8_nextToken_130 rfl rfl ?_
            refine gf_X8_77 X dX8_nextToken_131 ?_
            refine v_icmp_ge X 141 dX8_nextToken_134 (by decide) (fun c89 => ?_) (fun c89 => ?_)
            · replace h := (if_pos c89).symm.trans h
              refine v_iconst (v := 0) X dX8_nextToken_141 (by decide) ?_
              refine v_iadd X dX8_nextToken_142 ?_
              refine pf_X8_90 X dX8_nextToken_143 ?_
              refine v_aloadn X dX8_nextToken_146 rfl rfl ?_
              refine gf_X8_105 X dX8_nextToken_147 ?_
              refine v_iconst (v := 3) X dX8_nextToken_150 (by decide) ?_
              refine v_icmp_ne X 277 dX8_nextToken_151 (by decide) (fun c90 => ?_) (fun c90 => ?_)
              · replace h := (if_neg c90).symm.trans h
                cases h
                exact v_vret X dX8_nextToken_277 rfl
              · replace h := (if_pos c90).symm.trans h
                refine v_aloadn X dX8_nextToken_154 rfl rfl ?_
                refine v_dup X dX8_nextToken_155 rfl ?_
                refine gf_X8_94 X dX8_nextToken_156 ?_
                refine v_bipush (v := 48) X dX8_nextToken_159 (by decide) ?_
                refine v_isub X dX8_nextToken_161 ?_
                refine pf_X8_94 X dX8_nextToken_162 ?_
                obtain ⟨g91, q92, h⟩ := bd1_some h
                refine w_X8_nextToken_165 X  N  (g3 (g3 (g3 g85 10 0 15 (4 : Int32)) 10 0 13 (((g3 g85 10 0 15 (4 : Int32)) 10 0 13) + (0 : Int32))) 10 0 16 (((g3 (g3 g85 10 0 15 (4 : Int32)) 10 0 13 (((g3 g85 10 0 15 (4 : Int32)) 10 0 13) + (0 : Int32))) 10 0 16) - (48 : Int32))) g91 q92 ?_
                refine v_aloadn X dX8_nextToken_255 rfl rfl ?_
                refine v_aloadn X dX8_nextToken_256 rfl rfl ?_
                refine gf_X8_90 X dX8_nextToken_257 ?_
                refine v_aloadn X dX8_nextToken_260 rfl rfl ?_
                refine gf_X8_84 X dX8_nextToken_261 ?_
                refine v_isub X dX8_nextToken_264 ?_
                refine v_iconst (v := 2) X dX8_nextToken_265 (by decide) ?_
                refine v_icmp_le X 273 dX8_nextToken_266 (by decide) (fun c93 => ?_) (fun c93 => ?_)
                · replace h := (if_pos c93).symm.trans h
                  refine v_iconst (v := 3) X dX8_nextToken_273 (by decide) ?_
                  refine pf_X8_105 X dX8_nextToken_274 ?_
                  cases h
                  exact v_vret X dX8_nextToken_277 rfl
                · replace h := (if_neg c93).symm.trans h
                  refine v_iconst (v := 0) X dX8_nextToken_269 (by decide) ?_
                  refine v_goto X 274 dX8_nextToken_270 (by decide) ?_
                  refine pf_X8_105 X dX8_nextToken_274 ?_
                  cases h
                  exact v_vret X dX8_nextToken_277 rfl
            · replace h := (if_neg c89).symm.trans h
              refine v_iconst (v := 1) X dX8_nextToken_137 (by decide) ?_
              refine v_goto X 142 dX8_nextToken_138 (by decide) ?_
              refine v_iadd X dX8_nextToken_142 ?_
              refine pf_X8_90 X dX8_nextToken_143 ?_
              refine v_aloadn X dX8_nextToken_146 rfl rfl ?_
              refine gf_X8_105 X dX8_nextToken_147 ?_
              refine v_iconst (v := 3) X dX8_nextToken_150 (by decide) ?_
              refine v_icmp_ne X 277 dX8_nextToken_151 (by decide) (fun c94 => ?_) (fun c94 => ?_)
              · replace h := (if_neg c94).symm.trans h
                cases h
                exact v_vret X dX8_nextToken_277 rfl
              · replace h := (if_pos c94).symm.trans h
                refine v_aloadn X dX8_nextToken_154 rfl rfl ?_
                refine v_dup X dX8_nextToken_155 rfl ?_
                refine gf_X8_94 X dX8_nextToken_156 ?_
                refine v_bipush (v := 48) X dX8_nextToken_159 (by decide) ?_
                refine v_isub X dX8_nextToken_161 ?_
                refine pf_X8_94 X dX8_nextToken_162 ?_
                obtain ⟨g95, q96, h⟩ := bd1_some h
                refine w_X8_nextToken_165 X  N  (g3 (g3 (g3 g85 10 0 15 (4 : Int32)) 10 0 13 (((g3 g85 10 0 15 (4 : Int32)) 10 0 13) + (1 : Int32))) 10 0 16 (((g3 (g3 g85 10 0 15 (4 : Int32)) 10 0 13 (((g3 g85 10 0 15 (4 : Int32)) 10 0 13) + (1 : Int32))) 10 0 16) - (48 : Int32))) g95 q96 ?_
                refine v_aloadn X dX8_nextToken_255 rfl rfl ?_
                refine v_aloadn X dX8_nextToken_256 rfl rfl ?_
                refine gf_X8_90 X dX8_nextToken_257 ?_
                refine v_aloadn X dX8_nextToken_260 rfl rfl ?_
                refine gf_X8_84 X dX8_nextToken_261 ?_
                refine v_isub X dX8_nextToken_264 ?_
                refine v_iconst (v := 2) X dX8_nextToken_265 (by decide) ?_
                refine v_icmp_le X 273 dX8_nextToken_266 (by decide) (fun c97 => ?_) (fun c97 => ?_)
                · replace h := (if_pos c97).symm.trans h
                  refine v_iconst (v := 3) X dX8_nextToken_273 (by decide) ?_
                  refine pf_X8_105 X dX8_nextToken_274 ?_
                  cases h
                  exact v_vret X dX8_nextToken_277 rfl
                · replace h := (if_neg c97).symm.trans h
                  refine v_iconst (v := 0) X dX8_nextToken_269 (by decide) ?_
                  refine v_goto X 274 dX8_nextToken_270 (by decide) ?_
                  refine pf_X8_105 X dX8_nextToken_274 ?_
                  cases h
                  exact v_vret X dX8_nextToken_277 rfl
          · replace h := (if_neg c88).symm.trans h
            refine v_aloadn X dX8_nextToken_104 rfl rfl ?_
            refine gf_X8_94 X dX8_nextToken_105 ?_
            refine v_bipush (v := 59) X dX8_nextToken_108 (by decide) ?_
            refine v_icmp_ne X 117 dX8_nextToken_110 (by decide) (fun c98 => ?_) (fun c98 => ?_)
            · replace h := (if_neg c98).symm.trans h
              refine v_iconst (v := 0) X dX8_nextToken_117 (by decide) ?_
              refine pf_X8_105 X dX8_nextToken_118 ?_
              refine v_aloadn X dX8_nextToken_121 rfl rfl ?_
              refine v_dup X dX8_nextToken_122 rfl ?_
              refine gf_X8_90 X dX8_nextToken_123 ?_
              refine v_aloadn X dX8_nextToken_126 rfl rfl ?_
              refine gf_X8_90 X dX8_nextToken_127 ?_
              refine v_aloadn X dX8_nextToken_130 rfl rfl ?_
              refine gf_X8_77 X dX8_nextToken_131 ?_
              refine v_icmp_ge X 141 dX8_nextToken_134 (by decide) (fun c99 => ?_) (fun c99 => ?_)
              · replace h := (if_pos c99).symm.trans h
                refine v_iconst (v := 0) X dX8_nextToken_141 (by decide) ?_
                refine v_iadd X dX8_nextToken_142 ?_
                refine pf_X8_90 X dX8_nextToken_143 ?_
                refine v_aloadn X dX8_nextToken_146 rfl rfl ?_
                refine gf_X8_105 X dX8_nextToken_147 ?_
                refine v_iconst (v := 3) X dX8_nextToken_150 (by decide) ?_
                refine v_icmp_ne X 277 dX8_nextToken_151 (by decide) (fun c100 => ?_) (fun c100 => ?_)
                · replace h := (if_neg c100).symm.trans h
                  cases h
                  exact v_vret X dX8_nextToken_277 rfl
                · replace h := (if_pos c100).symm.trans h
                  refine v_aloadn X dX8_nextToken_154 rfl rfl ?_
                  refine v_dup X dX8_nextToken_155 rfl ?_
                  refine gf_X8_94 X dX8_nextToken_156 ?_
                  refine v_bipush (v := 48) X dX8_nextToken_159 (by decide) ?_
                  refine v_isub X dX8_nextToken_161 ?_
                  refine pf_X8_94 X dX8_nextToken_162 ?_
                  obtain ⟨g101, q102, h⟩ := bd1_some h
                  refine w_X8_nextToken_165 X  N  (g3 (g3 (g3 g85 10 0 15 (0 : Int32)) 10 0 13 (((g3 g85 10 0 15 (0 : Int32)) 10 0 13) + (0 : Int32))) 10 0 16 (((g3 (g3 g85 10 0 15 (0 : Int32)) 10 0 13 (((g3 g85 10 0 15 (0 : Int32)) 10 0 13) + (0 : Int32))) 10 0 16) - (48 : Int32))) g101 q102 ?_
                  refine v_aloadn X dX8_nextToken_255 rfl rfl ?_
                  refine v_aloadn X dX8_nextToken_256 rfl rfl ?_
                  refine gf_X8_90 X dX8_nextToken_257 ?_
                  refine v_aloadn X dX8_nextToken_260 rfl rfl ?_
                  refine gf_X8_84 X dX8_nextToken_261 ?_
                  refine v_isub X dX8_nextToken_264 ?_
                  refine v_iconst (v := 2) X dX8_nextToken_265 (by decide) ?_
                  refine v_icmp_le X 273 dX8_nextToken_266 (by decide) (fun c103 => ?_) (fun c103 => ?_)
                  · replace h := (if_pos c103).symm.trans h
                    refine v_iconst (v := 3) X dX8_nextToken_273 (by decide) ?_
                    refine pf_X8_105 X dX8_nextToken_274 ?_
                    cases h
                    exact v_vret X dX8_nextToken_277 rfl
                  · replace h := (if_neg c103).symm.trans h
                    refine v_iconst (v := 0) X dX8_nextToken_269 (by decide) ?_
                    refine v_goto X 274 dX8_nextToken_270 (by decide) ?_
                    refine pf_X8_105 X dX8_nextToken_274 ?_
                    cases h
                    exact v_vret X dX8_nextToken_277 rfl
              · replace h := (if_neg c99).symm.trans h
                refine v_iconst (v := 1) X dX8_nextToken_137 (by decide) ?_
                refine v_goto X 142 dX8_nextToken_138 (by decide) ?_
                refine v_iadd X dX8_nextToken_142 ?_
                refine pf_X8_90 X dX8_nextToken_143 ?_
                refine v_aloadn X dX8_nextToken_146 rfl rfl ?_
                refine gf_X8_105 X dX8_nextToken_147 ?_
                refine v_iconst (v := 3) X dX8_nextToken_150 (by decide) ?_
                refine v_icmp_ne X 277 dX8_nextToken_151 (by decide) (fun c104 => ?_) (fun c104 => ?_)
                · replace h := (if_neg c104).symm.trans h
                  cases h
                  exact v_vret X dX8_nextToken_277 rfl
                · replace h := (if_pos c104).symm.trans h
                  refine v_aloadn X dX8_nextToken_154 rfl rfl ?_
                  refine v_dup X dX8_nextToken_155 rfl ?_
                  refine gf_X8_94 X dX8_nextToken_156 ?_
                  refine v_bipush (v := 48) X dX8_nextToken_159 (by decide) ?_
                  refine v_isub X dX8_nextToken_161 ?_
                  refine pf_X8_94 X dX8_nextToken_162 ?_
                  obtain ⟨g105, q106, h⟩ := bd1_some h
                  refine w_X8_nextToken_165 X  N  (g3 (g3 (g3 g85 10 0 15 (0 : Int32)) 10 0 13 (((g3 g85 10 0 15 (0 : Int32)) 10 0 13) + (1 : Int32))) 10 0 16 (((g3 (g3 g85 10 0 15 (0 : Int32)) 10 0 13 (((g3 g85 10 0 15 (0 : Int32)) 10 0 13) + (1 : Int32))) 10 0 16) - (48 : Int32))) g105 q106 ?_
                  refine v_aloadn X dX8_nextToken_255 rfl rfl ?_
                  refine v_aloadn X dX8_nextToken_256 rfl rfl ?_
                  refine gf_X8_90 X dX8_nextToken_257 ?_
                  refine v_aloadn X dX8_nextToken_260 rfl rfl ?_
                  refine gf_X8_84 X dX8_nextToken_261 ?_
                  refine v_isub X dX8_nextToken_264 ?_
                  refine v_iconst (v := 2) X dX8_nextToken_265 (by decide) ?_
                  refine v_icmp_le X 273 dX8_nextToken_266 (by decide) (fun c107 => ?_) (fun c107 => ?_)
                  · replace h := (if_pos c107).symm.trans h
                    refine v_iconst (v := 3) X dX8_nextToken_273 (by decide) ?_
                    refine pf_X8_105 X dX8_nextToken_274 ?_
                    cases h
                    exact v_vret X dX8_nextToken_277 rfl
                  · replace h := (if_neg c107).symm.trans h
                    refine v_iconst (v := 0) X dX8_nextToken_269 (by decide) ?_
                    refine v_goto X 274 dX8_nextToken_270 (by decide) ?_
                    refine pf_X8_105 X dX8_nextToken_274 ?_
                    cases h
                    exact v_vret X dX8_nextToken_277 rfl
            · replace h := (if_pos c98).symm.trans h
              refine v_iconst (v := 4) X dX8_nextToken_113 (by decide) ?_
              refine v_goto X 118 dX8_nextToken_114 (by decide) ?_
              refine pf_X8_105 X dX8_nextToken_118 ?_
              refine v_aloadn X dX8_nextToken_121 rfl rfl ?_
              refine v_dup X dX8_nextToken_122 rfl ?_
              refine gf_X8_90 X dX8_nextToken_123 ?_
              refine v_aloadn X dX8_nextToken_126 rfl rfl ?_
              refine gf_X8_90 X dX8_nextToken_127 ?_
              refine v_aloadn X dX8_nextToken_130 rfl rfl ?_
              refine gf_X8_77 X dX8_nextToken_131 ?_
              refine v_icmp_ge X 141 dX8_nextToken_134 (by decide) (fun c108 => ?_) (fun c108 => ?_)
              · replace h := (if_pos c108).symm.trans h
                refine v_iconst (v := 0) X dX8_nextToken_141 (by decide) ?_
                refine v_iadd X dX8_nextToken_142 ?_
                refine pf_X8_90 X dX8_nextToken_143 ?_
                refine v_aloadn X dX8_nextToken_146 rfl rfl ?_
                refine gf_X8_105 X dX8_nextToken_147 ?_
                refine v_iconst (v := 3) X dX8_nextToken_150 (by decide) ?_
                refine v_icmp_ne X 277 dX8_nextToken_151 (by decide) (fun c109 => ?_) (fun c109 => ?_)
                · replace h := (if_neg c109).symm.trans h
                  cases h
                  exact v_vret X dX8_nextToken_277 rfl
                · replace h := (if_pos c109).symm.trans h
                  refine v_aloadn X dX8_nextToken_154 rfl rfl ?_
                  refine v_dup X dX8_nextToken_155 rfl ?_
                  refine gf_X8_94 X dX8_nextToken_156 ?_
                  refine v_bipush (v := 48) X dX8_nextToken_159 (by decide) ?_
                  refine v_isub X dX8_nextToken_161 ?_
                  refine pf_X8_94 X dX8_nextToken_162 ?_
                  obtain ⟨g110, q111, h⟩ := bd1_some h
                  refine w_X8_nextToken_165 X  N  (g3 (g3 (g3 g85 10 0 15 (4 : Int32)) 10 0 13 (((g3 g85 10 0 15 (4 : Int32)) 10 0 13) + (0 : Int32))) 10 0 16 (((g3 (g3 g85 10 0 15 (4 : Int32)) 10 0 13 (((g3 g85 10 0 15 (4 : Int32)) 10 0 13) + (0 : Int32))) 10 0 16) - (48 : Int32))) g110 q111 ?_
                  refine v_aloadn X dX8_nextToken_255 rfl rfl ?_
                  refine v_aloadn X dX8_nextToken_256 rfl rfl ?_
                  refine gf_X8_90 X dX8_nextToken_257 ?_
                  refine v_aloadn X dX8_nextToken_260 rfl rfl ?_
                  refine gf_X8_84 X dX8_nextToken_261 ?_
                  refine v_isub X dX8_nextToken_264 ?_
                  refine v_iconst (v := 2) X dX8_nextToken_265 (by decide) ?_
                  refine v_icmp_le X 273 dX8_nextToken_266 (by decide) (fun c112 => ?_) (fun c112 => ?_)
                  · replace h := (if_pos c112).symm.trans h
                    refine v_iconst (v := 3) X dX8_nextToken_273 (by decide) ?_
                    refine pf_X8_105 X dX8_nextToken_274 ?_
                    cases h
                    exact v_vret X dX8_nextToken_277 rfl
                  · replace h := (if_neg c112).symm.trans h
                    refine v_iconst (v := 0) X dX8_nextToken_269 (by decide) ?_
                    refine v_goto X 274 dX8_nextToken_270 (by decide) ?_
                    refine pf_X8_105 X dX8_nextToken_274 ?_
                    cases h
                    exact v_vret X dX8_nextToken_277 rfl
              · replace h := (if_neg c108).symm.trans h
                refine v_iconst (v := 1) X dX8_nextToken_137 (by decide) ?_
                refine v_goto X 142 dX8_nextToken_138 (by decide) ?_
                refine v_iadd X dX8_nextToken_142 ?_
                refine pf_X8_90 X dX8_nextToken_143 ?_
                refine v_aloadn X dX8_nextToken_146 rfl rfl ?_
                refine gf_X8_105 X dX8_nextToken_147 ?_
                refine v_iconst (v := 3) X dX8_nextToken_150 (by decide) ?_
                refine v_icmp_ne X 277 dX8_nextToken_151 (by decide) (fun c113 => ?_) (fun c113 => ?_)
                · replace h := (if_neg c113).symm.trans h
                  cases h
                  exact v_vret X dX8_nextToken_277 rfl
                · replace h := (if_pos c113).symm.trans h
                  refine v_aloadn X dX8_nextToken_154 rfl rfl ?_
                  refine v_dup X dX8_nextToken_155 rfl ?_
                  refine gf_X8_94 X dX8_nextToken_156 ?_
                  refine v_bipush (v := 48) X dX8_nextToken_159 (by decide) ?_
                  refine v_isub X dX8_nextToken_161 ?_
                  refine pf_X8_94 X dX8_nextToken_162 ?_
                  obtain ⟨g114, q115, h⟩ := bd1_some h
                  refine w_X8_nextToken_165 X  N  (g3 (g3 (g3 g85 10 0 15 (4 : Int32)) 10 0 13 (((g3 g85 10 0 15 (4 : Int32)) 10 0 13) + (1 : Int32))) 10 0 16 (((g3 (g3 g85 10 0 15 (4 : Int32)) 10 0 13 (((g3 g85 10 0 15 (4 : Int32)) 10 0 13) + (1 : Int32))) 10 0 16) - (48 : Int32))) g114 q115 ?_
                  refine v_aloadn X dX8_nextToken_255 rfl rfl ?_
                  refine v_aloadn X dX8_nextToken_256 rfl rfl ?_
                  refine gf_X8_90 X dX8_nextToken_257 ?_
                  refine v_aloadn X dX8_nextToken_260 rfl rfl ?_
                  refine gf_X8_84 X dX8_nextToken_261 ?_
                  refine v_isub X dX8_nextToken_264 ?_
                  refine v_iconst (v := 2) X dX8_nextToken_265 (by decide) ?_
                  refine v_icmp_le X 273 dX8_nextToken_266 (by decide) (fun c116 => ?_) (fun c116 => ?_)
                  · replace h := (if_pos c116).symm.trans h
                    refine v_iconst (v := 3) X dX8_nextToken_273 (by decide) ?_
                    refine pf_X8_105 X dX8_nextToken_274 ?_
                    cases h
                    exact v_vret X dX8_nextToken_277 rfl
                  · replace h := (if_neg c116).symm.trans h
                    refine v_iconst (v := 0) X dX8_nextToken_269 (by decide) ?_
                    refine v_goto X 274 dX8_nextToken_270 (by decide) ?_
                    refine pf_X8_105 X dX8_nextToken_274 ?_
                    cases h
                    exact v_vret X dX8_nextToken_277 rfl
        · replace h := (if_neg c87).symm.trans h
          refine v_iconst (v := 3) X dX8_nextToken_91 (by decide) ?_
          refine v_goto X 118 dX8_nextToken_92 (by decide) ?_
          refine pf_X8_105 X dX8_nextToken_118 ?_
          refine v_aloadn X dX8_nextToken_121 rfl rfl ?_
          refine v_dup X dX8_nextToken_122 rfl ?_
          refine gf_X8_90 X dX8_nextToken_123 ?_
          refine v_aloadn X dX8_nextToken_126 rfl rfl ?_
          refine gf_X8_90 X dX8_nextToken_127 ?_
          refine v_aloadn X dX8_nextToken_130 rfl rfl ?_
          refine gf_X8_77 X dX8_nextToken_131 ?_
          refine v_icmp_ge X 141 dX8_nextToken_134 (by decide) (fun c117 => ?_) (fun c117 => ?_)
          · replace h := (if_pos c117).symm.trans h
            refine v_iconst (v := 0) X dX8_nextToken_141 (by decide) ?_
            refine v_iadd X dX8_nextToken_142 ?_
            refine pf_X8_90 X dX8_nextToken_143 ?_
            refine v_aloadn X dX8_nextToken_146 rfl rfl ?_
            refine gf_X8_105 X dX8_nextToken_147 ?_
            refine v_iconst (v := 3) X dX8_nextToken_150 (by decide) ?_
            refine v_icmp_ne X 277 dX8_nextToken_151 (by decide) (fun c118 => ?_) (fun c118 => ?_)
            · replace h := (if_neg c118).symm.trans h
              cases h
              exact v_vret X dX8_nextToken_277 rfl
            · replace h := (if_pos c118).symm.trans h
              refine v_aloadn X dX8_nextToken_154 rfl rfl ?_
              refine v_dup X dX8_nextToken_155 rfl ?_
              refine gf_X8_94 X dX8_nextToken_156 ?_
              refine v_bipush (v := 48) X dX8_nextToken_159 (by decide) ?_
              refine v_isub X dX8_nextToken_161 ?_
              refine pf_X8_94 X dX8_nextToken_162 ?_
              obtain ⟨g119, q120, h⟩ := bd1_some h
              refine w_X8_nextToken_165 X  N  (g3 (g3 (g3 g85 10 0 15 (3 : Int32)) 10 0 13 (((g3 g85 10 0 15 (3 : Int32)) 10 0 13) + (0 : Int32))) 10 0 16 (((g3 (g3 g85 10 0 15 (3 : Int32)) 10 0 13 (((g3 g85 10 0 15 (3 : Int32)) 10 0 13) + (0 : Int32))) 10 0 16) - (48 : Int32))) g119 q120 ?_
              refine v_aloadn X dX8_nextToken_255 rfl rfl ?_
              refine v_aloadn X dX8_nextToken_256 rfl rfl ?_
              refine gf_X8_90 X dX8_nextToken_257 ?_
              refine v_aloadn X dX8_nextToken_260 rfl rfl ?_
              refine gf_X8_84 X dX8_nextToken_261 ?_
              refine v_isub X dX8_nextToken_264 ?_
              refine v_iconst (v := 2) X dX8_nextToken_265 (by decide) ?_
              refine v_icmp_le X 273 dX8_nextToken_266 (by decide) (fun c121 => ?_) (fun c121 => ?_)
              · replace h := (if_pos c121).symm.trans h
                refine v_iconst (v := 3) X dX8_nextToken_273 (by decide) ?_
                refine pf_X8_105 X dX8_nextToken_274 ?_
                cases h
                exact v_vret X dX8_nextToken_277 rfl
              · replace h := (if_neg c121).symm.trans h
                refine v_iconst (v := 0) X dX8_nextToken_269 (by decide) ?_
                refine v_goto X 274 dX8_nextToken_270 (by decide) ?_
                refine pf_X8_105 X dX8_nextToken_274 ?_
                cases h
                exact v_vret X dX8_nextToken_277 rfl
          · replace h := (if_neg c117).symm.trans h
            refine v_iconst (v := 1) X dX8_nextToken_137 (by decide) ?_
            refine v_goto X 142 dX8_nextToken_138 (by decide) ?_
            refine v_iadd X dX8_nextToken_142 ?_
            refine pf_X8_90 X dX8_nextToken_143 ?_
            refine v_aloadn X dX8_nextToken_146 rfl rfl ?_
            refine gf_X8_105 X dX8_nextToken_147 ?_
            refine v_iconst (v := 3) X dX8_nextToken_150 (by decide) ?_
            refine v_icmp_ne X 277 dX8_nextToken_151 (by decide) (fun c122 => ?_) (fun c122 => ?_)
            · replace h := (if_neg c122).symm.trans h
              cases h
              exact v_vret X dX8_nextToken_277 rfl
            · replace h := (if_pos c122).symm.trans h
              refine v_aloadn X dX8_nextToken_154 rfl rfl ?_
              refine v_dup X dX8_nextToken_155 rfl ?_
              refine gf_X8_94 X dX8_nextToken_156 ?_
              refine v_bipush (v := 48) X dX8_nextToken_159 (by decide) ?_
              refine v_isub X dX8_nextToken_161 ?_
              refine pf_X8_94 X dX8_nextToken_162 ?_
              obtain ⟨g123, q124, h⟩ := bd1_some h
              refine w_X8_nextToken_165 X  N  (g3 (g3 (g3 g85 10 0 15 (3 : Int32)) 10 0 13 (((g3 g85 10 0 15 (3 : Int32)) 10 0 13) + (1 : Int32))) 10 0 16 (((g3 (g3 g85 10 0 15 (3 : Int32)) 10 0 13 (((g3 g85 10 0 15 (3 : Int32)) 10 0 13) + (1 : Int32))) 10 0 16) - (48 : Int32))) g123 q124 ?_
              refine v_aloadn X dX8_nextToken_255 rfl rfl ?_
              refine v_aloadn X dX8_nextToken_256 rfl rfl ?_
              refine gf_X8_90 X dX8_nextToken_257 ?_
              refine v_aloadn X dX8_nextToken_260 rfl rfl ?_
              refine gf_X8_84 X dX8_nextToken_261 ?_
              refine v_isub X dX8_nextToken_264 ?_
              refine v_iconst (v := 2) X dX8_nextToken_265 (by decide) ?_
              refine v_icmp_le X 273 dX8_nextToken_266 (by decide) (fun c125 => ?_) (fun c125 => ?_)
              · replace h := (if_pos c125).symm.trans h
                refine v_iconst (v := 3) X dX8_nextToken_273 (by decide) ?_
                refine pf_X8_105 X dX8_nextToken_274 ?_
                cases h
                exact v_vret X dX8_nextToken_277 rfl
              · replace h := (if_neg c125).symm.trans h
                refine v_iconst (v := 0) X dX8_nextToken_269 (by decide) ?_
                refine v_goto X 274 dX8_nextToken_270 (by decide) ?_
                refine pf_X8_105 X dX8_nextToken_274 ?_
                cases h
                exact v_vret X dX8_nextToken_277 rfl
      · replace h := (if_neg c83).symm.trans h
        refine v_iconst (v := 2) X dX8_nextToken_70 (by decide) ?_
        refine v_goto X 118 dX8_nextToken_71 (by decide) ?_
        refine pf_X8_105 X dX8_nextToken_118 ?_
        refine v_aloadn X dX8_nextToken_121 rfl rfl ?_
        refine v_dup X dX8_nextToken_122 rfl ?_
        refine gf_X8_90 X dX8_nextToken_123 ?_
        refine v_aloadn X dX8_nextToken_126 rfl rfl ?_
        refine gf_X8_90 X dX8_nextToken_127 ?_
        refine v_aloadn X dX8_nextToken_130 rfl rfl ?_
        refine gf_X8_77 X dX8_nextToken_131 ?_
        refine v_icmp_ge X 141 dX8_nextToken_134 (by decide) (fun c126 => ?_) (fun c126 => ?_)
        · replace h := (if_pos c126).symm.trans h
          refine v_iconst (v := 0) X dX8_nextToken_141 (by decide) ?_
          refine v_iadd X dX8_nextToken_142 ?_
          refine pf_X8_90 X dX8_nextToken_143 ?_
          refine v_aloadn X dX8_nextToken_146 rfl rfl ?_
          refine gf_X8_105 X dX8_nextToken_147 ?_
          refine v_iconst (v := 3) X dX8_nextToken_150 (by decide) ?_
          refine v_icmp_ne X 277 dX8_nextToken_151 (by decide) (fun c127 => ?_) (fun c127 => ?_)
          · replace h := (if_neg c127).symm.trans h
            cases h
            exact v_vret X dX8_nextToken_277 rfl
          · replace h := (if_pos c127).symm.trans h
            refine v_aloadn X dX8_nextToken_154 rfl rfl ?_
            refine v_dup X dX8_nextToken_155 rfl ?_
            refine gf_X8_94 X dX8_nextToken_156 ?_
            refine v_bipush (v := 48) X dX8_nextToken_159 (by decide) ?_
            refine v_isub X dX8_nextToken_161 ?_
            refine pf_X8_94 X dX8_nextToken_162 ?_
            obtain ⟨g128, q129, h⟩ := bd1_some h
            refine w_X8_nextToken_165 X  N  (g3 (g3 (g3 g81 10 0 15 (2 : Int32)) 10 0 13 (((g3 g81 10 0 15 (2 : Int32)) 10 0 13) + (0 : Int32))) 10 0 16 (((g3 (g3 g81 10 0 15 (2 : Int32)) 10 0 13 (((g3 g81 10 0 15 (2 : Int32)) 10 0 13) + (0 : Int32))) 10 0 16) - (48 : Int32))) g128 q129 ?_
            refine v_aloadn X dX8_nextToken_255 rfl rfl ?_
            refine v_aloadn X dX8_nextToken_256 rfl rfl ?_
            refine gf_X8_90 X dX8_nextToken_257 ?_
            refine v_aloadn X dX8_nextToken_260 rfl rfl ?_
            refine gf_X8_84 X dX8_nextToken_261 ?_
            refine v_isub X dX8_nextToken_264 ?_
            refine v_iconst (v := 2) X dX8_nextToken_265 (by decide) ?_
            refine v_icmp_le X 273 dX8_nextToken_266 (by decide) (fun c130 => ?_) (fun c130 => ?_)
            · replace h := (if_pos c130).symm.trans h
              refine v_iconst (v := 3) X dX8_nextToken_273 (by decide) ?_
              refine pf_X8_105 X dX8_nextToken_274 ?_
              cases h
              exact v_vret X dX8_nextToken_277 rfl
            · replace h := (if_neg c130).symm.trans h
              refine v_iconst (v := 0) X dX8_nextToken_269 (by decide) ?_
              refine v_goto X 274 dX8_nextToken_270 (by decide) ?_
              refine pf_X8_105 X dX8_nextToken_274 ?_
              cases h
              exact v_vret X dX8_nextToken_277 rfl
        · replace h := (if_neg c126).symm.trans h
          refine v_iconst (v := 1) X dX8_nextToken_137 (by decide) ?_
          refine v_goto X 142 dX8_nextToken_138 (by decide) ?_
          refine v_iadd X dX8_nextToken_142 ?_
          refine pf_X8_90 X dX8_nextToken_143 ?_
          refine v_aloadn X dX8_nextToken_146 rfl rfl ?_
          refine gf_X8_105 X dX8_nextToken_147 ?_
          refine v_iconst (v := 3) X dX8_nextToken_150 (by decide) ?_
          refine v_icmp_ne X 277 dX8_nextToken_151 (by decide) (fun c131 => ?_) (fun c131 => ?_)
          · replace h := (if_neg c131).symm.trans h
            cases h
            exact v_vret X dX8_nextToken_277 rfl
          · replace h := (if_pos c131).symm.trans h
            refine v_aloadn X dX8_nextToken_154 rfl rfl ?_
            refine v_dup X dX8_nextToken_155 rfl ?_
            refine gf_X8_94 X dX8_nextToken_156 ?_
            refine v_bipush (v := 48) X dX8_nextToken_159 (by decide) ?_
            refine v_isub X dX8_nextToken_161 ?_
            refine pf_X8_94 X dX8_nextToken_162 ?_
            obtain ⟨g132, q133, h⟩ := bd1_some h
            refine w_X8_nextToken_165 X  N  (g3 (g3 (g3 g81 10 0 15 (2 : Int32)) 10 0 13 (((g3 g81 10 0 15 (2 : Int32)) 10 0 13) + (1 : Int32))) 10 0 16 (((g3 (g3 g81 10 0 15 (2 : Int32)) 10 0 13 (((g3 g81 10 0 15 (2 : Int32)) 10 0 13) + (1 : Int32))) 10 0 16) - (48 : Int32))) g132 q133 ?_
            refine v_aloadn X dX8_nextToken_255 rfl rfl ?_
            refine v_aloadn X dX8_nextToken_256 rfl rfl ?_
            refine gf_X8_90 X dX8_nextToken_257 ?_
            refine v_aloadn X dX8_nextToken_260 rfl rfl ?_
            refine gf_X8_84 X dX8_nextToken_261 ?_
            refine v_isub X dX8_nextToken_264 ?_
            refine v_iconst (v := 2) X dX8_nextToken_265 (by decide) ?_
            refine v_icmp_le X 273 dX8_nextToken_266 (by decide) (fun c134 => ?_) (fun c134 => ?_)
            · replace h := (if_pos c134).symm.trans h
              refine v_iconst (v := 3) X dX8_nextToken_273 (by decide) ?_
              refine pf_X8_105 X dX8_nextToken_274 ?_
              cases h
              exact v_vret X dX8_nextToken_277 rfl
            · replace h := (if_neg c134).symm.trans h
              refine v_iconst (v := 0) X dX8_nextToken_269 (by decide) ?_
              refine v_goto X 274 dX8_nextToken_270 (by decide) ?_
              refine pf_X8_105 X dX8_nextToken_274 ?_
              cases h
              exact v_vret X dX8_nextToken_277 rfl
    · replace h := (if_pos c79).symm.trans h
      refine v_iconst (v := 1) X dX8_nextToken_49 (by decide) ?_
      refine v_goto X 118 dX8_nextToken_50 (by decide) ?_
      refine pf_X8_105 X dX8_nextToken_118 ?_
      refine v_aloadn X dX8_nextToken_121 rfl rfl ?_
      refine v_dup X dX8_nextToken_122 rfl ?_
      refine gf_X8_90 X dX8_nextToken_123 ?_
      refine v_aloadn X dX8_nextToken_126 rfl rfl ?_
      refine gf_X8_90 X dX8_nextToken_127 ?_
      refine v_aloadn X dX8_nextToken_130 rfl rfl ?_
      refine gf_X8_77 X dX8_nextToken_131 ?_
      refine v_icmp_ge X 141 dX8_nextToken_134 (by decide) (fun c135 => ?_) (fun c135 => ?_)
      · replace h := (if_pos c135).symm.trans h
        refine v_iconst (v := 0) X dX8_nextToken_141 (by decide) ?_
        refine v_iadd X dX8_nextToken_142 ?_
        refine pf_X8_90 X dX8_nextToken_143 ?_
        refine v_aloadn X dX8_nextToken_146 rfl rfl ?_
        refine gf_X8_105 X dX8_nextToken_147 ?_
        refine v_iconst (v := 3) X dX8_nextToken_150 (by decide) ?_
        refine v_icmp_ne X 277 dX8_nextToken_151 (by decide) (fun c136 => ?_) (fun c136 => ?_)
        · replace h := (if_neg c136).symm.trans h
          cases h
          exact v_vret X dX8_nextToken_277 rfl
        · replace h := (if_pos c136).symm.trans h
          refine v_aloadn X dX8_nextToken_154 rfl rfl ?_
          refine v_dup X dX8_nextToken_155 rfl ?_
          refine gf_X8_94 X dX8_nextToken_156 ?_
          refine v_bipush (v := 48) X dX8_nextToken_159 (by decide) ?_
          refine v_isub X dX8_nextToken_161 ?_
          refine pf_X8_94 X dX8_nextToken_162 ?_
          obtain ⟨g137, q138, h⟩ := bd1_some h
          refine w_X8_nextToken_165 X  N  (g3 (g3 (g3 (g3 (g3 g 10 0 14 (g 10 0 13)) 10 0 16 ((g3 g 10 0 14 (g 10 0 13)) 11 11 j77)) 10 0 15 (1 : Int32)) 10 0 13 (((g3 (g3 (g3 g 10 0 14 (g 10 0 13)) 10 0 16 ((g3 g 10 0 14 (g 10 0 13)) 11 11 j77)) 10 0 15 (1 : Int32)) 10 0 13) + (0 : Int32))) 10 0 16 (((g3 (g3 (g3 (g3 g 10 0 14 (g 10 0 13)) 10 0 16 ((g3 g 10 0 14 (g 10 0 13)) 11 11 j77)) 10 0 15 (1 : Int32)) 10 0 13 (((g3 (g3 (g3 g 10 0 14 (g 10 0 13)) 10 0 16 ((g3 g 10 0 14 (g 10 0 13)) 11 11 j77)) 10 0 15 (1 : Int32)) 10 0 13) + (0 : Int32))) 10 0 16) - (48 : Int32))) g137 q138 ?_
          refine v_aloadn X dX8_nextToken_255 rfl rfl ?_
          refine v_aloadn X dX8_nextToken_256 rfl rfl ?_
          refine gf_X8_90 X dX8_nextToken_257 ?_
          refine v_aloadn X dX8_nextToken_260 rfl rfl ?_
          refine gf_X8_84 X dX8_nextToken_261 ?_
          refine v_isub X dX8_nextToken_264 ?_
          refine v_iconst (v := 2) X dX8_nextToken_265 (by decide) ?_
          refine v_icmp_le X 273 dX8_nextToken_266 (by decide) (fun c139 => ?_) (fun c139 => ?_)
          · replace h := (if_pos c139).symm.trans h
            refine v_iconst (v := 3) X dX8_nextToken_273 (by decide) ?_
            refine pf_X8_105 X dX8_nextToken_274 ?_
            cases h
            exact v_vret X dX8_nextToken_277 rfl
          · replace h := (if_neg c139).symm.trans h
            refine v_iconst (v := 0) X dX8_nextToken_269 (by decide) ?_
            refine v_goto X 274 dX8_nextToken_270 (by decide) ?_
            refine pf_X8_105 X dX8_nextToken_274 ?_
            cases h
            exact v_vret X dX8_nextToken_277 rfl
      · replace h := (if_neg c135).symm.trans h
        refine v_iconst (v := 1) X dX8_nextToken_137 (by decide) ?_
        refine v_goto X 142 dX8_nextToken_138 (by decide) ?_
        refine v_iadd X dX8_nextToken_142 ?_
        refine pf_X8_90 X dX8_nextToken_143 ?_
        refine v_aloadn X dX8_nextToken_146 rfl rfl ?_
        refine gf_X8_105 X dX8_nextToken_147 ?_
        refine v_iconst (v := 3) X dX8_nextToken_150 (by decide) ?_
        refine v_icmp_ne X 277 dX8_nextToken_151 (by decide) (fun c140 => ?_) (fun c140 => ?_)
        · replace h := (if_neg c140).symm.trans h
          cases h
          exact v_vret X dX8_nextToken_277 rfl
        · replace h := (if_pos c140).symm.trans h
          refine v_aloadn X dX8_nextToken_154 rfl rfl ?_
          refine v_dup X dX8_nextToken_155 rfl ?_
          refine gf_X8_94 X dX8_nextToken_156 ?_
          refine v_bipush (v := 48) X dX8_nextToken_159 (by decide) ?_
          refine v_isub X dX8_nextToken_161 ?_
          refine pf_X8_94 X dX8_nextToken_162 ?_
          obtain ⟨g141, q142, h⟩ := bd1_some h
          refine w_X8_nextToken_165 X  N  (g3 (g3 (g3 (g3 (g3 g 10 0 14 (g 10 0 13)) 10 0 16 ((g3 g 10 0 14 (g 10 0 13)) 11 11 j77)) 10 0 15 (1 : Int32)) 10 0 13 (((g3 (g3 (g3 g 10 0 14 (g 10 0 13)) 10 0 16 ((g3 g 10 0 14 (g 10 0 13)) 11 11 j77)) 10 0 15 (1 : Int32)) 10 0 13) + (1 : Int32))) 10 0 16 (((g3 (g3 (g3 (g3 g 10 0 14 (g 10 0 13)) 10 0 16 ((g3 g 10 0 14 (g 10 0 13)) 11 11 j77)) 10 0 15 (1 : Int32)) 10 0 13 (((g3 (g3 (g3 g 10 0 14 (g 10 0 13)) 10 0 16 ((g3 g 10 0 14 (g 10 0 13)) 11 11 j77)) 10 0 15 (1 : Int32)) 10 0 13) + (1 : Int32))) 10 0 16) - (48 : Int32))) g141 q142 ?_
          refine v_aloadn X dX8_nextToken_255 rfl rfl ?_
          refine v_aloadn X dX8_nextToken_256 rfl rfl ?_
          refine gf_X8_90 X dX8_nextToken_257 ?_
          refine v_aloadn X dX8_nextToken_260 rfl rfl ?_
          refine gf_X8_84 X dX8_nextToken_261 ?_
          refine v_isub X dX8_nextToken_264 ?_
          refine v_iconst (v := 2) X dX8_nextToken_265 (by decide) ?_
          refine v_icmp_le X 273 dX8_nextToken_266 (by decide) (fun c143 => ?_) (fun c143 => ?_)
          · replace h := (if_pos c143).symm.trans h
            refine v_iconst (v := 3) X dX8_nextToken_273 (by decide) ?_
            refine pf_X8_105 X dX8_nextToken_274 ?_
            cases h
            exact v_vret X dX8_nextToken_277 rfl
          · replace h := (if_neg c143).symm.trans h
            refine v_iconst (v := 0) X dX8_nextToken_269 (by decide) ?_
            refine v_goto X 274 dX8_nextToken_270 (by decide) ?_
            refine pf_X8_105 X dX8_nextToken_274 ?_
            cases h
            exact v_vret X dX8_nextToken_277 rfl
def F_X8_begin (N : Nat) (g : GS) : Option GS := bd1 (F_X8_nextToken N  (g3 (g3 g 10 0 13 (0 : Int32)) 10 0 17 (0 : Int32))) (fun g2 => some g2)
set_option maxRecDepth 100000 in
set_option maxHeartbeats 4000000 in
theorem c_X8_begin (l : Launch) (D : va_G) (ad : Ky → Nat) (cy : Nat → ClassId) (hI : Inj ad) (N : Nat) (g : GS) (gq : GS) (h : F_X8_begin N  g = some gq) : CtV l D ad cy yX8_begin cX8_begin 1 2 [.ref (ad (8, 0, 0))] g gq := by
  refine CtV.of 0 hI (by decide +kernel) rfl (Nat.le_of_ble_eq_true rfl) (fun p e s m args below meth c X => ?_)
  unfold F_X8_begin at h
  show Vy _ _ _ _ _ _ _ _ _ _ _ _ _ _ _ 0 [some (.ref (ad (8, 0, 0)))] [] g
  refine v_aloadn X dX8_begin_0 rfl rfl ?_
  refine v_iconst (v := 0) X dX8_begin_1 (by decide) ?_
  refine pf_X8_90 X dX8_begin_2 ?_
  refine v_aloadn X dX8_begin_5 rfl rfl ?_
  refine v_iconst (v := 0) X dX8_begin_6 (by decide) ?_
  refine pf_X8_81 X dX8_begin_7 ?_
  refine v_aloadn X dX8_begin_10 rfl rfl ?_
  obtain ⟨g2, q1, h⟩ := bd1_some h
  refine v_callVV (As := []) (rest := []) X (c_X8_nextToken l D ad cy X.2.2.2.2.2.2.2.2.1 N  (g3 (g3 g 10 0 13 (0 : Int32)) 10 0 17 (0 : Int32)) g2  q1) mw_X8_nextToken ml_X8_112 (by decide) (by decide +kernel) (by decide) rfl rfl rfl rfl (Nat.le_of_ble_eq_true rfl) dX8_begin_11 ?_
  cases h
  exact v_vret X dX8_begin_14 rfl
def L_X8_bits_4 (N : Nat) (z0 : Int32) : Nat → Int32 → Int32 → GS → Option (Int32 × Int32 × GS)
  | 0, _, _, _ => none
  | n + 1, y1, y2, g => if (6 : Int32) ≤ y2 then some (y1, y2, g) else L_X8_bits_4 N z0 n (y1 + ((z0 >>> (y2 &&& 31)) &&& (1 : Int32))) (y2 + 1) g
def F_X8_bits (N : Nat) (x0 : Int32) (g : GS) : Option (Int32 × GS) := bd3 (L_X8_bits_4 N x0 N (0 : Int32) (0 : Int32) g) (fun x2 x3 g4 => some (x2, g4))
set_option maxRecDepth 100000 in
set_option maxHeartbeats 4000000 in
theorem w_X8_bits_4 {p : Program} {l : Launch} {e : Env} {s : State} {m : MethodId} {args : Array Value} {below : List Frame} {meth : Method} {c : Code} {D : va_G} {ad : Ky → Nat} {cy : Nat → ClassId} {r : Int32} {gq : GS} {N : Nat} (X : Cx p (rmd 0) s m args meth c RX8 cX8_bits 3 (some .int) D ad cy) (z0 : Int32) : ∀ (n : Nat) (y1 : Int32) (y2 : Int32) (g : GS) (y1' : Int32) (y2' : Int32) (g' : GS), L_X8_bits_4 N z0 n y1 y2 g = some (y1', y2', g') → Vy p l e (rmd 0) s m args below meth c 3 D ad cy (QI D ad cy below args s r gq) 24 [some (.int z0), some (.int y1'), some (.int y2')] [] g' → Vy p l e (rmd 0) s m args below meth c 3 D ad cy (QI D ad cy below args s r gq) 4 [some (.int z0), some (.int y1), some (.int y2)] [] g := by
  intro n
  induction n with
  | zero => intro y1 y2 g y1' y2' g' h k; cases h
  | succ n ih =>
    intro y1 y2 g y1' y2' g' h k
    rw [L_X8_bits_4] at h
    refine v_iloadn X dX8_bits_4 rfl rfl ?_
    refine v_bipush (v := 6) X dX8_bits_5 (by decide) ?_
    refine v_icmp_ge X 24 dX8_bits_7 (by decide) (fun c1 => ?_) (fun c1 => ?_)
    · replace h := (if_pos c1).symm.trans h
      cases h
      exact k
    · replace h := (if_neg c1).symm.trans h
      refine v_iloadn X dX8_bits_10 rfl rfl ?_
      refine v_iloadn X dX8_bits_11 rfl rfl ?_
      refine v_iloadn X dX8_bits_12 rfl rfl ?_
      refine v_ishr X dX8_bits_13 ?_
      refine v_iconst (v := 1) X dX8_bits_14 (by decide) ?_
      refine v_iand X dX8_bits_15 ?_
      refine v_iadd X dX8_bits_16 ?_
      refine v_istoren (lc' := [some (.int z0), some (.int (y1 + ((z0 >>> (y2 &&& 31)) &&& (1 : Int32)))), some (.int y2)]) X dX8_bits_17 rfl (by decide) rfl rfl ?_
      refine v_iinc (v := (y2 + 1)) (lc' := [some (.int z0), some (.int (y1 + ((z0 >>> (y2 &&& 31)) &&& (1 : Int32)))), some (.int (y2 + 1))]) X dX8_bits_18 rfl rfl (by decide) rfl rfl ?_
      refine v_goto X 4 dX8_bits_21 (by decide) ?_
      exact ih (y1 + ((z0 >>> (y2 &&& 31)) &&& (1 : Int32))) (y2 + 1) g _ _ _ h k
set_option maxRecDepth 100000 in
set_option maxHeartbeats 4000000 in
theorem c_X8_bits (l : Launch) (D : va_G) (ad : Ky → Nat) (cy : Nat → ClassId) (hI : Inj ad) (N : Nat) (x0 : Int32) (g : GS) (r : Int32) (gq : GS) (h : F_X8_bits N x0 g = some (r, gq)) : CtI l D ad cy yX8_bits cX8_bits 3 (some .int) 0 [.int x0] g r gq := by
  refine CtI.of 2 hI (by decide +kernel) rfl (Nat.le_of_ble_eq_true rfl) (fun p e s m args below meth c X => ?_)
  unfold F_X8_bits at h
  show Vy _ _ _ _ _ _ _ _ _ _ _ _ _ _ _ 0 [some (.int x0), none, none] [] g
  refine v_iconst (v := 0) X dX8_bits_0 (by decide) ?_
  refine v_istoren (lc' := [some (.int x0), some (.int (0 : Int32)), none]) X dX8_bits_1 rfl (by decide) rfl rfl ?_
  refine v_iconst (v := 0) X dX8_bits_2 (by decide) ?_
  refine v_istoren (lc' := [some (.int x0), some (.int (0 : Int32)), some (.int (0 : Int32))]) X dX8_bits_3 rfl (by decide) rfl rfl ?_
  obtain ⟨x2, x3, g4, q5, h⟩ := bd3_some h
  refine w_X8_bits_4 X x0 N (0 : Int32) (0 : Int32) g x2 x3 g4 q5 ?_
  refine v_iloadn X dX8_bits_24 rfl rfl ?_
  cases h
  exact v_iret X dX8_bits_25 rfl rfl
def L_X8_keep_51 (N : Nat) : Nat → Int32 → GS → Option (Int32 × GS)
  | 0, _, _ => none
  | n + 1, y1, g => if (53 : Int32) ≤ y1 then some (y1, g) else bd1 (ix y1 53) (fun j3 => bd1 (ix (((53 : Int32) * (g 10 0 10)) + y1) 1272) (fun j5 => L_X8_keep_51 N n (y1 + 1) (g3 g 11 9 j5 (g 11 5 j3))))
def L_X8_keep_11 (N : Nat) : Nat → Int32 → GS → Option (Int32 × GS)
  | 0, _, _ => none
  | n + 1, y1, g => if (1219 : Int32) ≤ y1 then some (y1, g) else bd1 (ix (y1 + (53 : Int32)) 1272) (fun j11 => bd1 (ix y1 1272) (fun j13 => L_X8_keep_11 N n (y1 + 1) (g3 g 11 9 j13 (g 11 9 j11))))
def F_X8_keep (N : Nat) (g : GS) : Option GS := if (g 10 0 10) = (24 : Int32) then bd2 (L_X8_keep_11 N N (0 : Int32) g) (fun x15 g16 => bd2 (L_X8_keep_51 N N (0 : Int32) (g3 g16 10 0 10 ((g16 10 0 10) - (1 : Int32)))) (fun x18 g19 => some (g3 g19 10 0 10 ((g19 10 0 10) + (1 : Int32))))) else bd2 (L_X8_keep_51 N N (0 : Int32) g) (fun x7 g8 => some (g3 g8 10 0 10 ((g8 10 0 10) + (1 : Int32))))
set_option maxRecDepth 100000 in
set_option maxHeartbeats 4000000 in
theorem w_X8_keep_51 {p : Program} {l : Launch} {e : Env} {s : State} {m : MethodId} {args : Array Value} {below : List Frame} {meth : Method} {c : Code} {D : va_G} {ad : Ky → Nat} {cy : Nat → ClassId} {gq : GS} {N : Nat} (X : Cx p (rmd 0) s m args meth c RX8 cX8_keep 2 none D ad cy) : ∀ (n : Nat) (y1 : Int32) (g : GS) (y1' : Int32) (g' : GS), L_X8_keep_51 N n y1 g = some (y1', g') → Vy p l e (rmd 0) s m args below meth c 2 D ad cy (QV D ad cy below args s gq) 83 [some (.ref (ad (8, 0, 0))), some (.int y1')] [] g' → Vy p l e (rmd 0) s m args below meth c 2 D ad cy (QV D ad cy below args s gq) 51 [some (.ref (ad (8, 0, 0))), some (.int y1)] [] g := by
  intro n
  induction n with
  | zero => intro y1 g y1' g' h k; cases h
  | succ n ih =>
    intro y1 g y1' g' h k
    rw [L_X8_keep_51] at h
    refine v_iloadn X dX8_keep_51 rfl rfl ?_
    refine v_bipush (v := 53) X dX8_keep_52 (by decide) ?_
    refine v_icmp_ge X 83 dX8_keep_54 (by decide) (fun c2 => ?_) (fun c2 => ?_)
    · replace h := (if_pos c2).symm.trans h
      cases h
      exact k
    · replace h := (if_neg c2).symm.trans h
      refine v_aloadn X dX8_keep_57 rfl rfl ?_
      refine gf_X8_31 X dX8_keep_58 ?_
      refine v_bipush (v := 53) X dX8_keep_61 (by decide) ?_
      refine v_aloadn X dX8_keep_63 rfl rfl ?_
      refine gf_X8_152 X dX8_keep_64 ?_
      refine v_imul X dX8_keep_67 ?_
      refine v_iloadn X dX8_keep_68 rfl rfl ?_
      refine v_iadd X dX8_keep_69 ?_
      refine v_aloadn X dX8_keep_70 rfl rfl ?_
      refine gf_X8_19 X dX8_keep_71 ?_
      refine v_iloadn X dX8_keep_74 rfl rfl ?_
      obtain ⟨j3, q4, h⟩ := bd1_some h
      obtain ⟨ej3, lj3⟩ := ix_spec q4
      refine alM X (by decide +kernel) j3 ej3 lj3 dX8_keep_75 ?_
      obtain ⟨j5, q6, h⟩ := bd1_some h
      obtain ⟨ej5, lj5⟩ := ix_spec q6
      refine asM X (by decide +kernel) j5 ej5 lj5 dX8_keep_76 ?_
      refine v_iinc (v := (y1 + 1)) (lc' := [some (.ref (ad (8, 0, 0))), some (.int (y1 + 1))]) X dX8_keep_77 rfl rfl (by decide) rfl rfl ?_
      refine v_goto X 51 dX8_keep_80 (by decide) ?_
      exact ih (y1 + 1) (g3 g 11 9 j5 (g 11 5 j3)) _ _ h k
set_option maxRecDepth 100000 in
set_option maxHeartbeats 4000000 in
theorem w_X8_keep_11 {p : Program} {l : Launch} {e : Env} {s : State} {m : MethodId} {args : Array Value} {below : List Frame} {meth : Method} {c : Code} {D : va_G} {ad : Ky → Nat} {cy : Nat → ClassId} {gq : GS} {N : Nat} (X : Cx p (rmd 0) s m args meth c RX8 cX8_keep 2 none D ad cy) : ∀ (n : Nat) (y1 : Int32) (g : GS) (y1' : Int32) (g' : GS), L_X8_keep_11 N n y1 g = some (y1', g') → Vy p l e (rmd 0) s m args below meth c 2 D ad cy (QV D ad cy below args s gq) 39 [some (.ref (ad (8, 0, 0))), some (.int y1')] [] g' → Vy p l e (rmd 0) s m args below meth c 2 D ad cy (QV D ad cy below args s gq) 11 [some (.ref (ad (8, 0, 0))), some (.int y1)] [] g := by
  intro n
  induction n with
  | zero => intro y1 g y1' g' h k; cases h
  | succ n ih =>
    intro y1 g y1' g' h k
    rw [L_X8_keep_11] at h
    refine v_iloadn X dX8_keep_11 rfl rfl ?_
    refine v_sipush (v := 1219) X dX8_keep_12 (by decide) ?_
    refine v_icmp_ge X 39 dX8_keep_15 (by decide) (fun c10 => ?_) (fun c10 => ?_)
    · replace h := (if_pos c10).symm.trans h
      cases h
      exact k
    · replace h := (if_neg c10).symm.trans h
      refine v_aloadn X dX8_keep_18 rfl rfl ?_
      refine gf_X8_31 X dX8_keep_19 ?_
      refine v_iloadn X dX8_keep_22 rfl rfl ?_
      refine v_aloadn X dX8_keep_23 rfl rfl ?_
      refine gf_X8_31 X dX8_keep_24 ?_
      refine v_iloadn X dX8_keep_27 rfl rfl ?_
      refine v_bipush (v := 53) X dX8_keep_28 (by decide) ?_
      refine v_iadd X dX8_keep_30 ?_
      obtain ⟨j11, q12, h⟩ := bd1_some h
      obtain ⟨ej11, lj11⟩ := ix_spec q12
      refine alM X (by decide +kernel) j11 ej11 lj11 dX8_keep_31 ?_
      obtain ⟨j13, q14, h⟩ := bd1_some h
      obtain ⟨ej13, lj13⟩ := ix_spec q14
      refine asM X (by decide +kernel) j13 ej13 lj13 dX8_keep_32 ?_
      refine v_iinc (v := (y1 + 1)) (lc' := [some (.ref (ad (8, 0, 0))), some (.int (y1 + 1))]) X dX8_keep_33 rfl rfl (by decide) rfl rfl ?_
      refine v_goto X 11 dX8_keep_36 (by decide) ?_
      exact ih (y1 + 1) (g3 g 11 9 j13 (g 11 9 j11)) _ _ h k
set_option maxRecDepth 100000 in
set_option maxHeartbeats 4000000 in
theorem c_X8_keep (l : Launch) (D : va_G) (ad : Ky → Nat) (cy : Nat → ClassId) (hI : Inj ad) (N : Nat) (g : GS) (gq : GS) (h : F_X8_keep N  g = some gq) : CtV l D ad cy yX8_keep cX8_keep 2 0 [.ref (ad (8, 0, 0))] g gq := by
  refine CtV.of 1 hI (by decide +kernel) rfl (Nat.le_of_ble_eq_true rfl) (fun p e s m args below meth c X => ?_)
  unfold F_X8_keep at h
  show Vy _ _ _ _ _ _ _ _ _ _ _ _ _ _ _ 0 [some (.ref (ad (8, 0, 0))), none] [] g
  refine v_aloadn X dX8_keep_0 rfl rfl ?_
  refine gf_X8_152 X dX8_keep_1 ?_
  refine v_bipush (v := 24) X dX8_keep_4 (by decide) ?_
  refine v_icmp_ne X 49 dX8_keep_6 (by decide) (fun c1 => ?_) (fun c1 => ?_)
  · replace h := (if_neg c1).symm.trans h
    refine v_iconst (v := 0) X dX8_keep_49 (by decide) ?_
    refine v_istoren (lc' := [some (.ref (ad (8, 0, 0))), some (.int (0 : Int32))]) X dX8_keep_50 rfl (by decide) rfl rfl ?_
    obtain ⟨x7, g8, q9, h⟩ := bd2_some h
    refine w_X8_keep_51 X  N (0 : Int32) g x7 g8 q9 ?_
    refine v_aloadn X dX8_keep_83 rfl rfl ?_
    refine v_dup X dX8_keep_84 rfl ?_
    refine gf_X8_152 X dX8_keep_85 ?_
    refine v_iconst (v := 1) X dX8_keep_88 (by decide) ?_
    refine v_iadd X dX8_keep_89 ?_
    refine pf_X8_152 X dX8_keep_90 ?_
    cases h
    exact v_vret X dX8_keep_93 rfl
  · replace h := (if_pos c1).symm.trans h
    refine v_iconst (v := 0) X dX8_keep_9 (by decide) ?_
    refine v_istoren (lc' := [some (.ref (ad (8, 0, 0))), some (.int (0 : Int32))]) X dX8_keep_10 rfl (by decide) rfl rfl ?_
    obtain ⟨x15, g16, q17, h⟩ := bd2_some h
    refine w_X8_keep_11 X  N (0 : Int32) g x15 g16 q17 ?_
    refine v_aloadn X dX8_keep_39 rfl rfl ?_
    refine v_dup X dX8_keep_40 rfl ?_
    refine gf_X8_152 X dX8_keep_41 ?_
    refine v_iconst (v := 1) X dX8_keep_44 (by decide) ?_
    refine v_isub X dX8_keep_45 ?_
    refine pf_X8_152 X dX8_keep_46 ?_
    refine v_iconst (v := 0) X dX8_keep_49 (by decide) ?_
    refine v_istoren (lc' := [some (.ref (ad (8, 0, 0))), some (.int (0 : Int32))]) X dX8_keep_50 rfl (by decide) rfl rfl ?_
    obtain ⟨x18, g19, q20, h⟩ := bd2_some h
    refine w_X8_keep_51 X  N (0 : Int32) (g3 g16 10 0 10 ((g16 10 0 10) - (1 : Int32))) x18 g19 q20 ?_
    refine v_aloadn X dX8_keep_83 rfl rfl ?_
    refine v_dup X dX8_keep_84 rfl ?_
    refine gf_X8_152 X dX8_keep_85 ?_
    refine v_iconst (v := 1) X dX8_keep_88 (by decide) ?_
    refine v_iadd X dX8_keep_89 ?_
    refine pf_X8_152 X dX8_keep_90 ?_
    cases h
    exact v_vret X dX8_keep_93 rfl
def F_X8_blow (N : Nat) (x1 : Int32) (x2 : Int32) (g : GS) : Option (Int32 × GS) := bd1 (ix (1 : Int32) 53) (fun j1 => bd2 (F_X8_in N (x1.toInt64) (0 : Int64) ((((g3 g 10 0 0 (0 : Int32)) 11 5 j1) - (1 : Int32)).toInt64) (g3 g 10 0 0 (0 : Int32))) (fun r5 g4 => if r5 = 0 then some ((-1000001 : Int32), g4) else bd2 (F_X8_in N (x2.toInt64) (0 : Int64) (9 : Int64) g4) (fun r9 g8 => if r9 = 0 then some ((-1000001 : Int32), g8) else bd1 (F_X8_keep N  g8) (fun g12 => bd1 (ix ((5 : Int32) + x1) 53) (fun j13 => bd1 (ix ((5 : Int32) + x1) 53) (fun j15 => some ((g12 11 5 j13), (g3 g12 11 5 j15 x2))))))))
set_option maxRecDepth 100000 in
set_option maxHeartbeats 4000000 in
theorem c_X8_blow (l : Launch) (D : va_G) (ad : Ky → Nat) (cy : Nat → ClassId) (hI : Inj ad) (N : Nat) (x1 : Int32) (x2 : Int32) (g : GS) (r : Int32) (gq : GS) (h : F_X8_blow N x1 x2 g = some (r, gq)) : CtI l D ad cy yX8_blow cX8_blow 4 (some .int) 1 [.ref (ad (8, 0, 0)), .int x1, .int x2] g r gq := by
  refine CtI.of 1 hI (by decide +kernel) rfl (Nat.le_of_ble_eq_true rfl) (fun p e s m args below meth c X => ?_)
  unfold F_X8_blow at h
  show Vy _ _ _ _ _ _ _ _ _ _ _ _ _ _ _ 0 [some (.ref (ad (8, 0, 0))), some (.int x1), some (.int x2), none] [] g
  refine v_aloadn X dX8_blow_0 rfl rfl ?_
  refine v_iconst (v := 0) X dX8_blow_1 (by decide) ?_
  refine pf_X8_50 X dX8_blow_2 ?_
  refine v_iloadn X dX8_blow_5 rfl rfl ?_
  refine v_i2l X dX8_blow_6 ?_
  refine v_lconst (v := 0) X dX8_blow_7 (by decide) ?_
  refine v_aloadn X dX8_blow_8 rfl rfl ?_
  refine gf_X8_19 X dX8_blow_9 ?_
  refine v_iconst (v := 1) X dX8_blow_12 (by decide) ?_
  obtain ⟨j1, q2, h⟩ := bd1_some h
  obtain ⟨ej1, lj1⟩ := ix_spec q2
  refine alM X (by decide +kernel) j1 ej1 lj1 dX8_blow_13 ?_
  refine v_iconst (v := 1) X dX8_blow_14 (by decide) ?_
  refine v_isub X dX8_blow_15 ?_
  refine v_i2l X dX8_blow_16 ?_
  obtain ⟨r5, g4, q3, h⟩ := bd2_some h
  refine v_callSI (As := [.long (x1.toInt64), .long (0 : Int64), .long ((((g3 g 10 0 0 (0 : Int32)) 11 5 j1) - (1 : Int32)).toInt64)]) (rest := []) X (c_X8_in l D ad cy X.2.2.2.2.2.2.2.2.1 N (x1.toInt64) (0 : Int64) ((((g3 g 10 0 0 (0 : Int32)) 11 5 j1) - (1 : Int32)).toInt64) (g3 g 10 0 0 (0 : Int32)) r5 g4  q3) mw_X8_in ml_X8_60 (by decide) rfl rfl (Nat.le_of_ble_eq_true rfl) dX8_blow_17 ?_
  refine v_if_eq X 35 dX8_blow_20 (by decide) (fun c6 => ?_) (fun c6 => ?_)
  · replace h := (if_pos c6).symm.trans h
    refine v_ldc X kc_X8_70 dX8_blow_35 ?_
    cases h
    exact v_iret X dX8_blow_37 rfl rfl
  · replace h := (if_neg c6).symm.trans h
    refine v_iloadn X dX8_blow_23 rfl rfl ?_
    refine v_i2l X dX8_blow_24 ?_
    refine v_lconst (v := 0) X dX8_blow_25 (by decide) ?_
    refine v_ldc2 X kl_X8_227 dX8_blow_26 ?_
    obtain ⟨r9, g8, q7, h⟩ := bd2_some h
    refine v_callSI (As := [.long (x2.toInt64), .long (0 : Int64), .long (9 : Int64)]) (rest := []) X (c_X8_in l D ad cy X.2.2.2.2.2.2.2.2.1 N (x2.toInt64) (0 : Int64) (9 : Int64) g4 r9 g8  q7) mw_X8_in ml_X8_60 (by decide) rfl rfl (Nat.le_of_ble_eq_true rfl) dX8_blow_29 ?_
    refine v_if_ne X 38 dX8_blow_32 (by decide) (fun c10 => ?_) (fun c10 => ?_)
    · replace h := (if_neg c10).symm.trans h
      refine v_aloadn X dX8_blow_38 rfl rfl ?_
      obtain ⟨g12, q11, h⟩ := bd1_some h
      refine v_callVV (As := []) (rest := []) X (c_X8_keep l D ad cy X.2.2.2.2.2.2.2.2.1 N  g8 g12  q11) mw_X8_keep ml_X8_201 (by decide) (by decide +kernel) (by decide) rfl rfl rfl rfl (Nat.le_of_ble_eq_true rfl) dX8_blow_39 ?_
      refine v_aloadn X dX8_blow_42 rfl rfl ?_
      refine gf_X8_19 X dX8_blow_43 ?_
      refine v_iconst (v := 5) X dX8_blow_46 (by decide) ?_
      refine v_iloadn X dX8_blow_47 rfl rfl ?_
      refine v_iadd X dX8_blow_48 ?_
      obtain ⟨j13, q14, h⟩ := bd1_some h
      obtain ⟨ej13, lj13⟩ := ix_spec q14
      refine alM X (by decide +kernel) j13 ej13 lj13 dX8_blow_49 ?_
      refine v_istoren (lc' := [some (.ref (ad (8, 0, 0))), some (.int x1), some (.int x2), some (.int (g12 11 5 j13))]) X dX8_blow_50 rfl (by decide) rfl rfl ?_
      refine v_aloadn X dX8_blow_51 rfl rfl ?_
      refine gf_X8_19 X dX8_blow_52 ?_
      refine v_iconst (v := 5) X dX8_blow_55 (by decide) ?_
      refine v_iloadn X dX8_blow_56 rfl rfl ?_
      refine v_iadd X dX8_blow_57 ?_
      refine v_iloadn X dX8_blow_58 rfl rfl ?_
      obtain ⟨j15, q16, h⟩ := bd1_some h
      obtain ⟨ej15, lj15⟩ := ix_spec q16
      refine asM X (by decide +kernel) j15 ej15 lj15 dX8_blow_59 ?_
      refine v_iloadn X dX8_blow_60 rfl rfl ?_
      cases h
      exact v_iret X dX8_blow_61 rfl rfl
    · replace h := (if_pos c10).symm.trans h
      refine v_ldc X kc_X8_70 dX8_blow_35 ?_
      cases h
      exact v_iret X dX8_blow_37 rfl rfl
def F_X8_isPolicy (N : Nat) (b0 : Nat) (x1 : Int32) (g : GS) : Option (Int32 × GS) := bd2 (F_X8_isUp N b0 x1 g) (fun r3 g2 => if r3 = 0 then some ((0 : Int32), g2) else bd2 (F_X8_of N b0 x1 (4 : Int32) g2) (fun r7 g6 => bd1 (ix (2 : Int32) (lenM b0)) (fun j8 => if r7 < (g6 11 b0 j8) then some ((0 : Int32), g6) else some ((1 : Int32), g6))))
set_option maxRecDepth 100000 in
set_option maxHeartbeats 4000000 in
theorem c_X8_isPolicy (l : Launch) (D : va_G) (ad : Ky → Nat) (cy : Nat → ClassId) (hI : Inj ad) (N : Nat) (b0 : Nat) (x1 : Int32) (g : GS) (r : Int32) (gq : GS) (kb0 : ((9, 11, b0) : Ky) ∈ keys) (h : F_X8_isPolicy N b0 x1 g = some (r, gq)) : CtI l D ad cy yX8_isPolicy cX8_isPolicy 2 (some .boolean) 2 [.ref (ad (9, 11, b0)), .int x1] g r gq := by
  refine CtI.of 0 hI (by decide +kernel) rfl (Nat.le_of_ble_eq_true rfl) (fun p e s m args below meth c X => ?_)
  unfold F_X8_isPolicy at h
  show Vy _ _ _ _ _ _ _ _ _ _ _ _ _ _ _ 0 [some (.ref (ad (9, 11, b0))), some (.int x1)] [] g
  refine v_aloadn X dX8_isPolicy_0 rfl rfl ?_
  refine v_iloadn X dX8_isPolicy_1 rfl rfl ?_
  obtain ⟨r3, g2, q1, h⟩ := bd2_some h
  refine v_callSI (As := [.ref (ad (9, 11, b0)), .int x1]) (rest := []) X (c_X8_isUp l D ad cy X.2.2.2.2.2.2.2.2.1 N b0 x1 g r3 g2 (by assumption) q1) mw_X8_isUp ml_X8_159 (by decide) rfl rfl (Nat.le_of_ble_eq_true rfl) dX8_isPolicy_2 ?_
  refine v_if_eq X 24 dX8_isPolicy_5 (by decide) (fun c4 => ?_) (fun c4 => ?_)
  · replace h := (if_pos c4).symm.trans h
    refine v_iconst (v := 0) X dX8_isPolicy_24 (by decide) ?_
    cases h
    exact v_zret X dX8_isPolicy_25 rfl rfl rfl
  · replace h := (if_neg c4).symm.trans h
    refine v_aloadn X dX8_isPolicy_8 rfl rfl ?_
    refine v_iloadn X dX8_isPolicy_9 rfl rfl ?_
    refine v_iconst (v := 4) X dX8_isPolicy_10 (by decide) ?_
    obtain ⟨r7, g6, q5, h⟩ := bd2_some h
    refine v_callSI (As := [.ref (ad (9, 11, b0)), .int x1, .int (4 : Int32)]) (rest := []) X (c_X8_of l D ad cy X.2.2.2.2.2.2.2.2.1 N b0 x1 (4 : Int32) g2 r7 g6 (by assumption) q5) mw_X8_of ml_X8_155 (by decide) rfl rfl (Nat.le_of_ble_eq_true rfl) dX8_isPolicy_11 ?_
    refine v_aloadn X dX8_isPolicy_14 rfl rfl ?_
    refine v_iconst (v := 2) X dX8_isPolicy_15 (by decide) ?_
    obtain ⟨j8, q9, h⟩ := bd1_some h
    obtain ⟨ej8, lj8⟩ := ix_spec q9
    refine alM X (by assumption) j8 ej8 lj8 dX8_isPolicy_16 ?_
    refine v_icmp_lt X 24 dX8_isPolicy_17 (by decide) (fun c10 => ?_) (fun c10 => ?_)
    · replace h := (if_pos c10).symm.trans h
      refine v_iconst (v := 0) X dX8_isPolicy_24 (by decide) ?_
      cases h
      exact v_zret X dX8_isPolicy_25 rfl rfl rfl
    · replace h := (if_neg c10).symm.trans h
      refine v_iconst (v := 1) X dX8_isPolicy_20 (by decide) ?_
      refine v_goto X 25 dX8_isPolicy_21 (by decide) ?_
      cases h
      exact v_zret X dX8_isPolicy_25 rfl rfl rfl
def L_X8_calm_79 (N : Nat) (z1 : Int32) (z2 : Int32) (z3 : Int32) (z4 : Int32) (z5 : Int64) (z7 : Int64) (z9 : Int32) : Nat → Int64 → Int32 → GS → Option (Int64 × Int32 × GS)
  | 0, _, _, _ => none
  | n + 1, y10, y12, g => if z2 ≤ y12 then some (y10, y12, g) else if ((z9 >>> (y12 &&& 31)) &&& (1 : Int32)) = (1 : Int32) then if ((z9 >>> (y12 &&& 31)) &&& (1 : Int32)) = (1 : Int32) then bd1 (F_X8_hourBy N 7 (0 : Int32) g) (fun g41 => L_X8_calm_79 N z1 z2 z3 z4 z5 z7 z9 n (y10 * (z3.toInt64)) (y12 + 1) g41) else bd1 (ix (4 : Int32) 53) (fun j33 => bd2 (F_X8_forceOf N 7 (g 11 7 j33) g) (fun r37 g36 => bd1 (F_X8_hourBy N 7 r37 g36) (fun g39 => L_X8_calm_79 N z1 z2 z3 z4 z5 z7 z9 n (y10 * (z3.toInt64)) (y12 + 1) g39))) else if ((z9 >>> (y12 &&& 31)) &&& (1 : Int32)) = (1 : Int32) then bd1 (F_X8_hourBy N 7 (0 : Int32) g) (fun g31 => L_X8_calm_79 N z1 z2 z3 z4 z5 z7 z9 n (y10 * ((10 : Int64) - (z3.toInt64))) (y12 + 1) g31) else bd1 (ix (4 : Int32) 53) (fun j23 => bd2 (F_X8_forceOf N 7 (g 11 7 j23) g) (fun r27 g26 => bd1 (F_X8_hourBy N 7 r27 g26) (fun g29 => L_X8_calm_79 N z1 z2 z3 z4 z5 z7 z9 n (y10 * ((10 : Int64) - (z3.toInt64))) (y12 + 1) g29)))
def L_X8_calm_61 (N : Nat) (z1 : Int32) (z2 : Int32) (z3 : Int32) (z4 : Int32) : Nat → Int64 → Int64 → Int32 → GS → Option (Int64 × Int64 × Int32 × GS)
  | 0, _, _, _, _ => none
  | n + 1, y5, y7, y9, g => if ((1 : Int32) <<< (z2 &&& 31)) ≤ y9 then some (y5, y7, y9, g) else bd1 (F_X8_layThen N  g) (fun g19 => bd3 (L_X8_calm_79 N z1 z2 z3 z4 y5 y7 y9 N (1 : Int64) (0 : Int32) g19) (fun x42 x43 g44 => bd2 (F_X8_isPolicy N 7 z1 g44) (fun r48 g47 => if r48 = 0 then L_X8_calm_61 N z1 z2 z3 z4 n (y5 + (0 : Int64)) (y7 + x42) (y9 + 1) g47 else L_X8_calm_61 N z1 z2 z3 z4 n (y5 + x42) (y7 + x42) (y9 + 1) g47)))
def L_X8_calm_197 (N : Nat) (z1 : Int32) (z2 : Int32) (z3 : Int32) (z4 : Int32) (z5 : Int64) (z7 : Int64) : Nat → Int64 → Int64 → GS → Option (Int64 × Int64 × GS)
  | 0, _, _, _ => none
  | n + 1, y9, y11, g => if (lg_cmp y11 (0 : Int64)) = 0 then some (y9, y11, g) else if y11 = 0 then none else L_X8_calm_197 N z1 z2 z3 z4 z5 z7 n y11 (y9 - y9 / y11 * y11) g
def F_X8_calm (N : Nat) (x1 : Int32) (x2 : Int32) (x3 : Int32) (x4 : Int32) (g : GS) : Option (Int64 × GS) := bd2 (F_X8_isPaper N x1 (g3 g 10 0 0 (0 : Int32))) (fun r3 g2 => if r3 = 0 then some ((-1000001 : Int64), g2) else bd2 (F_X8_in N (x2.toInt64) (0 : Int64) (8 : Int64) g2) (fun r7 g6 => if r7 = 0 then some ((-1000001 : Int64), g6) else bd2 (F_X8_in N (x3.toInt64) (0 : Int64) (10 : Int64) g6) (fun r11 g10 => if r11 = 0 then some ((-1000001 : Int64), g10) else bd2 (F_X8_in N (x4.toInt64) (0 : Int64) (1 : Int64) g10) (fun r15 g14 => if r15 = 0 then some ((-1000001 : Int64), g14) else bd4 (L_X8_calm_61 N x1 x2 x3 x4 N (0 : Int64) (0 : Int64) (0 : Int32) g14) (fun x50 x51 x52 g53 => bd3 (L_X8_calm_197 N x1 x2 x3 x4 x50 x51 N x50 x51 g53) (fun x57 x58 g59 => if x4 = 0 then if x57 = 0 then none else some ((x50 / x57), g59) else if x57 = 0 then none else some ((x51 / x57), g59)))))))
set_option maxRecDepth 100000 in
set_option maxHeartbeats 4000000 in
theorem w_X8_calm_79 {p : Program} {l : Launch} {e : Env} {s : State} {m : MethodId} {args : Array Value} {below : List Frame} {meth : Method} {c : Code} {D : va_G} {ad : Ky → Nat} {cy : Nat → ClassId} {r : Int64} {gq : GS} {N : Nat} (X : Cx p (rmd 5) s m args meth c RX8 cX8_calm 15 (some .long) D ad cy) (z1 : Int32) (z2 : Int32) (z3 : Int32) (z4 : Int32) (z5 : Int64) (z7 : Int64) (z9 : Int32) : ∀ (n : Nat) (y10 : Int64) (y12 : Int32) (g : GS) (y10' : Int64) (y12' : Int32) (g' : GS), L_X8_calm_79 N z1 z2 z3 z4 z5 z7 z9 n y10 y12 g = some (y10', y12', g') → Vy p l e (rmd 5) s m args below meth c 15 D ad cy (QL D ad cy below args s r gq) 154 [some (.ref (ad (8, 0, 0))), some (.int z1), some (.int z2), some (.int z3), some (.int z4), some (.long z5), none, some (.long z7), none, some (.int z9), some (.long y10'), none, some (.int y12'), none, none] [] g' → Vy p l e (rmd 5) s m args below meth c 15 D ad cy (QL D ad cy below args s r gq) 79 [some (.ref (ad (8, 0, 0))), some (.int z1), some (.int z2), some (.int z3), some (.int z4), some (.long z5), none, some (.long z7), none, some (.int z9), some (.long y10), none, some (.int y12), none, none] [] g := by
  intro n
  induction n with
  | zero => intro y10 y12 g y10' y12' g' h k; cases h
  | succ n ih =>
    intro y10 y12 g y10' y12' g' h k
    rw [L_X8_calm_79] at h
    refine v_iload X dX8_calm_79 rfl ?_
    refine v_iloadn X dX8_calm_81 rfl rfl ?_
    refine v_icmp_ge X 154 dX8_calm_82 (by decide) (fun c20 => ?_) (fun c20 => ?_)
    · replace h := (if_pos c20).symm.trans h
      cases h
      exact k
    · replace h := (if_neg c20).symm.trans h
      refine v_lload X dX8_calm_85 rfl ?_
      refine v_iload X dX8_calm_87 rfl ?_
      refine v_iload X dX8_calm_89 rfl ?_
      refine v_ishr X dX8_calm_91 ?_
      refine v_iconst (v := 1) X dX8_calm_92 (by decide) ?_
      refine v_iand X dX8_calm_93 ?_
      refine v_iconst (v := 1) X dX8_calm_94 (by decide) ?_
      refine v_icmp_ne X 103 dX8_calm_95 (by decide) (fun c21 => ?_) (fun c21 => ?_)
      · replace h := (if_neg c21).symm.trans h
        refine v_ldc2 X kl_X8_264 dX8_calm_103 ?_
        refine v_iloadn X dX8_calm_106 rfl rfl ?_
        refine v_i2l X dX8_calm_107 ?_
        refine v_lsub X dX8_calm_108 ?_
        refine v_lmul X dX8_calm_109 ?_
        refine v_lstore (lc' := [some (.ref (ad (8, 0, 0))), some (.int z1), some (.int z2), some (.int z3), some (.int z4), some (.long z5), none, some (.long z7), none, some (.int z9), some (.long (y10 * ((10 : Int64) - (z3.toInt64)))), none, some (.int y12), none, none]) X dX8_calm_110 (by decide) rfl rfl ?_
        refine v_aloadn X dX8_calm_112 rfl rfl ?_
        refine v_aloadn X dX8_calm_113 rfl rfl ?_
        refine gf_X8_25 X dX8_calm_114 ?_
        refine v_iload X dX8_calm_117 rfl ?_
        refine v_iload X dX8_calm_119 rfl ?_
        refine v_ishr X dX8_calm_121 ?_
        refine v_iconst (v := 1) X dX8_calm_122 (by decide) ?_
        refine v_iand X dX8_calm_123 ?_
        refine v_iconst (v := 1) X dX8_calm_124 (by decide) ?_
        refine v_icmp_ne X 132 dX8_calm_125 (by decide) (fun c22 => ?_) (fun c22 => ?_)
        · replace h := (if_neg c22).symm.trans h
          refine v_aloadn X dX8_calm_132 rfl rfl ?_
          refine gf_X8_25 X dX8_calm_133 ?_
          refine v_aloadn X dX8_calm_136 rfl rfl ?_
          refine gf_X8_25 X dX8_calm_137 ?_
          refine v_iconst (v := 4) X dX8_calm_140 (by decide) ?_
          obtain ⟨j23, q24, h⟩ := bd1_some h
          obtain ⟨ej23, lj23⟩ := ix_spec q24
          refine alM X (by decide +kernel) j23 ej23 lj23 dX8_calm_141 ?_
          obtain ⟨r27, g26, q25, h⟩ := bd2_some h
          refine v_callSI (As := [.ref (ad (9, 11, 7)), .int (g 11 7 j23)]) (rest := [.ref (ad (9, 11, 7)), .ref (ad (8, 0, 0))]) X (c_X8_forceOf l D ad cy X.2.2.2.2.2.2.2.2.1 N 7 (g 11 7 j23) g r27 g26 (by decide +kernel) q25) mw_X8_forceOf ml_X8_180 (by decide) rfl rfl (Nat.le_of_ble_eq_true rfl) dX8_calm_142 ?_
          obtain ⟨g29, q28, h⟩ := bd1_some h
          refine v_callVV (As := [.ref (ad (9, 11, 7)), .int r27]) (rest := []) X (c_X8_hourBy l D ad cy X.2.2.2.2.2.2.2.2.1 N 7 r27 g26 g29 (by decide +kernel) q28) mw_X8_hourBy ml_X8_184 (by decide) (by decide +kernel) (by decide) rfl rfl rfl rfl (Nat.le_of_ble_eq_true rfl) dX8_calm_145 ?_
          refine v_iinc (v := (y12 + 1)) (lc' := [some (.ref (ad (8, 0, 0))), some (.int z1), some (.int z2), some (.int z3), some (.int z4), some (.long z5), none, some (.long z7), none, some (.int z9), some (.long (y10 * ((10 : Int64) - (z3.toInt64)))), none, some (.int (y12 + 1)), none, none]) X dX8_calm_148 rfl rfl (by decide) rfl rfl ?_
          refine v_goto X 79 dX8_calm_151 (by decide) ?_
          exact ih (y10 * ((10 : Int64) - (z3.toInt64))) (y12 + 1) g29 _ _ _ h k
        · replace h := (if_pos c22).symm.trans h
          refine v_iconst (v := 0) X dX8_calm_128 (by decide) ?_
          refine v_goto X 145 dX8_calm_129 (by decide) ?_
          obtain ⟨g31, q30, h⟩ := bd1_some h
          refine v_callVV (As := [.ref (ad (9, 11, 7)), .int (0 : Int32)]) (rest := []) X (c_X8_hourBy l D ad cy X.2.2.2.2.2.2.2.2.1 N 7 (0 : Int32) g g31 (by decide +kernel) q30) mw_X8_hourBy ml_X8_184 (by decide) (by decide +kernel) (by decide) rfl rfl rfl rfl (Nat.le_of_ble_eq_true rfl) dX8_calm_145 ?_
          refine v_iinc (v := (y12 + 1)) (lc' := [some (.ref (ad (8, 0, 0))), some (.int z1), some (.int z2), some (.int z3), some (.int z4), some (.long z5), none, some (.long z7), none, some (.int z9), some (.long (y10 * ((10 : Int64) - (z3.toInt64)))), none, some (.int (y12 + 1)), none, none]) X dX8_calm_148 rfl rfl (by decide) rfl rfl ?_
          refine v_goto X 79 dX8_calm_151 (by decide) ?_
          exact ih (y10 * ((10 : Int64) - (z3.toInt64))) (y12 + 1) g31 _ _ _ h k
      · replace h := (if_pos c21).symm.trans h
        refine v_iloadn X dX8_calm_98 rfl rfl ?_
        refine v_i2l X dX8_calm_99 ?_
        refine v_goto X 109 dX8_calm_100 (by decide) ?_
        refine v_lmul X dX8_calm_109 ?_
        refine v_lstore (lc' := [some (.ref (ad (8, 0, 0))), some (.int z1), some (.int z2), some (.int z3), some (.int z4), some (.long z5), none, some (.long z7), none, some (.int z9), some (.long (y10 * (z3.toInt64))), none, some (.int y12), none, none]) X dX8_calm_110 (by decide) rfl rfl ?_
        refine v_aloadn X dX8_calm_112 rfl rfl ?_
        refine v_aloadn X dX8_calm_113 rfl rfl ?_
        refine gf_X8_25 X dX8_calm_114 ?_
        refine v_iload X dX8_calm_117 rfl ?_
        refine v_iload X dX8_calm_119 rfl ?_
        refine v_ishr X dX8_calm_121 ?_
        refine v_iconst (v := 1) X dX8_calm_122 (by decide) ?_
        refine v_iand X dX8_calm_123 ?_
        refine v_iconst (v := 1) X dX8_calm_124 (by decide) ?_
        refine v_icmp_ne X 132 dX8_calm_125 (by decide) (fun c32 => ?_) (fun c32 => ?_)
        · replace h := (if_neg c32).symm.trans h
          refine v_aloadn X dX8_calm_132 rfl rfl ?_
          refine gf_X8_25 X dX8_calm_133 ?_
          refine v_aloadn X dX8_calm_136 rfl rfl ?_
          refine gf_X8_25 X dX8_calm_137 ?_
          refine v_iconst (v := 4) X dX8_calm_140 (by decide) ?_
          obtain ⟨j33, q34, h⟩ := bd1_some h
          obtain ⟨ej33, lj33⟩ := ix_spec q34
          refine alM X (by decide +kernel) j33 ej33 lj33 dX8_calm_141 ?_
          obtain ⟨r37, g36, q35, h⟩ := bd2_some h
          refine v_callSI (As := [.ref (ad (9, 11, 7)), .int (g 11 7 j33)]) (rest := [.ref (ad (9, 11, 7)), .ref (ad (8, 0, 0))]) X (c_X8_forceOf l D ad cy X.2.2.2.2.2.2.2.2.1 N 7 (g 11 7 j33) g r37 g36 (by decide +kernel) q35) mw_X8_forceOf ml_X8_180 (by decide) rfl rfl (Nat.le_of_ble_eq_true rfl) dX8_calm_142 ?_
          obtain ⟨g39, q38, h⟩ := bd1_some h
          refine v_callVV (As := [.ref (ad (9, 11, 7)), .int r37]) (rest := []) X (c_X8_hourBy l D ad cy X.2.2.2.2.2.2.2.2.1 N 7 r37 g36 g39 (by decide +kernel) q38) mw_X8_hourBy ml_X8_184 (by decide) (by decide +kernel) (by decide) rfl rfl rfl rfl (Nat.le_of_ble_eq_true rfl) dX8_calm_145 ?_
          refine v_iinc (v := (y12 + 1)) (lc' := [some (.ref (ad (8, 0, 0))), some (.int z1), some (.int z2), some (.int z3), some (.int z4), some (.long z5), none, some (.long z7), none, some (.int z9), some (.long (y10 * (z3.toInt64))), none, some (.int (y12 + 1)), none, none]) X dX8_calm_148 rfl rfl (by decide) rfl rfl ?_
          refine v_goto X 79 dX8_calm_151 (by decide) ?_
          exact ih (y10 * (z3.toInt64)) (y12 + 1) g39 _ _ _ h k
        · replace h := (if_pos c32).symm.trans h
          refine v_iconst (v := 0) X dX8_calm_128 (by decide) ?_
          refine v_goto X 145 dX8_calm_129 (by decide) ?_
          obtain ⟨g41, q40, h⟩ := bd1_some h
          refine v_callVV (As := [.ref (ad (9, 11, 7)), .int (0 : Int32)]) (rest := []) X (c_X8_hourBy l D ad cy X.2.2.2.2.2.2.2.2.1 N 7 (0 : Int32) g g41 (by decide +kernel) q40) mw_X8_hourBy ml_X8_184 (by decide) (by decide +kernel) (by decide) rfl rfl rfl rfl (Nat.le_of_ble_eq_true rfl) dX8_calm_145 ?_
          refine v_iinc (v := (y12 + 1)) (lc' := [some (.ref (ad (8, 0, 0))), some (.int z1), some (.int z2), some (.int z3), some (.int z4), some (.long z5), none, some (.long z7), none, some (.int z9), some (.long (y10 * (z3.toInt64))), none, some (.int (y12 + 1)), none, none]) X dX8_calm_148 rfl rfl (by decide) rfl rfl ?_
          refine v_goto X 79 dX8_calm_151 (by decide) ?_
          exact ih (y10 * (z3.toInt64)) (y12 + 1) g41 _ _ _ h k
set_option maxRecDepth 100000 in
set_option maxHeartbeats 4000000 in
theorem w_X8_calm_61 {p : Program} {l : Launch} {e : Env} {s : State} {m : MethodId} {args : Array Value} {below : List Frame} {meth : Method} {c : Code} {D : va_G} {ad : Ky → Nat} {cy : Nat → ClassId} {r : Int64} {gq : GS} {N : Nat} (X : Cx p (rmd 5) s m args meth c RX8 cX8_calm 15 (some .long) D ad cy) (z1 : Int32) (z2 : Int32) (z3 : Int32) (z4 : Int32) : ∀ (n : Nat) (y5 : Int64) (y7 : Int64) (y9 : Int32) (g : GS) (y5' : Int64) (y7' : Int64) (y9' : Int32) (g' : GS), L_X8_calm_61 N z1 z2 z3 z4 n y5 y7 y9 g = some (y5', y7', y9', g') → Vy p l e (rmd 5) s m args below meth c 15 D ad cy (QL D ad cy below args s r gq) 189 [some (.ref (ad (8, 0, 0))), some (.int z1), some (.int z2), some (.int z3), some (.int z4), some (.long y5'), none, some (.long y7'), none, some (.int y9'), none, none, none, none, none] [] g' → Vy p l e (rmd 5) s m args below meth c 15 D ad cy (QL D ad cy below args s r gq) 61 [some (.ref (ad (8, 0, 0))), some (.int z1), some (.int z2), some (.int z3), some (.int z4), some (.long y5), none, some (.long y7), none, some (.int y9), none, none, none, none, none] [] g := by
  intro n
  induction n with
  | zero => intro y5 y7 y9 g y5' y7' y9' g' h k; cases h
  | succ n ih =>
    intro y5 y7 y9 g y5' y7' y9' g' h k
    rw [L_X8_calm_61] at h
    refine v_iload X dX8_calm_61 rfl ?_
    refine v_iconst (v := 1) X dX8_calm_63 (by decide) ?_
    refine v_iloadn X dX8_calm_64 rfl rfl ?_
    refine v_ishl X dX8_calm_65 ?_
    refine v_icmp_ge X 189 dX8_calm_66 (by decide) (fun c17 => ?_) (fun c17 => ?_)
    · replace h := (if_pos c17).symm.trans h
      cases h
      exact k
    · replace h := (if_neg c17).symm.trans h
      refine v_lconst (v := 1) X dX8_calm_69 (by decide) ?_
      refine v_lstore (lc' := [some (.ref (ad (8, 0, 0))), some (.int z1), some (.int z2), some (.int z3), some (.int z4), some (.long y5), none, some (.long y7), none, some (.int y9), some (.long (1 : Int64)), none, none, none, none]) X dX8_calm_70 (by decide) rfl rfl ?_
      refine v_aloadn X dX8_calm_72 rfl rfl ?_
      obtain ⟨g19, q18, h⟩ := bd1_some h
      refine v_callVV (As := []) (rest := []) X (c_X8_layThen l D ad cy X.2.2.2.2.2.2.2.2.1 N  g g19  q18) mw_X8_layThen ml_X8_232 (by decide) (by decide +kernel) (by decide) rfl rfl rfl rfl (Nat.le_of_ble_eq_true rfl) dX8_calm_73 ?_
      refine v_iconst (v := 0) X dX8_calm_76 (by decide) ?_
      refine v_istore (lc' := [some (.ref (ad (8, 0, 0))), some (.int z1), some (.int z2), some (.int z3), some (.int z4), some (.long y5), none, some (.long y7), none, some (.int y9), some (.long (1 : Int64)), none, some (.int (0 : Int32)), none, none]) X dX8_calm_77 (by decide) rfl rfl ?_
      obtain ⟨x42, x43, g44, q45, h⟩ := bd3_some h
      refine w_X8_calm_79 X z1 z2 z3 z4 y5 y7 y9 N (1 : Int64) (0 : Int32) g19 x42 x43 g44 q45 ?_
      refine v_lload X dX8_calm_154 rfl ?_
      refine v_lload X dX8_calm_156 rfl ?_
      refine v_ladd X dX8_calm_158 ?_
      refine v_lstore (lc' := [some (.ref (ad (8, 0, 0))), some (.int z1), some (.int z2), some (.int z3), some (.int z4), some (.long y5), none, some (.long (y7 + x42)), none, some (.int y9), some (.long x42), none, some (.int x43), none, none]) X dX8_calm_159 (by decide) rfl rfl ?_
      refine v_lload X dX8_calm_161 rfl ?_
      refine v_aloadn X dX8_calm_163 rfl rfl ?_
      refine gf_X8_25 X dX8_calm_164 ?_
      refine v_iloadn X dX8_calm_167 rfl rfl ?_
      obtain ⟨r48, g47, q46, h⟩ := bd2_some h
      refine v_callSI (As := [.ref (ad (9, 11, 7)), .int z1]) (rest := [.long y5]) X (c_X8_isPolicy l D ad cy X.2.2.2.2.2.2.2.2.1 N 7 z1 g44 r48 g47 (by decide +kernel) q46) mw_X8_isPolicy ml_X8_192 (by decide) rfl rfl (Nat.le_of_ble_eq_true rfl) dX8_calm_168 ?_
      refine v_if_eq X 179 dX8_calm_171 (by decide) (fun c49 => ?_) (fun c49 => ?_)
      · replace h := (if_pos c49).symm.trans h
        refine v_lconst (v := 0) X dX8_calm_179 (by decide) ?_
        refine v_ladd X dX8_calm_180 ?_
        refine v_lstore (lc' := [some (.ref (ad (8, 0, 0))), some (.int z1), some (.int z2), some (.int z3), some (.int z4), some (.long (y5 + (0 : Int64))), none, some (.long (y7 + x42)), none, some (.int y9), some (.long x42), none, some (.int x43), none, none]) X dX8_calm_181 (by decide) rfl rfl ?_
        refine v_iinc (v := (y9 + 1)) (lc' := [some (.ref (ad (8, 0, 0))), some (.int z1), some (.int z2), some (.int z3), some (.int z4), some (.long (y5 + (0 : Int64))), none, some (.long (y7 + x42)), none, some (.int (y9 + 1)), some (.long x42), none, some (.int x43), none, none]) X dX8_calm_183 rfl rfl (by decide) rfl rfl ?_
        refine v_goto X 61 dX8_calm_186 (by decide) ?_
        refine v_weak (lc2 := [some (.ref (ad (8, 0, 0))), some (.int z1), some (.int z2), some (.int z3), some (.int z4), some (.long (y5 + (0 : Int64))), none, some (.long (y7 + x42)), none, some (.int (y9 + 1)), none, none, none, none, none]) ⟨rfl, rfl, rfl, rfl, rfl, rfl, rfl, rfl, trivial⟩ ?_
        exact ih (y5 + (0 : Int64)) (y7 + x42) (y9 + 1) g47 _ _ _ _ h k
      · replace h := (if_neg c49).symm.trans h
        refine v_lload X dX8_calm_174 rfl ?_
        refine v_goto X 180 dX8_calm_176 (by decide) ?_
        refine v_ladd X dX8_calm_180 ?_
        refine v_lstore (lc' := [some (.ref (ad (8, 0, 0))), some (.int z1), some (.int z2), some (.int z3), some (.int z4), some (.long (y5 + x42)), none, some (.long (y7 + x42)), none, some (.int y9), some (.long x42), none, some (.int x43), none, none]) X dX8_calm_181 (by decide) rfl rfl ?_
        refine v_iinc (v := (y9 + 1)) (lc' := [some (.ref (ad (8, 0, 0))), some (.int z1), some (.int z2), some (.int z3), some (.int z4), some (.long (y5 + x42)), none, some (.long (y7 + x42)), none, some (.int (y9 + 1)), some (.long x42), none, some (.int x43), none, none]) X dX8_calm_183 rfl rfl (by decide) rfl rfl ?_
        refine v_goto X 61 dX8_calm_186 (by decide) ?_
        refine v_weak (lc2 := [some (.ref (ad (8, 0, 0))), some (.int z1), some (.int z2), some (.int z3), some (.int z4), some (.long (y5 + x42)), none, some (.long (y7 + x42)), none, some (.int (y9 + 1)), none, none, none, none, none]) ⟨rfl, rfl, rfl, rfl, rfl, rfl, rfl, rfl, trivial⟩ ?_
        exact ih (y5 + x42) (y7 + x42) (y9 + 1) g47 _ _ _ _ h k
set_option maxRecDepth 100000 in
set_option maxHeartbeats 4000000 in
theorem w_X8_calm_197 {p : Program} {l : Launch} {e : Env} {s : State} {m : MethodId} {args : Array Value} {below : List Frame} {meth : Method} {c : Code} {D : va_G} {ad : Ky → Nat} {cy : Nat → ClassId} {r : Int64} {gq : GS} {N : Nat} (X : Cx p (rmd 5) s m args meth c RX8 cX8_calm 15 (some .long) D ad cy) (z1 : Int32) (z2 : Int32) (z3 : Int32) (z4 : Int32) (z5 : Int64) (z7 : Int64) : ∀ (n : Nat) (y9 : Int64) (y11 : Int64) (g : GS) (y9' : Int64) (y11' : Int64) (g' : GS), L_X8_calm_197 N z1 z2 z3 z4 z5 z7 n y9 y11 g = some (y9', y11', g') → Vy p l e (rmd 5) s m args below meth c 15 D ad cy (QL D ad cy below args s r gq) 222 [some (.ref (ad (8, 0, 0))), some (.int z1), some (.int z2), some (.int z3), some (.int z4), some (.long z5), none, some (.long z7), none, some (.long y9'), none, some (.long y11'), none, none, none] [] g' → Vy p l e (rmd 5) s m args below meth c 15 D ad cy (QL D ad cy below args s r gq) 197 [some (.ref (ad (8, 0, 0))), some (.int z1), some (.int z2), some (.int z3), some (.int z4), some (.long z5), none, some (.long z7), none, some (.long y9), none, some (.long y11), none, none, none] [] g := by
  intro n
  induction n with
  | zero => intro y9 y11 g y9' y11' g' h k; cases h
  | succ n ih =>
    intro y9 y11 g y9' y11' g' h k
    rw [L_X8_calm_197] at h
    refine v_lload X dX8_calm_197 rfl ?_
    refine v_lconst (v := 0) X dX8_calm_199 (by decide) ?_
    refine v_lcmp X dX8_calm_200 ?_
    refine v_if_eq X 222 dX8_calm_201 (by decide) (fun c55 => ?_) (fun c55 => ?_)
    · replace h := (if_pos c55).symm.trans h
      cases h
      exact k
    · replace h := (if_neg c55).symm.trans h
      refine v_lload X dX8_calm_204 rfl ?_
      refine v_lload X dX8_calm_206 rfl ?_
      by_cases c56 : y11 = 0
      · replace h := (if_pos c56).symm.trans h
        cases h
      replace h := (if_neg c56).symm.trans h
      refine v_lrem X dX8_calm_208 c56 ?_
      refine v_lstore (lc' := [some (.ref (ad (8, 0, 0))), some (.int z1), some (.int z2), some (.int z3), some (.int z4), some (.long z5), none, some (.long z7), none, some (.long y9), none, some (.long y11), none, some (.long (y9 - y9 / y11 * y11)), none]) X dX8_calm_209 (by decide) rfl rfl ?_
      refine v_lload X dX8_calm_211 rfl ?_
      refine v_lstore (lc' := [some (.ref (ad (8, 0, 0))), some (.int z1), some (.int z2), some (.int z3), some (.int z4), some (.long z5), none, some (.long z7), none, some (.long y11), none, some (.long y11), none, some (.long (y9 - y9 / y11 * y11)), none]) X dX8_calm_213 (by decide) rfl rfl ?_
      refine v_lload X dX8_calm_215 rfl ?_
      refine v_lstore (lc' := [some (.ref (ad (8, 0, 0))), some (.int z1), some (.int z2), some (.int z3), some (.int z4), some (.long z5), none, some (.long z7), none, some (.long y11), none, some (.long (y9 - y9 / y11 * y11)), none, some (.long (y9 - y9 / y11 * y11)), none]) X dX8_calm_217 (by decide) rfl rfl ?_
      refine v_goto X 197 dX8_calm_219 (by decide) ?_
      refine v_weak (lc2 := [some (.ref (ad (8, 0, 0))), some (.int z1), some (.int z2), some (.int z3), some (.int z4), some (.long z5), none, some (.long z7), none, some (.long y11), none, some (.long (y9 - y9 / y11 * y11)), none, none, none]) ⟨rfl, rfl, rfl, rfl, rfl, rfl, rfl, rfl, rfl, trivial⟩ ?_
      exact ih y11 (y9 - y9 / y11 * y11) g _ _ _ h k
set_option maxRecDepth 100000 in
set_option maxHeartbeats 4000000 in
theorem c_X8_calm (l : Launch) (D : va_G) (ad : Ky → Nat) (cy : Nat → ClassId) (hI : Inj ad) (N : Nat) (x1 : Int32) (x2 : Int32) (x3 : Int32) (x4 : Int32) (g : GS) (r : Int64) (gq : GS) (h : F_X8_calm N x1 x2 x3 x4 g = some (r, gq)) : CtL l D ad cy yX8_calm cX8_calm 15 5 [.ref (ad (8, 0, 0)), .int x1, .int x2, .int x3, .int x4] g r gq := by
  refine CtL.of 10 hI (by decide +kernel) rfl (Nat.le_of_ble_eq_true rfl) (fun p e s m args below meth c X => ?_)
  unfold F_X8_calm at h
  show Vy _ _ _ _ _ _ _ _ _ _ _ _ _ _ _ 0 [some (.ref (ad (8, 0, 0))), some (.int x1), some (.int x2), some (.int x3), some (.int x4), none, none, none, none, none, none, none, none, none, none] [] g
  refine v_aloadn X dX8_calm_0 rfl rfl ?_
  refine v_iconst (v := 0) X dX8_calm_1 (by decide) ?_
  refine pf_X8_50 X dX8_calm_2 ?_
  refine v_aloadn X dX8_calm_5 rfl rfl ?_
  refine v_iloadn X dX8_calm_6 rfl rfl ?_
  obtain ⟨r3, g2, q1, h⟩ := bd2_some h
  refine v_callVI (As := [.int x1]) (rest := []) X (c_X8_isPaper l D ad cy X.2.2.2.2.2.2.2.2.1 N x1 (g3 g 10 0 0 (0 : Int32)) r3 g2  q1) mw_X8_isPaper ml_X8_208 (by decide) (by decide +kernel) (by decide) rfl rfl rfl rfl (Nat.le_of_ble_eq_true rfl) dX8_calm_7 ?_
  refine v_if_eq X 48 dX8_calm_10 (by decide) (fun c4 => ?_) (fun c4 => ?_)
  · replace h := (if_pos c4).symm.trans h
    refine v_ldc2 X kl_X8_266 dX8_calm_48 ?_
    cases h
    exact v_lret X dX8_calm_51 rfl rfl
  · replace h := (if_neg c4).symm.trans h
    refine v_iloadn X dX8_calm_13 rfl rfl ?_
    refine v_i2l X dX8_calm_14 ?_
    refine v_lconst (v := 0) X dX8_calm_15 (by decide) ?_
    refine v_ldc2 X kl_X8_262 dX8_calm_16 ?_
    obtain ⟨r7, g6, q5, h⟩ := bd2_some h
    refine v_callSI (As := [.long (x2.toInt64), .long (0 : Int64), .long (8 : Int64)]) (rest := []) X (c_X8_in l D ad cy X.2.2.2.2.2.2.2.2.1 N (x2.toInt64) (0 : Int64) (8 : Int64) g2 r7 g6  q5) mw_X8_in ml_X8_60 (by decide) rfl rfl (Nat.le_of_ble_eq_true rfl) dX8_calm_19 ?_
    refine v_if_eq X 48 dX8_calm_22 (by decide) (fun c8 => ?_) (fun c8 => ?_)
    · replace h := (if_pos c8).symm.trans h
      refine v_ldc2 X kl_X8_266 dX8_calm_48 ?_
      cases h
      exact v_lret X dX8_calm_51 rfl rfl
    · replace h := (if_neg c8).symm.trans h
      refine v_iloadn X dX8_calm_25 rfl rfl ?_
      refine v_i2l X dX8_calm_26 ?_
      refine v_lconst (v := 0) X dX8_calm_27 (by decide) ?_
      refine v_ldc2 X kl_X8_264 dX8_calm_28 ?_
      obtain ⟨r11, g10, q9, h⟩ := bd2_some h
      refine v_callSI (As := [.long (x3.toInt64), .long (0 : Int64), .long (10 : Int64)]) (rest := []) X (c_X8_in l D ad cy X.2.2.2.2.2.2.2.2.1 N (x3.toInt64) (0 : Int64) (10 : Int64) g6 r11 g10  q9) mw_X8_in ml_X8_60 (by decide) rfl rfl (Nat.le_of_ble_eq_true rfl) dX8_calm_31 ?_
      refine v_if_eq X 48 dX8_calm_34 (by decide) (fun c12 => ?_) (fun c12 => ?_)
      · replace h := (if_pos c12).symm.trans h
        refine v_ldc2 X kl_X8_266 dX8_calm_48 ?_
        cases h
        exact v_lret X dX8_calm_51 rfl rfl
      · replace h := (if_neg c12).symm.trans h
        refine v_iload X dX8_calm_37 rfl ?_
        refine v_i2l X dX8_calm_39 ?_
        refine v_lconst (v := 0) X dX8_calm_40 (by decide) ?_
        refine v_lconst (v := 1) X dX8_calm_41 (by decide) ?_
        obtain ⟨r15, g14, q13, h⟩ := bd2_some h
        refine v_callSI (As := [.long (x4.toInt64), .long (0 : Int64), .long (1 : Int64)]) (rest := []) X (c_X8_in l D ad cy X.2.2.2.2.2.2.2.2.1 N (x4.toInt64) (0 : Int64) (1 : Int64) g10 r15 g14  q13) mw_X8_in ml_X8_60 (by decide) rfl rfl (Nat.le_of_ble_eq_true rfl) dX8_calm_42 ?_
        refine v_if_ne X 52 dX8_calm_45 (by decide) (fun c16 => ?_) (fun c16 => ?_)
        · replace h := (if_neg c16).symm.trans h
          refine v_lconst (v := 0) X dX8_calm_52 (by decide) ?_
          refine v_lstore (lc' := [some (.ref (ad (8, 0, 0))), some (.int x1), some (.int x2), some (.int x3), some (.int x4), some (.long (0 : Int64)), none, none, none, none, none, none, none, none, none]) X dX8_calm_53 (by decide) rfl rfl ?_
          refine v_lconst (v := 0) X dX8_calm_55 (by decide) ?_
          refine v_lstore (lc' := [some (.ref (ad (8, 0, 0))), some (.int x1), some (.int x2), some (.int x3), some (.int x4), some (.long (0 : Int64)), none, some (.long (0 : Int64)), none, none, none, none, none, none, none]) X dX8_calm_56 (by decide) rfl rfl ?_
          refine v_iconst (v := 0) X dX8_calm_58 (by decide) ?_
          refine v_istore (lc' := [some (.ref (ad (8, 0, 0))), some (.int x1), some (.int x2), some (.int x3), some (.int x4), some (.long (0 : Int64)), none, some (.long (0 : Int64)), none, some (.int (0 : Int32)), none, none, none, none, none]) X dX8_calm_59 (by decide) rfl rfl ?_
          obtain ⟨x50, x51, x52, g53, q54, h⟩ := bd4_some h
          refine w_X8_calm_61 X x1 x2 x3 x4 N (0 : Int64) (0 : Int64) (0 : Int32) g14 x50 x51 x52 g53 q54 ?_
          refine v_lload X dX8_calm_189 rfl ?_
          refine v_lstore (lc' := [some (.ref (ad (8, 0, 0))), some (.int x1), some (.int x2), some (.int x3), some (.int x4), some (.long x50), none, some (.long x51), none, some (.long x50), none, none, none, none, none]) X dX8_calm_191 (by decide) rfl rfl ?_
          refine v_lload X dX8_calm_193 rfl ?_
          refine v_lstore (lc' := [some (.ref (ad (8, 0, 0))), some (.int x1), some (.int x2), some (.int x3), some (.int x4), some (.long x50), none, some (.long x51), none, some (.long x50), none, some (.long x51), none, none, none]) X dX8_calm_195 (by decide) rfl rfl ?_
          obtain ⟨x57, x58, g59, q60, h⟩ := bd3_some h
          refine w_X8_calm_197 X x1 x2 x3 x4 x50 x51 N x50 x51 g53 x57 x58 g59 q60 ?_
          refine v_iload X dX8_calm_222 rfl ?_
          refine v_if_ne X 232 dX8_calm_224 (by decide) (fun c61 => ?_) (fun c61 => ?_)
          · replace h := (if_neg c61).symm.trans h
            refine v_lload X dX8_calm_232 rfl ?_
            refine v_lload X dX8_calm_234 rfl ?_
            by_cases c62 : x57 = 0
            · replace h := (if_pos c62).symm.trans h
              cases h
            replace h := (if_neg c62).symm.trans h
            refine v_ldiv X dX8_calm_236 c62 ?_
            cases h
            exact v_lret X dX8_calm_237 rfl rfl
          · replace h := (if_pos c61).symm.trans h
            refine v_lload X dX8_calm_227 rfl ?_
            refine v_goto X 234 dX8_calm_229 (by decide) ?_
            refine v_lload X dX8_calm_234 rfl ?_
            by_cases c63 : x57 = 0
            · replace h := (if_pos c63).symm.trans h
              cases h
            replace h := (if_neg c63).symm.trans h
            refine v_ldiv X dX8_calm_236 c63 ?_
            cases h
            exact v_lret X dX8_calm_237 rfl rfl
        · replace h := (if_pos c16).symm.trans h
          refine v_ldc2 X kl_X8_266 dX8_calm_48 ?_
          cases h
          exact v_lret X dX8_calm_51 rfl rfl
def F_X8_isRow (N : Nat) (x0 : Int32) (g : GS) : Option (Int32 × GS) := bd2 (F_X8_in N (x0.toInt64) (0 : Int64) (7 : Int64) g) (fun r3 g2 => if r3 = 0 ∨ r3 = 1 then some (r3, g2) else none)
set_option maxRecDepth 100000 in
set_option maxHeartbeats 4000000 in
theorem c_X8_isRow (l : Launch) (D : va_G) (ad : Ky → Nat) (cy : Nat → ClassId) (hI : Inj ad) (N : Nat) (x0 : Int32) (g : GS) (r : Int32) (gq : GS) (h : F_X8_isRow N x0 g = some (r, gq)) : CtI l D ad cy yX8_isRow cX8_isRow 1 (some .boolean) 1 [.int x0] g r gq := by
  refine CtI.of 0 hI (by decide +kernel) rfl (Nat.le_of_ble_eq_true rfl) (fun p e s m args below meth c X => ?_)
  unfold F_X8_isRow at h
  show Vy _ _ _ _ _ _ _ _ _ _ _ _ _ _ _ 0 [some (.int x0)] [] g
  refine v_iloadn X dX8_isRow_0 rfl rfl ?_
  refine v_i2l X dX8_isRow_1 ?_
  refine v_lconst (v := 0) X dX8_isRow_2 (by decide) ?_
  refine v_ldc2 X kl_X8_58 dX8_isRow_3 ?_
  obtain ⟨r3, g2, q1, h⟩ := bd2_some h
  refine v_callSI (As := [.long (x0.toInt64), .long (0 : Int64), .long (7 : Int64)]) (rest := []) X (c_X8_in l D ad cy X.2.2.2.2.2.2.2.2.1 N (x0.toInt64) (0 : Int64) (7 : Int64) g r3 g2  q1) mw_X8_in ml_X8_60 (by decide) rfl rfl (Nat.le_of_ble_eq_true rfl) dX8_isRow_6 ?_
  by_cases c4 : r3 = 0 ∨ r3 = 1
  · replace h := (if_pos c4).symm.trans h
    cases h
    exact v_zret X dX8_isRow_9 (nb c4) rfl rfl
  · replace h := (if_neg c4).symm.trans h
    cases h
def L_X8_copy_143 (N : Nat) (z1 : Int32) (z2 : Int32) (z3 : Int32) (z4 : Int32) (z5 : Int32) (z6 : Int32) : Nat → Int32 → GS → Option (Int32 × GS)
  | 0, _, _ => none
  | n + 1, y7, g => if z5 ≤ y7 then some (y7, g) else if z6 = 0 then bd1 (ix ((((40 : Int32) * z1) + z2) + ((z5 - (1 : Int32)) - y7)) 320) (fun j47 => bd1 (ix ((((40 : Int32) * z3) + z4) + ((z5 - (1 : Int32)) - y7)) 320) (fun j49 => L_X8_copy_143 N z1 z2 z3 z4 z5 z6 n (y7 + 1) (g3 g 11 4 j49 (g 11 4 j47)))) else bd1 (ix ((((40 : Int32) * z1) + z2) + y7) 320) (fun j51 => bd1 (ix ((((40 : Int32) * z3) + z4) + y7) 320) (fun j53 => L_X8_copy_143 N z1 z2 z3 z4 z5 z6 n (y7 + 1) (g3 g 11 4 j53 (g 11 4 j51))))
def F_X8_copy (N : Nat) (x1 : Int32) (x2 : Int32) (x3 : Int32) (x4 : Int32) (x5 : Int32) (g : GS) : Option (Int32 × GS) := bd2 (F_X8_isRow N x1 (g3 g 10 0 0 (0 : Int32))) (fun r3 g2 => if r3 = 0 then some ((-1000001 : Int32), g2) else bd2 (F_X8_isRow N x3 g2) (fun r7 g6 => if r7 = 0 then some ((-1000001 : Int32), g6) else bd1 (ix x1 8) (fun j9 => if ((g3 g6 10 0 1 (0 : Int32)) 11 2 j9) < 0 then bd2 (F_X8_finding N (1 : Int32) (g3 g6 10 0 1 (0 : Int32))) (fun r14 g13 => some (r14, g13)) else bd1 (ix x3 8) (fun j15 => if 0 ≤ ((g3 g6 10 0 1 (0 : Int32)) 11 2 j15) then bd1 (ix x1 8) (fun j18 => bd1 (ix x3 8) (fun j20 => if ((g3 g6 10 0 1 (0 : Int32)) 11 2 j18) = ((g3 g6 10 0 1 (0 : Int32)) 11 2 j20) then if x2 < 0 then bd2 (F_X8_finding N (2 : Int32) (g3 g6 10 0 1 (0 : Int32))) (fun r26 g25 => some (r26, g25)) else if x4 < 0 then bd2 (F_X8_finding N (2 : Int32) (g3 g6 10 0 1 (0 : Int32))) (fun r30 g29 => some (r30, g29)) else if x5 < 0 then bd2 (F_X8_finding N (2 : Int32) (g3 g6 10 0 1 (0 : Int32))) (fun r34 g33 => some (r34, g33)) else bd1 (ix x1 8) (fun j35 => if 0 < (lg_cmp ((x2.toInt64) + (x5.toInt64)) (((g3 g6 10 0 1 (0 : Int32)) 11 3 j35).toInt64)) then bd2 (F_X8_finding N (2 : Int32) (g3 g6 10 0 1 (0 : Int32))) (fun r40 g39 => some (r40, g39)) else bd1 (ix x3 8) (fun j41 => if (lg_cmp ((x4.toInt64) + (x5.toInt64)) (((g3 g6 10 0 1 (0 : Int32)) 11 3 j41).toInt64)) ≤ 0 then if x2 < x4 then bd2 (L_X8_copy_143 N x1 x2 x3 x4 x5 (0 : Int32) N (0 : Int32) (g3 g6 10 0 1 (0 : Int32))) (fun x55 g56 => some (x5, g56)) else bd2 (L_X8_copy_143 N x1 x2 x3 x4 x5 (1 : Int32) N (0 : Int32) (g3 g6 10 0 1 (0 : Int32))) (fun x58 g59 => some (x5, g59)) else bd2 (F_X8_finding N (2 : Int32) (g3 g6 10 0 1 (0 : Int32))) (fun r63 g62 => some (r63, g62)))) else bd2 (F_X8_finding N (5 : Int32) (g3 g6 10 0 1 (0 : Int32))) (fun r66 g65 => some (r66, g65)))) else bd2 (F_X8_finding N (1 : Int32) (g3 g6 10 0 1 (0 : Int32))) (fun r69 g68 => some (r69, g68))))))
set_option maxRecDepth 100000 in
set_option maxHeartbeats 4000000 in
theorem w_X8_copy_143 {p : Program} {l : Launch} {e : Env} {s : State} {m : MethodId} {args : Array Value} {below : List Frame} {meth : Method} {c : Code} {D : va_G} {ad : Ky → Nat} {cy : Nat → ClassId} {r : Int32} {gq : GS} {N : Nat} (X : Cx p (rmd 2) s m args meth c RX8 cX8_copy 9 (some .int) D ad cy) (z1 : Int32) (z2 : Int32) (z3 : Int32) (z4 : Int32) (z5 : Int32) (z6 : Int32) : ∀ (n : Nat) (y7 : Int32) (g : GS) (y7' : Int32) (g' : GS), L_X8_copy_143 N z1 z2 z3 z4 z5 z6 n y7 g = some (y7', g') → Vy p l e (rmd 2) s m args below meth c 9 D ad cy (QI D ad cy below args s r gq) 204 [some (.ref (ad (8, 0, 0))), some (.int z1), some (.int z2), some (.int z3), some (.int z4), some (.int z5), some (.int z6), some (.int y7'), none] [] g' → Vy p l e (rmd 2) s m args below meth c 9 D ad cy (QI D ad cy below args s r gq) 143 [some (.ref (ad (8, 0, 0))), some (.int z1), some (.int z2), some (.int z3), some (.int z4), some (.int z5), some (.int z6), some (.int y7), none] [] g := by
  intro n
  induction n with
  | zero => intro y7 g y7' g' h k; cases h
  | succ n ih =>
    intro y7 g y7' g' h k
    rw [L_X8_copy_143] at h
    refine v_iload X dX8_copy_143 rfl ?_
    refine v_iload X dX8_copy_145 rfl ?_
    refine v_icmp_ge X 204 dX8_copy_147 (by decide) (fun c45 => ?_) (fun c45 => ?_)
    · replace h := (if_pos c45).symm.trans h
      cases h
      exact k
    · replace h := (if_neg c45).symm.trans h
      refine v_iload X dX8_copy_150 rfl ?_
      refine v_if_eq X 160 dX8_copy_152 (by decide) (fun c46 => ?_) (fun c46 => ?_)
      · replace h := (if_pos c46).symm.trans h
        refine v_iload X dX8_copy_160 rfl ?_
        refine v_iconst (v := 1) X dX8_copy_162 (by decide) ?_
        refine v_isub X dX8_copy_163 ?_
        refine v_iload X dX8_copy_164 rfl ?_
        refine v_isub X dX8_copy_166 ?_
        refine v_istore (lc' := [some (.ref (ad (8, 0, 0))), some (.int z1), some (.int z2), some (.int z3), some (.int z4), some (.int z5), some (.int z6), some (.int y7), some (.int ((z5 - (1 : Int32)) - y7))]) X dX8_copy_167 (by decide) rfl rfl ?_
        refine v_aloadn X dX8_copy_169 rfl rfl ?_
        refine gf_X8_16 X dX8_copy_170 ?_
        refine v_bipush (v := 40) X dX8_copy_173 (by decide) ?_
        refine v_iloadn X dX8_copy_175 rfl rfl ?_
        refine v_imul X dX8_copy_176 ?_
        refine v_iload X dX8_copy_177 rfl ?_
        refine v_iadd X dX8_copy_179 ?_
        refine v_iload X dX8_copy_180 rfl ?_
        refine v_iadd X dX8_copy_182 ?_
        refine v_aloadn X dX8_copy_183 rfl rfl ?_
        refine gf_X8_16 X dX8_copy_184 ?_
        refine v_bipush (v := 40) X dX8_copy_187 (by decide) ?_
        refine v_iloadn X dX8_copy_189 rfl rfl ?_
        refine v_imul X dX8_copy_190 ?_
        refine v_iloadn X dX8_copy_191 rfl rfl ?_
        refine v_iadd X dX8_copy_192 ?_
        refine v_iload X dX8_copy_193 rfl ?_
        refine v_iadd X dX8_copy_195 ?_
        obtain ⟨j47, q48, h⟩ := bd1_some h
        obtain ⟨ej47, lj47⟩ := ix_spec q48
        refine alM X (by decide +kernel) j47 ej47 lj47 dX8_copy_196 ?_
        obtain ⟨j49, q50, h⟩ := bd1_some h
        obtain ⟨ej49, lj49⟩ := ix_spec q50
        refine asM X (by decide +kernel) j49 ej49 lj49 dX8_copy_197 ?_
        refine v_iinc (v := (y7 + 1)) (lc' := [some (.ref (ad (8, 0, 0))), some (.int z1), some (.int z2), some (.int z3), some (.int z4), some (.int z5), some (.int z6), some (.int (y7 + 1)), some (.int ((z5 - (1 : Int32)) - y7))]) X dX8_copy_198 rfl rfl (by decide) rfl rfl ?_
        refine v_goto X 143 dX8_copy_201 (by decide) ?_
        refine v_weak (lc2 := [some (.ref (ad (8, 0, 0))), some (.int z1), some (.int z2), some (.int z3), some (.int z4), some (.int z5), some (.int z6), some (.int (y7 + 1)), none]) ⟨rfl, rfl, rfl, rfl, rfl, rfl, rfl, rfl, trivial⟩ ?_
        exact ih (y7 + 1) (g3 g 11 4 j49 (g 11 4 j47)) _ _ h k
      · replace h := (if_neg c46).symm.trans h
        refine v_iload X dX8_copy_155 rfl ?_
        refine v_goto X 167 dX8_copy_157 (by decide) ?_
        refine v_istore (lc' := [some (.ref (ad (8, 0, 0))), some (.int z1), some (.int z2), some (.int z3), some (.int z4), some (.int z5), some (.int z6), some (.int y7), some (.int y7)]) X dX8_copy_167 (by decide) rfl rfl ?_
        refine v_aloadn X dX8_copy_169 rfl rfl ?_
        refine gf_X8_16 X dX8_copy_170 ?_
        refine v_bipush (v := 40) X dX8_copy_173 (by decide) ?_
        refine v_iloadn X dX8_copy_175 rfl rfl ?_
        refine v_imul X dX8_copy_176 ?_
        refine v_iload X dX8_copy_177 rfl ?_
        refine v_iadd X dX8_copy_179 ?_
        refine v_iload X dX8_copy_180 rfl ?_
        refine v_iadd X dX8_copy_182 ?_
        refine v_aloadn X dX8_copy_183 rfl rfl ?_
        refine gf_X8_16 X dX8_copy_184 ?_
        refine v_bipush (v := 40) X dX8_copy_187 (by decide) ?_
        refine v_iloadn X dX8_copy_189 rfl rfl ?_
        refine v_imul X dX8_copy_190 ?_
        refine v_iloadn X dX8_copy_191 rfl rfl ?_
        refine v_iadd X dX8_copy_192 ?_
        refine v_iload X dX8_copy_193 rfl ?_
        refine v_iadd X dX8_copy_195 ?_
        obtain ⟨j51, q52, h⟩ := bd1_some h
        obtain ⟨ej51, lj51⟩ := ix_spec q52
        refine alM X (by decide +kernel) j51 ej51 lj51 dX8_copy_196 ?_
        obtain ⟨j53, q54, h⟩ := bd1_some h
        obtain ⟨ej53, lj53⟩ := ix_spec q54
        refine asM X (by decide +kernel) j53 ej53 lj53 dX8_copy_197 ?_
        refine v_iinc (v := (y7 + 1)) (lc' := [some (.ref (ad (8, 0, 0))), some (.int z1), some (.int z2), some (.int z3), some (.int z4), some (.int z5), some (.int z6), some (.int (y7 + 1)), some (.int y7)]) X dX8_copy_198 rfl rfl (by decide) rfl rfl ?_
        refine v_goto X 143 dX8_copy_201 (by decide) ?_
        refine v_weak (lc2 := [some (.ref (ad (8, 0, 0))), some (.int z1), some (.int z2), some (.int z3), some (.int z4), some (.int z5), some (.int z6), some (.int (y7 + 1)), none]) ⟨rfl, rfl, rfl, rfl, rfl, rfl, rfl, rfl, trivial⟩ ?_
        exact ih (y7 + 1) (g3 g 11 4 j53 (g 11 4 j51)) _ _ h k
set_option maxRecDepth 100000 in
set_option maxHeartbeats 4000000 in
theorem c_X8_copy (l : Launch) (D : va_G) (ad : Ky → Nat) (cy : Nat → ClassId) (hI : Inj ad) (N : Nat) (x1 : Int32) (x2 : Int32) (x3 : Int32) (x4 : Int32) (x5 : Int32) (g : GS) (r : Int32) (gq : GS) (h : F_X8_copy N x1 x2 x3 x4 x5 g = some (r, gq)) : CtI l D ad cy yX8_copy cX8_copy 9 (some .int) 2 [.ref (ad (8, 0, 0)), .int x1, .int x2, .int x3, .int x4, .int x5] g r gq := by
  refine CtI.of 3 hI (by decide +kernel) rfl (Nat.le_of_ble_eq_true rfl) (fun p e s m args below meth c X => ?_)
  unfold F_X8_copy at h
  show Vy _ _ _ _ _ _ _ _ _ _ _ _ _ _ _ 0 [some (.ref (ad (8, 0, 0))), some (.int x1), some (.int x2), some (.int x3), some (.int x4), some (.int x5), none, none, none] [] g
  refine v_aloadn X dX8_copy_0 rfl rfl ?_
  refine v_iconst (v := 0) X dX8_copy_1 (by decide) ?_
  refine pf_X8_50 X dX8_copy_2 ?_
  refine v_iloadn X dX8_copy_5 rfl rfl ?_
  obtain ⟨r3, g2, q1, h⟩ := bd2_some h
  refine v_callSI (As := [.int x1]) (rest := []) X (c_X8_isRow l D ad cy X.2.2.2.2.2.2.2.2.1 N x1 (g3 g 10 0 0 (0 : Int32)) r3 g2  q1) mw_X8_isRow ml_X8_64 (by decide) rfl rfl (Nat.le_of_ble_eq_true rfl) dX8_copy_6 ?_
  refine v_if_eq X 19 dX8_copy_9 (by decide) (fun c4 => ?_) (fun c4 => ?_)
  · replace h := (if_pos c4).symm.trans h
    refine v_ldc X kc_X8_70 dX8_copy_19 ?_
    cases h
    exact v_iret X dX8_copy_21 rfl rfl
  · replace h := (if_neg c4).symm.trans h
    refine v_iloadn X dX8_copy_12 rfl rfl ?_
    obtain ⟨r7, g6, q5, h⟩ := bd2_some h
    refine v_callSI (As := [.int x3]) (rest := []) X (c_X8_isRow l D ad cy X.2.2.2.2.2.2.2.2.1 N x3 g2 r7 g6  q5) mw_X8_isRow ml_X8_64 (by decide) rfl rfl (Nat.le_of_ble_eq_true rfl) dX8_copy_13 ?_
    refine v_if_ne X 22 dX8_copy_16 (by decide) (fun c8 => ?_) (fun c8 => ?_)
    · replace h := (if_neg c8).symm.trans h
      refine v_aloadn X dX8_copy_22 rfl rfl ?_
      refine v_iconst (v := 0) X dX8_copy_23 (by decide) ?_
      refine pf_X8_54 X dX8_copy_24 ?_
      refine v_aloadn X dX8_copy_27 rfl rfl ?_
      refine gf_X8_7 X dX8_copy_28 ?_
      refine v_iloadn X dX8_copy_31 rfl rfl ?_
      obtain ⟨j9, q10, h⟩ := bd1_some h
      obtain ⟨ej9, lj9⟩ := ix_spec q10
      refine alM X (by decide +kernel) j9 ej9 lj9 dX8_copy_32 ?_
      refine v_if_lt X 45 dX8_copy_33 (by decide) (fun c11 => ?_) (fun c11 => ?_)
      · replace h := (if_pos c11).symm.trans h
        refine v_aloadn X dX8_copy_45 rfl rfl ?_
        refine v_iconst (v := 1) X dX8_copy_46 (by decide) ?_
        obtain ⟨r14, g13, q12, h⟩ := bd2_some h
        refine v_callVI (As := [.int (1 : Int32)]) (rest := []) X (c_X8_finding l D ad cy X.2.2.2.2.2.2.2.2.1 N (1 : Int32) (g3 g6 10 0 1 (0 : Int32)) r14 g13  q12) mw_X8_finding ml_X8_71 (by decide) (by decide +kernel) (by decide) rfl rfl rfl rfl (Nat.le_of_ble_eq_true rfl) dX8_copy_47 ?_
        cases h
        exact v_iret X dX8_copy_50 rfl rfl
      · replace h := (if_neg c11).symm.trans h
        refine v_aloadn X dX8_copy_36 rfl rfl ?_
        refine gf_X8_7 X dX8_copy_37 ?_
        refine v_iloadn X dX8_copy_40 rfl rfl ?_
        obtain ⟨j15, q16, h⟩ := bd1_some h
        obtain ⟨ej15, lj15⟩ := ix_spec q16
        refine alM X (by decide +kernel) j15 ej15 lj15 dX8_copy_41 ?_
        refine v_if_ge X 51 dX8_copy_42 (by decide) (fun c17 => ?_) (fun c17 => ?_)
        · replace h := (if_pos c17).symm.trans h
          refine v_aloadn X dX8_copy_51 rfl rfl ?_
          refine gf_X8_7 X dX8_copy_52 ?_
          refine v_iloadn X dX8_copy_55 rfl rfl ?_
          obtain ⟨j18, q19, h⟩ := bd1_some h
          obtain ⟨ej18, lj18⟩ := ix_spec q19
          refine alM X (by decide +kernel) j18 ej18 lj18 dX8_copy_56 ?_
          refine v_aloadn X dX8_copy_57 rfl rfl ?_
          refine gf_X8_7 X dX8_copy_58 ?_
          refine v_iloadn X dX8_copy_61 rfl rfl ?_
          obtain ⟨j20, q21, h⟩ := bd1_some h
          obtain ⟨ej20, lj20⟩ := ix_spec q21
          refine alM X (by decide +kernel) j20 ej20 lj20 dX8_copy_62 ?_
          refine v_icmp_eq X 72 dX8_copy_63 (by decide) (fun c22 => ?_) (fun c22 => ?_)
          · replace h := (if_pos c22).symm.trans h
            refine v_iloadn X dX8_copy_72 rfl rfl ?_
            refine v_if_lt X 121 dX8_copy_73 (by decide) (fun c23 => ?_) (fun c23 => ?_)
            · replace h := (if_pos c23).symm.trans h
              refine v_aloadn X dX8_copy_121 rfl rfl ?_
              refine v_iconst (v := 2) X dX8_copy_122 (by decide) ?_
              obtain ⟨r26, g25, q24, h⟩ := bd2_some h
              refine v_callVI (As := [.int (2 : Int32)]) (rest := []) X (c_X8_finding l D ad cy X.2.2.2.2.2.2.2.2.1 N (2 : Int32) (g3 g6 10 0 1 (0 : Int32)) r26 g25  q24) mw_X8_finding ml_X8_71 (by decide) (by decide +kernel) (by decide) rfl rfl rfl rfl (Nat.le_of_ble_eq_true rfl) dX8_copy_123 ?_
              cases h
              exact v_iret X dX8_copy_126 rfl rfl
            · replace h := (if_neg c23).symm.trans h
              refine v_iload X dX8_copy_76 rfl ?_
              refine v_if_lt X 121 dX8_copy_78 (by decide) (fun c27 => ?_) (fun c27 => ?_)
              · replace h := (if_pos c27).symm.trans h
                refine v_aloadn X dX8_copy_121 rfl rfl ?_
                refine v_iconst (v := 2) X dX8_copy_122 (by decide) ?_
                obtain ⟨r30, g29, q28, h⟩ := bd2_some h
                refine v_callVI (As := [.int (2 : Int32)]) (rest := []) X (c_X8_finding l D ad cy X.2.2.2.2.2.2.2.2.1 N (2 : Int32) (g3 g6 10 0 1 (0 : Int32)) r30 g29  q28) mw_X8_finding ml_X8_71 (by decide) (by decide +kernel) (by decide) rfl rfl rfl rfl (Nat.le_of_ble_eq_true rfl) dX8_copy_123 ?_
                cases h
                exact v_iret X dX8_copy_126 rfl rfl
              · replace h := (if_neg c27).symm.trans h
                refine v_iload X dX8_copy_81 rfl ?_
                refine v_if_lt X 121 dX8_copy_83 (by decide) (fun c31 => ?_) (fun c31 => ?_)
                · replace h := (if_pos c31).symm.trans h
                  refine v_aloadn X dX8_copy_121 rfl rfl ?_
                  refine v_iconst (v := 2) X dX8_copy_122 (by decide) ?_
                  obtain ⟨r34, g33, q32, h⟩ := bd2_some h
                  refine v_callVI (As := [.int (2 : Int32)]) (rest := []) X (c_X8_finding l D ad cy X.2.2.2.2.2.2.2.2.1 N (2 : Int32) (g3 g6 10 0 1 (0 : Int32)) r34 g33  q32) mw_X8_finding ml_X8_71 (by decide) (by decide +kernel) (by decide) rfl rfl rfl rfl (Nat.le_of_ble_eq_true rfl) dX8_copy_123 ?_
                  cases h
                  exact v_iret X dX8_copy_126 rfl rfl
                · replace h := (if_neg c31).symm.trans h
                  refine v_iloadn X dX8_copy_86 rfl rfl ?_
                  refine v_i2l X dX8_copy_87 ?_
                  refine v_iload X dX8_copy_88 rfl ?_
                  refine v_i2l X dX8_copy_90 ?_
                  refine v_ladd X dX8_copy_91 ?_
                  refine v_aloadn X dX8_copy_92 rfl rfl ?_
                  refine gf_X8_13 X dX8_copy_93 ?_
                  refine v_iloadn X dX8_copy_96 rfl rfl ?_
                  obtain ⟨j35, q36, h⟩ := bd1_some h
                  obtain ⟨ej35, lj35⟩ := ix_spec q36
                  refine alM X (by decide +kernel) j35 ej35 lj35 dX8_copy_97 ?_
                  refine v_i2l X dX8_copy_98 ?_
                  refine v_lcmp X dX8_copy_99 ?_
                  refine v_if_gt X 121 dX8_copy_100 (by decide) (fun c37 => ?_) (fun c37 => ?_)
                  · replace h := (if_pos c37).symm.trans h
                    refine v_aloadn X dX8_copy_121 rfl rfl ?_
                    refine v_iconst (v := 2) X dX8_copy_122 (by decide) ?_
                    obtain ⟨r40, g39, q38, h⟩ := bd2_some h
                    refine v_callVI (As := [.int (2 : Int32)]) (rest := []) X (c_X8_finding l D ad cy X.2.2.2.2.2.2.2.2.1 N (2 : Int32) (g3 g6 10 0 1 (0 : Int32)) r40 g39  q38) mw_X8_finding ml_X8_71 (by decide) (by decide +kernel) (by decide) rfl rfl rfl rfl (Nat.le_of_ble_eq_true rfl) dX8_copy_123 ?_
                    cases h
                    exact v_iret X dX8_copy_126 rfl rfl
                  · replace h := (if_neg c37).symm.trans h
                    refine v_iload X dX8_copy_103 rfl ?_
                    refine v_i2l X dX8_copy_105 ?_
                    refine v_iload X dX8_copy_106 rfl ?_
                    refine v_i2l X dX8_copy_108 ?_
                    refine v_ladd X dX8_copy_109 ?_
                    refine v_aloadn X dX8_copy_110 rfl rfl ?_
                    refine gf_X8_13 X dX8_copy_111 ?_
                    refine v_iloadn X dX8_copy_114 rfl rfl ?_
                    obtain ⟨j41, q42, h⟩ := bd1_some h
                    obtain ⟨ej41, lj41⟩ := ix_spec q42
                    refine alM X (by decide +kernel) j41 ej41 lj41 dX8_copy_115 ?_
                    refine v_i2l X dX8_copy_116 ?_
                    refine v_lcmp X dX8_copy_117 ?_
                    refine v_if_le X 127 dX8_copy_118 (by decide) (fun c43 => ?_) (fun c43 => ?_)
                    · replace h := (if_pos c43).symm.trans h
                      refine v_iloadn X dX8_copy_127 rfl rfl ?_
                      refine v_iload X dX8_copy_128 rfl ?_
                      refine v_icmp_lt X 137 dX8_copy_130 (by decide) (fun c44 => ?_) (fun c44 => ?_)
                      · replace h := (if_pos c44).symm.trans h
                        refine v_iconst (v := 0) X dX8_copy_137 (by decide) ?_
                        refine v_istore (lc' := [some (.ref (ad (8, 0, 0))), some (.int x1), some (.int x2), some (.int x3), some (.int x4), some (.int x5), some (.int (0 : Int32)), none, none]) X dX8_copy_138 (by decide) rfl rfl ?_
                        refine v_iconst (v := 0) X dX8_copy_140 (by decide) ?_
                        refine v_istore (lc' := [some (.ref (ad (8, 0, 0))), some (.int x1), some (.int x2), some (.int x3), some (.int x4), some (.int x5), some (.int (0 : Int32)), some (.int (0 : Int32)), none]) X dX8_copy_141 (by decide) rfl rfl ?_
                        obtain ⟨x55, g56, q57, h⟩ := bd2_some h
                        refine w_X8_copy_143 X x1 x2 x3 x4 x5 (0 : Int32) N (0 : Int32) (g3 g6 10 0 1 (0 : Int32)) x55 g56 q57 ?_
                        refine v_iload X dX8_copy_204 rfl ?_
                        cases h
                        exact v_iret X dX8_copy_206 rfl rfl
                      · replace h := (if_neg c44).symm.trans h
                        refine v_iconst (v := 1) X dX8_copy_133 (by decide) ?_
                        refine v_goto X 138 dX8_copy_134 (by decide) ?_
                        refine v_istore (lc' := [some (.ref (ad (8, 0, 0))), some (.int x1), some (.int x2), some (.int x3), some (.int x4), some (.int x5), some (.int (1 : Int32)), none, none]) X dX8_copy_138 (by decide) rfl rfl ?_
                        refine v_iconst (v := 0) X dX8_copy_140 (by decide) ?_
                        refine v_istore (lc' := [some (.ref (ad (8, 0, 0))), some (.int x1), some (.int x2), some (.int x3), some (.int x4), some (.int x5), some (.int (1 : Int32)), some (.int (0 : Int32)), none]) X dX8_copy_141 (by decide) rfl rfl ?_
                        obtain ⟨x58, g59, q60, h⟩ := bd2_some h
                        refine w_X8_copy_143 X x1 x2 x3 x4 x5 (1 : Int32) N (0 : Int32) (g3 g6 10 0 1 (0 : Int32)) x58 g59 q60 ?_
                        refine v_iload X dX8_copy_204 rfl ?_
                        cases h
                        exact v_iret X dX8_copy_206 rfl rfl
                    · replace h := (if_neg c43).symm.trans h
                      refine v_aloadn X dX8_copy_121 rfl rfl ?_
                      refine v_iconst (v := 2) X dX8_copy_122 (by decide) ?_
                      obtain ⟨r63, g62, q61, h⟩ := bd2_some h
                      refine v_callVI (As := [.int (2 : Int32)]) (rest := []) X (c_X8_finding l D ad cy X.2.2.2.2.2.2.2.2.1 N (2 : Int32) (g3 g6 10 0 1 (0 : Int32)) r63 g62  q61) mw_X8_finding ml_X8_71 (by decide) (by decide +kernel) (by decide) rfl rfl rfl rfl (Nat.le_of_ble_eq_true rfl) dX8_copy_123 ?_
                      cases h
                      exact v_iret X dX8_copy_126 rfl rfl
          · replace h := (if_neg c22).symm.trans h
            refine v_aloadn X dX8_copy_66 rfl rfl ?_
            refine v_iconst (v := 5) X dX8_copy_67 (by decide) ?_
            obtain ⟨r66, g65, q64, h⟩ := bd2_some h
            refine v_callVI (As := [.int (5 : Int32)]) (rest := []) X (c_X8_finding l D ad cy X.2.2.2.2.2.2.2.2.1 N (5 : Int32) (g3 g6 10 0 1 (0 : Int32)) r66 g65  q64) mw_X8_finding ml_X8_71 (by decide) (by decide +kernel) (by decide) rfl rfl rfl rfl (Nat.le_of_ble_eq_true rfl) dX8_copy_68 ?_
            cases h
            exact v_iret X dX8_copy_71 rfl rfl
        · replace h := (if_neg c17).symm.trans h
          refine v_aloadn X dX8_copy_45 rfl rfl ?_
          refine v_iconst (v := 1) X dX8_copy_46 (by decide) ?_
          obtain ⟨r69, g68, q67, h⟩ := bd2_some h
          refine v_callVI (As := [.int (1 : Int32)]) (rest := []) X (c_X8_finding l D ad cy X.2.2.2.2.2.2.2.2.1 N (1 : Int32) (g3 g6 10 0 1 (0 : Int32)) r69 g68  q67) mw_X8_finding ml_X8_71 (by decide) (by decide +kernel) (by decide) rfl rfl rfl rfl (Nat.le_of_ble_eq_true rfl) dX8_copy_47 ?_
          cases h
          exact v_iret X dX8_copy_50 rfl rfl
    · replace h := (if_pos c8).symm.trans h
      refine v_ldc X kc_X8_70 dX8_copy_19 ?_
      cases h
      exact v_iret X dX8_copy_21 rfl rfl
def L_X8_those_4 (N : Nat) (w0_1 : Nat) (z1 : Int32) : Nat → Int32 → Int32 → GS → Option (Int32 × Int32 × GS)
  | 0, _, _, _ => none
  | n + 1, y2, y3, g => bd1 (ix (0 : Int32) (lenM w0_1)) (fun j1 => if (g 11 w0_1 j1) ≤ y3 then some (y2, y3, g) else bd2 (F_X8_of N w0_1 y3 (3 : Int32) g) (fun r6 g5 => if r6 = z1 then L_X8_those_4 N w0_1 z1 n (y2 ||| ((1 : Int32) <<< (y3 &&& 31))) (y3 + 1) g5 else L_X8_those_4 N w0_1 z1 n (y2 ||| (0 : Int32)) (y3 + 1) g5))
def F_X8_those (N : Nat) (b0 : Nat) (x1 : Int32) (g : GS) : Option (Int32 × GS) := bd3 (L_X8_those_4 N b0 x1 N (0 : Int32) (0 : Int32) g) (fun x8 x9 g10 => some (x8, g10))
set_option maxRecDepth 100000 in
set_option maxHeartbeats 4000000 in
theorem w_X8_those_4 {p : Program} {l : Launch} {e : Env} {s : State} {m : MethodId} {args : Array Value} {below : List Frame} {meth : Method} {c : Code} {D : va_G} {ad : Ky → Nat} {cy : Nat → ClassId} {r : Int32} {gq : GS} {N : Nat} (X : Cx p (rmd 1) s m args meth c RX8 cX8_those 4 (some .int) D ad cy) (w0_1 : Nat) (z1 : Int32) (hh0 : ((9, 11, w0_1) : Ky) ∈ keys) : ∀ (n : Nat) (y2 : Int32) (y3 : Int32) (g : GS) (y2' : Int32) (y3' : Int32) (g' : GS), L_X8_those_4 N w0_1 z1 n y2 y3 g = some (y2', y3', g') → Vy p l e (rmd 1) s m args below meth c 4 D ad cy (QI D ad cy below args s r gq) 37 [some (.ref (ad (9, 11, w0_1))), some (.int z1), some (.int y2'), some (.int y3')] [] g' → Vy p l e (rmd 1) s m args below meth c 4 D ad cy (QI D ad cy below args s r gq) 4 [some (.ref (ad (9, 11, w0_1))), some (.int z1), some (.int y2), some (.int y3)] [] g := by
  intro n
  induction n with
  | zero => intro y2 y3 g y2' y3' g' h k; cases h
  | succ n ih =>
    intro y2 y3 g y2' y3' g' h k
    rw [L_X8_those_4] at h
    refine v_iloadn X dX8_those_4 rfl rfl ?_
    refine v_aloadn X dX8_those_5 rfl rfl ?_
    refine v_iconst (v := 0) X dX8_those_6 (by decide) ?_
    obtain ⟨j1, q2, h⟩ := bd1_some h
    obtain ⟨ej1, lj1⟩ := ix_spec q2
    refine alM X (by assumption) j1 ej1 lj1 dX8_those_7 ?_
    refine v_icmp_ge X 37 dX8_those_8 (by decide) (fun c3 => ?_) (fun c3 => ?_)
    · replace h := (if_pos c3).symm.trans h
      cases h
      exact k
    · replace h := (if_neg c3).symm.trans h
      refine v_iloadn X dX8_those_11 rfl rfl ?_
      refine v_aloadn X dX8_those_12 rfl rfl ?_
      refine v_iloadn X dX8_those_13 rfl rfl ?_
      refine v_iconst (v := 3) X dX8_those_14 (by decide) ?_
      obtain ⟨r6, g5, q4, h⟩ := bd2_some h
      refine v_callSI (As := [.ref (ad (9, 11, w0_1)), .int y3, .int (3 : Int32)]) (rest := [.int y2]) X (c_X8_of l D ad cy X.2.2.2.2.2.2.2.2.1 N w0_1 y3 (3 : Int32) g r6 g5 (by assumption) q4) mw_X8_of ml_X8_155 (by decide) rfl rfl (Nat.le_of_ble_eq_true rfl) dX8_those_15 ?_
      refine v_iloadn X dX8_those_18 rfl rfl ?_
      refine v_icmp_ne X 28 dX8_those_19 (by decide) (fun c7 => ?_) (fun c7 => ?_)
      · replace h := (if_neg c7).symm.trans h
        refine v_iconst (v := 0) X dX8_those_28 (by decide) ?_
        refine v_ior X dX8_those_29 ?_
        refine v_istoren (lc' := [some (.ref (ad (9, 11, w0_1))), some (.int z1), some (.int (y2 ||| (0 : Int32))), some (.int y3)]) X dX8_those_30 rfl (by decide) rfl rfl ?_
        refine v_iinc (v := (y3 + 1)) (lc' := [some (.ref (ad (9, 11, w0_1))), some (.int z1), some (.int (y2 ||| (0 : Int32))), some (.int (y3 + 1))]) X dX8_those_31 rfl rfl (by decide) rfl rfl ?_
        refine v_goto X 4 dX8_those_34 (by decide) ?_
        exact ih (y2 ||| (0 : Int32)) (y3 + 1) g5 _ _ _ h k
      · replace h := (if_pos c7).symm.trans h
        refine v_iconst (v := 1) X dX8_those_22 (by decide) ?_
        refine v_iloadn X dX8_those_23 rfl rfl ?_
        refine v_ishl X dX8_those_24 ?_
        refine v_goto X 29 dX8_those_25 (by decide) ?_
        refine v_ior X dX8_those_29 ?_
        refine v_istoren (lc' := [some (.ref (ad (9, 11, w0_1))), some (.int z1), some (.int (y2 ||| ((1 : Int32) <<< (y3 &&& 31)))), some (.int y3)]) X dX8_those_30 rfl (by decide) rfl rfl ?_
        refine v_iinc (v := (y3 + 1)) (lc' := [some (.ref (ad (9, 11, w0_1))), some (.int z1), some (.int (y2 ||| ((1 : Int32) <<< (y3 &&& 31)))), some (.int (y3 + 1))]) X dX8_those_31 rfl rfl (by decide) rfl rfl ?_
        refine v_goto X 4 dX8_those_34 (by decide) ?_
        exact ih (y2 ||| ((1 : Int32) <<< (y3 &&& 31))) (y3 + 1) g5 _ _ _ h k
set_option maxRecDepth 100000 in
set_option maxHeartbeats 4000000 in
theorem c_X8_those (l : Launch) (D : va_G) (ad : Ky → Nat) (cy : Nat → ClassId) (hI : Inj ad) (N : Nat) (b0 : Nat) (x1 : Int32) (g : GS) (r : Int32) (gq : GS) (kb0 : ((9, 11, b0) : Ky) ∈ keys) (h : F_X8_those N b0 x1 g = some (r, gq)) : CtI l D ad cy yX8_those cX8_those 4 (some .int) 1 [.ref (ad (9, 11, b0)), .int x1] g r gq := by
  refine CtI.of 2 hI (by decide +kernel) rfl (Nat.le_of_ble_eq_true rfl) (fun p e s m args below meth c X => ?_)
  unfold F_X8_those at h
  show Vy _ _ _ _ _ _ _ _ _ _ _ _ _ _ _ 0 [some (.ref (ad (9, 11, b0))), some (.int x1), none, none] [] g
  refine v_iconst (v := 0) X dX8_those_0 (by decide) ?_
  refine v_istoren (lc' := [some (.ref (ad (9, 11, b0))), some (.int x1), some (.int (0 : Int32)), none]) X dX8_those_1 rfl (by decide) rfl rfl ?_
  refine v_iconst (v := 0) X dX8_those_2 (by decide) ?_
  refine v_istoren (lc' := [some (.ref (ad (9, 11, b0))), some (.int x1), some (.int (0 : Int32)), some (.int (0 : Int32))]) X dX8_those_3 rfl (by decide) rfl rfl ?_
  obtain ⟨x8, x9, g10, q11, h⟩ := bd3_some h
  refine w_X8_those_4 X b0 x1 (by assumption) N (0 : Int32) (0 : Int32) g x8 x9 g10 q11 ?_
  refine v_iloadn X dX8_those_37 rfl rfl ?_
  cases h
  exact v_iret X dX8_those_38 rfl rfl
def L_X8_count_58 (N : Nat) (z1 : Int32) : Nat → Int32 → Int32 → GS → Option (Int32 × Int32 × GS)
  | 0, _, _, _ => none
  | n + 1, y2, y3, g => if (8 : Int32) ≤ y3 then some (y2, y3, g) else bd1 (ix y3 8) (fun j3 => if (g 11 2 j3) < 0 then L_X8_count_58 N z1 n (y2 + (0 : Int32)) (y3 + 1) g else L_X8_count_58 N z1 n (y2 + (1 : Int32)) (y3 + 1) g)
def F_X8_count (N : Nat) (x1 : Int32) (g : GS) : Option (Int32 × GS) := if x1 = 0 then bd3 (L_X8_count_58 N x1 N (0 : Int32) (0 : Int32) (g3 g 10 0 0 (0 : Int32))) (fun x6 x7 g8 => some (x6, g8)) else if x1 = 1 then bd1 (ix (0 : Int32) 53) (fun j11 => some (((g3 g 10 0 0 (0 : Int32)) 11 5 j11), (g3 g 10 0 0 (0 : Int32)))) else if x1 = 2 then bd1 (ix (1 : Int32) 53) (fun j14 => some (((g3 g 10 0 0 (0 : Int32)) 11 5 j14), (g3 g 10 0 0 (0 : Int32)))) else if x1 = 3 then bd1 (ix (4 : Int32) 53) (fun j17 => some (((g3 g 10 0 0 (0 : Int32)) 11 5 j17), (g3 g 10 0 0 (0 : Int32)))) else if x1 = 4 then bd2 (F_X8_those N 5 (1 : Int32) (g3 g 10 0 0 (0 : Int32))) (fun r22 g21 => bd2 (F_X8_bits N r22 g21) (fun r25 g24 => some (r25, g24))) else if x1 = 5 then bd2 (F_X8_those N 5 (2 : Int32) (g3 g 10 0 0 (0 : Int32))) (fun r29 g28 => bd2 (F_X8_bits N r29 g28) (fun r32 g31 => some (r32, g31))) else if x1 = 6 then some (((g3 g 10 0 0 (0 : Int32)) 10 0 10), (g3 g 10 0 0 (0 : Int32))) else if x1 = 7 then some (((g3 g 10 0 0 (0 : Int32)) 10 0 12), (g3 g 10 0 0 (0 : Int32))) else some ((-1000001 : Int32), (g3 g 10 0 0 (0 : Int32)))
set_option maxRecDepth 100000 in
set_option maxHeartbeats 4000000 in
theorem w_X8_count_58 {p : Program} {l : Launch} {e : Env} {s : State} {m : MethodId} {args : Array Value} {below : List Frame} {meth : Method} {c : Code} {D : va_G} {ad : Ky → Nat} {cy : Nat → ClassId} {r : Int32} {gq : GS} {N : Nat} (X : Cx p (rmd 2) s m args meth c RX8 cX8_count 4 (some .int) D ad cy) (z1 : Int32) : ∀ (n : Nat) (y2 : Int32) (y3 : Int32) (g : GS) (y2' : Int32) (y3' : Int32) (g' : GS), L_X8_count_58 N z1 n y2 y3 g = some (y2', y3', g') → Vy p l e (rmd 2) s m args below meth c 4 D ad cy (QI D ad cy below args s r gq) 87 [some (.ref (ad (8, 0, 0))), some (.int z1), some (.int y2'), some (.int y3')] [] g' → Vy p l e (rmd 2) s m args below meth c 4 D ad cy (QI D ad cy below args s r gq) 58 [some (.ref (ad (8, 0, 0))), some (.int z1), some (.int y2), some (.int y3)] [] g := by
  intro n
  induction n with
  | zero => intro y2 y3 g y2' y3' g' h k; cases h
  | succ n ih =>
    intro y2 y3 g y2' y3' g' h k
    rw [L_X8_count_58] at h
    refine v_iloadn X dX8_count_58 rfl rfl ?_
    refine v_bipush (v := 8) X dX8_count_59 (by decide) ?_
    refine v_icmp_ge X 87 dX8_count_61 (by decide) (fun c2 => ?_) (fun c2 => ?_)
    · replace h := (if_pos c2).symm.trans h
      cases h
      exact k
    · replace h := (if_neg c2).symm.trans h
      refine v_iloadn X dX8_count_64 rfl rfl ?_
      refine v_aloadn X dX8_count_65 rfl rfl ?_
      refine gf_X8_7 X dX8_count_66 ?_
      refine v_iloadn X dX8_count_69 rfl rfl ?_
      obtain ⟨j3, q4, h⟩ := bd1_some h
      obtain ⟨ej3, lj3⟩ := ix_spec q4
      refine alM X (by decide +kernel) j3 ej3 lj3 dX8_count_70 ?_
      refine v_if_lt X 78 dX8_count_71 (by decide) (fun c5 => ?_) (fun c5 => ?_)
      · replace h := (if_pos c5).symm.trans h
        refine v_iconst (v := 0) X dX8_count_78 (by decide) ?_
        refine v_iadd X dX8_count_79 ?_
        refine v_istoren (lc' := [some (.ref (ad (8, 0, 0))), some (.int z1), some (.int (y2 + (0 : Int32))), some (.int y3)]) X dX8_count_80 rfl (by decide) rfl rfl ?_
        refine v_iinc (v := (y3 + 1)) (lc' := [some (.ref (ad (8, 0, 0))), some (.int z1), some (.int (y2 + (0 : Int32))), some (.int (y3 + 1))]) X dX8_count_81 rfl rfl (by decide) rfl rfl ?_
        refine v_goto X 58 dX8_count_84 (by decide) ?_
        exact ih (y2 + (0 : Int32)) (y3 + 1) g _ _ _ h k
      · replace h := (if_neg c5).symm.trans h
        refine v_iconst (v := 1) X dX8_count_74 (by decide) ?_
        refine v_goto X 79 dX8_count_75 (by decide) ?_
        refine v_iadd X dX8_count_79 ?_
        refine v_istoren (lc' := [some (.ref (ad (8, 0, 0))), some (.int z1), some (.int (y2 + (1 : Int32))), some (.int y3)]) X dX8_count_80 rfl (by decide) rfl rfl ?_
        refine v_iinc (v := (y3 + 1)) (lc' := [some (.ref (ad (8, 0, 0))), some (.int z1), some (.int (y2 + (1 : Int32))), some (.int (y3 + 1))]) X dX8_count_81 rfl rfl (by decide) rfl rfl ?_
        refine v_goto X 58 dX8_count_84 (by decide) ?_
        exact ih (y2 + (1 : Int32)) (y3 + 1) g _ _ _ h k
set_option maxRecDepth 100000 in
set_option maxHeartbeats 4000000 in
theorem c_X8_count (l : Launch) (D : va_G) (ad : Ky → Nat) (cy : Nat → ClassId) (hI : Inj ad) (N : Nat) (x1 : Int32) (g : GS) (r : Int32) (gq : GS) (h : F_X8_count N x1 g = some (r, gq)) : CtI l D ad cy yX8_count cX8_count 4 (some .int) 2 [.ref (ad (8, 0, 0)), .int x1] g r gq := by
  refine CtI.of 2 hI (by decide +kernel) rfl (Nat.le_of_ble_eq_true rfl) (fun p e s m args below meth c X => ?_)
  unfold F_X8_count at h
  show Vy _ _ _ _ _ _ _ _ _ _ _ _ _ _ _ 0 [some (.ref (ad (8, 0, 0))), some (.int x1), none, none] [] g
  refine v_aloadn X dX8_count_0 rfl rfl ?_
  refine v_iconst (v := 0) X dX8_count_1 (by decide) ?_
  refine pf_X8_50 X dX8_count_2 ?_
  refine v_iconst (v := 0) X dX8_count_5 (by decide) ?_
  refine v_istoren (lc' := [some (.ref (ad (8, 0, 0))), some (.int x1), some (.int (0 : Int32)), none]) X dX8_count_6 rfl (by decide) rfl rfl ?_
  refine v_iloadn X dX8_count_7 rfl rfl ?_
  by_cases c1 : x1 = 0
  · replace h := (if_pos c1).symm.trans h
    refine v_tableIn X 56 dX8_count_8 (by rw [c1]; decide) (by rw [c1]; decide) (by rw [c1]; rfl) (by decide) ?_
    refine v_iconst (v := 0) X dX8_count_56 (by decide) ?_
    refine v_istoren (lc' := [some (.ref (ad (8, 0, 0))), some (.int x1), some (.int (0 : Int32)), some (.int (0 : Int32))]) X dX8_count_57 rfl (by decide) rfl rfl ?_
    obtain ⟨x6, x7, g8, q9, h⟩ := bd3_some h
    refine w_X8_count_58 X x1 N (0 : Int32) (0 : Int32) (g3 g 10 0 0 (0 : Int32)) x6 x7 g8 q9 ?_
    refine v_iloadn X dX8_count_87 rfl rfl ?_
    cases h
    exact v_iret X dX8_count_88 rfl rfl
  replace h := (if_neg c1).symm.trans h
  by_cases c10 : x1 = 1
  · replace h := (if_pos c10).symm.trans h
    refine v_tableIn X 89 dX8_count_8 (by rw [c10]; decide) (by rw [c10]; decide) (by rw [c10]; rfl) (by decide) ?_
    refine v_aloadn X dX8_count_89 rfl rfl ?_
    refine gf_X8_19 X dX8_count_90 ?_
    refine v_iconst (v := 0) X dX8_count_93 (by decide) ?_
    obtain ⟨j11, q12, h⟩ := bd1_some h
    obtain ⟨ej11, lj11⟩ := ix_spec q12
    refine alM X (by decide +kernel) j11 ej11 lj11 dX8_count_94 ?_
    cases h
    exact v_iret X dX8_count_95 rfl rfl
  replace h := (if_neg c10).symm.trans h
  by_cases c13 : x1 = 2
  · replace h := (if_pos c13).symm.trans h
    refine v_tableIn X 96 dX8_count_8 (by rw [c13]; decide) (by rw [c13]; decide) (by rw [c13]; rfl) (by decide) ?_
    refine v_aloadn X dX8_count_96 rfl rfl ?_
    refine gf_X8_19 X dX8_count_97 ?_
    refine v_iconst (v := 1) X dX8_count_100 (by decide) ?_
    obtain ⟨j14, q15, h⟩ := bd1_some h
    obtain ⟨ej14, lj14⟩ := ix_spec q15
    refine alM X (by decide +kernel) j14 ej14 lj14 dX8_count_101 ?_
    cases h
    exact v_iret X dX8_count_102 rfl rfl
  replace h := (if_neg c13).symm.trans h
  by_cases c16 : x1 = 3
  · replace h := (if_pos c16).symm.trans h
    refine v_tableIn X 103 dX8_count_8 (by rw [c16]; decide) (by rw [c16]; decide) (by rw [c16]; rfl) (by decide) ?_
    refine v_aloadn X dX8_count_103 rfl rfl ?_
    refine gf_X8_19 X dX8_count_104 ?_
    refine v_iconst (v := 4) X dX8_count_107 (by decide) ?_
    obtain ⟨j17, q18, h⟩ := bd1_some h
    obtain ⟨ej17, lj17⟩ := ix_spec q18
    refine alM X (by decide +kernel) j17 ej17 lj17 dX8_count_108 ?_
    cases h
    exact v_iret X dX8_count_109 rfl rfl
  replace h := (if_neg c16).symm.trans h
  by_cases c19 : x1 = 4
  · replace h := (if_pos c19).symm.trans h
    refine v_tableIn X 110 dX8_count_8 (by rw [c19]; decide) (by rw [c19]; decide) (by rw [c19]; rfl) (by decide) ?_
    refine v_aloadn X dX8_count_110 rfl rfl ?_
    refine gf_X8_19 X dX8_count_111 ?_
    refine v_iconst (v := 1) X dX8_count_114 (by decide) ?_
    obtain ⟨r22, g21, q20, h⟩ := bd2_some h
    refine v_callSI (As := [.ref (ad (9, 11, 5)), .int (1 : Int32)]) (rest := []) X (c_X8_those l D ad cy X.2.2.2.2.2.2.2.2.1 N 5 (1 : Int32) (g3 g 10 0 0 (0 : Int32)) r22 g21 (by decide +kernel) q20) mw_X8_those ml_X8_217 (by decide) rfl rfl (Nat.le_of_ble_eq_true rfl) dX8_count_115 ?_
    obtain ⟨r25, g24, q23, h⟩ := bd2_some h
    refine v_callSI (As := [.int r22]) (rest := []) X (c_X8_bits l D ad cy X.2.2.2.2.2.2.2.2.1 N r22 g21 r25 g24  q23) mw_X8_bits ml_X8_244 (by decide) rfl rfl (Nat.le_of_ble_eq_true rfl) dX8_count_118 ?_
    cases h
    exact v_iret X dX8_count_121 rfl rfl
  replace h := (if_neg c19).symm.trans h
  by_cases c26 : x1 = 5
  · replace h := (if_pos c26).symm.trans h
    refine v_tableIn X 122 dX8_count_8 (by rw [c26]; decide) (by rw [c26]; decide) (by rw [c26]; rfl) (by decide) ?_
    refine v_aloadn X dX8_count_122 rfl rfl ?_
    refine gf_X8_19 X dX8_count_123 ?_
    refine v_iconst (v := 2) X dX8_count_126 (by decide) ?_
    obtain ⟨r29, g28, q27, h⟩ := bd2_some h
    refine v_callSI (As := [.ref (ad (9, 11, 5)), .int (2 : Int32)]) (rest := []) X (c_X8_those l D ad cy X.2.2.2.2.2.2.2.2.1 N 5 (2 : Int32) (g3 g 10 0 0 (0 : Int32)) r29 g28 (by decide +kernel) q27) mw_X8_those ml_X8_217 (by decide) rfl rfl (Nat.le_of_ble_eq_true rfl) dX8_count_127 ?_
    obtain ⟨r32, g31, q30, h⟩ := bd2_some h
    refine v_callSI (As := [.int r29]) (rest := []) X (c_X8_bits l D ad cy X.2.2.2.2.2.2.2.2.1 N r29 g28 r32 g31  q30) mw_X8_bits ml_X8_244 (by decide) rfl rfl (Nat.le_of_ble_eq_true rfl) dX8_count_130 ?_
    cases h
    exact v_iret X dX8_count_133 rfl rfl
  replace h := (if_neg c26).symm.trans h
  by_cases c33 : x1 = 6
  · replace h := (if_pos c33).symm.trans h
    refine v_tableIn X 134 dX8_count_8 (by rw [c33]; decide) (by rw [c33]; decide) (by rw [c33]; rfl) (by decide) ?_
    refine v_aloadn X dX8_count_134 rfl rfl ?_
    refine gf_X8_152 X dX8_count_135 ?_
    cases h
    exact v_iret X dX8_count_138 rfl rfl
  replace h := (if_neg c33).symm.trans h
  by_cases c34 : x1 = 7
  · replace h := (if_pos c34).symm.trans h
    refine v_tableIn X 139 dX8_count_8 (by rw [c34]; decide) (by rw [c34]; decide) (by rw [c34]; rfl) (by decide) ?_
    refine v_aloadn X dX8_count_139 rfl rfl ?_
    refine gf_X8_77 X dX8_count_140 ?_
    cases h
    exact v_iret X dX8_count_143 rfl rfl
  replace h := (if_neg c34).symm.trans h
  have t35 := tab_ne (k := 0) (n := 0) c1 (by decide)
  have t36 := tab_ne (k := 1) (n := 1) c10 (by decide)
  have t37 := tab_ne (k := 2) (n := 2) c13 (by decide)
  have t38 := tab_ne (k := 3) (n := 3) c16 (by decide)
  have t39 := tab_ne (k := 4) (n := 4) c19 (by decide)
  have t40 := tab_ne (k := 5) (n := 5) c26 (by decide)
  have t41 := tab_ne (k := 6) (n := 6) c33 (by decide)
  have t42 := tab_ne (k := 7) (n := 7) c34 (by decide)
  refine v_tableOut X 144 dX8_count_8 (by omega) (by decide) ?_
  refine v_ldc X kc_X8_70 dX8_count_144 ?_
  cases h
  exact v_iret X dX8_count_146 rfl rfl
def F_X8_goesUp (N : Nat) (b0 : Nat) (x1 : Int32) (x2 : Int32) (g : GS) : Option GS := bd1 (F_X8_be N b0 x1 (3 : Int32) (1 : Int32) g) (fun g2 => bd1 (F_X8_be N b0 x1 (4 : Int32) (0 : Int32) g2) (fun g4 => bd1 (F_X8_be N b0 x1 (5 : Int32) x2 g4) (fun g6 => some g6)))
set_option maxRecDepth 100000 in
set_option maxHeartbeats 4000000 in
theorem c_X8_goesUp (l : Launch) (D : va_G) (ad : Ky → Nat) (cy : Nat → ClassId) (hI : Inj ad) (N : Nat) (b0 : Nat) (x1 : Int32) (x2 : Int32) (g : GS) (gq : GS) (kb0 : ((9, 11, b0) : Ky) ∈ keys) (h : F_X8_goesUp N b0 x1 x2 g = some gq) : CtV l D ad cy yX8_goesUp cX8_goesUp 3 1 [.ref (ad (9, 11, b0)), .int x1, .int x2] g gq := by
  refine CtV.of 0 hI (by decide +kernel) rfl (Nat.le_of_ble_eq_true rfl) (fun p e s m args below meth c X => ?_)
  unfold F_X8_goesUp at h
  show Vy _ _ _ _ _ _ _ _ _ _ _ _ _ _ _ 0 [some (.ref (ad (9, 11, b0))), some (.int x1), some (.int x2)] [] g
  refine v_aloadn X dX8_goesUp_0 rfl rfl ?_
  refine v_iloadn X dX8_goesUp_1 rfl rfl ?_
  refine v_iconst (v := 3) X dX8_goesUp_2 (by decide) ?_
  refine v_iconst (v := 1) X dX8_goesUp_3 (by decide) ?_
  obtain ⟨g2, q1, h⟩ := bd1_some h
  refine v_callSV (As := [.ref (ad (9, 11, b0)), .int x1, .int (3 : Int32), .int (1 : Int32)]) (rest := []) X (c_X8_be l D ad cy X.2.2.2.2.2.2.2.2.1 N b0 x1 (3 : Int32) (1 : Int32) g g2 (by assumption) q1) mw_X8_be ml_X8_170 (by decide) rfl rfl (Nat.le_of_ble_eq_true rfl) dX8_goesUp_4 ?_
  refine v_aloadn X dX8_goesUp_7 rfl rfl ?_
  refine v_iloadn X dX8_goesUp_8 rfl rfl ?_
  refine v_iconst (v := 4) X dX8_goesUp_9 (by decide) ?_
  refine v_iconst (v := 0) X dX8_goesUp_10 (by decide) ?_
  obtain ⟨g4, q3, h⟩ := bd1_some h
  refine v_callSV (As := [.ref (ad (9, 11, b0)), .int x1, .int (4 : Int32), .int (0 : Int32)]) (rest := []) X (c_X8_be l D ad cy X.2.2.2.2.2.2.2.2.1 N b0 x1 (4 : Int32) (0 : Int32) g2 g4 (by assumption) q3) mw_X8_be ml_X8_170 (by decide) rfl rfl (Nat.le_of_ble_eq_true rfl) dX8_goesUp_11 ?_
  refine v_aloadn X dX8_goesUp_14 rfl rfl ?_
  refine v_iloadn X dX8_goesUp_15 rfl rfl ?_
  refine v_iconst (v := 5) X dX8_goesUp_16 (by decide) ?_
  refine v_iloadn X dX8_goesUp_17 rfl rfl ?_
  obtain ⟨g6, q5, h⟩ := bd1_some h
  refine v_callSV (As := [.ref (ad (9, 11, b0)), .int x1, .int (5 : Int32), .int x2]) (rest := []) X (c_X8_be l D ad cy X.2.2.2.2.2.2.2.2.1 N b0 x1 (5 : Int32) x2 g4 g6 (by assumption) q5) mw_X8_be ml_X8_170 (by decide) rfl rfl (Nat.le_of_ble_eq_true rfl) dX8_goesUp_18 ?_
  cases h
  exact v_vret X dX8_goesUp_21 rfl
def F_X8_isThere (N : Nat) (g : GS) : Option (Int32 × GS) := bd1 (ix (0 : Int32) 53) (fun j1 => if (g 11 5 j1) ≤ 0 then some ((0 : Int32), g) else some ((1 : Int32), g))
set_option maxRecDepth 100000 in
set_option maxHeartbeats 4000000 in
theorem c_X8_isThere (l : Launch) (D : va_G) (ad : Ky → Nat) (cy : Nat → ClassId) (hI : Inj ad) (N : Nat) (g : GS) (r : Int32) (gq : GS) (h : F_X8_isThere N  g = some (r, gq)) : CtI l D ad cy yX8_isThere cX8_isThere 1 (some .boolean) 0 [.ref (ad (8, 0, 0))] g r gq := by
  refine CtI.of 0 hI (by decide +kernel) rfl (Nat.le_of_ble_eq_true rfl) (fun p e s m args below meth c X => ?_)
  unfold F_X8_isThere at h
  show Vy _ _ _ _ _ _ _ _ _ _ _ _ _ _ _ 0 [some (.ref (ad (8, 0, 0)))] [] g
  refine v_aloadn X dX8_isThere_0 rfl rfl ?_
  refine gf_X8_19 X dX8_isThere_1 ?_
  refine v_iconst (v := 0) X dX8_isThere_4 (by decide) ?_
  obtain ⟨j1, q2, h⟩ := bd1_some h
  obtain ⟨ej1, lj1⟩ := ix_spec q2
  refine alM X (by decide +kernel) j1 ej1 lj1 dX8_isThere_5 ?_
  refine v_if_le X 13 dX8_isThere_6 (by decide) (fun c3 => ?_) (fun c3 => ?_)
  · replace h := (if_pos c3).symm.trans h
    refine v_iconst (v := 0) X dX8_isThere_13 (by decide) ?_
    cases h
    exact v_zret X dX8_isThere_14 rfl rfl rfl
  · replace h := (if_neg c3).symm.trans h
    refine v_iconst (v := 1) X dX8_isThere_9 (by decide) ?_
    refine v_goto X 14 dX8_isThere_10 (by decide) ?_
    cases h
    exact v_zret X dX8_isThere_14 rfl rfl rfl
def F_X8_letsOut (N : Nat) (b0 : Nat) (x1 : Int32) (x2 : Int32) (g : GS) : Option GS := bd1 (F_X8_be N b0 x1 (5 : Int32) x2 g) (fun g2 => bd2 (F_X8_of N b0 x1 (4 : Int32) g2) (fun r5 g4 => if r5 ≤ x2 then bd2 (F_X8_of N b0 x1 (4 : Int32) g4) (fun r9 g8 => bd1 (F_X8_be N b0 x1 (4 : Int32) r9 g8) (fun g11 => some g11)) else bd1 (F_X8_be N b0 x1 (4 : Int32) x2 g4) (fun g13 => some g13)))
set_option maxRecDepth 100000 in
set_option maxHeartbeats 4000000 in
theorem c_X8_letsOut (l : Launch) (D : va_G) (ad : Ky → Nat) (cy : Nat → ClassId) (hI : Inj ad) (N : Nat) (b0 : Nat) (x1 : Int32) (x2 : Int32) (g : GS) (gq : GS) (kb0 : ((9, 11, b0) : Ky) ∈ keys) (h : F_X8_letsOut N b0 x1 x2 g = some gq) : CtV l D ad cy yX8_letsOut cX8_letsOut 3 1 [.ref (ad (9, 11, b0)), .int x1, .int x2] g gq := by
  refine CtV.of 0 hI (by decide +kernel) rfl (Nat.le_of_ble_eq_true rfl) (fun p e s m args below meth c X => ?_)
  unfold F_X8_letsOut at h
  show Vy _ _ _ _ _ _ _ _ _ _ _ _ _ _ _ 0 [some (.ref (ad (9, 11, b0))), some (.int x1), some (.int x2)] [] g
  refine v_aloadn X dX8_letsOut_0 rfl rfl ?_
  refine v_iloadn X dX8_letsOut_1 rfl rfl ?_
  refine v_iconst (v := 5) X dX8_letsOut_2 (by decide) ?_
  refine v_iloadn X dX8_letsOut_3 rfl rfl ?_
  obtain ⟨g2, q1, h⟩ := bd1_some h
  refine v_callSV (As := [.ref (ad (9, 11, b0)), .int x1, .int (5 : Int32), .int x2]) (rest := []) X (c_X8_be l D ad cy X.2.2.2.2.2.2.2.2.1 N b0 x1 (5 : Int32) x2 g g2 (by assumption) q1) mw_X8_be ml_X8_170 (by decide) rfl rfl (Nat.le_of_ble_eq_true rfl) dX8_letsOut_4 ?_
  refine v_aloadn X dX8_letsOut_7 rfl rfl ?_
  refine v_iloadn X dX8_letsOut_8 rfl rfl ?_
  refine v_iconst (v := 4) X dX8_letsOut_9 (by decide) ?_
  refine v_aloadn X dX8_letsOut_10 rfl rfl ?_
  refine v_iloadn X dX8_letsOut_11 rfl rfl ?_
  refine v_iconst (v := 4) X dX8_letsOut_12 (by decide) ?_
  obtain ⟨r5, g4, q3, h⟩ := bd2_some h
  refine v_callSI (As := [.ref (ad (9, 11, b0)), .int x1, .int (4 : Int32)]) (rest := [.int (4 : Int32), .int x1, .ref (ad (9, 11, b0))]) X (c_X8_of l D ad cy X.2.2.2.2.2.2.2.2.1 N b0 x1 (4 : Int32) g2 r5 g4 (by assumption) q3) mw_X8_of ml_X8_155 (by decide) rfl rfl (Nat.le_of_ble_eq_true rfl) dX8_letsOut_13 ?_
  refine v_iloadn X dX8_letsOut_16 rfl rfl ?_
  refine v_icmp_le X 24 dX8_letsOut_17 (by decide) (fun c6 => ?_) (fun c6 => ?_)
  · replace h := (if_pos c6).symm.trans h
    refine v_aloadn X dX8_letsOut_24 rfl rfl ?_
    refine v_iloadn X dX8_letsOut_25 rfl rfl ?_
    refine v_iconst (v := 4) X dX8_letsOut_26 (by decide) ?_
    obtain ⟨r9, g8, q7, h⟩ := bd2_some h
    refine v_callSI (As := [.ref (ad (9, 11, b0)), .int x1, .int (4 : Int32)]) (rest := [.int (4 : Int32), .int x1, .ref (ad (9, 11, b0))]) X (c_X8_of l D ad cy X.2.2.2.2.2.2.2.2.1 N b0 x1 (4 : Int32) g4 r9 g8 (by assumption) q7) mw_X8_of ml_X8_155 (by decide) rfl rfl (Nat.le_of_ble_eq_true rfl) dX8_letsOut_27 ?_
    obtain ⟨g11, q10, h⟩ := bd1_some h
    refine v_callSV (As := [.ref (ad (9, 11, b0)), .int x1, .int (4 : Int32), .int r9]) (rest := []) X (c_X8_be l D ad cy X.2.2.2.2.2.2.2.2.1 N b0 x1 (4 : Int32) r9 g8 g11 (by assumption) q10) mw_X8_be ml_X8_170 (by decide) rfl rfl (Nat.le_of_ble_eq_true rfl) dX8_letsOut_30 ?_
    cases h
    exact v_vret X dX8_letsOut_33 rfl
  · replace h := (if_neg c6).symm.trans h
    refine v_iloadn X dX8_letsOut_20 rfl rfl ?_
    refine v_goto X 30 dX8_letsOut_21 (by decide) ?_
    obtain ⟨g13, q12, h⟩ := bd1_some h
    refine v_callSV (As := [.ref (ad (9, 11, b0)), .int x1, .int (4 : Int32), .int x2]) (rest := []) X (c_X8_be l D ad cy X.2.2.2.2.2.2.2.2.1 N b0 x1 (4 : Int32) x2 g4 g13 (by assumption) q12) mw_X8_be ml_X8_170 (by decide) rfl rfl (Nat.le_of_ble_eq_true rfl) dX8_letsOut_30 ?_
    cases h
    exact v_vret X dX8_letsOut_33 rfl
def L_X8_policies_4 (N : Nat) (w0_1 : Nat) : Nat → Int32 → Int32 → GS → Option (Int32 × Int32 × GS)
  | 0, _, _, _ => none
  | n + 1, y1, y2, g => bd1 (ix (0 : Int32) (lenM w0_1)) (fun j1 => if (g 11 w0_1 j1) ≤ y2 then some (y1, y2, g) else bd2 (F_X8_isPolicy N w0_1 y2 g) (fun r6 g5 => if r6 = 0 then L_X8_policies_4 N w0_1 n (y1 ||| (0 : Int32)) (y2 + 1) g5 else L_X8_policies_4 N w0_1 n (y1 ||| ((1 : Int32) <<< (y2 &&& 31))) (y2 + 1) g5))
def F_X8_policies (N : Nat) (b0 : Nat) (g : GS) : Option (Int32 × GS) := bd3 (L_X8_policies_4 N b0 N (0 : Int32) (0 : Int32) g) (fun x8 x9 g10 => some (x8, g10))
set_option maxRecDepth 100000 in
set_option maxHeartbeats 4000000 in
theorem w_X8_policies_4 {p : Program} {l : Launch} {e : Env} {s : State} {m : MethodId} {args : Array Value} {below : List Frame} {meth : Method} {c : Code} {D : va_G} {ad : Ky → Nat} {cy : Nat → ClassId} {r : Int32} {gq : GS} {N : Nat} (X : Cx p (rmd 3) s m args meth c RX8 cX8_policies 3 (some .int) D ad cy) (w0_1 : Nat) (hh0 : ((9, 11, w0_1) : Ky) ∈ keys) : ∀ (n : Nat) (y1 : Int32) (y2 : Int32) (g : GS) (y1' : Int32) (y2' : Int32) (g' : GS), L_X8_policies_4 N w0_1 n y1 y2 g = some (y1', y2', g') → Vy p l e (rmd 3) s m args below meth c 3 D ad cy (QI D ad cy below args s r gq) 35 [some (.ref (ad (9, 11, w0_1))), some (.int y1'), some (.int y2')] [] g' → Vy p l e (rmd 3) s m args below meth c 3 D ad cy (QI D ad cy below args s r gq) 4 [some (.ref (ad (9, 11, w0_1))), some (.int y1), some (.int y2)] [] g := by
  intro n
  induction n with
  | zero => intro y1 y2 g y1' y2' g' h k; cases h
  | succ n ih =>
    intro y1 y2 g y1' y2' g' h k
    rw [L_X8_policies_4] at h
    refine v_iloadn X dX8_policies_4 rfl rfl ?_
    refine v_aloadn X dX8_policies_5 rfl rfl ?_
    refine v_iconst (v := 0) X dX8_policies_6 (by decide) ?_
    obtain ⟨j1, q2, h⟩ := bd1_some h
    obtain ⟨ej1, lj1⟩ := ix_spec q2
    refine alM X (by assumption) j1 ej1 lj1 dX8_policies_7 ?_
    refine v_icmp_ge X 35 dX8_policies_8 (by decide) (fun c3 => ?_) (fun c3 => ?_)
    · replace h := (if_pos c3).symm.trans h
      cases h
      exact k
    · replace h := (if_neg c3).symm.trans h
      refine v_iloadn X dX8_policies_11 rfl rfl ?_
      refine v_aloadn X dX8_policies_12 rfl rfl ?_
      refine v_iloadn X dX8_policies_13 rfl rfl ?_
      obtain ⟨r6, g5, q4, h⟩ := bd2_some h
      refine v_callSI (As := [.ref (ad (9, 11, w0_1)), .int y2]) (rest := [.int y1]) X (c_X8_isPolicy l D ad cy X.2.2.2.2.2.2.2.2.1 N w0_1 y2 g r6 g5 (by assumption) q4) mw_X8_isPolicy ml_X8_192 (by decide) rfl rfl (Nat.le_of_ble_eq_true rfl) dX8_policies_14 ?_
      refine v_if_eq X 26 dX8_policies_17 (by decide) (fun c7 => ?_) (fun c7 => ?_)
      · replace h := (if_pos c7).symm.trans h
        refine v_iconst (v := 0) X dX8_policies_26 (by decide) ?_
        refine v_ior X dX8_policies_27 ?_
        refine v_istoren (lc' := [some (.ref (ad (9, 11, w0_1))), some (.int (y1 ||| (0 : Int32))), some (.int y2)]) X dX8_policies_28 rfl (by decide) rfl rfl ?_
        refine v_iinc (v := (y2 + 1)) (lc' := [some (.ref (ad (9, 11, w0_1))), some (.int (y1 ||| (0 : Int32))), some (.int (y2 + 1))]) X dX8_policies_29 rfl rfl (by decide) rfl rfl ?_
        refine v_goto X 4 dX8_policies_32 (by decide) ?_
        exact ih (y1 ||| (0 : Int32)) (y2 + 1) g5 _ _ _ h k
      · replace h := (if_neg c7).symm.trans h
        refine v_iconst (v := 1) X dX8_policies_20 (by decide) ?_
        refine v_iloadn X dX8_policies_21 rfl rfl ?_
        refine v_ishl X dX8_policies_22 ?_
        refine v_goto X 27 dX8_policies_23 (by decide) ?_
        refine v_ior X dX8_policies_27 ?_
        refine v_istoren (lc' := [some (.ref (ad (9, 11, w0_1))), some (.int (y1 ||| ((1 : Int32) <<< (y2 &&& 31)))), some (.int y2)]) X dX8_policies_28 rfl (by decide) rfl rfl ?_
        refine v_iinc (v := (y2 + 1)) (lc' := [some (.ref (ad (9, 11, w0_1))), some (.int (y1 ||| ((1 : Int32) <<< (y2 &&& 31)))), some (.int (y2 + 1))]) X dX8_policies_29 rfl rfl (by decide) rfl rfl ?_
        refine v_goto X 4 dX8_policies_32 (by decide) ?_
        exact ih (y1 ||| ((1 : Int32) <<< (y2 &&& 31))) (y2 + 1) g5 _ _ _ h k
set_option maxRecDepth 100000 in
set_option maxHeartbeats 4000000 in
theorem c_X8_policies (l : Launch) (D : va_G) (ad : Ky → Nat) (cy : Nat → ClassId) (hI : Inj ad) (N : Nat) (b0 : Nat) (g : GS) (r : Int32) (gq : GS) (kb0 : ((9, 11, b0) : Ky) ∈ keys) (h : F_X8_policies N b0 g = some (r, gq)) : CtI l D ad cy yX8_policies cX8_policies 3 (some .int) 3 [.ref (ad (9, 11, b0))] g r gq := by
  refine CtI.of 2 hI (by decide +kernel) rfl (Nat.le_of_ble_eq_true rfl) (fun p e s m args below meth c X => ?_)
  unfold F_X8_policies at h
  show Vy _ _ _ _ _ _ _ _ _ _ _ _ _ _ _ 0 [some (.ref (ad (9, 11, b0))), none, none] [] g
  refine v_iconst (v := 0) X dX8_policies_0 (by decide) ?_
  refine v_istoren (lc' := [some (.ref (ad (9, 11, b0))), some (.int (0 : Int32)), none]) X dX8_policies_1 rfl (by decide) rfl rfl ?_
  refine v_iconst (v := 0) X dX8_policies_2 (by decide) ?_
  refine v_istoren (lc' := [some (.ref (ad (9, 11, b0))), some (.int (0 : Int32)), some (.int (0 : Int32))]) X dX8_policies_3 rfl (by decide) rfl rfl ?_
  obtain ⟨x8, x9, g10, q11, h⟩ := bd3_some h
  refine w_X8_policies_4 X b0 (by assumption) N (0 : Int32) (0 : Int32) g x8 x9 g10 q11 ?_
  refine v_iloadn X dX8_policies_35 rfl rfl ?_
  cases h
  exact v_iret X dX8_policies_36 rfl rfl
def L_X8_drawn_63 (N : Nat) (z1 : Int32) (z2 : Int32) (z3 : Int32) : Nat → Int64 → Int32 → GS → Option (Int64 × Int32 × GS)
  | 0, _, _, _ => none
  | n + 1, y4, y6, g => if z1 ≤ y6 then some (y4, y6, g) else bd1 (ix (0 : Int32) 53) (fun j20 => if ((g 11 7 j20).toInt64) = 0 then none else bd2 (F_X8_of N 7 ((((y4 * (16807 : Int64)) - (y4 * (16807 : Int64)) / (2147483647 : Int64) * (2147483647 : Int64)) - ((y4 * (16807 : Int64)) - (y4 * (16807 : Int64)) / (2147483647 : Int64) * (2147483647 : Int64)) / ((g 11 7 j20).toInt64) * ((g 11 7 j20).toInt64)).toInt32) (3 : Int32) g) (fun r25 g24 => if r25 = 0 then bd1 (F_X8_goesUp N 7 ((((y4 * (16807 : Int64)) - (y4 * (16807 : Int64)) / (2147483647 : Int64) * (2147483647 : Int64)) - ((y4 * (16807 : Int64)) - (y4 * (16807 : Int64)) / (2147483647 : Int64) * (2147483647 : Int64)) / ((g 11 7 j20).toInt64) * ((g 11 7 j20).toInt64)).toInt32) (((((y4 * (16807 : Int64)) - (y4 * (16807 : Int64)) / (2147483647 : Int64) * (2147483647 : Int64)) - ((y4 * (16807 : Int64)) - (y4 * (16807 : Int64)) / (2147483647 : Int64) * (2147483647 : Int64)) / (40 : Int64) * (40 : Int64)).toInt32) + (1 : Int32)) g24) (fun g49 => bd1 (F_X8_hourBy N 7 ((((y4 * (16807 : Int64)) - (y4 * (16807 : Int64)) / (2147483647 : Int64) * (2147483647 : Int64)) - ((y4 * (16807 : Int64)) - (y4 * (16807 : Int64)) / (2147483647 : Int64) * (2147483647 : Int64)) / (10 : Int64) * (10 : Int64)).toInt32) g49) (fun g51 => L_X8_drawn_63 N z1 z2 z3 n ((y4 * (16807 : Int64)) - (y4 * (16807 : Int64)) / (2147483647 : Int64) * (2147483647 : Int64)) (y6 + 1) g51)) else bd2 (F_X8_isUp N 7 ((((y4 * (16807 : Int64)) - (y4 * (16807 : Int64)) / (2147483647 : Int64) * (2147483647 : Int64)) - ((y4 * (16807 : Int64)) - (y4 * (16807 : Int64)) / (2147483647 : Int64) * (2147483647 : Int64)) / ((g 11 7 j20).toInt64) * ((g 11 7 j20).toInt64)).toInt32) g24) (fun r29 g28 => if r29 = 0 then bd1 (F_X8_hourBy N 7 ((((y4 * (16807 : Int64)) - (y4 * (16807 : Int64)) / (2147483647 : Int64) * (2147483647 : Int64)) - ((y4 * (16807 : Int64)) - (y4 * (16807 : Int64)) / (2147483647 : Int64) * (2147483647 : Int64)) / (10 : Int64) * (10 : Int64)).toInt32) g28) (fun g32 => L_X8_drawn_63 N z1 z2 z3 n ((y4 * (16807 : Int64)) - (y4 * (16807 : Int64)) / (2147483647 : Int64) * (2147483647 : Int64)) (y6 + 1) g32) else if (lg_cmp (((y4 * (16807 : Int64)) - (y4 * (16807 : Int64)) / (2147483647 : Int64) * (2147483647 : Int64)) - ((y4 * (16807 : Int64)) - (y4 * (16807 : Int64)) / (2147483647 : Int64) * (2147483647 : Int64)) / (2 : Int64) * (2 : Int64)) (0 : Int64)) = 0 then bd2 (F_X8_of N 7 ((((y4 * (16807 : Int64)) - (y4 * (16807 : Int64)) / (2147483647 : Int64) * (2147483647 : Int64)) - ((y4 * (16807 : Int64)) - (y4 * (16807 : Int64)) / (2147483647 : Int64) * (2147483647 : Int64)) / ((g 11 7 j20).toInt64) * ((g 11 7 j20).toInt64)).toInt32) (5 : Int32) g28) (fun r38 g37 => if (r38 + (5 : Int32)) ≤ (40 : Int32) then bd1 (F_X8_letsOut N 7 ((((y4 * (16807 : Int64)) - (y4 * (16807 : Int64)) / (2147483647 : Int64) * (2147483647 : Int64)) - ((y4 * (16807 : Int64)) - (y4 * (16807 : Int64)) / (2147483647 : Int64) * (2147483647 : Int64)) / ((g 11 7 j20).toInt64) * ((g 11 7 j20).toInt64)).toInt32) (r38 + (5 : Int32)) g37) (fun g41 => bd1 (F_X8_hourBy N 7 ((((y4 * (16807 : Int64)) - (y4 * (16807 : Int64)) / (2147483647 : Int64) * (2147483647 : Int64)) - ((y4 * (16807 : Int64)) - (y4 * (16807 : Int64)) / (2147483647 : Int64) * (2147483647 : Int64)) / (10 : Int64) * (10 : Int64)).toInt32) g41) (fun g43 => L_X8_drawn_63 N z1 z2 z3 n ((y4 * (16807 : Int64)) - (y4 * (16807 : Int64)) / (2147483647 : Int64) * (2147483647 : Int64)) (y6 + 1) g43)) else bd1 (F_X8_letsOut N 7 ((((y4 * (16807 : Int64)) - (y4 * (16807 : Int64)) / (2147483647 : Int64) * (2147483647 : Int64)) - ((y4 * (16807 : Int64)) - (y4 * (16807 : Int64)) / (2147483647 : Int64) * (2147483647 : Int64)) / ((g 11 7 j20).toInt64) * ((g 11 7 j20).toInt64)).toInt32) (40 : Int32) g37) (fun g45 => bd1 (F_X8_hourBy N 7 ((((y4 * (16807 : Int64)) - (y4 * (16807 : Int64)) / (2147483647 : Int64) * (2147483647 : Int64)) - ((y4 * (16807 : Int64)) - (y4 * (16807 : Int64)) / (2147483647 : Int64) * (2147483647 : Int64)) / (10 : Int64) * (10 : Int64)).toInt32) g45) (fun g47 => L_X8_drawn_63 N z1 z2 z3 n ((y4 * (16807 : Int64)) - (y4 * (16807 : Int64)) / (2147483647 : Int64) * (2147483647 : Int64)) (y6 + 1) g47))) else bd1 (F_X8_hourBy N 7 ((((y4 * (16807 : Int64)) - (y4 * (16807 : Int64)) / (2147483647 : Int64) * (2147483647 : Int64)) - ((y4 * (16807 : Int64)) - (y4 * (16807 : Int64)) / (2147483647 : Int64) * (2147483647 : Int64)) / (10 : Int64) * (10 : Int64)).toInt32) g28) (fun g35 => L_X8_drawn_63 N z1 z2 z3 n ((y4 * (16807 : Int64)) - (y4 * (16807 : Int64)) / (2147483647 : Int64) * (2147483647 : Int64)) (y6 + 1) g35))))
def F_X8_drawn (N : Nat) (x1 : Int32) (x2 : Int32) (x3 : Int32) (g : GS) : Option (Int32 × GS) := bd2 (F_X8_isThere N  (g3 g 10 0 0 (0 : Int32))) (fun r3 g2 => if r3 = 0 then some ((-1000002 : Int32), g2) else bd2 (F_X8_in N (x1.toInt64) (0 : Int64) (60 : Int64) g2) (fun r7 g6 => if r7 = 0 then some ((-1000001 : Int32), g6) else bd2 (F_X8_in N (x2.toInt64) (1 : Int64) (999999 : Int64) g6) (fun r11 g10 => if r11 = 0 then some ((-1000001 : Int32), g10) else bd2 (F_X8_in N (x3.toInt64) (0 : Int64) (1 : Int64) g10) (fun r15 g14 => if r15 = 0 then some ((-1000001 : Int32), g14) else bd1 (F_X8_layThen N  g14) (fun g18 => bd3 (L_X8_drawn_63 N x1 x2 x3 N (x2.toInt64) (0 : Int32) g18) (fun x52 x53 g54 => if x3 = 0 then bd2 (F_X8_policies N 7 g54) (fun r65 g64 => bd2 (F_X8_bits N r65 g64) (fun r68 g67 => some (r68, g67))) else bd2 (F_X8_those N 7 (2 : Int32) g54) (fun r59 g58 => bd2 (F_X8_bits N r59 g58) (fun r62 g61 => some (r62, g61)))))))))
set_option maxRecDepth 100000 in
set_option maxHeartbeats 4000000 in
theorem w_X8_drawn_63 {p : Program} {l : Launch} {e : Env} {s : State} {m : MethodId} {args : Array Value} {below : List Frame} {meth : Method} {c : Code} {D : va_G} {ad : Ky → Nat} {cy : Nat → ClassId} {r : Int32} {gq : GS} {N : Nat} (X : Cx p (rmd 5) s m args meth c RX8 cX8_drawn 9 (some .int) D ad cy) (z1 : Int32) (z2 : Int32) (z3 : Int32) : ∀ (n : Nat) (y4 : Int64) (y6 : Int32) (g : GS) (y4' : Int64) (y6' : Int32) (g' : GS), L_X8_drawn_63 N z1 z2 z3 n y4 y6 g = some (y4', y6', g') → Vy p l e (rmd 5) s m args below meth c 9 D ad cy (QI D ad cy below args s r gq) 209 [some (.ref (ad (8, 0, 0))), some (.int z1), some (.int z2), some (.int z3), some (.long y4'), none, some (.int y6'), none, none] [] g' → Vy p l e (rmd 5) s m args below meth c 9 D ad cy (QI D ad cy below args s r gq) 63 [some (.ref (ad (8, 0, 0))), some (.int z1), some (.int z2), some (.int z3), some (.long y4), none, some (.int y6), none, none] [] g := by
  intro n
  induction n with
  | zero => intro y4 y6 g y4' y6' g' h k; cases h
  | succ n ih =>
    intro y4 y6 g y4' y6' g' h k
    rw [L_X8_drawn_63] at h
    refine v_iload X dX8_drawn_63 rfl ?_
    refine v_iloadn X dX8_drawn_65 rfl rfl ?_
    refine v_icmp_ge X 209 dX8_drawn_66 (by decide) (fun c19 => ?_) (fun c19 => ?_)
    · replace h := (if_pos c19).symm.trans h
      cases h
      exact k
    · replace h := (if_neg c19).symm.trans h
      refine v_lload X dX8_drawn_69 rfl ?_
      refine v_ldc2 X kl_X8_270 dX8_drawn_71 ?_
      refine v_lmul X dX8_drawn_74 ?_
      refine v_ldc2 X kl_X8_272 dX8_drawn_75 ?_
      refine v_lrem X dX8_drawn_78 (by decide) ?_
      refine v_lstore (lc' := [some (.ref (ad (8, 0, 0))), some (.int z1), some (.int z2), some (.int z3), some (.long ((y4 * (16807 : Int64)) - (y4 * (16807 : Int64)) / (2147483647 : Int64) * (2147483647 : Int64))), none, some (.int y6), none, none]) X dX8_drawn_79 (by decide) rfl rfl ?_
      refine v_lload X dX8_drawn_81 rfl ?_
      refine v_aloadn X dX8_drawn_83 rfl rfl ?_
      refine gf_X8_25 X dX8_drawn_84 ?_
      refine v_iconst (v := 0) X dX8_drawn_87 (by decide) ?_
      obtain ⟨j20, q21, h⟩ := bd1_some h
      obtain ⟨ej20, lj20⟩ := ix_spec q21
      refine alM X (by decide +kernel) j20 ej20 lj20 dX8_drawn_88 ?_
      refine v_i2l X dX8_drawn_89 ?_
      by_cases c22 : ((g 11 7 j20).toInt64) = 0
      · replace h := (if_pos c22).symm.trans h
        cases h
      replace h := (if_neg c22).symm.trans h
      refine v_lrem X dX8_drawn_90 c22 ?_
      refine v_l2i X dX8_drawn_91 ?_
      refine v_istore (lc' := [some (.ref (ad (8, 0, 0))), some (.int z1), some (.int z2), some (.int z3), some (.long ((y4 * (16807 : Int64)) - (y4 * (16807 : Int64)) / (2147483647 : Int64) * (2147483647 : Int64))), none, some (.int y6), some (.int ((((y4 * (16807 : Int64)) - (y4 * (16807 : Int64)) / (2147483647 : Int64) * (2147483647 : Int64)) - ((y4 * (16807 : Int64)) - (y4 * (16807 : Int64)) / (2147483647 : Int64) * (2147483647 : Int64)) / ((g 11 7 j20).toInt64) * ((g 11 7 j20).toInt64)).toInt32)), none]) X dX8_drawn_92 (by decide) rfl rfl ?_
      refine v_aloadn X dX8_drawn_94 rfl rfl ?_
      refine gf_X8_25 X dX8_drawn_95 ?_
      refine v_iload X dX8_drawn_98 rfl ?_
      refine v_iconst (v := 3) X dX8_drawn_100 (by decide) ?_
      obtain ⟨r25, g24, q23, h⟩ := bd2_some h
      refine v_callSI (As := [.ref (ad (9, 11, 7)), .int ((((y4 * (16807 : Int64)) - (y4 * (16807 : Int64)) / (2147483647 : Int64) * (2147483647 : Int64)) - ((y4 * (16807 : Int64)) - (y4 * (16807 : Int64)) / (2147483647 : Int64) * (2147483647 : Int64)) / ((g 11 7 j20).toInt64) * ((g 11 7 j20).toInt64)).toInt32), .int (3 : Int32)]) (rest := []) X (c_X8_of l D ad cy X.2.2.2.2.2.2.2.2.1 N 7 ((((y4 * (16807 : Int64)) - (y4 * (16807 : Int64)) / (2147483647 : Int64) * (2147483647 : Int64)) - ((y4 * (16807 : Int64)) - (y4 * (16807 : Int64)) / (2147483647 : Int64) * (2147483647 : Int64)) / ((g 11 7 j20).toInt64) * ((g 11 7 j20).toInt64)).toInt32) (3 : Int32) g r25 g24 (by decide +kernel) q23) mw_X8_of ml_X8_155 (by decide) rfl rfl (Nat.le_of_ble_eq_true rfl) dX8_drawn_101 ?_
      refine v_if_ne X 128 dX8_drawn_104 (by decide) (fun c26 => ?_) (fun c26 => ?_)
      · replace h := (if_neg c26).symm.trans h
        refine v_aloadn X dX8_drawn_128 rfl rfl ?_
        refine gf_X8_25 X dX8_drawn_129 ?_
        refine v_iload X dX8_drawn_132 rfl ?_
        obtain ⟨r29, g28, q27, h⟩ := bd2_some h
        refine v_callSI (As := [.ref (ad (9, 11, 7)), .int ((((y4 * (16807 : Int64)) - (y4 * (16807 : Int64)) / (2147483647 : Int64) * (2147483647 : Int64)) - ((y4 * (16807 : Int64)) - (y4 * (16807 : Int64)) / (2147483647 : Int64) * (2147483647 : Int64)) / ((g 11 7 j20).toInt64) * ((g 11 7 j20).toInt64)).toInt32)]) (rest := []) X (c_X8_isUp l D ad cy X.2.2.2.2.2.2.2.2.1 N 7 ((((y4 * (16807 : Int64)) - (y4 * (16807 : Int64)) / (2147483647 : Int64) * (2147483647 : Int64)) - ((y4 * (16807 : Int64)) - (y4 * (16807 : Int64)) / (2147483647 : Int64) * (2147483647 : Int64)) / ((g 11 7 j20).toInt64) * ((g 11 7 j20).toInt64)).toInt32) g24 r29 g28 (by decide +kernel) q27) mw_X8_isUp ml_X8_159 (by decide) rfl rfl (Nat.le_of_ble_eq_true rfl) dX8_drawn_134 ?_
        refine v_if_eq X 188 dX8_drawn_137 (by decide) (fun c30 => ?_) (fun c30 => ?_)
        · replace h := (if_pos c30).symm.trans h
          refine v_aloadn X dX8_drawn_188 rfl rfl ?_
          refine v_aloadn X dX8_drawn_189 rfl rfl ?_
          refine gf_X8_25 X dX8_drawn_190 ?_
          refine v_lload X dX8_drawn_193 rfl ?_
          refine v_ldc2 X kl_X8_264 dX8_drawn_195 ?_
          refine v_lrem X dX8_drawn_198 (by decide) ?_
          refine v_l2i X dX8_drawn_199 ?_
          obtain ⟨g32, q31, h⟩ := bd1_some h
          refine v_callVV (As := [.ref (ad (9, 11, 7)), .int ((((y4 * (16807 : Int64)) - (y4 * (16807 : Int64)) / (2147483647 : Int64) * (2147483647 : Int64)) - ((y4 * (16807 : Int64)) - (y4 * (16807 : Int64)) / (2147483647 : Int64) * (2147483647 : Int64)) / (10 : Int64) * (10 : Int64)).toInt32)]) (rest := []) X (c_X8_hourBy l D ad cy X.2.2.2.2.2.2.2.2.1 N 7 ((((y4 * (16807 : Int64)) - (y4 * (16807 : Int64)) / (2147483647 : Int64) * (2147483647 : Int64)) - ((y4 * (16807 : Int64)) - (y4 * (16807 : Int64)) / (2147483647 : Int64) * (2147483647 : Int64)) / (10 : Int64) * (10 : Int64)).toInt32) g28 g32 (by decide +kernel) q31) mw_X8_hourBy ml_X8_184 (by decide) (by decide +kernel) (by decide) rfl rfl rfl rfl (Nat.le_of_ble_eq_true rfl) dX8_drawn_200 ?_
          refine v_iinc (v := (y6 + 1)) (lc' := [some (.ref (ad (8, 0, 0))), some (.int z1), some (.int z2), some (.int z3), some (.long ((y4 * (16807 : Int64)) - (y4 * (16807 : Int64)) / (2147483647 : Int64) * (2147483647 : Int64))), none, some (.int (y6 + 1)), some (.int ((((y4 * (16807 : Int64)) - (y4 * (16807 : Int64)) / (2147483647 : Int64) * (2147483647 : Int64)) - ((y4 * (16807 : Int64)) - (y4 * (16807 : Int64)) / (2147483647 : Int64) * (2147483647 : Int64)) / ((g 11 7 j20).toInt64) * ((g 11 7 j20).toInt64)).toInt32)), none]) X dX8_drawn_203 rfl rfl (by decide) rfl rfl ?_
          refine v_goto X 63 dX8_drawn_206 (by decide) ?_
          refine v_weak (lc2 := [some (.ref (ad (8, 0, 0))), some (.int z1), some (.int z2), some (.int z3), some (.long ((y4 * (16807 : Int64)) - (y4 * (16807 : Int64)) / (2147483647 : Int64) * (2147483647 : Int64))), none, some (.int (y6 + 1)), none, none]) ⟨rfl, rfl, rfl, rfl, rfl, rfl, trivial⟩ ?_
          exact ih ((y4 * (16807 : Int64)) - (y4 * (16807 : Int64)) / (2147483647 : Int64) * (2147483647 : Int64)) (y6 + 1) g32 _ _ _ h k
        · replace h := (if_neg c30).symm.trans h
          refine v_lload X dX8_drawn_140 rfl ?_
          refine v_ldc2 X kl_X8_68 dX8_drawn_142 ?_
          refine v_lrem X dX8_drawn_145 (by decide) ?_
          refine v_lconst (v := 0) X dX8_drawn_146 (by decide) ?_
          refine v_lcmp X dX8_drawn_147 ?_
          refine v_if_ne X 188 dX8_drawn_148 (by decide) (fun c33 => ?_) (fun c33 => ?_)
          · replace h := (if_neg c33).symm.trans h
            refine v_aloadn X dX8_drawn_188 rfl rfl ?_
            refine v_aloadn X dX8_drawn_189 rfl rfl ?_
            refine gf_X8_25 X dX8_drawn_190 ?_
            refine v_lload X dX8_drawn_193 rfl ?_
            refine v_ldc2 X kl_X8_264 dX8_drawn_195 ?_
            refine v_lrem X dX8_drawn_198 (by decide) ?_
            refine v_l2i X dX8_drawn_199 ?_
            obtain ⟨g35, q34, h⟩ := bd1_some h
            refine v_callVV (As := [.ref (ad (9, 11, 7)), .int ((((y4 * (16807 : Int64)) - (y4 * (16807 : Int64)) / (2147483647 : Int64) * (2147483647 : Int64)) - ((y4 * (16807 : Int64)) - (y4 * (16807 : Int64)) / (2147483647 : Int64) * (2147483647 : Int64)) / (10 : Int64) * (10 : Int64)).toInt32)]) (rest := []) X (c_X8_hourBy l D ad cy X.2.2.2.2.2.2.2.2.1 N 7 ((((y4 * (16807 : Int64)) - (y4 * (16807 : Int64)) / (2147483647 : Int64) * (2147483647 : Int64)) - ((y4 * (16807 : Int64)) - (y4 * (16807 : Int64)) / (2147483647 : Int64) * (2147483647 : Int64)) / (10 : Int64) * (10 : Int64)).toInt32) g28 g35 (by decide +kernel) q34) mw_X8_hourBy ml_X8_184 (by decide) (by decide +kernel) (by decide) rfl rfl rfl rfl (Nat.le_of_ble_eq_true rfl) dX8_drawn_200 ?_
            refine v_iinc (v := (y6 + 1)) (lc' := [some (.ref (ad (8, 0, 0))), some (.int z1), some (.int z2), some (.int z3), some (.long ((y4 * (16807 : Int64)) - (y4 * (16807 : Int64)) / (2147483647 : Int64) * (2147483647 : Int64))), none, some (.int (y6 + 1)), some (.int ((((y4 * (16807 : Int64)) - (y4 * (16807 : Int64)) / (2147483647 : Int64) * (2147483647 : Int64)) - ((y4 * (16807 : Int64)) - (y4 * (16807 : Int64)) / (2147483647 : Int64) * (2147483647 : Int64)) / ((g 11 7 j20).toInt64) * ((g 11 7 j20).toInt64)).toInt32)), none]) X dX8_drawn_203 rfl rfl (by decide) rfl rfl ?_
            refine v_goto X 63 dX8_drawn_206 (by decide) ?_
            refine v_weak (lc2 := [some (.ref (ad (8, 0, 0))), some (.int z1), some (.int z2), some (.int z3), some (.long ((y4 * (16807 : Int64)) - (y4 * (16807 : Int64)) / (2147483647 : Int64) * (2147483647 : Int64))), none, some (.int (y6 + 1)), none, none]) ⟨rfl, rfl, rfl, rfl, rfl, rfl, trivial⟩ ?_
            exact ih ((y4 * (16807 : Int64)) - (y4 * (16807 : Int64)) / (2147483647 : Int64) * (2147483647 : Int64)) (y6 + 1) g35 _ _ _ h k
          · replace h := (if_pos c33).symm.trans h
            refine v_aloadn X dX8_drawn_151 rfl rfl ?_
            refine gf_X8_25 X dX8_drawn_152 ?_
            refine v_iload X dX8_drawn_155 rfl ?_
            refine v_iconst (v := 5) X dX8_drawn_157 (by decide) ?_
            obtain ⟨r38, g37, q36, h⟩ := bd2_some h
            refine v_callSI (As := [.ref (ad (9, 11, 7)), .int ((((y4 * (16807 : Int64)) - (y4 * (16807 : Int64)) / (2147483647 : Int64) * (2147483647 : Int64)) - ((y4 * (16807 : Int64)) - (y4 * (16807 : Int64)) / (2147483647 : Int64) * (2147483647 : Int64)) / ((g 11 7 j20).toInt64) * ((g 11 7 j20).toInt64)).toInt32), .int (5 : Int32)]) (rest := []) X (c_X8_of l D ad cy X.2.2.2.2.2.2.2.2.1 N 7 ((((y4 * (16807 : Int64)) - (y4 * (16807 : Int64)) / (2147483647 : Int64) * (2147483647 : Int64)) - ((y4 * (16807 : Int64)) - (y4 * (16807 : Int64)) / (2147483647 : Int64) * (2147483647 : Int64)) / ((g 11 7 j20).toInt64) * ((g 11 7 j20).toInt64)).toInt32) (5 : Int32) g28 r38 g37 (by decide +kernel) q36) mw_X8_of ml_X8_155 (by decide) rfl rfl (Nat.le_of_ble_eq_true rfl) dX8_drawn_158 ?_
            refine v_iconst (v := 5) X dX8_drawn_161 (by decide) ?_
            refine v_iadd X dX8_drawn_162 ?_
            refine v_istore (lc' := [some (.ref (ad (8, 0, 0))), some (.int z1), some (.int z2), some (.int z3), some (.long ((y4 * (16807 : Int64)) - (y4 * (16807 : Int64)) / (2147483647 : Int64) * (2147483647 : Int64))), none, some (.int y6), some (.int ((((y4 * (16807 : Int64)) - (y4 * (16807 : Int64)) / (2147483647 : Int64) * (2147483647 : Int64)) - ((y4 * (16807 : Int64)) - (y4 * (16807 : Int64)) / (2147483647 : Int64) * (2147483647 : Int64)) / ((g 11 7 j20).toInt64) * ((g 11 7 j20).toInt64)).toInt32)), some (.int (r38 + (5 : Int32)))]) X dX8_drawn_163 (by decide) rfl rfl ?_
            refine v_aloadn X dX8_drawn_165 rfl rfl ?_
            refine gf_X8_25 X dX8_drawn_166 ?_
            refine v_iload X dX8_drawn_169 rfl ?_
            refine v_iload X dX8_drawn_171 rfl ?_
            refine v_bipush (v := 40) X dX8_drawn_173 (by decide) ?_
            refine v_icmp_le X 183 dX8_drawn_175 (by decide) (fun c39 => ?_) (fun c39 => ?_)
            · replace h := (if_pos c39).symm.trans h
              refine v_iload X dX8_drawn_183 rfl ?_
              obtain ⟨g41, q40, h⟩ := bd1_some h
              refine v_callSV (As := [.ref (ad (9, 11, 7)), .int ((((y4 * (16807 : Int64)) - (y4 * (16807 : Int64)) / (2147483647 : Int64) * (2147483647 : Int64)) - ((y4 * (16807 : Int64)) - (y4 * (16807 : Int64)) / (2147483647 : Int64) * (2147483647 : Int64)) / ((g 11 7 j20).toInt64) * ((g 11 7 j20).toInt64)).toInt32), .int (r38 + (5 : Int32))]) (rest := []) X (c_X8_letsOut l D ad cy X.2.2.2.2.2.2.2.2.1 N 7 ((((y4 * (16807 : Int64)) - (y4 * (16807 : Int64)) / (2147483647 : Int64) * (2147483647 : Int64)) - ((y4 * (16807 : Int64)) - (y4 * (16807 : Int64)) / (2147483647 : Int64) * (2147483647 : Int64)) / ((g 11 7 j20).toInt64) * ((g 11 7 j20).toInt64)).toInt32) (r38 + (5 : Int32)) g37 g41 (by decide +kernel) q40) mw_X8_letsOut ml_X8_222 (by decide) rfl rfl (Nat.le_of_ble_eq_true rfl) dX8_drawn_185 ?_
              refine v_aloadn X dX8_drawn_188 rfl rfl ?_
              refine v_aloadn X dX8_drawn_189 rfl rfl ?_
              refine gf_X8_25 X dX8_drawn_190 ?_
              refine v_lload X dX8_drawn_193 rfl ?_
              refine v_ldc2 X kl_X8_264 dX8_drawn_195 ?_
              refine v_lrem X dX8_drawn_198 (by decide) ?_
              refine v_l2i X dX8_drawn_199 ?_
              obtain ⟨g43, q42, h⟩ := bd1_some h
              refine v_callVV (As := [.ref (ad (9, 11, 7)), .int ((((y4 * (16807 : Int64)) - (y4 * (16807 : Int64)) / (2147483647 : Int64) * (2147483647 : Int64)) - ((y4 * (16807 : Int64)) - (y4 * (16807 : Int64)) / (2147483647 : Int64) * (2147483647 : Int64)) / (10 : Int64) * (10 : Int64)).toInt32)]) (rest := []) X (c_X8_hourBy l D ad cy X.2.2.2.2.2.2.2.2.1 N 7 ((((y4 * (16807 : Int64)) - (y4 * (16807 : Int64)) / (2147483647 : Int64) * (2147483647 : Int64)) - ((y4 * (16807 : Int64)) - (y4 * (16807 : Int64)) / (2147483647 : Int64) * (2147483647 : Int64)) / (10 : Int64) * (10 : Int64)).toInt32) g41 g43 (by decide +kernel) q42) mw_X8_hourBy ml_X8_184 (by decide) (by decide +kernel) (by decide) rfl rfl rfl rfl (Nat.le_of_ble_eq_true rfl) dX8_drawn_200 ?_
              refine v_iinc (v := (y6 + 1)) (lc' := [some (.ref (ad (8, 0, 0))), some (.int z1), some (.int z2), some (.int z3), some (.long ((y4 * (16807 : Int64)) - (y4 * (16807 : Int64)) / (2147483647 : Int64) * (2147483647 : Int64))), none, some (.int (y6 + 1)), some (.int ((((y4 * (16807 : Int64)) - (y4 * (16807 : Int64)) / (2147483647 : Int64) * (2147483647 : Int64)) - ((y4 * (16807 : Int64)) - (y4 * (16807 : Int64)) / (2147483647 : Int64) * (2147483647 : Int64)) / ((g 11 7 j20).toInt64) * ((g 11 7 j20).toInt64)).toInt32)), some (.int (r38 + (5 : Int32)))]) X dX8_drawn_203 rfl rfl (by decide) rfl rfl ?_
              refine v_goto X 63 dX8_drawn_206 (by decide) ?_
              refine v_weak (lc2 := [some (.ref (ad (8, 0, 0))), some (.int z1), some (.int z2), some (.int z3), some (.long ((y4 * (16807 : Int64)) - (y4 * (16807 : Int64)) / (2147483647 : Int64) * (2147483647 : Int64))), none, some (.int (y6 + 1)), none, none]) ⟨rfl, rfl, rfl, rfl, rfl, rfl, trivial⟩ ?_
              exact ih ((y4 * (16807 : Int64)) - (y4 * (16807 : Int64)) / (2147483647 : Int64) * (2147483647 : Int64)) (y6 + 1) g43 _ _ _ h k
            · replace h := (if_neg c39).symm.trans h
              refine v_bipush (v := 40) X dX8_drawn_178 (by decide) ?_
              refine v_goto X 185 dX8_drawn_180 (by decide) ?_
              obtain ⟨g45, q44, h⟩ := bd1_some h
              refine v_callSV (As := [.ref (ad (9, 11, 7)), .int ((((y4 * (16807 : Int64)) - (y4 * (16807 : Int64)) / (2147483647 : Int64) * (2147483647 : Int64)) - ((y4 * (16807 : Int64)) - (y4 * (16807 : Int64)) / (2147483647 : Int64) * (2147483647 : Int64)) / ((g 11 7 j20).toInt64) * ((g 11 7 j20).toInt64)).toInt32), .int (40 : Int32)]) (rest := []) X (c_X8_letsOut l D ad cy X.2.2.2.2.2.2.2.2.1 N 7 ((((y4 * (16807 : Int64)) - (y4 * (16807 : Int64)) / (2147483647 : Int64) * (2147483647 : Int64)) - ((y4 * (16807 : Int64)) - (y4 * (16807 : Int64)) / (2147483647 : Int64) * (2147483647 : Int64)) / ((g 11 7 j20).toInt64) * ((g 11 7 j20).toInt64)).toInt32) (40 : Int32) g37 g45 (by decide +kernel) q44) mw_X8_letsOut ml_X8_222 (by decide) rfl rfl (Nat.le_of_ble_eq_true rfl) dX8_drawn_185 ?_
              refine v_aloadn X dX8_drawn_188 rfl rfl ?_
              refine v_aloadn X dX8_drawn_189 rfl rfl ?_
              refine gf_X8_25 X dX8_drawn_190 ?_
              refine v_lload X dX8_drawn_193 rfl ?_
              refine v_ldc2 X kl_X8_264 dX8_drawn_195 ?_
              refine v_lrem X dX8_drawn_198 (by decide) ?_
              refine v_l2i X dX8_drawn_199 ?_
              obtain ⟨g47, q46, h⟩ := bd1_some h
              refine v_callVV (As := [.ref (ad (9, 11, 7)), .int ((((y4 * (16807 : Int64)) - (y4 * (16807 : Int64)) / (2147483647 : Int64) * (2147483647 : Int64)) - ((y4 * (16807 : Int64)) - (y4 * (16807 : Int64)) / (2147483647 : Int64) * (2147483647 : Int64)) / (10 : Int64) * (10 : Int64)).toInt32)]) (rest := []) X (c_X8_hourBy l D ad cy X.2.2.2.2.2.2.2.2.1 N 7 ((((y4 * (16807 : Int64)) - (y4 * (16807 : Int64)) / (2147483647 : Int64) * (2147483647 : Int64)) - ((y4 * (16807 : Int64)) - (y4 * (16807 : Int64)) / (2147483647 : Int64) * (2147483647 : Int64)) / (10 : Int64) * (10 : Int64)).toInt32) g45 g47 (by decide +kernel) q46) mw_X8_hourBy ml_X8_184 (by decide) (by decide +kernel) (by decide) rfl rfl rfl rfl (Nat.le_of_ble_eq_true rfl) dX8_drawn_200 ?_
              refine v_iinc (v := (y6 + 1)) (lc' := [some (.ref (ad (8, 0, 0))), some (.int z1), some (.int z2), some (.int z3), some (.long ((y4 * (16807 : Int64)) - (y4 * (16807 : Int64)) / (2147483647 : Int64) * (2147483647 : Int64))), none, some (.int (y6 + 1)), some (.int ((((y4 * (16807 : Int64)) - (y4 * (16807 : Int64)) / (2147483647 : Int64) * (2147483647 : Int64)) - ((y4 * (16807 : Int64)) - (y4 * (16807 : Int64)) / (2147483647 : Int64) * (2147483647 : Int64)) / ((g 11 7 j20).toInt64) * ((g 11 7 j20).toInt64)).toInt32)), some (.int (r38 + (5 : Int32)))]) X dX8_drawn_203 rfl rfl (by decide) rfl rfl ?_
              refine v_goto X 63 dX8_drawn_206 (by decide) ?_
              refine v_weak (lc2 := [some (.ref (ad (8, 0, 0))), some (.int z1), some (.int z2), some (.int z3), some (.long ((y4 * (16807 : Int64)) - (y4 * (16807 : Int64)) / (2147483647 : Int64) * (2147483647 : Int64))), none, some (.int (y6 + 1)), none, none]) ⟨rfl, rfl, rfl, rfl, rfl, rfl, trivial⟩ ?_
              exact ih ((y4 * (16807 : Int64)) - (y4 * (16807 : Int64)) / (2147483647 : Int64) * (2147483647 : Int64)) (y6 + 1) g47 _ _ _ h k
      · replace h := (if_pos c26).symm.trans h
        refine v_aloadn X dX8_drawn_107 rfl rfl ?_
        refine gf_X8_25 X dX8_drawn_108 ?_
        refine v_iload X dX8_drawn_111 rfl ?_
        refine v_lload X dX8_drawn_113 rfl ?_
        refine v_ldc2 X kl_X8_211 dX8_drawn_115 ?_
        refine v_lrem X dX8_drawn_118 (by decide) ?_
        refine v_l2i X dX8_drawn_119 ?_
        refine v_iconst (v := 1) X dX8_drawn_120 (by decide) ?_
        refine v_iadd X dX8_drawn_121 ?_
        obtain ⟨g49, q48, h⟩ := bd1_some h
        refine v_callSV (As := [.ref (ad (9, 11, 7)), .int ((((y4 * (16807 : Int64)) - (y4 * (16807 : Int64)) / (2147483647 : Int64) * (2147483647 : Int64)) - ((y4 * (16807 : Int64)) - (y4 * (16807 : Int64)) / (2147483647 : Int64) * (2147483647 : Int64)) / ((g 11 7 j20).toInt64) * ((g 11 7 j20).toInt64)).toInt32), .int (((((y4 * (16807 : Int64)) - (y4 * (16807 : Int64)) / (2147483647 : Int64) * (2147483647 : Int64)) - ((y4 * (16807 : Int64)) - (y4 * (16807 : Int64)) / (2147483647 : Int64) * (2147483647 : Int64)) / (40 : Int64) * (40 : Int64)).toInt32) + (1 : Int32))]) (rest := []) X (c_X8_goesUp l D ad cy X.2.2.2.2.2.2.2.2.1 N 7 ((((y4 * (16807 : Int64)) - (y4 * (16807 : Int64)) / (2147483647 : Int64) * (2147483647 : Int64)) - ((y4 * (16807 : Int64)) - (y4 * (16807 : Int64)) / (2147483647 : Int64) * (2147483647 : Int64)) / ((g 11 7 j20).toInt64) * ((g 11 7 j20).toInt64)).toInt32) (((((y4 * (16807 : Int64)) - (y4 * (16807 : Int64)) / (2147483647 : Int64) * (2147483647 : Int64)) - ((y4 * (16807 : Int64)) - (y4 * (16807 : Int64)) / (2147483647 : Int64) * (2147483647 : Int64)) / (40 : Int64) * (40 : Int64)).toInt32) + (1 : Int32)) g24 g49 (by decide +kernel) q48) mw_X8_goesUp ml_X8_213 (by decide) rfl rfl (Nat.le_of_ble_eq_true rfl) dX8_drawn_122 ?_
        refine v_goto X 188 dX8_drawn_125 (by decide) ?_
        refine v_aloadn X dX8_drawn_188 rfl rfl ?_
        refine v_aloadn X dX8_drawn_189 rfl rfl ?_
        refine gf_X8_25 X dX8_drawn_190 ?_
        refine v_lload X dX8_drawn_193 rfl ?_
        refine v_ldc2 X kl_X8_264 dX8_drawn_195 ?_
        refine v_lrem X dX8_drawn_198 (by decide) ?_
        refine v_l2i X dX8_drawn_199 ?_
        obtain ⟨g51, q50, h⟩ := bd1_some h
        refine v_callVV (As := [.ref (ad (9, 11, 7)), .int ((((y4 * (16807 : Int64)) - (y4 * (16807 : Int64)) / (2147483647 : Int64) * (2147483647 : Int64)) - ((y4 * (16807 : Int64)) - (y4 * (16807 : Int64)) / (2147483647 : Int64) * (2147483647 : Int64)) / (10 : Int64) * (10 : Int64)).toInt32)]) (rest := []) X (c_X8_hourBy l D ad cy X.2.2.2.2.2.2.2.2.1 N 7 ((((y4 * (16807 : Int64)) - (y4 * (16807 : Int64)) / (2147483647 : Int64) * (2147483647 : Int64)) - ((y4 * (16807 : Int64)) - (y4 * (16807 : Int64)) / (2147483647 : Int64) * (2147483647 : Int64)) / (10 : Int64) * (10 : Int64)).toInt32) g49 g51 (by decide +kernel) q50) mw_X8_hourBy ml_X8_184 (by decide) (by decide +kernel) (by decide) rfl rfl rfl rfl (Nat.le_of_ble_eq_true rfl) dX8_drawn_200 ?_
        refine v_iinc (v := (y6 + 1)) (lc' := [some (.ref (ad (8, 0, 0))), some (.int z1), some (.int z2), some (.int z3), some (.long ((y4 * (16807 : Int64)) - (y4 * (16807 : Int64)) / (2147483647 : Int64) * (2147483647 : Int64))), none, some (.int (y6 + 1)), some (.int ((((y4 * (16807 : Int64)) - (y4 * (16807 : Int64)) / (2147483647 : Int64) * (2147483647 : Int64)) - ((y4 * (16807 : Int64)) - (y4 * (16807 : Int64)) / (2147483647 : Int64) * (2147483647 : Int64)) / ((g 11 7 j20).toInt64) * ((g 11 7 j20).toInt64)).toInt32)), none]) X dX8_drawn_203 rfl rfl (by decide) rfl rfl ?_
        refine v_goto X 63 dX8_drawn_206 (by decide) ?_
        refine v_weak (lc2 := [some (.ref (ad (8, 0, 0))), some (.int z1), some (.int z2), some (.int z3), some (.long ((y4 * (16807 : Int64)) - (y4 * (16807 : Int64)) / (2147483647 : Int64) * (2147483647 : Int64))), none, some (.int (y6 + 1)), none, none]) ⟨rfl, rfl, rfl, rfl, rfl, rfl, trivial⟩ ?_
        exact ih ((y4 * (16807 : Int64)) - (y4 * (16807 : Int64)) / (2147483647 : Int64) * (2147483647 : Int64)) (y6 + 1) g51 _ _ _ h k
set_option maxRecDepth 100000 in
set_option maxHeartbeats 4000000 in
theorem c_X8_drawn (l : Launch) (D : va_G) (ad : Ky → Nat) (cy : Nat → ClassId) (hI : Inj ad) (N : Nat) (x1 : Int32) (x2 : Int32) (x3 : Int32) (g : GS) (r : Int32) (gq : GS) (h : F_X8_drawn N x1 x2 x3 g = some (r, gq)) : CtI l D ad cy yX8_drawn cX8_drawn 9 (some .int) 5 [.ref (ad (8, 0, 0)), .int x1, .int x2, .int x3] g r gq := by
  refine CtI.of 5 hI (by decide +kernel) rfl (Nat.le_of_ble_eq_true rfl) (fun p e s m args below meth c X => ?_)
  unfold F_X8_drawn at h
  show Vy _ _ _ _ _ _ _ _ _ _ _ _ _ _ _ 0 [some (.ref (ad (8, 0, 0))), some (.int x1), some (.int x2), some (.int x3), none, none, none, none, none] [] g
  refine v_aloadn X dX8_drawn_0 rfl rfl ?_
  refine v_iconst (v := 0) X dX8_drawn_1 (by decide) ?_
  refine pf_X8_50 X dX8_drawn_2 ?_
  refine v_aloadn X dX8_drawn_5 rfl rfl ?_
  obtain ⟨r3, g2, q1, h⟩ := bd2_some h
  refine v_callVI (As := []) (rest := []) X (c_X8_isThere l D ad cy X.2.2.2.2.2.2.2.2.1 N  (g3 g 10 0 0 (0 : Int32)) r3 g2  q1) mw_X8_isThere ml_X8_195 (by decide) (by decide +kernel) (by decide) rfl rfl rfl rfl (Nat.le_of_ble_eq_true rfl) dX8_drawn_6 ?_
  refine v_if_ne X 15 dX8_drawn_9 (by decide) (fun c4 => ?_) (fun c4 => ?_)
  · replace h := (if_neg c4).symm.trans h
    refine v_iloadn X dX8_drawn_15 rfl rfl ?_
    refine v_i2l X dX8_drawn_16 ?_
    refine v_lconst (v := 0) X dX8_drawn_17 (by decide) ?_
    refine v_ldc2 X kl_X8_225 dX8_drawn_18 ?_
    obtain ⟨r7, g6, q5, h⟩ := bd2_some h
    refine v_callSI (As := [.long (x1.toInt64), .long (0 : Int64), .long (60 : Int64)]) (rest := []) X (c_X8_in l D ad cy X.2.2.2.2.2.2.2.2.1 N (x1.toInt64) (0 : Int64) (60 : Int64) g2 r7 g6  q5) mw_X8_in ml_X8_60 (by decide) rfl rfl (Nat.le_of_ble_eq_true rfl) dX8_drawn_21 ?_
    refine v_if_eq X 49 dX8_drawn_24 (by decide) (fun c8 => ?_) (fun c8 => ?_)
    · replace h := (if_pos c8).symm.trans h
      refine v_ldc X kc_X8_70 dX8_drawn_49 ?_
      cases h
      exact v_iret X dX8_drawn_51 rfl rfl
    · replace h := (if_neg c8).symm.trans h
      refine v_iloadn X dX8_drawn_27 rfl rfl ?_
      refine v_i2l X dX8_drawn_28 ?_
      refine v_lconst (v := 1) X dX8_drawn_29 (by decide) ?_
      refine v_ldc2 X kl_X8_268 dX8_drawn_30 ?_
      obtain ⟨r11, g10, q9, h⟩ := bd2_some h
      refine v_callSI (As := [.long (x2.toInt64), .long (1 : Int64), .long (999999 : Int64)]) (rest := []) X (c_X8_in l D ad cy X.2.2.2.2.2.2.2.2.1 N (x2.toInt64) (1 : Int64) (999999 : Int64) g6 r11 g10  q9) mw_X8_in ml_X8_60 (by decide) rfl rfl (Nat.le_of_ble_eq_true rfl) dX8_drawn_33 ?_
      refine v_if_eq X 49 dX8_drawn_36 (by decide) (fun c12 => ?_) (fun c12 => ?_)
      · replace h := (if_pos c12).symm.trans h
        refine v_ldc X kc_X8_70 dX8_drawn_49 ?_
        cases h
        exact v_iret X dX8_drawn_51 rfl rfl
      · replace h := (if_neg c12).symm.trans h
        refine v_iloadn X dX8_drawn_39 rfl rfl ?_
        refine v_i2l X dX8_drawn_40 ?_
        refine v_lconst (v := 0) X dX8_drawn_41 (by decide) ?_
        refine v_lconst (v := 1) X dX8_drawn_42 (by decide) ?_
        obtain ⟨r15, g14, q13, h⟩ := bd2_some h
        refine v_callSI (As := [.long (x3.toInt64), .long (0 : Int64), .long (1 : Int64)]) (rest := []) X (c_X8_in l D ad cy X.2.2.2.2.2.2.2.2.1 N (x3.toInt64) (0 : Int64) (1 : Int64) g10 r15 g14  q13) mw_X8_in ml_X8_60 (by decide) rfl rfl (Nat.le_of_ble_eq_true rfl) dX8_drawn_43 ?_
        refine v_if_ne X 52 dX8_drawn_46 (by decide) (fun c16 => ?_) (fun c16 => ?_)
        · replace h := (if_neg c16).symm.trans h
          refine v_aloadn X dX8_drawn_52 rfl rfl ?_
          obtain ⟨g18, q17, h⟩ := bd1_some h
          refine v_callVV (As := []) (rest := []) X (c_X8_layThen l D ad cy X.2.2.2.2.2.2.2.2.1 N  g14 g18  q17) mw_X8_layThen ml_X8_232 (by decide) (by decide +kernel) (by decide) rfl rfl rfl rfl (Nat.le_of_ble_eq_true rfl) dX8_drawn_53 ?_
          refine v_iloadn X dX8_drawn_56 rfl rfl ?_
          refine v_i2l X dX8_drawn_57 ?_
          refine v_lstore (lc' := [some (.ref (ad (8, 0, 0))), some (.int x1), some (.int x2), some (.int x3), some (.long (x2.toInt64)), none, none, none, none]) X dX8_drawn_58 (by decide) rfl rfl ?_
          refine v_iconst (v := 0) X dX8_drawn_60 (by decide) ?_
          refine v_istore (lc' := [some (.ref (ad (8, 0, 0))), some (.int x1), some (.int x2), some (.int x3), some (.long (x2.toInt64)), none, some (.int (0 : Int32)), none, none]) X dX8_drawn_61 (by decide) rfl rfl ?_
          obtain ⟨x52, x53, g54, q55, h⟩ := bd3_some h
          refine w_X8_drawn_63 X x1 x2 x3 N (x2.toInt64) (0 : Int32) g18 x52 x53 g54 q55 ?_
          refine v_iloadn X dX8_drawn_209 rfl rfl ?_
          refine v_if_ne X 223 dX8_drawn_210 (by decide) (fun c56 => ?_) (fun c56 => ?_)
          · replace h := (if_neg c56).symm.trans h
            refine v_aloadn X dX8_drawn_223 rfl rfl ?_
            refine gf_X8_25 X dX8_drawn_224 ?_
            refine v_iconst (v := 2) X dX8_drawn_227 (by decide) ?_
            obtain ⟨r59, g58, q57, h⟩ := bd2_some h
            refine v_callSI (As := [.ref (ad (9, 11, 7)), .int (2 : Int32)]) (rest := []) X (c_X8_those l D ad cy X.2.2.2.2.2.2.2.2.1 N 7 (2 : Int32) g54 r59 g58 (by decide +kernel) q57) mw_X8_those ml_X8_217 (by decide) rfl rfl (Nat.le_of_ble_eq_true rfl) dX8_drawn_228 ?_
            obtain ⟨r62, g61, q60, h⟩ := bd2_some h
            refine v_callSI (As := [.int r59]) (rest := []) X (c_X8_bits l D ad cy X.2.2.2.2.2.2.2.2.1 N r59 g58 r62 g61  q60) mw_X8_bits ml_X8_244 (by decide) rfl rfl (Nat.le_of_ble_eq_true rfl) dX8_drawn_231 ?_
            cases h
            exact v_iret X dX8_drawn_234 rfl rfl
          · replace h := (if_pos c56).symm.trans h
            refine v_aloadn X dX8_drawn_213 rfl rfl ?_
            refine gf_X8_25 X dX8_drawn_214 ?_
            obtain ⟨r65, g64, q63, h⟩ := bd2_some h
            refine v_callSI (As := [.ref (ad (9, 11, 7))]) (rest := []) X (c_X8_policies l D ad cy X.2.2.2.2.2.2.2.2.1 N 7 g54 r65 g64 (by decide +kernel) q63) mw_X8_policies ml_X8_204 (by decide) rfl rfl (Nat.le_of_ble_eq_true rfl) dX8_drawn_217 ?_
            refine v_goto X 231 dX8_drawn_220 (by decide) ?_
            obtain ⟨r68, g67, q66, h⟩ := bd2_some h
            refine v_callSI (As := [.int r65]) (rest := []) X (c_X8_bits l D ad cy X.2.2.2.2.2.2.2.2.1 N r65 g64 r68 g67  q66) mw_X8_bits ml_X8_244 (by decide) rfl rfl (Nat.le_of_ble_eq_true rfl) dX8_drawn_231 ?_
            cases h
            exact v_iret X dX8_drawn_234 rfl rfl
        · replace h := (if_pos c16).symm.trans h
          refine v_ldc X kc_X8_70 dX8_drawn_49 ?_
          cases h
          exact v_iret X dX8_drawn_51 rfl rfl
  · replace h := (if_pos c4).symm.trans h
    refine v_ldc X kc_X8_198 dX8_drawn_12 ?_
    cases h
    exact v_iret X dX8_drawn_14 rfl rfl
