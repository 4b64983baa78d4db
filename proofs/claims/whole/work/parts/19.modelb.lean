def F_X8_drop (N : Nat) (x1 : Int32) (g : GS) : Option (Int32 × GS) := bd2 (F_X8_isRow N x1 (g3 g 10 0 0 (0 : Int32))) (fun r3 g2 => if r3 = 0 then some ((-1000001 : Int32), g2) else bd1 (ix x1 8) (fun j5 => if 0 ≤ ((g3 g2 10 0 1 (0 : Int32)) 11 2 j5) then bd1 (ix x1 8) (fun j8 => bd1 (ix x1 8) (fun j10 => some (((g3 (g3 g2 10 0 1 (0 : Int32)) 11 2 j8 (-1 : Int32)) 11 3 j10), (g3 (g3 g2 10 0 1 (0 : Int32)) 11 2 j8 (-1 : Int32))))) else bd2 (F_X8_finding N (1 : Int32) (g3 g2 10 0 1 (0 : Int32))) (fun r14 g13 => some (r14, g13))))
set_option maxRecDepth 100000 in
set_option maxHeartbeats 4000000 in
theorem c_X8_drop (l : Launch) (D : va_G) (ad : Ky → Nat) (cy : Nat → ClassId) (hI : Inj ad) (N : Nat) (x1 : Int32) (g : GS) (r : Int32) (gq : GS) (h : F_X8_drop N x1 g = some (r, gq)) : CtI l D ad cy yX8_drop cX8_drop 2 (some .int) 2 [.ref (ad (8, 0, 0)), .int x1] g r gq := by
  refine CtI.of 0 hI (by decide +kernel) rfl (Nat.le_of_ble_eq_true rfl) (fun p e s m args below meth c X => ?_)
  unfold F_X8_drop at h
  show Vy _ _ _ _ _ _ _ _ _ _ _ _ _ _ _ 0 [some (.ref (ad (8, 0, 0))), some (.int x1)] [] g
  refine v_aloadn X dX8_drop_0 rfl rfl ?_
  refine v_iconst (v := 0) X dX8_drop_1 (by decide) ?_
  refine pf_X8_50 X dX8_drop_2 ?_
  refine v_iloadn X dX8_drop_5 rfl rfl ?_
  obtain ⟨r3, g2, q1, h⟩ := bd2_some h
  refine v_callSI (As := [.int x1]) (rest := []) X (c_X8_isRow l D ad cy X.2.2.2.2.2.2.2.2.1 N x1 (g3 g 10 0 0 (0 : Int32)) r3 g2  q1) mw_X8_isRow ml_X8_64 (by decide) rfl rfl (Nat.le_of_ble_eq_true rfl) dX8_drop_6 ?_
  refine v_if_ne X 15 dX8_drop_9 (by decide) (fun c4 => ?_) (fun c4 => ?_)
  · replace h := (if_neg c4).symm.trans h
    refine v_aloadn X dX8_drop_15 rfl rfl ?_
    refine v_iconst (v := 0) X dX8_drop_16 (by decide) ?_
    refine pf_X8_54 X dX8_drop_17 ?_
    refine v_aloadn X dX8_drop_20 rfl rfl ?_
    refine gf_X8_7 X dX8_drop_21 ?_
    refine v_iloadn X dX8_drop_24 rfl rfl ?_
    obtain ⟨j5, q6, h⟩ := bd1_some h
    obtain ⟨ej5, lj5⟩ := ix_spec q6
    refine alM X (by decide +kernel) j5 ej5 lj5 dX8_drop_25 ?_
    refine v_if_ge X 35 dX8_drop_26 (by decide) (fun c7 => ?_) (fun c7 => ?_)
    · replace h := (if_pos c7).symm.trans h
      refine v_aloadn X dX8_drop_35 rfl rfl ?_
      refine gf_X8_7 X dX8_drop_36 ?_
      refine v_iloadn X dX8_drop_39 rfl rfl ?_
      refine v_iconst (v := -1) X dX8_drop_40 (by decide) ?_
      obtain ⟨j8, q9, h⟩ := bd1_some h
      obtain ⟨ej8, lj8⟩ := ix_spec q9
      refine asM X (by decide +kernel) j8 ej8 lj8 dX8_drop_41 ?_
      refine v_aloadn X dX8_drop_42 rfl rfl ?_
      refine gf_X8_13 X dX8_drop_43 ?_
      refine v_iloadn X dX8_drop_46 rfl rfl ?_
      obtain ⟨j10, q11, h⟩ := bd1_some h
      obtain ⟨ej10, lj10⟩ := ix_spec q11
      refine alM X (by decide +kernel) j10 ej10 lj10 dX8_drop_47 ?_
      cases h
      exact v_iret X dX8_drop_48 rfl rfl
    · replace h := (if_neg c7).symm.trans h
      refine v_aloadn X dX8_drop_29 rfl rfl ?_
      refine v_iconst (v := 1) X dX8_drop_30 (by decide) ?_
      obtain ⟨r14, g13, q12, h⟩ := bd2_some h
      refine v_callVI (As := [.int (1 : Int32)]) (rest := []) X (c_X8_finding l D ad cy X.2.2.2.2.2.2.2.2.1 N (1 : Int32) (g3 g2 10 0 1 (0 : Int32)) r14 g13  q12) mw_X8_finding ml_X8_71 (by decide) (by decide +kernel) (by decide) rfl rfl rfl rfl (Nat.le_of_ble_eq_true rfl) dX8_drop_31 ?_
      cases h
      exact v_iret X dX8_drop_34 rfl rfl
  · replace h := (if_pos c4).symm.trans h
    refine v_ldc X kc_X8_70 dX8_drop_12 ?_
    cases h
    exact v_iret X dX8_drop_14 rfl rfl
def F_X8_failed (N : Nat) (g : GS) : Option (Int32 × GS) := if (g 10 0 17) = 0 then if (g 10 0 15) = (1 : Int32) then if ((g3 g 10 0 12 (0 : Int32)) 10 0 17) ≤ 0 then if ((g3 (g3 g 10 0 12 (0 : Int32)) 10 0 19 ((g3 g 10 0 12 (0 : Int32)) 10 0 19)) 10 0 17) ≤ 0 then some ((0 : Int32), (g3 (g3 g 10 0 12 (0 : Int32)) 10 0 19 ((g3 g 10 0 12 (0 : Int32)) 10 0 19))) else some ((1 : Int32), (g3 (g3 g 10 0 12 (0 : Int32)) 10 0 19 ((g3 g 10 0 12 (0 : Int32)) 10 0 19))) else if ((g3 (g3 g 10 0 12 (0 : Int32)) 10 0 19 ((g3 g 10 0 12 (0 : Int32)) 10 0 17)) 10 0 17) ≤ 0 then some ((0 : Int32), (g3 (g3 g 10 0 12 (0 : Int32)) 10 0 19 ((g3 g 10 0 12 (0 : Int32)) 10 0 17))) else some ((1 : Int32), (g3 (g3 g 10 0 12 (0 : Int32)) 10 0 19 ((g3 g 10 0 12 (0 : Int32)) 10 0 17))) else bd1 (F_X8_bad N (1 : Int32) g) (fun g10 => if ((g3 g10 10 0 12 (0 : Int32)) 10 0 17) ≤ 0 then if ((g3 (g3 g10 10 0 12 (0 : Int32)) 10 0 19 ((g3 g10 10 0 12 (0 : Int32)) 10 0 19)) 10 0 17) ≤ 0 then some ((0 : Int32), (g3 (g3 g10 10 0 12 (0 : Int32)) 10 0 19 ((g3 g10 10 0 12 (0 : Int32)) 10 0 19))) else some ((1 : Int32), (g3 (g3 g10 10 0 12 (0 : Int32)) 10 0 19 ((g3 g10 10 0 12 (0 : Int32)) 10 0 19))) else if ((g3 (g3 g10 10 0 12 (0 : Int32)) 10 0 19 ((g3 g10 10 0 12 (0 : Int32)) 10 0 17)) 10 0 17) ≤ 0 then some ((0 : Int32), (g3 (g3 g10 10 0 12 (0 : Int32)) 10 0 19 ((g3 g10 10 0 12 (0 : Int32)) 10 0 17))) else some ((1 : Int32), (g3 (g3 g10 10 0 12 (0 : Int32)) 10 0 19 ((g3 g10 10 0 12 (0 : Int32)) 10 0 17)))) else if ((g3 g 10 0 12 (0 : Int32)) 10 0 17) ≤ 0 then if ((g3 (g3 g 10 0 12 (0 : Int32)) 10 0 19 ((g3 g 10 0 12 (0 : Int32)) 10 0 19)) 10 0 17) ≤ 0 then some ((0 : Int32), (g3 (g3 g 10 0 12 (0 : Int32)) 10 0 19 ((g3 g 10 0 12 (0 : Int32)) 10 0 19))) else some ((1 : Int32), (g3 (g3 g 10 0 12 (0 : Int32)) 10 0 19 ((g3 g 10 0 12 (0 : Int32)) 10 0 19))) else if ((g3 (g3 g 10 0 12 (0 : Int32)) 10 0 19 ((g3 g 10 0 12 (0 : Int32)) 10 0 17)) 10 0 17) ≤ 0 then some ((0 : Int32), (g3 (g3 g 10 0 12 (0 : Int32)) 10 0 19 ((g3 g 10 0 12 (0 : Int32)) 10 0 17))) else some ((1 : Int32), (g3 (g3 g 10 0 12 (0 : Int32)) 10 0 19 ((g3 g 10 0 12 (0 : Int32)) 10 0 17)))
set_option maxRecDepth 100000 in
set_option maxHeartbeats 4000000 in
theorem c_X8_failed (l : Launch) (D : va_G) (ad : Ky → Nat) (cy : Nat → ClassId) (hI : Inj ad) (N : Nat) (g : GS) (r : Int32) (gq : GS) (h : F_X8_failed N  g = some (r, gq)) : CtI l D ad cy yX8_failed cX8_failed 1 (some .boolean) 1 [.ref (ad (8, 0, 0))] g r gq := by
  refine CtI.of 0 hI (by decide +kernel) rfl (Nat.le_of_ble_eq_true rfl) (fun p e s m args below meth c X => ?_)
  unfold F_X8_failed at h
  show Vy _ _ _ _ _ _ _ _ _ _ _ _ _ _ _ 0 [some (.ref (ad (8, 0, 0)))] [] g
  refine v_aloadn X dX8_failed_0 rfl rfl ?_
  refine gf_X8_81 X dX8_failed_1 ?_
  refine v_if_ne X 20 dX8_failed_4 (by decide) (fun c1 => ?_) (fun c1 => ?_)
  · replace h := (if_neg c1).symm.trans h
    refine v_aloadn X dX8_failed_20 rfl rfl ?_
    refine v_iconst (v := 0) X dX8_failed_21 (by decide) ?_
    refine pf_X8_77 X dX8_failed_22 ?_
    refine v_aloadn X dX8_failed_25 rfl rfl ?_
    refine v_aloadn X dX8_failed_26 rfl rfl ?_
    refine gf_X8_81 X dX8_failed_27 ?_
    refine v_if_le X 40 dX8_failed_30 (by decide) (fun c2 => ?_) (fun c2 => ?_)
    · replace h := (if_pos c2).symm.trans h
      refine v_aloadn X dX8_failed_40 rfl rfl ?_
      refine gf_X8_119 X dX8_failed_41 ?_
      refine pf_X8_119 X dX8_failed_44 ?_
      refine v_aloadn X dX8_failed_47 rfl rfl ?_
      refine gf_X8_81 X dX8_failed_48 ?_
      refine v_if_le X 58 dX8_failed_51 (by decide) (fun c3 => ?_) (fun c3 => ?_)
      · replace h := (if_pos c3).symm.trans h
        refine v_iconst (v := 0) X dX8_failed_58 (by decide) ?_
        cases h
        exact v_zret X dX8_failed_59 rfl rfl rfl
      · replace h := (if_neg c3).symm.trans h
        refine v_iconst (v := 1) X dX8_failed_54 (by decide) ?_
        refine v_goto X 59 dX8_failed_55 (by decide) ?_
        cases h
        exact v_zret X dX8_failed_59 rfl rfl rfl
    · replace h := (if_neg c2).symm.trans h
      refine v_aloadn X dX8_failed_33 rfl rfl ?_
      refine gf_X8_81 X dX8_failed_34 ?_
      refine v_goto X 44 dX8_failed_37 (by decide) ?_
      refine pf_X8_119 X dX8_failed_44 ?_
      refine v_aloadn X dX8_failed_47 rfl rfl ?_
      refine gf_X8_81 X dX8_failed_48 ?_
      refine v_if_le X 58 dX8_failed_51 (by decide) (fun c4 => ?_) (fun c4 => ?_)
      · replace h := (if_pos c4).symm.trans h
        refine v_iconst (v := 0) X dX8_failed_58 (by decide) ?_
        cases h
        exact v_zret X dX8_failed_59 rfl rfl rfl
      · replace h := (if_neg c4).symm.trans h
        refine v_iconst (v := 1) X dX8_failed_54 (by decide) ?_
        refine v_goto X 59 dX8_failed_55 (by decide) ?_
        cases h
        exact v_zret X dX8_failed_59 rfl rfl rfl
  · replace h := (if_pos c1).symm.trans h
    refine v_aloadn X dX8_failed_7 rfl rfl ?_
    refine gf_X8_105 X dX8_failed_8 ?_
    refine v_iconst (v := 1) X dX8_failed_11 (by decide) ?_
    refine v_icmp_eq X 20 dX8_failed_12 (by decide) (fun c5 => ?_) (fun c5 => ?_)
    · replace h := (if_pos c5).symm.trans h
      refine v_aloadn X dX8_failed_20 rfl rfl ?_
      refine v_iconst (v := 0) X dX8_failed_21 (by decide) ?_
      refine pf_X8_77 X dX8_failed_22 ?_
      refine v_aloadn X dX8_failed_25 rfl rfl ?_
      refine v_aloadn X dX8_failed_26 rfl rfl ?_
      refine gf_X8_81 X dX8_failed_27 ?_
      refine v_if_le X 40 dX8_failed_30 (by decide) (fun c6 => ?_) (fun c6 => ?_)
      · replace h := (if_pos c6).symm.trans h
        refine v_aloadn X dX8_failed_40 rfl rfl ?_
        refine gf_X8_119 X dX8_failed_41 ?_
        refine pf_X8_119 X dX8_failed_44 ?_
        refine v_aloadn X dX8_failed_47 rfl rfl ?_
        refine gf_X8_81 X dX8_failed_48 ?_
        refine v_if_le X 58 dX8_failed_51 (by decide) (fun c7 => ?_) (fun c7 => ?_)
        · replace h := (if_pos c7).symm.trans h
          refine v_iconst (v := 0) X dX8_failed_58 (by decide) ?_
          cases h
          exact v_zret X dX8_failed_59 rfl rfl rfl
        · replace h := (if_neg c7).symm.trans h
          refine v_iconst (v := 1) X dX8_failed_54 (by decide) ?_
          refine v_goto X 59 dX8_failed_55 (by decide) ?_
          cases h
          exact v_zret X dX8_failed_59 rfl rfl rfl
      · replace h := (if_neg c6).symm.trans h
        refine v_aloadn X dX8_failed_33 rfl rfl ?_
        refine gf_X8_81 X dX8_failed_34 ?_
        refine v_goto X 44 dX8_failed_37 (by decide) ?_
        refine pf_X8_119 X dX8_failed_44 ?_
        refine v_aloadn X dX8_failed_47 rfl rfl ?_
        refine gf_X8_81 X dX8_failed_48 ?_
        refine v_if_le X 58 dX8_failed_51 (by decide) (fun c8 => ?_) (fun c8 => ?_)
        · replace h := (if_pos c8).symm.trans h
          refine v_iconst (v := 0) X dX8_failed_58 (by decide) ?_
          cases h
          exact v_zret X dX8_failed_59 rfl rfl rfl
        · replace h := (if_neg c8).symm.trans h
          refine v_iconst (v := 1) X dX8_failed_54 (by decide) ?_
          refine v_goto X 59 dX8_failed_55 (by decide) ?_
          cases h
          exact v_zret X dX8_failed_59 rfl rfl rfl
    · replace h := (if_neg c5).symm.trans h
      refine v_aloadn X dX8_failed_15 rfl rfl ?_
      refine v_iconst (v := 1) X dX8_failed_16 (by decide) ?_
      obtain ⟨g10, q9, h⟩ := bd1_some h
      refine v_callVV (As := [.int (1 : Int32)]) (rest := []) X (c_X8_bad l D ad cy X.2.2.2.2.2.2.2.2.1 N (1 : Int32) g g10  q9) mw_X8_bad ml_X8_108 (by decide) (by decide +kernel) (by decide) rfl rfl rfl rfl (Nat.le_of_ble_eq_true rfl) dX8_failed_17 ?_
      refine v_aloadn X dX8_failed_20 rfl rfl ?_
      refine v_iconst (v := 0) X dX8_failed_21 (by decide) ?_
      refine pf_X8_77 X dX8_failed_22 ?_
      refine v_aloadn X dX8_failed_25 rfl rfl ?_
      refine v_aloadn X dX8_failed_26 rfl rfl ?_
      refine gf_X8_81 X dX8_failed_27 ?_
      refine v_if_le X 40 dX8_failed_30 (by decide) (fun c11 => ?_) (fun c11 => ?_)
      · replace h := (if_pos c11).symm.trans h
        refine v_aloadn X dX8_failed_40 rfl rfl ?_
        refine gf_X8_119 X dX8_failed_41 ?_
        refine pf_X8_119 X dX8_failed_44 ?_
        refine v_aloadn X dX8_failed_47 rfl rfl ?_
        refine gf_X8_81 X dX8_failed_48 ?_
        refine v_if_le X 58 dX8_failed_51 (by decide) (fun c12 => ?_) (fun c12 => ?_)
        · replace h := (if_pos c12).symm.trans h
          refine v_iconst (v := 0) X dX8_failed_58 (by decide) ?_
          cases h
          exact v_zret X dX8_failed_59 rfl rfl rfl
        · replace h := (if_neg c12).symm.trans h
          refine v_iconst (v := 1) X dX8_failed_54 (by decide) ?_
          refine v_goto X 59 dX8_failed_55 (by decide) ?_
          cases h
          exact v_zret X dX8_failed_59 rfl rfl rfl
      · replace h := (if_neg c11).symm.trans h
        refine v_aloadn X dX8_failed_33 rfl rfl ?_
        refine gf_X8_81 X dX8_failed_34 ?_
        refine v_goto X 44 dX8_failed_37 (by decide) ?_
        refine pf_X8_119 X dX8_failed_44 ?_
        refine v_aloadn X dX8_failed_47 rfl rfl ?_
        refine gf_X8_81 X dX8_failed_48 ?_
        refine v_if_le X 58 dX8_failed_51 (by decide) (fun c13 => ?_) (fun c13 => ?_)
        · replace h := (if_pos c13).symm.trans h
          refine v_iconst (v := 0) X dX8_failed_58 (by decide) ?_
          cases h
          exact v_zret X dX8_failed_59 rfl rfl rfl
        · replace h := (if_neg c13).symm.trans h
          refine v_iconst (v := 1) X dX8_failed_54 (by decide) ?_
          refine v_goto X 59 dX8_failed_55 (by decide) ?_
          cases h
          exact v_zret X dX8_failed_59 rfl rfl rfl
def F_X8_fault (N : Nat) (g : GS) : Option (Int32 × GS) := some (((g3 g 10 0 0 (0 : Int32)) 10 0 19), (g3 g 10 0 0 (0 : Int32)))
set_option maxRecDepth 100000 in
set_option maxHeartbeats 4000000 in
theorem c_X8_fault (l : Launch) (D : va_G) (ad : Ky → Nat) (cy : Nat → ClassId) (hI : Inj ad) (N : Nat) (g : GS) (r : Int32) (gq : GS) (h : F_X8_fault N  g = some (r, gq)) : CtI l D ad cy yX8_fault cX8_fault 1 (some .int) 0 [.ref (ad (8, 0, 0))] g r gq := by
  refine CtI.of 0 hI (by decide +kernel) rfl (Nat.le_of_ble_eq_true rfl) (fun p e s m args below meth c X => ?_)
  unfold F_X8_fault at h
  show Vy _ _ _ _ _ _ _ _ _ _ _ _ _ _ _ 0 [some (.ref (ad (8, 0, 0)))] [] g
  refine v_aloadn X dX8_fault_0 rfl rfl ?_
  refine v_iconst (v := 0) X dX8_fault_1 (by decide) ?_
  refine pf_X8_50 X dX8_fault_2 ?_
  refine v_aloadn X dX8_fault_5 rfl rfl ?_
  refine gf_X8_119 X dX8_fault_6 ?_
  cases h
  exact v_iret X dX8_fault_9 rfl rfl
def F_X8_feed (N : Nat) (x1 : Int32) (g : GS) : Option (Int32 × GS) := bd2 (F_X8_in N (x1.toInt64) (0 : Int64) (255 : Int64) (g3 g 10 0 0 (0 : Int32))) (fun r3 g2 => if r3 = 0 then some ((-1000001 : Int32), g2) else if (g2 10 0 12) = (100 : Int32) then some ((-1000003 : Int32), g2) else bd1 (ix (g2 10 0 12) 100) (fun j6 => some (((g3 (g3 g2 11 11 j6 x1) 10 0 12 (((g3 g2 11 11 j6 x1) 10 0 12) + (1 : Int32))) 10 0 12), (g3 (g3 g2 11 11 j6 x1) 10 0 12 (((g3 g2 11 11 j6 x1) 10 0 12) + (1 : Int32))))))
set_option maxRecDepth 100000 in
set_option maxHeartbeats 4000000 in
theorem c_X8_feed (l : Launch) (D : va_G) (ad : Ky → Nat) (cy : Nat → ClassId) (hI : Inj ad) (N : Nat) (x1 : Int32) (g : GS) (r : Int32) (gq : GS) (h : F_X8_feed N x1 g = some (r, gq)) : CtI l D ad cy yX8_feed cX8_feed 2 (some .int) 1 [.ref (ad (8, 0, 0)), .int x1] g r gq := by
  refine CtI.of 0 hI (by decide +kernel) rfl (Nat.le_of_ble_eq_true rfl) (fun p e s m args below meth c X => ?_)
  unfold F_X8_feed at h
  show Vy _ _ _ _ _ _ _ _ _ _ _ _ _ _ _ 0 [some (.ref (ad (8, 0, 0))), some (.int x1)] [] g
  refine v_aloadn X dX8_feed_0 rfl rfl ?_
  refine v_iconst (v := 0) X dX8_feed_1 (by decide) ?_
  refine pf_X8_50 X dX8_feed_2 ?_
  refine v_iloadn X dX8_feed_5 rfl rfl ?_
  refine v_i2l X dX8_feed_6 ?_
  refine v_lconst (v := 0) X dX8_feed_7 (by decide) ?_
  refine v_ldc2 X kl_X8_75 dX8_feed_8 ?_
  obtain ⟨r3, g2, q1, h⟩ := bd2_some h
  refine v_callSI (As := [.long (x1.toInt64), .long (0 : Int64), .long (255 : Int64)]) (rest := []) X (c_X8_in l D ad cy X.2.2.2.2.2.2.2.2.1 N (x1.toInt64) (0 : Int64) (255 : Int64) (g3 g 10 0 0 (0 : Int32)) r3 g2  q1) mw_X8_in ml_X8_60 (by decide) rfl rfl (Nat.le_of_ble_eq_true rfl) dX8_feed_11 ?_
  refine v_if_ne X 20 dX8_feed_14 (by decide) (fun c4 => ?_) (fun c4 => ?_)
  · replace h := (if_neg c4).symm.trans h
    refine v_aloadn X dX8_feed_20 rfl rfl ?_
    refine gf_X8_77 X dX8_feed_21 ?_
    refine v_bipush (v := 100) X dX8_feed_24 (by decide) ?_
    refine v_icmp_ne X 32 dX8_feed_26 (by decide) (fun c5 => ?_) (fun c5 => ?_)
    · replace h := (if_neg c5).symm.trans h
      refine v_aloadn X dX8_feed_32 rfl rfl ?_
      refine gf_X8_34 X dX8_feed_33 ?_
      refine v_aloadn X dX8_feed_36 rfl rfl ?_
      refine gf_X8_77 X dX8_feed_37 ?_
      refine v_iloadn X dX8_feed_40 rfl rfl ?_
      obtain ⟨j6, q7, h⟩ := bd1_some h
      obtain ⟨ej6, lj6⟩ := ix_spec q7
      refine asM X (by decide +kernel) j6 ej6 lj6 dX8_feed_41 ?_
      refine v_aloadn X dX8_feed_42 rfl rfl ?_
      refine v_dup X dX8_feed_43 rfl ?_
      refine gf_X8_77 X dX8_feed_44 ?_
      refine v_iconst (v := 1) X dX8_feed_47 (by decide) ?_
      refine v_iadd X dX8_feed_48 ?_
      refine pf_X8_77 X dX8_feed_49 ?_
      refine v_aloadn X dX8_feed_52 rfl rfl ?_
      refine gf_X8_77 X dX8_feed_53 ?_
      cases h
      exact v_iret X dX8_feed_56 rfl rfl
    · replace h := (if_pos c5).symm.trans h
      refine v_ldc X kc_X8_80 dX8_feed_29 ?_
      cases h
      exact v_iret X dX8_feed_31 rfl rfl
  · replace h := (if_pos c4).symm.trans h
    refine v_ldc X kc_X8_70 dX8_feed_17 ?_
    cases h
    exact v_iret X dX8_feed_19 rfl rfl
def F_X8_force (N : Nat) (x1 : Int32) (g : GS) : Option (Int32 × GS) := bd2 (F_X8_isThere N  (g3 g 10 0 0 (0 : Int32))) (fun r3 g2 => if r3 = 0 then some ((-1000002 : Int32), g2) else bd2 (F_X8_in N (x1.toInt64) (0 : Int64) (60 : Int64) g2) (fun r7 g6 => if r7 = 0 then some ((-1000001 : Int32), g6) else bd1 (ix (4 : Int32) 53) (fun j9 => bd2 (F_X8_forceOf N 5 ((g6 11 5 j9) + x1) g6) (fun r13 g12 => some (r13, g12)))))
set_option maxRecDepth 100000 in
set_option maxHeartbeats 4000000 in
theorem c_X8_force (l : Launch) (D : va_G) (ad : Ky → Nat) (cy : Nat → ClassId) (hI : Inj ad) (N : Nat) (x1 : Int32) (g : GS) (r : Int32) (gq : GS) (h : F_X8_force N x1 g = some (r, gq)) : CtI l D ad cy yX8_force cX8_force 2 (some .int) 1 [.ref (ad (8, 0, 0)), .int x1] g r gq := by
  refine CtI.of 0 hI (by decide +kernel) rfl (Nat.le_of_ble_eq_true rfl) (fun p e s m args below meth c X => ?_)
  unfold F_X8_force at h
  show Vy _ _ _ _ _ _ _ _ _ _ _ _ _ _ _ 0 [some (.ref (ad (8, 0, 0))), some (.int x1)] [] g
  refine v_aloadn X dX8_force_0 rfl rfl ?_
  refine v_iconst (v := 0) X dX8_force_1 (by decide) ?_
  refine pf_X8_50 X dX8_force_2 ?_
  refine v_aloadn X dX8_force_5 rfl rfl ?_
  obtain ⟨r3, g2, q1, h⟩ := bd2_some h
  refine v_callVI (As := []) (rest := []) X (c_X8_isThere l D ad cy X.2.2.2.2.2.2.2.2.1 N  (g3 g 10 0 0 (0 : Int32)) r3 g2  q1) mw_X8_isThere ml_X8_195 (by decide) (by decide +kernel) (by decide) rfl rfl rfl rfl (Nat.le_of_ble_eq_true rfl) dX8_force_6 ?_
  refine v_if_ne X 15 dX8_force_9 (by decide) (fun c4 => ?_) (fun c4 => ?_)
  · replace h := (if_neg c4).symm.trans h
    refine v_iloadn X dX8_force_15 rfl rfl ?_
    refine v_i2l X dX8_force_16 ?_
    refine v_lconst (v := 0) X dX8_force_17 (by decide) ?_
    refine v_ldc2 X kl_X8_225 dX8_force_18 ?_
    obtain ⟨r7, g6, q5, h⟩ := bd2_some h
    refine v_callSI (As := [.long (x1.toInt64), .long (0 : Int64), .long (60 : Int64)]) (rest := []) X (c_X8_in l D ad cy X.2.2.2.2.2.2.2.2.1 N (x1.toInt64) (0 : Int64) (60 : Int64) g2 r7 g6  q5) mw_X8_in ml_X8_60 (by decide) rfl rfl (Nat.le_of_ble_eq_true rfl) dX8_force_21 ?_
    refine v_if_eq X 45 dX8_force_24 (by decide) (fun c8 => ?_) (fun c8 => ?_)
    · replace h := (if_pos c8).symm.trans h
      refine v_ldc X kc_X8_70 dX8_force_45 ?_
      cases h
      exact v_iret X dX8_force_47 rfl rfl
    · replace h := (if_neg c8).symm.trans h
      refine v_aloadn X dX8_force_27 rfl rfl ?_
      refine gf_X8_19 X dX8_force_28 ?_
      refine v_aloadn X dX8_force_31 rfl rfl ?_
      refine gf_X8_19 X dX8_force_32 ?_
      refine v_iconst (v := 4) X dX8_force_35 (by decide) ?_
      obtain ⟨j9, q10, h⟩ := bd1_some h
      obtain ⟨ej9, lj9⟩ := ix_spec q10
      refine alM X (by decide +kernel) j9 ej9 lj9 dX8_force_36 ?_
      refine v_iloadn X dX8_force_37 rfl rfl ?_
      refine v_iadd X dX8_force_38 ?_
      obtain ⟨r13, g12, q11, h⟩ := bd2_some h
      refine v_callSI (As := [.ref (ad (9, 11, 5)), .int ((g6 11 5 j9) + x1)]) (rest := []) X (c_X8_forceOf l D ad cy X.2.2.2.2.2.2.2.2.1 N 5 ((g6 11 5 j9) + x1) g6 r13 g12 (by decide +kernel) q11) mw_X8_forceOf ml_X8_180 (by decide) rfl rfl (Nat.le_of_ble_eq_true rfl) dX8_force_39 ?_
      refine v_goto X 47 dX8_force_42 (by decide) ?_
      cases h
      exact v_iret X dX8_force_47 rfl rfl
  · replace h := (if_pos c4).symm.trans h
    refine v_ldc X kc_X8_198 dX8_force_12 ?_
    cases h
    exact v_iret X dX8_force_14 rfl rfl
def L_X8_gust_32 (N : Nat) (z1 : Int32) : Nat → Int32 → GS → Option ((Int32 × GS) ⊕ (Int32 × GS))
  | 0, _, _ => none
  | n + 1, y2, g => if (100 : Int32) ≤ y2 then some (.inr (y2, g)) else bd2 (F_X8_riseOf N 5 z1 y2 g) (fun r12 g11 => bd2 (F_X8_doesSnap N 5 z1 r12 g11) (fun r15 g14 => if r15 = 0 then L_X8_gust_32 N z1 n (y2 + 1) g14 else some (.inl (y2, g14))))
def F_X8_gust (N : Nat) (x1 : Int32) (g : GS) : Option (Int32 × GS) := bd2 (F_X8_isPaper N x1 (g3 g 10 0 0 (0 : Int32))) (fun r3 g2 => if r3 = 0 then some ((-1000001 : Int32), g2) else bd2 (F_X8_isUp N 5 x1 g2) (fun r7 g6 => if r7 = 0 then some ((-1000002 : Int32), g6) else bs2 (L_X8_gust_32 N x1 N (0 : Int32) g6) (fun r20 g21 => some (r20, g21)) (fun x17 g18 => some ((-1000000 : Int32), g18))))
set_option maxRecDepth 100000 in
set_option maxHeartbeats 4000000 in
theorem w_X8_gust_32 {p : Program} {l : Launch} {e : Env} {s : State} {m : MethodId} {args : Array Value} {below : List Frame} {meth : Method} {c : Code} {D : va_G} {ad : Ky → Nat} {cy : Nat → ClassId} {r : Int32} {gq : GS} {N : Nat} (X : Cx p (rmd 4) s m args meth c RX8 cX8_gust 3 (some .int) D ad cy) (z1 : Int32) : ∀ (n : Nat) (y2 : Int32) (g : GS) (res : _), L_X8_gust_32 N z1 n y2 g = some res → (∀ (r1 : Int32) (g1 : GS), res = .inl (r1, g1) → r1 = r ∧ g1 = gq) → (∀ (y2' : Int32) (g' : GS), res = .inr (y2', g') → Vy p l e (rmd 4) s m args below meth c 3 D ad cy (QI D ad cy below args s r gq) 66 [some (.ref (ad (8, 0, 0))), some (.int z1), some (.int y2')] [] g') → Vy p l e (rmd 4) s m args below meth c 3 D ad cy (QI D ad cy below args s r gq) 32 [some (.ref (ad (8, 0, 0))), some (.int z1), some (.int y2)] [] g := by
  intro n
  induction n with
  | zero => intro y2 g res h kr k; cases h
  | succ n ih =>
    intro y2 g res h kr k
    rw [L_X8_gust_32] at h
    refine v_iloadn X dX8_gust_32 rfl rfl ?_
    refine v_bipush (v := 100) X dX8_gust_33 (by decide) ?_
    refine v_icmp_ge X 66 dX8_gust_35 (by decide) (fun c9 => ?_) (fun c9 => ?_)
    · replace h := (if_pos c9).symm.trans h
      cases h
      exact k _ _ rfl
    · replace h := (if_neg c9).symm.trans h
      refine v_aloadn X dX8_gust_38 rfl rfl ?_
      refine gf_X8_19 X dX8_gust_39 ?_
      refine v_iloadn X dX8_gust_42 rfl rfl ?_
      refine v_aloadn X dX8_gust_43 rfl rfl ?_
      refine gf_X8_19 X dX8_gust_44 ?_
      refine v_iloadn X dX8_gust_47 rfl rfl ?_
      refine v_iloadn X dX8_gust_48 rfl rfl ?_
      obtain ⟨r12, g11, q10, h⟩ := bd2_some h
      refine v_callSI (As := [.ref (ad (9, 11, 5)), .int z1, .int y2]) (rest := [.int z1, .ref (ad (9, 11, 5))]) X (c_X8_riseOf l D ad cy X.2.2.2.2.2.2.2.2.1 N 5 z1 y2 g r12 g11 (by decide +kernel) q10) mw_X8_riseOf ml_X8_174 (by decide) rfl rfl (Nat.le_of_ble_eq_true rfl) dX8_gust_49 ?_
      obtain ⟨r15, g14, q13, h⟩ := bd2_some h
      refine v_callSI (As := [.ref (ad (9, 11, 5)), .int z1, .int r12]) (rest := []) X (c_X8_doesSnap l D ad cy X.2.2.2.2.2.2.2.2.1 N 5 z1 r12 g11 r15 g14 (by decide +kernel) q13) mw_X8_doesSnap ml_X8_166 (by decide) rfl rfl (Nat.le_of_ble_eq_true rfl) dX8_gust_52 ?_
      refine v_if_eq X 60 dX8_gust_55 (by decide) (fun c16 => ?_) (fun c16 => ?_)
      · replace h := (if_pos c16).symm.trans h
        refine v_iinc (v := (y2 + 1)) (lc' := [some (.ref (ad (8, 0, 0))), some (.int z1), some (.int (y2 + 1))]) X dX8_gust_60 rfl rfl (by decide) rfl rfl ?_
        refine v_goto X 32 dX8_gust_63 (by decide) ?_
        exact ih (y2 + 1) g14 _ h kr k
      · replace h := (if_neg c16).symm.trans h
        refine v_iloadn X dX8_gust_58 rfl rfl ?_
        cases h
        obtain ⟨er, eg⟩ := kr _ _ rfl
        exact v_iret X dX8_gust_59 er eg
set_option maxRecDepth 100000 in
set_option maxHeartbeats 4000000 in
theorem c_X8_gust (l : Launch) (D : va_G) (ad : Ky → Nat) (cy : Nat → ClassId) (hI : Inj ad) (N : Nat) (x1 : Int32) (g : GS) (r : Int32) (gq : GS) (h : F_X8_gust N x1 g = some (r, gq)) : CtI l D ad cy yX8_gust cX8_gust 3 (some .int) 4 [.ref (ad (8, 0, 0)), .int x1] g r gq := by
  refine CtI.of 1 hI (by decide +kernel) rfl (Nat.le_of_ble_eq_true rfl) (fun p e s m args below meth c X => ?_)
  unfold F_X8_gust at h
  show Vy _ _ _ _ _ _ _ _ _ _ _ _ _ _ _ 0 [some (.ref (ad (8, 0, 0))), some (.int x1), none] [] g
  refine v_aloadn X dX8_gust_0 rfl rfl ?_
  refine v_iconst (v := 0) X dX8_gust_1 (by decide) ?_
  refine pf_X8_50 X dX8_gust_2 ?_
  refine v_aloadn X dX8_gust_5 rfl rfl ?_
  refine v_iloadn X dX8_gust_6 rfl rfl ?_
  obtain ⟨r3, g2, q1, h⟩ := bd2_some h
  refine v_callVI (As := [.int x1]) (rest := []) X (c_X8_isPaper l D ad cy X.2.2.2.2.2.2.2.2.1 N x1 (g3 g 10 0 0 (0 : Int32)) r3 g2  q1) mw_X8_isPaper ml_X8_208 (by decide) (by decide +kernel) (by decide) rfl rfl rfl rfl (Nat.le_of_ble_eq_true rfl) dX8_gust_7 ?_
  refine v_if_ne X 16 dX8_gust_10 (by decide) (fun c4 => ?_) (fun c4 => ?_)
  · replace h := (if_neg c4).symm.trans h
    refine v_aloadn X dX8_gust_16 rfl rfl ?_
    refine gf_X8_19 X dX8_gust_17 ?_
    refine v_iloadn X dX8_gust_20 rfl rfl ?_
    obtain ⟨r7, g6, q5, h⟩ := bd2_some h
    refine v_callSI (As := [.ref (ad (9, 11, 5)), .int x1]) (rest := []) X (c_X8_isUp l D ad cy X.2.2.2.2.2.2.2.2.1 N 5 x1 g2 r7 g6 (by decide +kernel) q5) mw_X8_isUp ml_X8_159 (by decide) rfl rfl (Nat.le_of_ble_eq_true rfl) dX8_gust_21 ?_
    refine v_if_ne X 30 dX8_gust_24 (by decide) (fun c8 => ?_) (fun c8 => ?_)
    · replace h := (if_neg c8).symm.trans h
      refine v_iconst (v := 0) X dX8_gust_30 (by decide) ?_
      refine v_istoren (lc' := [some (.ref (ad (8, 0, 0))), some (.int x1), some (.int (0 : Int32))]) X dX8_gust_31 rfl (by decide) rfl rfl ?_
      obtain ⟨z22, q19, h⟩ := bs2_some h
      refine w_X8_gust_32 X x1 N (0 : Int32) g6 _ q19 ?_ ?_
      · intro r20 g21 e1
        subst e1
        dsimp only at h
        cases h
        exact ⟨rfl, rfl⟩
      · intro x17 g18 e1
        subst e1
        dsimp only at h
        refine v_ldc X kc_X8_93 dX8_gust_66 ?_
        cases h
        exact v_iret X dX8_gust_68 rfl rfl
    · replace h := (if_pos c8).symm.trans h
      refine v_ldc X kc_X8_198 dX8_gust_27 ?_
      cases h
      exact v_iret X dX8_gust_29 rfl rfl
  · replace h := (if_pos c4).symm.trans h
    refine v_ldc X kc_X8_70 dX8_gust_13 ?_
    cases h
    exact v_iret X dX8_gust_15 rfl rfl
def F_X8_has (N : Nat) (x0 : Int32) (x1 : Int32) (g : GS) : Option (Int32 × GS) := if ((x0 >>> (x1 &&& 31)) &&& (1 : Int32)) = (1 : Int32) then some ((1 : Int32), g) else some ((0 : Int32), g)
set_option maxRecDepth 100000 in
set_option maxHeartbeats 4000000 in
theorem c_X8_has (l : Launch) (D : va_G) (ad : Ky → Nat) (cy : Nat → ClassId) (hI : Inj ad) (N : Nat) (x0 : Int32) (x1 : Int32) (g : GS) (r : Int32) (gq : GS) (h : F_X8_has N x0 x1 g = some (r, gq)) : CtI l D ad cy yX8_has cX8_has 2 (some .boolean) 0 [.int x0, .int x1] g r gq := by
  refine CtI.of 0 hI (by decide +kernel) rfl (Nat.le_of_ble_eq_true rfl) (fun p e s m args below meth c X => ?_)
  unfold F_X8_has at h
  show Vy _ _ _ _ _ _ _ _ _ _ _ _ _ _ _ 0 [some (.int x0), some (.int x1)] [] g
  refine v_iloadn X dX8_has_0 rfl rfl ?_
  refine v_iloadn X dX8_has_1 rfl rfl ?_
  refine v_ishr X dX8_has_2 ?_
  refine v_iconst (v := 1) X dX8_has_3 (by decide) ?_
  refine v_iand X dX8_has_4 ?_
  refine v_iconst (v := 1) X dX8_has_5 (by decide) ?_
  refine v_icmp_ne X 13 dX8_has_6 (by decide) (fun c1 => ?_) (fun c1 => ?_)
  · replace h := (if_neg c1).symm.trans h
    refine v_iconst (v := 0) X dX8_has_13 (by decide) ?_
    cases h
    exact v_zret X dX8_has_14 rfl rfl rfl
  · replace h := (if_pos c1).symm.trans h
    refine v_iconst (v := 1) X dX8_has_9 (by decide) ?_
    refine v_goto X 14 dX8_has_10 (by decide) ?_
    cases h
    exact v_zret X dX8_has_14 rfl rfl rfl
def L_X8_hours_49 (N : Nat) (z1 : Int32) : Nat → Int32 → GS → Option (Int32 × GS)
  | 0, _, _ => none
  | n + 1, y2, g => if z1 ≤ y2 then some (y2, g) else bd1 (F_X8_keep N  g) (fun g14 => bd1 (F_X8_hour N 5 g14) (fun g16 => L_X8_hours_49 N z1 n (y2 + 1) g16))
def F_X8_hours (N : Nat) (x1 : Int32) (g : GS) : Option (Int32 × GS) := bd2 (F_X8_isThere N  (g3 g 10 0 0 (0 : Int32))) (fun r3 g2 => if r3 = 0 then some ((-1000002 : Int32), g2) else bd2 (F_X8_in N (x1.toInt64) (1 : Int64) (24 : Int64) g2) (fun r7 g6 => if r7 = 0 then some ((-1000001 : Int32), g6) else bd1 (ix (4 : Int32) 53) (fun j9 => if ((g6 11 5 j9) + x1) ≤ (999 : Int32) then bd2 (L_X8_hours_49 N x1 N (0 : Int32) g6) (fun x17 g18 => bd2 (F_X8_policies N 5 g18) (fun r22 g21 => some (r22, g21))) else some ((-1000003 : Int32), g6))))
set_option maxRecDepth 100000 in
set_option maxHeartbeats 4000000 in
theorem w_X8_hours_49 {p : Program} {l : Launch} {e : Env} {s : State} {m : MethodId} {args : Array Value} {below : List Frame} {meth : Method} {c : Code} {D : va_G} {ad : Ky → Nat} {cy : Nat → ClassId} {r : Int32} {gq : GS} {N : Nat} (X : Cx p (rmd 6) s m args meth c RX8 cX8_hours 3 (some .int) D ad cy) (z1 : Int32) : ∀ (n : Nat) (y2 : Int32) (g : GS) (y2' : Int32) (g' : GS), L_X8_hours_49 N z1 n y2 g = some (y2', g') → Vy p l e (rmd 6) s m args below meth c 3 D ad cy (QI D ad cy below args s r gq) 72 [some (.ref (ad (8, 0, 0))), some (.int z1), some (.int y2')] [] g' → Vy p l e (rmd 6) s m args below meth c 3 D ad cy (QI D ad cy below args s r gq) 49 [some (.ref (ad (8, 0, 0))), some (.int z1), some (.int y2)] [] g := by
  intro n
  induction n with
  | zero => intro y2 g y2' g' h k; cases h
  | succ n ih =>
    intro y2 g y2' g' h k
    rw [L_X8_hours_49] at h
    refine v_iloadn X dX8_hours_49 rfl rfl ?_
    refine v_iloadn X dX8_hours_50 rfl rfl ?_
    refine v_icmp_ge X 72 dX8_hours_51 (by decide) (fun c12 => ?_) (fun c12 => ?_)
    · replace h := (if_pos c12).symm.trans h
      cases h
      exact k
    · replace h := (if_neg c12).symm.trans h
      refine v_aloadn X dX8_hours_54 rfl rfl ?_
      obtain ⟨g14, q13, h⟩ := bd1_some h
      refine v_callVV (As := []) (rest := []) X (c_X8_keep l D ad cy X.2.2.2.2.2.2.2.2.1 N  g g14  q13) mw_X8_keep ml_X8_201 (by decide) (by decide +kernel) (by decide) rfl rfl rfl rfl (Nat.le_of_ble_eq_true rfl) dX8_hours_55 ?_
      refine v_aloadn X dX8_hours_58 rfl rfl ?_
      refine v_aloadn X dX8_hours_59 rfl rfl ?_
      refine gf_X8_19 X dX8_hours_60 ?_
      obtain ⟨g16, q15, h⟩ := bd1_some h
      refine v_callVV (As := [.ref (ad (9, 11, 5))]) (rest := []) X (c_X8_hour l D ad cy X.2.2.2.2.2.2.2.2.1 N 5 g14 g16 (by decide +kernel) q15) mw_X8_hour ml_X8_188 (by decide) (by decide +kernel) (by decide) rfl rfl rfl rfl (Nat.le_of_ble_eq_true rfl) dX8_hours_63 ?_
      refine v_iinc (v := (y2 + 1)) (lc' := [some (.ref (ad (8, 0, 0))), some (.int z1), some (.int (y2 + 1))]) X dX8_hours_66 rfl rfl (by decide) rfl rfl ?_
      refine v_goto X 49 dX8_hours_69 (by decide) ?_
      exact ih (y2 + 1) g16 _ _ h k
set_option maxRecDepth 100000 in
set_option maxHeartbeats 4000000 in
theorem c_X8_hours (l : Launch) (D : va_G) (ad : Ky → Nat) (cy : Nat → ClassId) (hI : Inj ad) (N : Nat) (x1 : Int32) (g : GS) (r : Int32) (gq : GS) (h : F_X8_hours N x1 g = some (r, gq)) : CtI l D ad cy yX8_hours cX8_hours 3 (some .int) 6 [.ref (ad (8, 0, 0)), .int x1] g r gq := by
  refine CtI.of 1 hI (by decide +kernel) rfl (Nat.le_of_ble_eq_true rfl) (fun p e s m args below meth c X => ?_)
  unfold F_X8_hours at h
  show Vy _ _ _ _ _ _ _ _ _ _ _ _ _ _ _ 0 [some (.ref (ad (8, 0, 0))), some (.int x1), none] [] g
  refine v_aloadn X dX8_hours_0 rfl rfl ?_
  refine v_iconst (v := 0) X dX8_hours_1 (by decide) ?_
  refine pf_X8_50 X dX8_hours_2 ?_
  refine v_aloadn X dX8_hours_5 rfl rfl ?_
  obtain ⟨r3, g2, q1, h⟩ := bd2_some h
  refine v_callVI (As := []) (rest := []) X (c_X8_isThere l D ad cy X.2.2.2.2.2.2.2.2.1 N  (g3 g 10 0 0 (0 : Int32)) r3 g2  q1) mw_X8_isThere ml_X8_195 (by decide) (by decide +kernel) (by decide) rfl rfl rfl rfl (Nat.le_of_ble_eq_true rfl) dX8_hours_6 ?_
  refine v_if_ne X 15 dX8_hours_9 (by decide) (fun c4 => ?_) (fun c4 => ?_)
  · replace h := (if_neg c4).symm.trans h
    refine v_iloadn X dX8_hours_15 rfl rfl ?_
    refine v_i2l X dX8_hours_16 ?_
    refine v_lconst (v := 1) X dX8_hours_17 (by decide) ?_
    refine v_ldc2 X kl_X8_199 dX8_hours_18 ?_
    obtain ⟨r7, g6, q5, h⟩ := bd2_some h
    refine v_callSI (As := [.long (x1.toInt64), .long (1 : Int64), .long (24 : Int64)]) (rest := []) X (c_X8_in l D ad cy X.2.2.2.2.2.2.2.2.1 N (x1.toInt64) (1 : Int64) (24 : Int64) g2 r7 g6  q5) mw_X8_in ml_X8_60 (by decide) rfl rfl (Nat.le_of_ble_eq_true rfl) dX8_hours_21 ?_
    refine v_if_ne X 30 dX8_hours_24 (by decide) (fun c8 => ?_) (fun c8 => ?_)
    · replace h := (if_neg c8).symm.trans h
      refine v_aloadn X dX8_hours_30 rfl rfl ?_
      refine gf_X8_19 X dX8_hours_31 ?_
      refine v_iconst (v := 4) X dX8_hours_34 (by decide) ?_
      obtain ⟨j9, q10, h⟩ := bd1_some h
      obtain ⟨ej9, lj9⟩ := ix_spec q10
      refine alM X (by decide +kernel) j9 ej9 lj9 dX8_hours_35 ?_
      refine v_iloadn X dX8_hours_36 rfl rfl ?_
      refine v_iadd X dX8_hours_37 ?_
      refine v_sipush (v := 999) X dX8_hours_38 (by decide) ?_
      refine v_icmp_le X 47 dX8_hours_41 (by decide) (fun c11 => ?_) (fun c11 => ?_)
      · replace h := (if_pos c11).symm.trans h
        refine v_iconst (v := 0) X dX8_hours_47 (by decide) ?_
        refine v_istoren (lc' := [some (.ref (ad (8, 0, 0))), some (.int x1), some (.int (0 : Int32))]) X dX8_hours_48 rfl (by decide) rfl rfl ?_
        obtain ⟨x17, g18, q19, h⟩ := bd2_some h
        refine w_X8_hours_49 X x1 N (0 : Int32) g6 x17 g18 q19 ?_
        refine v_aloadn X dX8_hours_72 rfl rfl ?_
        refine gf_X8_19 X dX8_hours_73 ?_
        obtain ⟨r22, g21, q20, h⟩ := bd2_some h
        refine v_callSI (As := [.ref (ad (9, 11, 5))]) (rest := []) X (c_X8_policies l D ad cy X.2.2.2.2.2.2.2.2.1 N 5 g18 r22 g21 (by decide +kernel) q20) mw_X8_policies ml_X8_204 (by decide) rfl rfl (Nat.le_of_ble_eq_true rfl) dX8_hours_76 ?_
        cases h
        exact v_iret X dX8_hours_79 rfl rfl
      · replace h := (if_neg c11).symm.trans h
        refine v_ldc X kc_X8_80 dX8_hours_44 ?_
        cases h
        exact v_iret X dX8_hours_46 rfl rfl
    · replace h := (if_pos c8).symm.trans h
      refine v_ldc X kc_X8_70 dX8_hours_27 ?_
      cases h
      exact v_iret X dX8_hours_29 rfl rfl
  · replace h := (if_pos c4).symm.trans h
    refine v_ldc X kc_X8_198 dX8_hours_12 ?_
    cases h
    exact v_iret X dX8_hours_14 rfl rfl
def L_X8_image_30 (N : Nat) (z1 : Int32) : Nat → Int32 → GS → Option (Int32 × GS)
  | 0, _, _ => none
  | n + 1, y2, g => if (53 : Int32) ≤ y2 then some (y2, g) else bd1 (ix y2 53) (fun j10 => bd1 (ix (((53 : Int32) * z1) + y2) 106) (fun j12 => L_X8_image_30 N z1 n (y2 + 1) (g3 g 11 22 j12 (g 11 5 j10))))
def F_X8_image (N : Nat) (x1 : Int32) (g : GS) : Option (Int32 × GS) := bd2 (F_X8_in N (x1.toInt64) (0 : Int64) (1 : Int64) (g3 g 10 0 0 (0 : Int32))) (fun r3 g2 => if r3 = 0 then some ((-1000001 : Int32), g2) else bd2 (F_X8_isThere N  g2) (fun r7 g6 => if r7 = 0 then some ((-1000002 : Int32), g6) else bd2 (L_X8_image_30 N x1 N (0 : Int32) g6) (fun x14 g15 => bd1 (ix x1 2) (fun j17 => some ((1 : Int32), (g3 g15 11 21 j17 (1 : Int32)))))))
set_option maxRecDepth 100000 in
set_option maxHeartbeats 4000000 in
theorem w_X8_image_30 {p : Program} {l : Launch} {e : Env} {s : State} {m : MethodId} {args : Array Value} {below : List Frame} {meth : Method} {c : Code} {D : va_G} {ad : Ky → Nat} {cy : Nat → ClassId} {r : Int32} {gq : GS} {N : Nat} (X : Cx p (rmd 1) s m args meth c RX8 cX8_image 3 (some .int) D ad cy) (z1 : Int32) : ∀ (n : Nat) (y2 : Int32) (g : GS) (y2' : Int32) (g' : GS), L_X8_image_30 N z1 n y2 g = some (y2', g') → Vy p l e (rmd 1) s m args below meth c 3 D ad cy (QI D ad cy below args s r gq) 59 [some (.ref (ad (8, 0, 0))), some (.int z1), some (.int y2')] [] g' → Vy p l e (rmd 1) s m args below meth c 3 D ad cy (QI D ad cy below args s r gq) 30 [some (.ref (ad (8, 0, 0))), some (.int z1), some (.int y2)] [] g := by
  intro n
  induction n with
  | zero => intro y2 g y2' g' h k; cases h
  | succ n ih =>
    intro y2 g y2' g' h k
    rw [L_X8_image_30] at h
    refine v_iloadn X dX8_image_30 rfl rfl ?_
    refine v_bipush (v := 53) X dX8_image_31 (by decide) ?_
    refine v_icmp_ge X 59 dX8_image_33 (by decide) (fun c9 => ?_) (fun c9 => ?_)
    · replace h := (if_pos c9).symm.trans h
      cases h
      exact k
    · replace h := (if_neg c9).symm.trans h
      refine v_aloadn X dX8_image_36 rfl rfl ?_
      refine gf_X8_44 X dX8_image_37 ?_
      refine v_bipush (v := 53) X dX8_image_40 (by decide) ?_
      refine v_iloadn X dX8_image_42 rfl rfl ?_
      refine v_imul X dX8_image_43 ?_
      refine v_iloadn X dX8_image_44 rfl rfl ?_
      refine v_iadd X dX8_image_45 ?_
      refine v_aloadn X dX8_image_46 rfl rfl ?_
      refine gf_X8_19 X dX8_image_47 ?_
      refine v_iloadn X dX8_image_50 rfl rfl ?_
      obtain ⟨j10, q11, h⟩ := bd1_some h
      obtain ⟨ej10, lj10⟩ := ix_spec q11
      refine alM X (by decide +kernel) j10 ej10 lj10 dX8_image_51 ?_
      obtain ⟨j12, q13, h⟩ := bd1_some h
      obtain ⟨ej12, lj12⟩ := ix_spec q13
      refine asM X (by decide +kernel) j12 ej12 lj12 dX8_image_52 ?_
      refine v_iinc (v := (y2 + 1)) (lc' := [some (.ref (ad (8, 0, 0))), some (.int z1), some (.int (y2 + 1))]) X dX8_image_53 rfl rfl (by decide) rfl rfl ?_
      refine v_goto X 30 dX8_image_56 (by decide) ?_
      exact ih (y2 + 1) (g3 g 11 22 j12 (g 11 5 j10)) _ _ h k
set_option maxRecDepth 100000 in
set_option maxHeartbeats 4000000 in
theorem c_X8_image (l : Launch) (D : va_G) (ad : Ky → Nat) (cy : Nat → ClassId) (hI : Inj ad) (N : Nat) (x1 : Int32) (g : GS) (r : Int32) (gq : GS) (h : F_X8_image N x1 g = some (r, gq)) : CtI l D ad cy yX8_image cX8_image 3 (some .int) 1 [.ref (ad (8, 0, 0)), .int x1] g r gq := by
  refine CtI.of 1 hI (by decide +kernel) rfl (Nat.le_of_ble_eq_true rfl) (fun p e s m args below meth c X => ?_)
  unfold F_X8_image at h
  show Vy _ _ _ _ _ _ _ _ _ _ _ _ _ _ _ 0 [some (.ref (ad (8, 0, 0))), some (.int x1), none] [] g
  refine v_aloadn X dX8_image_0 rfl rfl ?_
  refine v_iconst (v := 0) X dX8_image_1 (by decide) ?_
  refine pf_X8_50 X dX8_image_2 ?_
  refine v_iloadn X dX8_image_5 rfl rfl ?_
  refine v_i2l X dX8_image_6 ?_
  refine v_lconst (v := 0) X dX8_image_7 (by decide) ?_
  refine v_lconst (v := 1) X dX8_image_8 (by decide) ?_
  obtain ⟨r3, g2, q1, h⟩ := bd2_some h
  refine v_callSI (As := [.long (x1.toInt64), .long (0 : Int64), .long (1 : Int64)]) (rest := []) X (c_X8_in l D ad cy X.2.2.2.2.2.2.2.2.1 N (x1.toInt64) (0 : Int64) (1 : Int64) (g3 g 10 0 0 (0 : Int32)) r3 g2  q1) mw_X8_in ml_X8_60 (by decide) rfl rfl (Nat.le_of_ble_eq_true rfl) dX8_image_9 ?_
  refine v_if_ne X 18 dX8_image_12 (by decide) (fun c4 => ?_) (fun c4 => ?_)
  · replace h := (if_neg c4).symm.trans h
    refine v_aloadn X dX8_image_18 rfl rfl ?_
    obtain ⟨r7, g6, q5, h⟩ := bd2_some h
    refine v_callVI (As := []) (rest := []) X (c_X8_isThere l D ad cy X.2.2.2.2.2.2.2.2.1 N  g2 r7 g6  q5) mw_X8_isThere ml_X8_195 (by decide) (by decide +kernel) (by decide) rfl rfl rfl rfl (Nat.le_of_ble_eq_true rfl) dX8_image_19 ?_
    refine v_if_ne X 28 dX8_image_22 (by decide) (fun c8 => ?_) (fun c8 => ?_)
    · replace h := (if_neg c8).symm.trans h
      refine v_iconst (v := 0) X dX8_image_28 (by decide) ?_
      refine v_istoren (lc' := [some (.ref (ad (8, 0, 0))), some (.int x1), some (.int (0 : Int32))]) X dX8_image_29 rfl (by decide) rfl rfl ?_
      obtain ⟨x14, g15, q16, h⟩ := bd2_some h
      refine w_X8_image_30 X x1 N (0 : Int32) g6 x14 g15 q16 ?_
      refine v_aloadn X dX8_image_59 rfl rfl ?_
      refine gf_X8_40 X dX8_image_60 ?_
      refine v_iloadn X dX8_image_63 rfl rfl ?_
      refine v_iconst (v := 1) X dX8_image_64 (by decide) ?_
      obtain ⟨j17, q18, h⟩ := bd1_some h
      obtain ⟨ej17, lj17⟩ := ix_spec q18
      refine asZ X j17 ej17 lj17 (by decide) dX8_image_65 ?_
      refine v_iconst (v := 1) X dX8_image_66 (by decide) ?_
      cases h
      exact v_iret X dX8_image_67 rfl rfl
    · replace h := (if_pos c8).symm.trans h
      refine v_ldc X kc_X8_198 dX8_image_25 ?_
      cases h
      exact v_iret X dX8_image_27 rfl rfl
  · replace h := (if_pos c4).symm.trans h
    refine v_ldc X kc_X8_70 dX8_image_15 ?_
    cases h
    exact v_iret X dX8_image_17 rfl rfl
def F_X8_isLetter (N : Nat) (x1 : Int32) (g : GS) : Option (Int32 × GS) := if (g 10 0 17) = 0 then if (g 10 0 15) = (2 : Int32) then if (g 10 0 16) = x1 then some ((1 : Int32), g) else some ((0 : Int32), g) else some ((0 : Int32), g) else some ((0 : Int32), g)
set_option maxRecDepth 100000 in
set_option maxHeartbeats 4000000 in
theorem c_X8_isLetter (l : Launch) (D : va_G) (ad : Ky → Nat) (cy : Nat → ClassId) (hI : Inj ad) (N : Nat) (x1 : Int32) (g : GS) (r : Int32) (gq : GS) (h : F_X8_isLetter N x1 g = some (r, gq)) : CtI l D ad cy yX8_isLetter cX8_isLetter 2 (some .boolean) 0 [.ref (ad (8, 0, 0)), .int x1] g r gq := by
  refine CtI.of 0 hI (by decide +kernel) rfl (Nat.le_of_ble_eq_true rfl) (fun p e s m args below meth c X => ?_)
  unfold F_X8_isLetter at h
  show Vy _ _ _ _ _ _ _ _ _ _ _ _ _ _ _ 0 [some (.ref (ad (8, 0, 0))), some (.int x1)] [] g
  refine v_aloadn X dX8_isLetter_0 rfl rfl ?_
  refine gf_X8_81 X dX8_isLetter_1 ?_
  refine v_if_ne X 27 dX8_isLetter_4 (by decide) (fun c1 => ?_) (fun c1 => ?_)
  · replace h := (if_neg c1).symm.trans h
    refine v_iconst (v := 0) X dX8_isLetter_27 (by decide) ?_
    cases h
    exact v_zret X dX8_isLetter_28 rfl rfl rfl
  · replace h := (if_pos c1).symm.trans h
    refine v_aloadn X dX8_isLetter_7 rfl rfl ?_
    refine gf_X8_105 X dX8_isLetter_8 ?_
    refine v_iconst (v := 2) X dX8_isLetter_11 (by decide) ?_
    refine v_icmp_ne X 27 dX8_isLetter_12 (by decide) (fun c2 => ?_) (fun c2 => ?_)
    · replace h := (if_neg c2).symm.trans h
      refine v_iconst (v := 0) X dX8_isLetter_27 (by decide) ?_
      cases h
      exact v_zret X dX8_isLetter_28 rfl rfl rfl
    · replace h := (if_pos c2).symm.trans h
      refine v_aloadn X dX8_isLetter_15 rfl rfl ?_
      refine gf_X8_94 X dX8_isLetter_16 ?_
      refine v_iloadn X dX8_isLetter_19 rfl rfl ?_
      refine v_icmp_ne X 27 dX8_isLetter_20 (by decide) (fun c3 => ?_) (fun c3 => ?_)
      · replace h := (if_neg c3).symm.trans h
        refine v_iconst (v := 0) X dX8_isLetter_27 (by decide) ?_
        cases h
        exact v_zret X dX8_isLetter_28 rfl rfl rfl
      · replace h := (if_pos c3).symm.trans h
        refine v_iconst (v := 1) X dX8_isLetter_23 (by decide) ?_
        refine v_goto X 28 dX8_isLetter_24 (by decide) ?_
        cases h
        exact v_zret X dX8_isLetter_28 rfl rfl rfl
def F_X8_isMany (N : Nat) (x0 : Int32) (x1 : Int32) (g : GS) : Option (Int32 × GS) := bd2 (F_X8_isRow N x0 g) (fun r3 g2 => if r3 = 0 then some ((0 : Int32), g2) else bd2 (F_X8_in N (x1.toInt64) (1 : Int64) (12 : Int64) g2) (fun r7 g6 => if r7 = 0 then some ((0 : Int32), g6) else some ((1 : Int32), g6)))
set_option maxRecDepth 100000 in
set_option maxHeartbeats 4000000 in
theorem c_X8_isMany (l : Launch) (D : va_G) (ad : Ky → Nat) (cy : Nat → ClassId) (hI : Inj ad) (N : Nat) (x0 : Int32) (x1 : Int32) (g : GS) (r : Int32) (gq : GS) (h : F_X8_isMany N x0 x1 g = some (r, gq)) : CtI l D ad cy yX8_isMany cX8_isMany 2 (some .boolean) 2 [.int x0, .int x1] g r gq := by
  refine CtI.of 0 hI (by decide +kernel) rfl (Nat.le_of_ble_eq_true rfl) (fun p e s m args below meth c X => ?_)
  unfold F_X8_isMany at h
  show Vy _ _ _ _ _ _ _ _ _ _ _ _ _ _ _ 0 [some (.int x0), some (.int x1)] [] g
  refine v_iloadn X dX8_isMany_0 rfl rfl ?_
  obtain ⟨r3, g2, q1, h⟩ := bd2_some h
  refine v_callSI (As := [.int x0]) (rest := []) X (c_X8_isRow l D ad cy X.2.2.2.2.2.2.2.2.1 N x0 g r3 g2  q1) mw_X8_isRow ml_X8_64 (by decide) rfl rfl (Nat.le_of_ble_eq_true rfl) dX8_isMany_1 ?_
  refine v_if_eq X 23 dX8_isMany_4 (by decide) (fun c4 => ?_) (fun c4 => ?_)
  · replace h := (if_pos c4).symm.trans h
    refine v_iconst (v := 0) X dX8_isMany_23 (by decide) ?_
    cases h
    exact v_zret X dX8_isMany_24 rfl rfl rfl
  · replace h := (if_neg c4).symm.trans h
    refine v_iloadn X dX8_isMany_7 rfl rfl ?_
    refine v_i2l X dX8_isMany_8 ?_
    refine v_lconst (v := 1) X dX8_isMany_9 (by decide) ?_
    refine v_ldc2 X kl_X8_249 dX8_isMany_10 ?_
    obtain ⟨r7, g6, q5, h⟩ := bd2_some h
    refine v_callSI (As := [.long (x1.toInt64), .long (1 : Int64), .long (12 : Int64)]) (rest := []) X (c_X8_in l D ad cy X.2.2.2.2.2.2.2.2.1 N (x1.toInt64) (1 : Int64) (12 : Int64) g2 r7 g6  q5) mw_X8_in ml_X8_60 (by decide) rfl rfl (Nat.le_of_ble_eq_true rfl) dX8_isMany_13 ?_
    refine v_if_eq X 23 dX8_isMany_16 (by decide) (fun c8 => ?_) (fun c8 => ?_)
    · replace h := (if_pos c8).symm.trans h
      refine v_iconst (v := 0) X dX8_isMany_23 (by decide) ?_
      cases h
      exact v_zret X dX8_isMany_24 rfl rfl rfl
    · replace h := (if_neg c8).symm.trans h
      refine v_iconst (v := 1) X dX8_isMany_19 (by decide) ?_
      refine v_goto X 24 dX8_isMany_20 (by decide) ?_
      cases h
      exact v_zret X dX8_isMany_24 rfl rfl rfl
def L_X8_isSo_6 (N : Nat) (z1 : Int32) (z2 : Int32) (z3 : Int32) : Nat → Int32 → Int32 → GS → Option (Int32 × Int32 × GS)
  | 0, _, _, _ => none
  | n + 1, y4, y5, g => if z3 ≤ y5 then some (y4, y5, g) else bd1 (F_X8_hour N 7 g) (fun g3 => if y4 = 0 then L_X8_isSo_6 N z1 z2 z3 n (0 : Int32) (y5 + 1) g3 else bd2 (F_X8_of N 7 z1 (4 : Int32) g3) (fun r7 g6 => bd1 (ix (z2 + y5) 320) (fun j8 => if r7 = (g6 11 4 j8) then L_X8_isSo_6 N z1 z2 z3 n (1 : Int32) (y5 + 1) g6 else L_X8_isSo_6 N z1 z2 z3 n (0 : Int32) (y5 + 1) g6)))
def F_X8_isSo (N : Nat) (x1 : Int32) (x2 : Int32) (x3 : Int32) (g : GS) : Option (Int32 × GS) := bd3 (L_X8_isSo_6 N x1 x2 x3 N (1 : Int32) (0 : Int32) g) (fun x11 x12 g13 => if x11 = 0 ∨ x11 = 1 then some (x11, g13) else none)
set_option maxRecDepth 100000 in
set_option maxHeartbeats 4000000 in
theorem w_X8_isSo_6 {p : Program} {l : Launch} {e : Env} {s : State} {m : MethodId} {args : Array Value} {below : List Frame} {meth : Method} {c : Code} {D : va_G} {ad : Ky → Nat} {cy : Nat → ClassId} {r : Int32} {gq : GS} {N : Nat} (X : Cx p (rmd 6) s m args meth c RX8 cX8_isSo 6 (some .boolean) D ad cy) (z1 : Int32) (z2 : Int32) (z3 : Int32) : ∀ (n : Nat) (y4 : Int32) (y5 : Int32) (g : GS) (y4' : Int32) (y5' : Int32) (g' : GS), L_X8_isSo_6 N z1 z2 z3 n y4 y5 g = some (y4', y5', g') → Vy p l e (rmd 6) s m args below meth c 6 D ad cy (QI D ad cy below args s r gq) 59 [some (.ref (ad (8, 0, 0))), some (.int z1), some (.int z2), some (.int z3), some (.int y4'), some (.int y5')] [] g' → Vy p l e (rmd 6) s m args below meth c 6 D ad cy (QI D ad cy below args s r gq) 6 [some (.ref (ad (8, 0, 0))), some (.int z1), some (.int z2), some (.int z3), some (.int y4), some (.int y5)] [] g := by
  intro n
  induction n with
  | zero => intro y4 y5 g y4' y5' g' h k; cases h
  | succ n ih =>
    intro y4 y5 g y4' y5' g' h k
    rw [L_X8_isSo_6] at h
    refine v_iload X dX8_isSo_6 rfl ?_
    refine v_iloadn X dX8_isSo_8 rfl rfl ?_
    refine v_icmp_ge X 59 dX8_isSo_9 (by decide) (fun c1 => ?_) (fun c1 => ?_)
    · replace h := (if_pos c1).symm.trans h
      cases h
      exact k
    · replace h := (if_neg c1).symm.trans h
      refine v_aloadn X dX8_isSo_12 rfl rfl ?_
      refine v_aloadn X dX8_isSo_13 rfl rfl ?_
      refine gf_X8_25 X dX8_isSo_14 ?_
      obtain ⟨g3, q2, h⟩ := bd1_some h
      refine v_callVV (As := [.ref (ad (9, 11, 7))]) (rest := []) X (c_X8_hour l D ad cy X.2.2.2.2.2.2.2.2.1 N 7 g g3 (by decide +kernel) q2) mw_X8_hour ml_X8_188 (by decide) (by decide +kernel) (by decide) rfl rfl rfl rfl (Nat.le_of_ble_eq_true rfl) dX8_isSo_17 ?_
      refine v_iload X dX8_isSo_20 rfl ?_
      refine v_if_eq X 50 dX8_isSo_22 (by decide) (fun c4 => ?_) (fun c4 => ?_)
      · replace h := (if_pos c4).symm.trans h
        refine v_iconst (v := 0) X dX8_isSo_50 (by decide) ?_
        refine v_istore (lc' := [some (.ref (ad (8, 0, 0))), some (.int z1), some (.int z2), some (.int z3), some (.int (0 : Int32)), some (.int y5)]) X dX8_isSo_51 (by decide) rfl rfl ?_
        refine v_iinc (v := (y5 + 1)) (lc' := [some (.ref (ad (8, 0, 0))), some (.int z1), some (.int z2), some (.int z3), some (.int (0 : Int32)), some (.int (y5 + 1))]) X dX8_isSo_53 rfl rfl (by decide) rfl rfl ?_
        refine v_goto X 6 dX8_isSo_56 (by decide) ?_
        exact ih (0 : Int32) (y5 + 1) g3 _ _ _ h k
      · replace h := (if_neg c4).symm.trans h
        refine v_aloadn X dX8_isSo_25 rfl rfl ?_
        refine gf_X8_25 X dX8_isSo_26 ?_
        refine v_iloadn X dX8_isSo_29 rfl rfl ?_
        refine v_iconst (v := 4) X dX8_isSo_30 (by decide) ?_
        obtain ⟨r7, g6, q5, h⟩ := bd2_some h
        refine v_callSI (As := [.ref (ad (9, 11, 7)), .int z1, .int (4 : Int32)]) (rest := []) X (c_X8_of l D ad cy X.2.2.2.2.2.2.2.2.1 N 7 z1 (4 : Int32) g3 r7 g6 (by decide +kernel) q5) mw_X8_of ml_X8_155 (by decide) rfl rfl (Nat.le_of_ble_eq_true rfl) dX8_isSo_31 ?_
        refine v_aloadn X dX8_isSo_34 rfl rfl ?_
        refine gf_X8_16 X dX8_isSo_35 ?_
        refine v_iloadn X dX8_isSo_38 rfl rfl ?_
        refine v_iload X dX8_isSo_39 rfl ?_
        refine v_iadd X dX8_isSo_41 ?_
        obtain ⟨j8, q9, h⟩ := bd1_some h
        obtain ⟨ej8, lj8⟩ := ix_spec q9
        refine alM X (by decide +kernel) j8 ej8 lj8 dX8_isSo_42 ?_
        refine v_icmp_ne X 50 dX8_isSo_43 (by decide) (fun c10 => ?_) (fun c10 => ?_)
        · replace h := (if_neg c10).symm.trans h
          refine v_iconst (v := 0) X dX8_isSo_50 (by decide) ?_
          refine v_istore (lc' := [some (.ref (ad (8, 0, 0))), some (.int z1), some (.int z2), some (.int z3), some (.int (0 : Int32)), some (.int y5)]) X dX8_isSo_51 (by decide) rfl rfl ?_
          refine v_iinc (v := (y5 + 1)) (lc' := [some (.ref (ad (8, 0, 0))), some (.int z1), some (.int z2), some (.int z3), some (.int (0 : Int32)), some (.int (y5 + 1))]) X dX8_isSo_53 rfl rfl (by decide) rfl rfl ?_
          refine v_goto X 6 dX8_isSo_56 (by decide) ?_
          exact ih (0 : Int32) (y5 + 1) g6 _ _ _ h k
        · replace h := (if_pos c10).symm.trans h
          refine v_iconst (v := 1) X dX8_isSo_46 (by decide) ?_
          refine v_goto X 51 dX8_isSo_47 (by decide) ?_
          refine v_istore (lc' := [some (.ref (ad (8, 0, 0))), some (.int z1), some (.int z2), some (.int z3), some (.int (1 : Int32)), some (.int y5)]) X dX8_isSo_51 (by decide) rfl rfl ?_
          refine v_iinc (v := (y5 + 1)) (lc' := [some (.ref (ad (8, 0, 0))), some (.int z1), some (.int z2), some (.int z3), some (.int (1 : Int32)), some (.int (y5 + 1))]) X dX8_isSo_53 rfl rfl (by decide) rfl rfl ?_
          refine v_goto X 6 dX8_isSo_56 (by decide) ?_
          exact ih (1 : Int32) (y5 + 1) g6 _ _ _ h k
set_option maxRecDepth 100000 in
set_option maxHeartbeats 4000000 in
theorem c_X8_isSo (l : Launch) (D : va_G) (ad : Ky → Nat) (cy : Nat → ClassId) (hI : Inj ad) (N : Nat) (x1 : Int32) (x2 : Int32) (x3 : Int32) (g : GS) (r : Int32) (gq : GS) (h : F_X8_isSo N x1 x2 x3 g = some (r, gq)) : CtI l D ad cy yX8_isSo cX8_isSo 6 (some .boolean) 6 [.ref (ad (8, 0, 0)), .int x1, .int x2, .int x3] g r gq := by
  refine CtI.of 2 hI (by decide +kernel) rfl (Nat.le_of_ble_eq_true rfl) (fun p e s m args below meth c X => ?_)
  unfold F_X8_isSo at h
  show Vy _ _ _ _ _ _ _ _ _ _ _ _ _ _ _ 0 [some (.ref (ad (8, 0, 0))), some (.int x1), some (.int x2), some (.int x3), none, none] [] g
  refine v_iconst (v := 1) X dX8_isSo_0 (by decide) ?_
  refine v_istore (lc' := [some (.ref (ad (8, 0, 0))), some (.int x1), some (.int x2), some (.int x3), some (.int (1 : Int32)), none]) X dX8_isSo_1 (by decide) rfl rfl ?_
  refine v_iconst (v := 0) X dX8_isSo_3 (by decide) ?_
  refine v_istore (lc' := [some (.ref (ad (8, 0, 0))), some (.int x1), some (.int x2), some (.int x3), some (.int (1 : Int32)), some (.int (0 : Int32))]) X dX8_isSo_4 (by decide) rfl rfl ?_
  obtain ⟨x11, x12, g13, q14, h⟩ := bd3_some h
  refine w_X8_isSo_6 X x1 x2 x3 N (1 : Int32) (0 : Int32) g x11 x12 g13 q14 ?_
  refine v_iload X dX8_isSo_59 rfl ?_
  by_cases c15 : x11 = 0 ∨ x11 = 1
  · replace h := (if_pos c15).symm.trans h
    cases h
    exact v_zret X dX8_isSo_61 (nb c15) rfl rfl
  · replace h := (if_neg c15).symm.trans h
    cases h
def F_X8_kindBy (N : Nat) (x0 : Int32) (g : GS) : Option (Int32 × GS) := if x0 = (98 : Int32) then some ((1 : Int32), g) else if x0 = (102 : Int32) then some ((2 : Int32), g) else if x0 = (116 : Int32) then some ((3 : Int32), g) else if x0 = (108 : Int32) then some ((4 : Int32), g) else if x0 = (99 : Int32) then some ((5 : Int32), g) else some ((-1000000 : Int32), g)
set_option maxRecDepth 100000 in
set_option maxHeartbeats 4000000 in
theorem c_X8_kindBy (l : Launch) (D : va_G) (ad : Ky → Nat) (cy : Nat → ClassId) (hI : Inj ad) (N : Nat) (x0 : Int32) (g : GS) (r : Int32) (gq : GS) (h : F_X8_kindBy N x0 g = some (r, gq)) : CtI l D ad cy yX8_kindBy cX8_kindBy 1 (some .int) 0 [.int x0] g r gq := by
  refine CtI.of 0 hI (by decide +kernel) rfl (Nat.le_of_ble_eq_true rfl) (fun p e s m args below meth c X => ?_)
  unfold F_X8_kindBy at h
  show Vy _ _ _ _ _ _ _ _ _ _ _ _ _ _ _ 0 [some (.int x0)] [] g
  refine v_iloadn X dX8_kindBy_0 rfl rfl ?_
  refine v_bipush (v := 98) X dX8_kindBy_1 (by decide) ?_
  refine v_icmp_ne X 10 dX8_kindBy_3 (by decide) (fun c1 => ?_) (fun c1 => ?_)
  · replace h := (if_neg c1).symm.trans h
    refine v_iloadn X dX8_kindBy_10 rfl rfl ?_
    refine v_bipush (v := 102) X dX8_kindBy_11 (by decide) ?_
    refine v_icmp_ne X 20 dX8_kindBy_13 (by decide) (fun c2 => ?_) (fun c2 => ?_)
    · replace h := (if_neg c2).symm.trans h
      refine v_iloadn X dX8_kindBy_20 rfl rfl ?_
      refine v_bipush (v := 116) X dX8_kindBy_21 (by decide) ?_
      refine v_icmp_ne X 30 dX8_kindBy_23 (by decide) (fun c3 => ?_) (fun c3 => ?_)
      · replace h := (if_neg c3).symm.trans h
        refine v_iloadn X dX8_kindBy_30 rfl rfl ?_
        refine v_bipush (v := 108) X dX8_kindBy_31 (by decide) ?_
        refine v_icmp_ne X 40 dX8_kindBy_33 (by decide) (fun c4 => ?_) (fun c4 => ?_)
        · replace h := (if_neg c4).symm.trans h
          refine v_iloadn X dX8_kindBy_40 rfl rfl ?_
          refine v_bipush (v := 99) X dX8_kindBy_41 (by decide) ?_
          refine v_icmp_ne X 50 dX8_kindBy_43 (by decide) (fun c5 => ?_) (fun c5 => ?_)
          · replace h := (if_neg c5).symm.trans h
            refine v_ldc X kc_X8_93 dX8_kindBy_50 ?_
            cases h
            exact v_iret X dX8_kindBy_52 rfl rfl
          · replace h := (if_pos c5).symm.trans h
            refine v_iconst (v := 5) X dX8_kindBy_46 (by decide) ?_
            refine v_goto X 52 dX8_kindBy_47 (by decide) ?_
            cases h
            exact v_iret X dX8_kindBy_52 rfl rfl
        · replace h := (if_pos c4).symm.trans h
          refine v_iconst (v := 4) X dX8_kindBy_36 (by decide) ?_
          refine v_goto X 52 dX8_kindBy_37 (by decide) ?_
          cases h
          exact v_iret X dX8_kindBy_52 rfl rfl
      · replace h := (if_pos c3).symm.trans h
        refine v_iconst (v := 3) X dX8_kindBy_26 (by decide) ?_
        refine v_goto X 52 dX8_kindBy_27 (by decide) ?_
        cases h
        exact v_iret X dX8_kindBy_52 rfl rfl
    · replace h := (if_pos c2).symm.trans h
      refine v_iconst (v := 2) X dX8_kindBy_16 (by decide) ?_
      refine v_goto X 52 dX8_kindBy_17 (by decide) ?_
      cases h
      exact v_iret X dX8_kindBy_52 rfl rfl
  · replace h := (if_pos c1).symm.trans h
    refine v_iconst (v := 1) X dX8_kindBy_6 (by decide) ?_
    refine v_goto X 52 dX8_kindBy_7 (by decide) ?_
    cases h
    exact v_iret X dX8_kindBy_52 rfl rfl
def F_X8_isSort (N : Nat) (g : GS) : Option (Int32 × GS) := if (g 10 0 17) = 0 then if (g 10 0 15) = (2 : Int32) then bd2 (F_X8_kindBy N (g 10 0 16) g) (fun r5 g4 => if r5 = (-1000000 : Int32) then some ((0 : Int32), g4) else some ((1 : Int32), g4)) else some ((0 : Int32), g) else some ((0 : Int32), g)
set_option maxRecDepth 100000 in
set_option maxHeartbeats 4000000 in
theorem c_X8_isSort (l : Launch) (D : va_G) (ad : Ky → Nat) (cy : Nat → ClassId) (hI : Inj ad) (N : Nat) (g : GS) (r : Int32) (gq : GS) (h : F_X8_isSort N  g = some (r, gq)) : CtI l D ad cy yX8_isSort cX8_isSort 1 (some .boolean) 1 [.ref (ad (8, 0, 0))] g r gq := by
  refine CtI.of 0 hI (by decide +kernel) rfl (Nat.le_of_ble_eq_true rfl) (fun p e s m args below meth c X => ?_)
  unfold F_X8_isSort at h
  show Vy _ _ _ _ _ _ _ _ _ _ _ _ _ _ _ 0 [some (.ref (ad (8, 0, 0)))] [] g
  refine v_aloadn X dX8_isSort_0 rfl rfl ?_
  refine gf_X8_81 X dX8_isSort_1 ?_
  refine v_if_ne X 31 dX8_isSort_4 (by decide) (fun c1 => ?_) (fun c1 => ?_)
  · replace h := (if_neg c1).symm.trans h
    refine v_iconst (v := 0) X dX8_isSort_31 (by decide) ?_
    cases h
    exact v_zret X dX8_isSort_32 rfl rfl rfl
  · replace h := (if_pos c1).symm.trans h
    refine v_aloadn X dX8_isSort_7 rfl rfl ?_
    refine gf_X8_105 X dX8_isSort_8 ?_
    refine v_iconst (v := 2) X dX8_isSort_11 (by decide) ?_
    refine v_icmp_ne X 31 dX8_isSort_12 (by decide) (fun c2 => ?_) (fun c2 => ?_)
    · replace h := (if_neg c2).symm.trans h
      refine v_iconst (v := 0) X dX8_isSort_31 (by decide) ?_
      cases h
      exact v_zret X dX8_isSort_32 rfl rfl rfl
    · replace h := (if_pos c2).symm.trans h
      refine v_aloadn X dX8_isSort_15 rfl rfl ?_
      refine gf_X8_94 X dX8_isSort_16 ?_
      obtain ⟨r5, g4, q3, h⟩ := bd2_some h
      refine v_callSI (As := [.int (g 10 0 16)]) (rest := []) X (c_X8_kindBy l D ad cy X.2.2.2.2.2.2.2.2.1 N (g 10 0 16) g r5 g4  q3) mw_X8_kindBy ml_X8_122 (by decide) rfl rfl (Nat.le_of_ble_eq_true rfl) dX8_isSort_19 ?_
      refine v_ldc X kc_X8_93 dX8_isSort_22 ?_
      refine v_icmp_eq X 31 dX8_isSort_24 (by decide) (fun c6 => ?_) (fun c6 => ?_)
      · replace h := (if_pos c6).symm.trans h
        refine v_iconst (v := 0) X dX8_isSort_31 (by decide) ?_
        cases h
        exact v_zret X dX8_isSort_32 rfl rfl rfl
      · replace h := (if_neg c6).symm.trans h
        refine v_iconst (v := 1) X dX8_isSort_27 (by decide) ?_
        refine v_goto X 32 dX8_isSort_28 (by decide) ?_
        cases h
        exact v_zret X dX8_isSort_32 rfl rfl rfl
def F_X8_kind (N : Nat) (x1 : Int32) (g : GS) : Option (Int32 × GS) := bd2 (F_X8_isPaper N x1 (g3 g 10 0 0 (0 : Int32))) (fun r3 g2 => if r3 = 0 then some ((-1000001 : Int32), g2) else bd2 (F_X8_of N 5 x1 (0 : Int32) g2) (fun r7 g6 => some (r7, g6)))
set_option maxRecDepth 100000 in
set_option maxHeartbeats 4000000 in
theorem c_X8_kind (l : Launch) (D : va_G) (ad : Ky → Nat) (cy : Nat → ClassId) (hI : Inj ad) (N : Nat) (x1 : Int32) (g : GS) (r : Int32) (gq : GS) (h : F_X8_kind N x1 g = some (r, gq)) : CtI l D ad cy yX8_kind cX8_kind 2 (some .int) 2 [.ref (ad (8, 0, 0)), .int x1] g r gq := by
  refine CtI.of 0 hI (by decide +kernel) rfl (Nat.le_of_ble_eq_true rfl) (fun p e s m args below meth c X => ?_)
  unfold F_X8_kind at h
  show Vy _ _ _ _ _ _ _ _ _ _ _ _ _ _ _ 0 [some (.ref (ad (8, 0, 0))), some (.int x1)] [] g
  refine v_aloadn X dX8_kind_0 rfl rfl ?_
  refine v_iconst (v := 0) X dX8_kind_1 (by decide) ?_
  refine pf_X8_50 X dX8_kind_2 ?_
  refine v_aloadn X dX8_kind_5 rfl rfl ?_
  refine v_iloadn X dX8_kind_6 rfl rfl ?_
  obtain ⟨r3, g2, q1, h⟩ := bd2_some h
  refine v_callVI (As := [.int x1]) (rest := []) X (c_X8_isPaper l D ad cy X.2.2.2.2.2.2.2.2.1 N x1 (g3 g 10 0 0 (0 : Int32)) r3 g2  q1) mw_X8_isPaper ml_X8_208 (by decide) (by decide +kernel) (by decide) rfl rfl rfl rfl (Nat.le_of_ble_eq_true rfl) dX8_kind_7 ?_
  refine v_if_eq X 25 dX8_kind_10 (by decide) (fun c4 => ?_) (fun c4 => ?_)
  · replace h := (if_pos c4).symm.trans h
    refine v_ldc X kc_X8_70 dX8_kind_25 ?_
    cases h
    exact v_iret X dX8_kind_27 rfl rfl
  · replace h := (if_neg c4).symm.trans h
    refine v_aloadn X dX8_kind_13 rfl rfl ?_
    refine gf_X8_19 X dX8_kind_14 ?_
    refine v_iloadn X dX8_kind_17 rfl rfl ?_
    refine v_iconst (v := 0) X dX8_kind_18 (by decide) ?_
    obtain ⟨r7, g6, q5, h⟩ := bd2_some h
    refine v_callSI (As := [.ref (ad (9, 11, 5)), .int x1, .int (0 : Int32)]) (rest := []) X (c_X8_of l D ad cy X.2.2.2.2.2.2.2.2.1 N 5 x1 (0 : Int32) g2 r7 g6 (by decide +kernel) q5) mw_X8_of ml_X8_155 (by decide) rfl rfl (Nat.le_of_ble_eq_true rfl) dX8_kind_19 ?_
    refine v_goto X 27 dX8_kind_22 (by decide) ?_
    cases h
    exact v_iret X dX8_kind_27 rfl rfl
def F_X8_let (N : Nat) (x1 : Int32) (x2 : Int32) (g : GS) : Option (Int32 × GS) := bd2 (F_X8_isPaper N x1 (g3 g 10 0 0 (0 : Int32))) (fun r3 g2 => if r3 = 0 then some ((-1000001 : Int32), g2) else bd2 (F_X8_in N (x2.toInt64) (-40 : Int64) (40 : Int64) g2) (fun r7 g6 => if r7 = 0 then some ((-1000001 : Int32), g6) else if x2 = 0 then some ((-1000001 : Int32), g6) else bd2 (F_X8_isUp N 5 x1 g6) (fun r12 g11 => if r12 = 0 then some ((-1000002 : Int32), g11) else bd2 (F_X8_of N 5 x1 (5 : Int32) g11) (fun r16 g15 => bd2 (F_X8_in N ((r16 + x2).toInt64) (1 : Int64) (40 : Int64) g15) (fun r19 g18 => if r19 = 0 then some ((-1000002 : Int32), g18) else bd1 (F_X8_keep N  g18) (fun g22 => bd2 (F_X8_of N 5 x1 (5 : Int32) g22) (fun r25 g24 => bd1 (F_X8_letsOut N 5 x1 (r25 + x2) g24) (fun g27 => bd2 (F_X8_of N 5 x1 (5 : Int32) g27) (fun r30 g29 => some (r30, g29))))))))))
set_option maxRecDepth 100000 in
set_option maxHeartbeats 4000000 in
theorem c_X8_let (l : Launch) (D : va_G) (ad : Ky → Nat) (cy : Nat → ClassId) (hI : Inj ad) (N : Nat) (x1 : Int32) (x2 : Int32) (g : GS) (r : Int32) (gq : GS) (h : F_X8_let N x1 x2 g = some (r, gq)) : CtI l D ad cy yX8_let cX8_let 3 (some .int) 2 [.ref (ad (8, 0, 0)), .int x1, .int x2] g r gq := by
  refine CtI.of 0 hI (by decide +kernel) rfl (Nat.le_of_ble_eq_true rfl) (fun p e s m args below meth c X => ?_)
  unfold F_X8_let at h
  show Vy _ _ _ _ _ _ _ _ _ _ _ _ _ _ _ 0 [some (.ref (ad (8, 0, 0))), some (.int x1), some (.int x2)] [] g
  refine v_aloadn X dX8_let_0 rfl rfl ?_
  refine v_iconst (v := 0) X dX8_let_1 (by decide) ?_
  refine pf_X8_50 X dX8_let_2 ?_
  refine v_aloadn X dX8_let_5 rfl rfl ?_
  refine v_iloadn X dX8_let_6 rfl rfl ?_
  obtain ⟨r3, g2, q1, h⟩ := bd2_some h
  refine v_callVI (As := [.int x1]) (rest := []) X (c_X8_isPaper l D ad cy X.2.2.2.2.2.2.2.2.1 N x1 (g3 g 10 0 0 (0 : Int32)) r3 g2  q1) mw_X8_isPaper ml_X8_208 (by decide) (by decide +kernel) (by decide) rfl rfl rfl rfl (Nat.le_of_ble_eq_true rfl) dX8_let_7 ?_
  refine v_if_eq X 31 dX8_let_10 (by decide) (fun c4 => ?_) (fun c4 => ?_)
  · replace h := (if_pos c4).symm.trans h
    refine v_ldc X kc_X8_70 dX8_let_31 ?_
    cases h
    exact v_iret X dX8_let_33 rfl rfl
  · replace h := (if_neg c4).symm.trans h
    refine v_iloadn X dX8_let_13 rfl rfl ?_
    refine v_i2l X dX8_let_14 ?_
    refine v_ldc2 X kl_X8_220 dX8_let_15 ?_
    refine v_ldc2 X kl_X8_211 dX8_let_18 ?_
    obtain ⟨r7, g6, q5, h⟩ := bd2_some h
    refine v_callSI (As := [.long (x2.toInt64), .long (-40 : Int64), .long (40 : Int64)]) (rest := []) X (c_X8_in l D ad cy X.2.2.2.2.2.2.2.2.1 N (x2.toInt64) (-40 : Int64) (40 : Int64) g2 r7 g6  q5) mw_X8_in ml_X8_60 (by decide) rfl rfl (Nat.le_of_ble_eq_true rfl) dX8_let_21 ?_
    refine v_if_eq X 31 dX8_let_24 (by decide) (fun c8 => ?_) (fun c8 => ?_)
    · replace h := (if_pos c8).symm.trans h
      refine v_ldc X kc_X8_70 dX8_let_31 ?_
      cases h
      exact v_iret X dX8_let_33 rfl rfl
    · replace h := (if_neg c8).symm.trans h
      refine v_iloadn X dX8_let_27 rfl rfl ?_
      refine v_if_ne X 34 dX8_let_28 (by decide) (fun c9 => ?_) (fun c9 => ?_)
      · replace h := (if_neg c9).symm.trans h
        refine v_aloadn X dX8_let_34 rfl rfl ?_
        refine gf_X8_19 X dX8_let_35 ?_
        refine v_iloadn X dX8_let_38 rfl rfl ?_
        obtain ⟨r12, g11, q10, h⟩ := bd2_some h
        refine v_callSI (As := [.ref (ad (9, 11, 5)), .int x1]) (rest := []) X (c_X8_isUp l D ad cy X.2.2.2.2.2.2.2.2.1 N 5 x1 g6 r12 g11 (by decide +kernel) q10) mw_X8_isUp ml_X8_159 (by decide) rfl rfl (Nat.le_of_ble_eq_true rfl) dX8_let_39 ?_
        refine v_if_eq X 67 dX8_let_42 (by decide) (fun c13 => ?_) (fun c13 => ?_)
        · replace h := (if_pos c13).symm.trans h
          refine v_ldc X kc_X8_198 dX8_let_67 ?_
          cases h
          exact v_iret X dX8_let_69 rfl rfl
        · replace h := (if_neg c13).symm.trans h
          refine v_aloadn X dX8_let_45 rfl rfl ?_
          refine gf_X8_19 X dX8_let_46 ?_
          refine v_iloadn X dX8_let_49 rfl rfl ?_
          refine v_iconst (v := 5) X dX8_let_50 (by decide) ?_
          obtain ⟨r16, g15, q14, h⟩ := bd2_some h
          refine v_callSI (As := [.ref (ad (9, 11, 5)), .int x1, .int (5 : Int32)]) (rest := []) X (c_X8_of l D ad cy X.2.2.2.2.2.2.2.2.1 N 5 x1 (5 : Int32) g11 r16 g15 (by decide +kernel) q14) mw_X8_of ml_X8_155 (by decide) rfl rfl (Nat.le_of_ble_eq_true rfl) dX8_let_51 ?_
          refine v_iloadn X dX8_let_54 rfl rfl ?_
          refine v_iadd X dX8_let_55 ?_
          refine v_i2l X dX8_let_56 ?_
          refine v_lconst (v := 1) X dX8_let_57 (by decide) ?_
          refine v_ldc2 X kl_X8_211 dX8_let_58 ?_
          obtain ⟨r19, g18, q17, h⟩ := bd2_some h
          refine v_callSI (As := [.long ((r16 + x2).toInt64), .long (1 : Int64), .long (40 : Int64)]) (rest := []) X (c_X8_in l D ad cy X.2.2.2.2.2.2.2.2.1 N ((r16 + x2).toInt64) (1 : Int64) (40 : Int64) g15 r19 g18  q17) mw_X8_in ml_X8_60 (by decide) rfl rfl (Nat.le_of_ble_eq_true rfl) dX8_let_61 ?_
          refine v_if_ne X 70 dX8_let_64 (by decide) (fun c20 => ?_) (fun c20 => ?_)
          · replace h := (if_neg c20).symm.trans h
            refine v_aloadn X dX8_let_70 rfl rfl ?_
            obtain ⟨g22, q21, h⟩ := bd1_some h
            refine v_callVV (As := []) (rest := []) X (c_X8_keep l D ad cy X.2.2.2.2.2.2.2.2.1 N  g18 g22  q21) mw_X8_keep ml_X8_201 (by decide) (by decide +kernel) (by decide) rfl rfl rfl rfl (Nat.le_of_ble_eq_true rfl) dX8_let_71 ?_
            refine v_aloadn X dX8_let_74 rfl rfl ?_
            refine gf_X8_19 X dX8_let_75 ?_
            refine v_iloadn X dX8_let_78 rfl rfl ?_
            refine v_aloadn X dX8_let_79 rfl rfl ?_
            refine gf_X8_19 X dX8_let_80 ?_
            refine v_iloadn X dX8_let_83 rfl rfl ?_
            refine v_iconst (v := 5) X dX8_let_84 (by decide) ?_
            obtain ⟨r25, g24, q23, h⟩ := bd2_some h
            refine v_callSI (As := [.ref (ad (9, 11, 5)), .int x1, .int (5 : Int32)]) (rest := [.int x1, .ref (ad (9, 11, 5))]) X (c_X8_of l D ad cy X.2.2.2.2.2.2.2.2.1 N 5 x1 (5 : Int32) g22 r25 g24 (by decide +kernel) q23) mw_X8_of ml_X8_155 (by decide) rfl rfl (Nat.le_of_ble_eq_true rfl) dX8_let_85 ?_
            refine v_iloadn X dX8_let_88 rfl rfl ?_
            refine v_iadd X dX8_let_89 ?_
            obtain ⟨g27, q26, h⟩ := bd1_some h
            refine v_callSV (As := [.ref (ad (9, 11, 5)), .int x1, .int (r25 + x2)]) (rest := []) X (c_X8_letsOut l D ad cy X.2.2.2.2.2.2.2.2.1 N 5 x1 (r25 + x2) g24 g27 (by decide +kernel) q26) mw_X8_letsOut ml_X8_222 (by decide) rfl rfl (Nat.le_of_ble_eq_true rfl) dX8_let_90 ?_
            refine v_aloadn X dX8_let_93 rfl rfl ?_
            refine gf_X8_19 X dX8_let_94 ?_
            refine v_iloadn X dX8_let_97 rfl rfl ?_
            refine v_iconst (v := 5) X dX8_let_98 (by decide) ?_
            obtain ⟨r30, g29, q28, h⟩ := bd2_some h
            refine v_callSI (As := [.ref (ad (9, 11, 5)), .int x1, .int (5 : Int32)]) (rest := []) X (c_X8_of l D ad cy X.2.2.2.2.2.2.2.2.1 N 5 x1 (5 : Int32) g27 r30 g29 (by decide +kernel) q28) mw_X8_of ml_X8_155 (by decide) rfl rfl (Nat.le_of_ble_eq_true rfl) dX8_let_99 ?_
            cases h
            exact v_iret X dX8_let_102 rfl rfl
          · replace h := (if_pos c20).symm.trans h
            refine v_ldc X kc_X8_198 dX8_let_67 ?_
            cases h
            exact v_iret X dX8_let_69 rfl rfl
      · replace h := (if_pos c9).symm.trans h
        refine v_ldc X kc_X8_70 dX8_let_31 ?_
        cases h
        exact v_iret X dX8_let_33 rfl rfl
def L_X8_lets_79 (N : Nat) (z1 : Int32) (z2 : Int32) (z3 : Int32) (z4 : Int32) (z5 : Int32) (z6 : Int32) (z7 : Int32) : Nat → Int32 → GS → Option (Int32 × GS)
  | 0, _, _ => none
  | n + 1, y8, g => if z2 ≤ y8 then some (y8, g) else bd2 (F_X8_isUp N 7 z1 g) (fun r20 g19 => if r20 = 0 then bd1 (F_X8_hour N 7 g19) (fun g23 => L_X8_lets_79 N z1 z2 z3 z4 z5 z6 z7 n (y8 + 1) g23) else bd2 (F_X8_of N 7 z1 (5 : Int32) g19) (fun r26 g25 => bd1 (ix ((z7 >>> (((2 : Int32) * ((z2 - (1 : Int32)) - y8)) &&& 31)) &&& (3 : Int32)) 4) (fun j27 => if (r26 + (g25 11 20 j27)) ≤ (40 : Int32) then if (1 : Int32) ≤ (r26 + (g25 11 20 j27)) then bd1 (F_X8_letsOut N 7 z1 (r26 + (g25 11 20 j27)) g25) (fun g32 => bd1 (F_X8_hour N 7 g32) (fun g34 => L_X8_lets_79 N z1 z2 z3 z4 z5 z6 z7 n (y8 + 1) g34)) else bd1 (F_X8_letsOut N 7 z1 (1 : Int32) g25) (fun g36 => bd1 (F_X8_hour N 7 g36) (fun g38 => L_X8_lets_79 N z1 z2 z3 z4 z5 z6 z7 n (y8 + 1) g38)) else bd1 (F_X8_letsOut N 7 z1 (40 : Int32) g25) (fun g40 => bd1 (F_X8_hour N 7 g40) (fun g42 => L_X8_lets_79 N z1 z2 z3 z4 z5 z6 z7 n (y8 + 1) g42)))))
def L_X8_lets_65 (N : Nat) (z1 : Int32) (z2 : Int32) (z3 : Int32) (z4 : Int32) : Nat → Int32 → Int32 → Int32 → GS → Option (Int32 × Int32 × Int32 × GS)
  | 0, _, _, _, _ => none
  | n + 1, y5, y6, y7, g => if z4 ≤ y7 then some (y5, y6, y7, g) else bd1 (F_X8_layThen N  g) (fun g16 => bd2 (L_X8_lets_79 N z1 z2 z3 z4 y5 y6 y7 N (0 : Int32) g16) (fun x43 g44 => bd2 (F_X8_isUp N 7 z1 g44) (fun r48 g47 => if r48 = 0 then L_X8_lets_65 N z1 z2 z3 z4 n y5 y6 (y7 + 1) g47 else bd2 (F_X8_of N 7 z1 (4 : Int32) g47) (fun r52 g51 => if r52 ≤ y6 then L_X8_lets_65 N z1 z2 z3 z4 n y5 y6 (y7 + 1) g51 else bd2 (F_X8_of N 7 z1 (4 : Int32) g51) (fun r56 g55 => L_X8_lets_65 N z1 z2 z3 z4 n y7 r56 (y7 + 1) g55)))))
def F_X8_lets (N : Nat) (x1 : Int32) (x2 : Int32) (x3 : Int32) (g : GS) : Option (Int32 × GS) := bd2 (F_X8_isPaper N x1 (g3 g 10 0 0 (0 : Int32))) (fun r3 g2 => if r3 = 0 then some ((-1000001 : Int32), g2) else bd2 (F_X8_in N (x2.toInt64) (1 : Int64) (4 : Int64) g2) (fun r7 g6 => if r7 = 0 then some ((-1000001 : Int32), g6) else if (-1 : Int32) ≤ x3 then bd2 (F_X8_isUp N 5 x1 g6) (fun r12 g11 => if r12 = 0 then some ((-1000002 : Int32), g11) else bd4 (L_X8_lets_65 N x1 x2 x3 ((1 : Int32) <<< (((2 : Int32) * x2) &&& 31)) N (-1000000 : Int32) (-1000000 : Int32) (0 : Int32) g11) (fun x57 x58 x59 g60 => if x57 = (-1000000 : Int32) then some (x58, g60) else if x3 = (-1 : Int32) then some (x58, g60) else if x2 ≤ x3 then some ((-1000000 : Int32), g60) else some (((x57 >>> (((2 : Int32) * ((x2 - (1 : Int32)) - x3)) &&& 31)) &&& (3 : Int32)), g60))) else some ((-1000001 : Int32), g6)))
set_option maxRecDepth 100000 in
set_option maxHeartbeats 4000000 in
theorem w_X8_lets_79 {p : Program} {l : Launch} {e : Env} {s : State} {m : MethodId} {args : Array Value} {below : List Frame} {meth : Method} {c : Code} {D : va_G} {ad : Ky → Nat} {cy : Nat → ClassId} {r : Int32} {gq : GS} {N : Nat} (X : Cx p (rmd 6) s m args meth c RX8 cX8_lets 10 (some .int) D ad cy) (z1 : Int32) (z2 : Int32) (z3 : Int32) (z4 : Int32) (z5 : Int32) (z6 : Int32) (z7 : Int32) : ∀ (n : Nat) (y8 : Int32) (g : GS) (y8' : Int32) (g' : GS), L_X8_lets_79 N z1 z2 z3 z4 z5 z6 z7 n y8 g = some (y8', g') → Vy p l e (rmd 6) s m args below meth c 10 D ad cy (QI D ad cy below args s r gq) 172 [some (.ref (ad (8, 0, 0))), some (.int z1), some (.int z2), some (.int z3), some (.int z4), some (.int z5), some (.int z6), some (.int z7), some (.int y8'), none] [] g' → Vy p l e (rmd 6) s m args below meth c 10 D ad cy (QI D ad cy below args s r gq) 79 [some (.ref (ad (8, 0, 0))), some (.int z1), some (.int z2), some (.int z3), some (.int z4), some (.int z5), some (.int z6), some (.int z7), some (.int y8), none] [] g := by
  intro n
  induction n with
  | zero => intro y8 g y8' g' h k; cases h
  | succ n ih =>
    intro y8 g y8' g' h k
    rw [L_X8_lets_79] at h
    refine v_iload X dX8_lets_79 rfl ?_
    refine v_iloadn X dX8_lets_81 rfl rfl ?_
    refine v_icmp_ge X 172 dX8_lets_82 (by decide) (fun c17 => ?_) (fun c17 => ?_)
    · replace h := (if_pos c17).symm.trans h
      cases h
      exact k
    · replace h := (if_neg c17).symm.trans h
      refine v_aloadn X dX8_lets_85 rfl rfl ?_
      refine gf_X8_25 X dX8_lets_86 ?_
      refine v_iloadn X dX8_lets_89 rfl rfl ?_
      obtain ⟨r20, g19, q18, h⟩ := bd2_some h
      refine v_callSI (As := [.ref (ad (9, 11, 7)), .int z1]) (rest := []) X (c_X8_isUp l D ad cy X.2.2.2.2.2.2.2.2.1 N 7 z1 g r20 g19 (by decide +kernel) q18) mw_X8_isUp ml_X8_159 (by decide) rfl rfl (Nat.le_of_ble_eq_true rfl) dX8_lets_90 ?_
      refine v_if_eq X 158 dX8_lets_93 (by decide) (fun c21 => ?_) (fun c21 => ?_)
      · replace h := (if_pos c21).symm.trans h
        refine v_aloadn X dX8_lets_158 rfl rfl ?_
        refine v_aloadn X dX8_lets_159 rfl rfl ?_
        refine gf_X8_25 X dX8_lets_160 ?_
        obtain ⟨g23, q22, h⟩ := bd1_some h
        refine v_callVV (As := [.ref (ad (9, 11, 7))]) (rest := []) X (c_X8_hour l D ad cy X.2.2.2.2.2.2.2.2.1 N 7 g19 g23 (by decide +kernel) q22) mw_X8_hour ml_X8_188 (by decide) (by decide +kernel) (by decide) rfl rfl rfl rfl (Nat.le_of_ble_eq_true rfl) dX8_lets_163 ?_
        refine v_iinc (v := (y8 + 1)) (lc' := [some (.ref (ad (8, 0, 0))), some (.int z1), some (.int z2), some (.int z3), some (.int z4), some (.int z5), some (.int z6), some (.int z7), some (.int (y8 + 1)), none]) X dX8_lets_166 rfl rfl (by decide) rfl rfl ?_
        refine v_goto X 79 dX8_lets_169 (by decide) ?_
        exact ih (y8 + 1) g23 _ _ h k
      · replace h := (if_neg c21).symm.trans h
        refine v_aloadn X dX8_lets_96 rfl rfl ?_
        refine gf_X8_25 X dX8_lets_97 ?_
        refine v_iloadn X dX8_lets_100 rfl rfl ?_
        refine v_iconst (v := 5) X dX8_lets_101 (by decide) ?_
        obtain ⟨r26, g25, q24, h⟩ := bd2_some h
        refine v_callSI (As := [.ref (ad (9, 11, 7)), .int z1, .int (5 : Int32)]) (rest := []) X (c_X8_of l D ad cy X.2.2.2.2.2.2.2.2.1 N 7 z1 (5 : Int32) g19 r26 g25 (by decide +kernel) q24) mw_X8_of ml_X8_155 (by decide) rfl rfl (Nat.le_of_ble_eq_true rfl) dX8_lets_102 ?_
        refine v_aloadn X dX8_lets_105 rfl rfl ?_
        refine gf_X8_37 X dX8_lets_106 ?_
        refine v_iload X dX8_lets_109 rfl ?_
        refine v_iconst (v := 2) X dX8_lets_111 (by decide) ?_
        refine v_iloadn X dX8_lets_112 rfl rfl ?_
        refine v_iconst (v := 1) X dX8_lets_113 (by decide) ?_
        refine v_isub X dX8_lets_114 ?_
        refine v_iload X dX8_lets_115 rfl ?_
        refine v_isub X dX8_lets_117 ?_
        refine v_imul X dX8_lets_118 ?_
        refine v_ishr X dX8_lets_119 ?_
        refine v_iconst (v := 3) X dX8_lets_120 (by decide) ?_
        refine v_iand X dX8_lets_121 ?_
        obtain ⟨j27, q28, h⟩ := bd1_some h
        obtain ⟨ej27, lj27⟩ := ix_spec q28
        refine alM X (by decide +kernel) j27 ej27 lj27 dX8_lets_122 ?_
        refine v_iadd X dX8_lets_123 ?_
        refine v_istore (lc' := [some (.ref (ad (8, 0, 0))), some (.int z1), some (.int z2), some (.int z3), some (.int z4), some (.int z5), some (.int z6), some (.int z7), some (.int y8), some (.int (r26 + (g25 11 20 j27)))]) X dX8_lets_124 (by decide) rfl rfl ?_
        refine v_aloadn X dX8_lets_126 rfl rfl ?_
        refine gf_X8_25 X dX8_lets_127 ?_
        refine v_iloadn X dX8_lets_130 rfl rfl ?_
        refine v_iload X dX8_lets_131 rfl ?_
        refine v_bipush (v := 40) X dX8_lets_133 (by decide) ?_
        refine v_icmp_le X 143 dX8_lets_135 (by decide) (fun c29 => ?_) (fun c29 => ?_)
        · replace h := (if_pos c29).symm.trans h
          refine v_iload X dX8_lets_143 rfl ?_
          refine v_iconst (v := 1) X dX8_lets_145 (by decide) ?_
          refine v_icmp_ge X 153 dX8_lets_146 (by decide) (fun c30 => ?_) (fun c30 => ?_)
          · replace h := (if_pos c30).symm.trans h
            refine v_iload X dX8_lets_153 rfl ?_
            obtain ⟨g32, q31, h⟩ := bd1_some h
            refine v_callSV (As := [.ref (ad (9, 11, 7)), .int z1, .int (r26 + (g25 11 20 j27))]) (rest := []) X (c_X8_letsOut l D ad cy X.2.2.2.2.2.2.2.2.1 N 7 z1 (r26 + (g25 11 20 j27)) g25 g32 (by decide +kernel) q31) mw_X8_letsOut ml_X8_222 (by decide) rfl rfl (Nat.le_of_ble_eq_true rfl) dX8_lets_155 ?_
            refine v_aloadn X dX8_lets_158 rfl rfl ?_
            refine v_aloadn X dX8_lets_159 rfl rfl ?_
            refine gf_X8_25 X dX8_lets_160 ?_
            obtain ⟨g34, q33, h⟩ := bd1_some h
            refine v_callVV (As := [.ref (ad (9, 11, 7))]) (rest := []) X (c_X8_hour l D ad cy X.2.2.2.2.2.2.2.2.1 N 7 g32 g34 (by decide +kernel) q33) mw_X8_hour ml_X8_188 (by decide) (by decide +kernel) (by decide) rfl rfl rfl rfl (Nat.le_of_ble_eq_true rfl) dX8_lets_163 ?_
            refine v_iinc (v := (y8 + 1)) (lc' := [some (.ref (ad (8, 0, 0))), some (.int z1), some (.int z2), some (.int z3), some (.int z4), some (.int z5), some (.int z6), some (.int z7), some (.int (y8 + 1)), some (.int (r26 + (g25 11 20 j27)))]) X dX8_lets_166 rfl rfl (by decide) rfl rfl ?_
            refine v_goto X 79 dX8_lets_169 (by decide) ?_
            refine v_weak (lc2 := [some (.ref (ad (8, 0, 0))), some (.int z1), some (.int z2), some (.int z3), some (.int z4), some (.int z5), some (.int z6), some (.int z7), some (.int (y8 + 1)), none]) ⟨rfl, rfl, rfl, rfl, rfl, rfl, rfl, rfl, rfl, trivial⟩ ?_
            exact ih (y8 + 1) g34 _ _ h k
          · replace h := (if_neg c30).symm.trans h
            refine v_iconst (v := 1) X dX8_lets_149 (by decide) ?_
            refine v_goto X 155 dX8_lets_150 (by decide) ?_
            obtain ⟨g36, q35, h⟩ := bd1_some h
            refine v_callSV (As := [.ref (ad (9, 11, 7)), .int z1, .int (1 : Int32)]) (rest := []) X (c_X8_letsOut l D ad cy X.2.2.2.2.2.2.2.2.1 N 7 z1 (1 : Int32) g25 g36 (by decide +kernel) q35) mw_X8_letsOut ml_X8_222 (by decide) rfl rfl (Nat.le_of_ble_eq_true rfl) dX8_lets_155 ?_
            refine v_aloadn X dX8_lets_158 rfl rfl ?_
            refine v_aloadn X dX8_lets_159 rfl rfl ?_
            refine gf_X8_25 X dX8_lets_160 ?_
            obtain ⟨g38, q37, h⟩ := bd1_some h
            refine v_callVV (As := [.ref (ad (9, 11, 7))]) (rest := []) X (c_X8_hour l D ad cy X.2.2.2.2.2.2.2.2.1 N 7 g36 g38 (by decide +kernel) q37) mw_X8_hour ml_X8_188 (by decide) (by decide +kernel) (by decide) rfl rfl rfl rfl (Nat.le_of_ble_eq_true rfl) dX8_lets_163 ?_
            refine v_iinc (v := (y8 + 1)) (lc' := [some (.ref (ad (8, 0, 0))), some (.int z1), some (.int z2), some (.int z3), some (.int z4), some (.int z5), some (.int z6), some (.int z7), some (.int (y8 + 1)), some (.int (r26 + (g25 11 20 j27)))]) X dX8_lets_166 rfl rfl (by decide) rfl rfl ?_
            refine v_goto X 79 dX8_lets_169 (by decide) ?_
            refine v_weak (lc2 := [some (.ref (ad (8, 0, 0))), some (.int z1), some (.int z2), some (.int z3), some (.int z4), some (.int z5), some (.int z6), some (.int z7), some (.int (y8 + 1)), none]) ⟨rfl, rfl, rfl, rfl, rfl, rfl, rfl, rfl, rfl, trivial⟩ ?_
            exact ih (y8 + 1) g38 _ _ h k
        · replace h := (if_neg c29).symm.trans h
          refine v_bipush (v := 40) X dX8_lets_138 (by decide) ?_
          refine v_goto X 155 dX8_lets_140 (by decide) ?_
          obtain ⟨g40, q39, h⟩ := bd1_some h
          refine v_callSV (As := [.ref (ad (9, 11, 7)), .int z1, .int (40 : Int32)]) (rest := []) X (c_X8_letsOut l D ad cy X.2.2.2.2.2.2.2.2.1 N 7 z1 (40 : Int32) g25 g40 (by decide +kernel) q39) mw_X8_letsOut ml_X8_222 (by decide) rfl rfl (Nat.le_of_ble_eq_true rfl) dX8_lets_155 ?_
          refine v_aloadn X dX8_lets_158 rfl rfl ?_
          refine v_aloadn X dX8_lets_159 rfl rfl ?_
          refine gf_X8_25 X dX8_lets_160 ?_
          obtain ⟨g42, q41, h⟩ := bd1_some h
          refine v_callVV (As := [.ref (ad (9, 11, 7))]) (rest := []) X (c_X8_hour l D ad cy X.2.2.2.2.2.2.2.2.1 N 7 g40 g42 (by decide +kernel) q41) mw_X8_hour ml_X8_188 (by decide) (by decide +kernel) (by decide) rfl rfl rfl rfl (Nat.le_of_ble_eq_true rfl) dX8_lets_163 ?_
          refine v_iinc (v := (y8 + 1)) (lc' := [some (.ref (ad (8, 0, 0))), some (.int z1), some (.int z2), some (.int z3), some (.int z4), some (.int z5), some (.int z6), some (.int z7), some (.int (y8 + 1)), some (.int (r26 + (g25 11 20 j27)))]) X dX8_lets_166 rfl rfl (by decide) rfl rfl ?_
          refine v_goto X 79 dX8_lets_169 (by decide) ?_
          refine v_weak (lc2 := [some (.ref (ad (8, 0, 0))), some (.int z1), some (.int z2), some (.int z3), some (.int z4), some (.int z5), some (.int z6), some (.int z7), some (.int (y8 + 1)), none]) ⟨rfl, rfl, rfl, rfl, rfl, rfl, rfl, rfl, rfl, trivial⟩ ?_
          exact ih (y8 + 1) g42 _ _ h k
set_option maxRecDepth 100000 in
set_option maxHeartbeats 4000000 in
theorem w_X8_lets_65 {p : Program} {l : Launch} {e : Env} {s : State} {m : MethodId} {args : Array Value} {below : List Frame} {meth : Method} {c : Code} {D : va_G} {ad : Ky → Nat} {cy : Nat → ClassId} {r : Int32} {gq : GS} {N : Nat} (X : Cx p (rmd 6) s m args meth c RX8 cX8_lets 10 (some .int) D ad cy) (z1 : Int32) (z2 : Int32) (z3 : Int32) (z4 : Int32) : ∀ (n : Nat) (y5 : Int32) (y6 : Int32) (y7 : Int32) (g : GS) (y5' : Int32) (y6' : Int32) (y7' : Int32) (g' : GS), L_X8_lets_65 N z1 z2 z3 z4 n y5 y6 y7 g = some (y5', y6', y7', g') → Vy p l e (rmd 6) s m args below meth c 10 D ad cy (QI D ad cy below args s r gq) 218 [some (.ref (ad (8, 0, 0))), some (.int z1), some (.int z2), some (.int z3), some (.int z4), some (.int y5'), some (.int y6'), some (.int y7'), none, none] [] g' → Vy p l e (rmd 6) s m args below meth c 10 D ad cy (QI D ad cy below args s r gq) 65 [some (.ref (ad (8, 0, 0))), some (.int z1), some (.int z2), some (.int z3), some (.int z4), some (.int y5), some (.int y6), some (.int y7), none, none] [] g := by
  intro n
  induction n with
  | zero => intro y5 y6 y7 g y5' y6' y7' g' h k; cases h
  | succ n ih =>
    intro y5 y6 y7 g y5' y6' y7' g' h k
    rw [L_X8_lets_65] at h
    refine v_iload X dX8_lets_65 rfl ?_
    refine v_iload X dX8_lets_67 rfl ?_
    refine v_icmp_ge X 218 dX8_lets_69 (by decide) (fun c14 => ?_) (fun c14 => ?_)
    · replace h := (if_pos c14).symm.trans h
      cases h
      exact k
    · replace h := (if_neg c14).symm.trans h
      refine v_aloadn X dX8_lets_72 rfl rfl ?_
      obtain ⟨g16, q15, h⟩ := bd1_some h
      refine v_callVV (As := []) (rest := []) X (c_X8_layThen l D ad cy X.2.2.2.2.2.2.2.2.1 N  g g16  q15) mw_X8_layThen ml_X8_232 (by decide) (by decide +kernel) (by decide) rfl rfl rfl rfl (Nat.le_of_ble_eq_true rfl) dX8_lets_73 ?_
      refine v_iconst (v := 0) X dX8_lets_76 (by decide) ?_
      refine v_istore (lc' := [some (.ref (ad (8, 0, 0))), some (.int z1), some (.int z2), some (.int z3), some (.int z4), some (.int y5), some (.int y6), some (.int y7), some (.int (0 : Int32)), none]) X dX8_lets_77 (by decide) rfl rfl ?_
      obtain ⟨x43, g44, q45, h⟩ := bd2_some h
      refine w_X8_lets_79 X z1 z2 z3 z4 y5 y6 y7 N (0 : Int32) g16 x43 g44 q45 ?_
      refine v_aloadn X dX8_lets_172 rfl rfl ?_
      refine gf_X8_25 X dX8_lets_173 ?_
      refine v_iloadn X dX8_lets_176 rfl rfl ?_
      obtain ⟨r48, g47, q46, h⟩ := bd2_some h
      refine v_callSI (As := [.ref (ad (9, 11, 7)), .int z1]) (rest := []) X (c_X8_isUp l D ad cy X.2.2.2.2.2.2.2.2.1 N 7 z1 g44 r48 g47 (by decide +kernel) q46) mw_X8_isUp ml_X8_159 (by decide) rfl rfl (Nat.le_of_ble_eq_true rfl) dX8_lets_177 ?_
      refine v_if_eq X 212 dX8_lets_180 (by decide) (fun c49 => ?_) (fun c49 => ?_)
      · replace h := (if_pos c49).symm.trans h
        refine v_iinc (v := (y7 + 1)) (lc' := [some (.ref (ad (8, 0, 0))), some (.int z1), some (.int z2), some (.int z3), some (.int z4), some (.int y5), some (.int y6), some (.int (y7 + 1)), some (.int x43), none]) X dX8_lets_212 rfl rfl (by decide) rfl rfl ?_
        refine v_goto X 65 dX8_lets_215 (by decide) ?_
        refine v_weak (lc2 := [some (.ref (ad (8, 0, 0))), some (.int z1), some (.int z2), some (.int z3), some (.int z4), some (.int y5), some (.int y6), some (.int (y7 + 1)), none, none]) ⟨rfl, rfl, rfl, rfl, rfl, rfl, rfl, rfl, trivial⟩ ?_
        exact ih y5 y6 (y7 + 1) g47 _ _ _ _ h k
      · replace h := (if_neg c49).symm.trans h
        refine v_aloadn X dX8_lets_183 rfl rfl ?_
        refine gf_X8_25 X dX8_lets_184 ?_
        refine v_iloadn X dX8_lets_187 rfl rfl ?_
        refine v_iconst (v := 4) X dX8_lets_188 (by decide) ?_
        obtain ⟨r52, g51, q50, h⟩ := bd2_some h
        refine v_callSI (As := [.ref (ad (9, 11, 7)), .int z1, .int (4 : Int32)]) (rest := []) X (c_X8_of l D ad cy X.2.2.2.2.2.2.2.2.1 N 7 z1 (4 : Int32) g47 r52 g51 (by decide +kernel) q50) mw_X8_of ml_X8_155 (by decide) rfl rfl (Nat.le_of_ble_eq_true rfl) dX8_lets_189 ?_
        refine v_iload X dX8_lets_192 rfl ?_
        refine v_icmp_le X 212 dX8_lets_194 (by decide) (fun c53 => ?_) (fun c53 => ?_)
        · replace h := (if_pos c53).symm.trans h
          refine v_iinc (v := (y7 + 1)) (lc' := [some (.ref (ad (8, 0, 0))), some (.int z1), some (.int z2), some (.int z3), some (.int z4), some (.int y5), some (.int y6), some (.int (y7 + 1)), some (.int x43), none]) X dX8_lets_212 rfl rfl (by decide) rfl rfl ?_
          refine v_goto X 65 dX8_lets_215 (by decide) ?_
          refine v_weak (lc2 := [some (.ref (ad (8, 0, 0))), some (.int z1), some (.int z2), some (.int z3), some (.int z4), some (.int y5), some (.int y6), some (.int (y7 + 1)), none, none]) ⟨rfl, rfl, rfl, rfl, rfl, rfl, rfl, rfl, trivial⟩ ?_
          exact ih y5 y6 (y7 + 1) g51 _ _ _ _ h k
        · replace h := (if_neg c53).symm.trans h
          refine v_aloadn X dX8_lets_197 rfl rfl ?_
          refine gf_X8_25 X dX8_lets_198 ?_
          refine v_iloadn X dX8_lets_201 rfl rfl ?_
          refine v_iconst (v := 4) X dX8_lets_202 (by decide) ?_
          obtain ⟨r56, g55, q54, h⟩ := bd2_some h
          refine v_callSI (As := [.ref (ad (9, 11, 7)), .int z1, .int (4 : Int32)]) (rest := []) X (c_X8_of l D ad cy X.2.2.2.2.2.2.2.2.1 N 7 z1 (4 : Int32) g51 r56 g55 (by decide +kernel) q54) mw_X8_of ml_X8_155 (by decide) rfl rfl (Nat.le_of_ble_eq_true rfl) dX8_lets_203 ?_
          refine v_istore (lc' := [some (.ref (ad (8, 0, 0))), some (.int z1), some (.int z2), some (.int z3), some (.int z4), some (.int y5), some (.int r56), some (.int y7), some (.int x43), none]) X dX8_lets_206 (by decide) rfl rfl ?_
          refine v_iload X dX8_lets_208 rfl ?_
          refine v_istore (lc' := [some (.ref (ad (8, 0, 0))), some (.int z1), some (.int z2), some (.int z3), some (.int z4), some (.int y7), some (.int r56), some (.int y7), some (.int x43), none]) X dX8_lets_210 (by decide) rfl rfl ?_
          refine v_iinc (v := (y7 + 1)) (lc' := [some (.ref (ad (8, 0, 0))), some (.int z1), some (.int z2), some (.int z3), some (.int z4), some (.int y7), some (.int r56), some (.int (y7 + 1)), some (.int x43), none]) X dX8_lets_212 rfl rfl (by decide) rfl rfl ?_
          refine v_goto X 65 dX8_lets_215 (by decide) ?_
          refine v_weak (lc2 := [some (.ref (ad (8, 0, 0))), some (.int z1), some (.int z2), some (.int z3), some (.int z4), some (.int y7), some (.int r56), some (.int (y7 + 1)), none, none]) ⟨rfl, rfl, rfl, rfl, rfl, rfl, rfl, rfl, trivial⟩ ?_
          exact ih y7 r56 (y7 + 1) g55 _ _ _ _ h k
set_option maxRecDepth 100000 in
set_option maxHeartbeats 4000000 in
theorem c_X8_lets (l : Launch) (D : va_G) (ad : Ky → Nat) (cy : Nat → ClassId) (hI : Inj ad) (N : Nat) (x1 : Int32) (x2 : Int32) (x3 : Int32) (g : GS) (r : Int32) (gq : GS) (h : F_X8_lets N x1 x2 x3 g = some (r, gq)) : CtI l D ad cy yX8_lets cX8_lets 10 (some .int) 6 [.ref (ad (8, 0, 0)), .int x1, .int x2, .int x3] g r gq := by
  refine CtI.of 6 hI (by decide +kernel) rfl (Nat.le_of_ble_eq_true rfl) (fun p e s m args below meth c X => ?_)
  unfold F_X8_lets at h
  show Vy _ _ _ _ _ _ _ _ _ _ _ _ _ _ _ 0 [some (.ref (ad (8, 0, 0))), some (.int x1), some (.int x2), some (.int x3), none, none, none, none, none, none] [] g
  refine v_aloadn X dX8_lets_0 rfl rfl ?_
  refine v_iconst (v := 0) X dX8_lets_1 (by decide) ?_
  refine pf_X8_50 X dX8_lets_2 ?_
  refine v_aloadn X dX8_lets_5 rfl rfl ?_
  refine v_iloadn X dX8_lets_6 rfl rfl ?_
  obtain ⟨r3, g2, q1, h⟩ := bd2_some h
  refine v_callVI (As := [.int x1]) (rest := []) X (c_X8_isPaper l D ad cy X.2.2.2.2.2.2.2.2.1 N x1 (g3 g 10 0 0 (0 : Int32)) r3 g2  q1) mw_X8_isPaper ml_X8_208 (by decide) (by decide +kernel) (by decide) rfl rfl rfl rfl (Nat.le_of_ble_eq_true rfl) dX8_lets_7 ?_
  refine v_if_eq X 30 dX8_lets_10 (by decide) (fun c4 => ?_) (fun c4 => ?_)
  · replace h := (if_pos c4).symm.trans h
    refine v_ldc X kc_X8_70 dX8_lets_30 ?_
    cases h
    exact v_iret X dX8_lets_32 rfl rfl
  · replace h := (if_neg c4).symm.trans h
    refine v_iloadn X dX8_lets_13 rfl rfl ?_
    refine v_i2l X dX8_lets_14 ?_
    refine v_lconst (v := 1) X dX8_lets_15 (by decide) ?_
    refine v_ldc2 X kl_X8_247 dX8_lets_16 ?_
    obtain ⟨r7, g6, q5, h⟩ := bd2_some h
    refine v_callSI (As := [.long (x2.toInt64), .long (1 : Int64), .long (4 : Int64)]) (rest := []) X (c_X8_in l D ad cy X.2.2.2.2.2.2.2.2.1 N (x2.toInt64) (1 : Int64) (4 : Int64) g2 r7 g6  q5) mw_X8_in ml_X8_60 (by decide) rfl rfl (Nat.le_of_ble_eq_true rfl) dX8_lets_19 ?_
    refine v_if_eq X 30 dX8_lets_22 (by decide) (fun c8 => ?_) (fun c8 => ?_)
    · replace h := (if_pos c8).symm.trans h
      refine v_ldc X kc_X8_70 dX8_lets_30 ?_
      cases h
      exact v_iret X dX8_lets_32 rfl rfl
    · replace h := (if_neg c8).symm.trans h
      refine v_iloadn X dX8_lets_25 rfl rfl ?_
      refine v_iconst (v := -1) X dX8_lets_26 (by decide) ?_
      refine v_icmp_ge X 33 dX8_lets_27 (by decide) (fun c9 => ?_) (fun c9 => ?_)
      · replace h := (if_pos c9).symm.trans h
        refine v_aloadn X dX8_lets_33 rfl rfl ?_
        refine gf_X8_19 X dX8_lets_34 ?_
        refine v_iloadn X dX8_lets_37 rfl rfl ?_
        obtain ⟨r12, g11, q10, h⟩ := bd2_some h
        refine v_callSI (As := [.ref (ad (9, 11, 5)), .int x1]) (rest := []) X (c_X8_isUp l D ad cy X.2.2.2.2.2.2.2.2.1 N 5 x1 g6 r12 g11 (by decide +kernel) q10) mw_X8_isUp ml_X8_159 (by decide) rfl rfl (Nat.le_of_ble_eq_true rfl) dX8_lets_38 ?_
        refine v_if_ne X 47 dX8_lets_41 (by decide) (fun c13 => ?_) (fun c13 => ?_)
        · replace h := (if_neg c13).symm.trans h
          refine v_iconst (v := 1) X dX8_lets_47 (by decide) ?_
          refine v_iconst (v := 2) X dX8_lets_48 (by decide) ?_
          refine v_iloadn X dX8_lets_49 rfl rfl ?_
          refine v_imul X dX8_lets_50 ?_
          refine v_ishl X dX8_lets_51 ?_
          refine v_istore (lc' := [some (.ref (ad (8, 0, 0))), some (.int x1), some (.int x2), some (.int x3), some (.int ((1 : Int32) <<< (((2 : Int32) * x2) &&& 31))), none, none, none, none, none]) X dX8_lets_52 (by decide) rfl rfl ?_
          refine v_ldc X kc_X8_93 dX8_lets_54 ?_
          refine v_istore (lc' := [some (.ref (ad (8, 0, 0))), some (.int x1), some (.int x2), some (.int x3), some (.int ((1 : Int32) <<< (((2 : Int32) * x2) &&& 31))), some (.int (-1000000 : Int32)), none, none, none, none]) X dX8_lets_56 (by decide) rfl rfl ?_
          refine v_ldc X kc_X8_93 dX8_lets_58 ?_
          refine v_istore (lc' := [some (.ref (ad (8, 0, 0))), some (.int x1), some (.int x2), some (.int x3), some (.int ((1 : Int32) <<< (((2 : Int32) * x2) &&& 31))), some (.int (-1000000 : Int32)), some (.int (-1000000 : Int32)), none, none, none]) X dX8_lets_60 (by decide) rfl rfl ?_
          refine v_iconst (v := 0) X dX8_lets_62 (by decide) ?_
          refine v_istore (lc' := [some (.ref (ad (8, 0, 0))), some (.int x1), some (.int x2), some (.int x3), some (.int ((1 : Int32) <<< (((2 : Int32) * x2) &&& 31))), some (.int (-1000000 : Int32)), some (.int (-1000000 : Int32)), some (.int (0 : Int32)), none, none]) X dX8_lets_63 (by decide) rfl rfl ?_
          obtain ⟨x57, x58, x59, g60, q61, h⟩ := bd4_some h
          refine w_X8_lets_65 X x1 x2 x3 ((1 : Int32) <<< (((2 : Int32) * x2) &&& 31)) N (-1000000 : Int32) (-1000000 : Int32) (0 : Int32) g11 x57 x58 x59 g60 q61 ?_
          refine v_iload X dX8_lets_218 rfl ?_
          refine v_ldc X kc_X8_93 dX8_lets_220 ?_
          refine v_icmp_eq X 230 dX8_lets_222 (by decide) (fun c62 => ?_) (fun c62 => ?_)
          · replace h := (if_pos c62).symm.trans h
            refine v_iload X dX8_lets_230 rfl ?_
            refine v_goto X 257 dX8_lets_232 (by decide) ?_
            cases h
            exact v_iret X dX8_lets_257 rfl rfl
          · replace h := (if_neg c62).symm.trans h
            refine v_iloadn X dX8_lets_225 rfl rfl ?_
            refine v_iconst (v := -1) X dX8_lets_226 (by decide) ?_
            refine v_icmp_ne X 235 dX8_lets_227 (by decide) (fun c63 => ?_) (fun c63 => ?_)
            · replace h := (if_neg c63).symm.trans h
              refine v_iloadn X dX8_lets_235 rfl rfl ?_
              refine v_iloadn X dX8_lets_236 rfl rfl ?_
              refine v_icmp_ge X 255 dX8_lets_237 (by decide) (fun c64 => ?_) (fun c64 => ?_)
              · replace h := (if_pos c64).symm.trans h
                refine v_ldc X kc_X8_93 dX8_lets_255 ?_
                cases h
                exact v_iret X dX8_lets_257 rfl rfl
              · replace h := (if_neg c64).symm.trans h
                refine v_iload X dX8_lets_240 rfl ?_
                refine v_iconst (v := 2) X dX8_lets_242 (by decide) ?_
                refine v_iloadn X dX8_lets_243 rfl rfl ?_
                refine v_iconst (v := 1) X dX8_lets_244 (by decide) ?_
                refine v_isub X dX8_lets_245 ?_
                refine v_iloadn X dX8_lets_246 rfl rfl ?_
                refine v_isub X dX8_lets_247 ?_
                refine v_imul X dX8_lets_248 ?_
                refine v_ishr X dX8_lets_249 ?_
                refine v_iconst (v := 3) X dX8_lets_250 (by decide) ?_
                refine v_iand X dX8_lets_251 ?_
                refine v_goto X 257 dX8_lets_252 (by decide) ?_
                cases h
                exact v_iret X dX8_lets_257 rfl rfl
            · replace h := (if_pos c63).symm.trans h
              refine v_iload X dX8_lets_230 rfl ?_
              refine v_goto X 257 dX8_lets_232 (by decide) ?_
              cases h
              exact v_iret X dX8_lets_257 rfl rfl
        · replace h := (if_pos c13).symm.trans h
          refine v_ldc X kc_X8_198 dX8_lets_44 ?_
          cases h
          exact v_iret X dX8_lets_46 rfl rfl
      · replace h := (if_neg c9).symm.trans h
        refine v_ldc X kc_X8_70 dX8_lets_30 ?_
        cases h
        exact v_iret X dX8_lets_32 rfl rfl
def L_X8_light_31 (N : Nat) (z1 : Int32) (z2 : Int32) : Nat → Int32 → GS → Option ((Int32 × GS) ⊕ (Int32 × GS))
  | 0, _, _ => none
  | n + 1, y3, g => if y3 ≤ 0 then some (.inr (y3, g)) else bd1 (F_X8_layThen N  g) (fun g11 => bd1 (F_X8_be N 7 z1 (2 : Int32) y3 g11) (fun g13 => bd1 (F_X8_hoursOf N 7 z2 g13) (fun g15 => bd2 (F_X8_isPolicy N 7 z1 g15) (fun r18 g17 => if r18 = 0 then L_X8_light_31 N z1 z2 n (y3 + (-1)) g17 else some (.inl (y3, g17))))))
def F_X8_light (N : Nat) (x1 : Int32) (x2 : Int32) (g : GS) : Option (Int32 × GS) := bd2 (F_X8_isPaper N x1 (g3 g 10 0 0 (0 : Int32))) (fun r3 g2 => if r3 = 0 then some ((-1000001 : Int32), g2) else bd2 (F_X8_in N (x2.toInt64) (1 : Int64) (30 : Int64) g2) (fun r7 g6 => if r7 = 0 then some ((-1000001 : Int32), g6) else bs2 (L_X8_light_31 N x1 x2 N (60 : Int32) g6) (fun r23 g24 => some (r23, g24)) (fun x20 g21 => some ((-1000000 : Int32), g21))))
set_option maxRecDepth 100000 in
set_option maxHeartbeats 4000000 in
theorem w_X8_light_31 {p : Program} {l : Launch} {e : Env} {s : State} {m : MethodId} {args : Array Value} {below : List Frame} {meth : Method} {c : Code} {D : va_G} {ad : Ky → Nat} {cy : Nat → ClassId} {r : Int32} {gq : GS} {N : Nat} (X : Cx p (rmd 7) s m args meth c RX8 cX8_light 4 (some .int) D ad cy) (z1 : Int32) (z2 : Int32) : ∀ (n : Nat) (y3 : Int32) (g : GS) (res : _), L_X8_light_31 N z1 z2 n y3 g = some res → (∀ (r1 : Int32) (g1 : GS), res = .inl (r1, g1) → r1 = r ∧ g1 = gq) → (∀ (y3' : Int32) (g' : GS), res = .inr (y3', g') → Vy p l e (rmd 7) s m args below meth c 4 D ad cy (QI D ad cy below args s r gq) 77 [some (.ref (ad (8, 0, 0))), some (.int z1), some (.int z2), some (.int y3')] [] g') → Vy p l e (rmd 7) s m args below meth c 4 D ad cy (QI D ad cy below args s r gq) 31 [some (.ref (ad (8, 0, 0))), some (.int z1), some (.int z2), some (.int y3)] [] g := by
  intro n
  induction n with
  | zero => intro y3 g res h kr k; cases h
  | succ n ih =>
    intro y3 g res h kr k
    rw [L_X8_light_31] at h
    refine v_iloadn X dX8_light_31 rfl rfl ?_
    refine v_if_le X 77 dX8_light_32 (by decide) (fun c9 => ?_) (fun c9 => ?_)
    · replace h := (if_pos c9).symm.trans h
      cases h
      exact k _ _ rfl
    · replace h := (if_neg c9).symm.trans h
      refine v_aloadn X dX8_light_35 rfl rfl ?_
      obtain ⟨g11, q10, h⟩ := bd1_some h
      refine v_callVV (As := []) (rest := []) X (c_X8_layThen l D ad cy X.2.2.2.2.2.2.2.2.1 N  g g11  q10) mw_X8_layThen ml_X8_232 (by decide) (by decide +kernel) (by decide) rfl rfl rfl rfl (Nat.le_of_ble_eq_true rfl) dX8_light_36 ?_
      refine v_aloadn X dX8_light_39 rfl rfl ?_
      refine gf_X8_25 X dX8_light_40 ?_
      refine v_iloadn X dX8_light_43 rfl rfl ?_
      refine v_iconst (v := 2) X dX8_light_44 (by decide) ?_
      refine v_iloadn X dX8_light_45 rfl rfl ?_
      obtain ⟨g13, q12, h⟩ := bd1_some h
      refine v_callSV (As := [.ref (ad (9, 11, 7)), .int z1, .int (2 : Int32), .int y3]) (rest := []) X (c_X8_be l D ad cy X.2.2.2.2.2.2.2.2.1 N 7 z1 (2 : Int32) y3 g11 g13 (by decide +kernel) q12) mw_X8_be ml_X8_170 (by decide) rfl rfl (Nat.le_of_ble_eq_true rfl) dX8_light_46 ?_
      refine v_aloadn X dX8_light_49 rfl rfl ?_
      refine v_aloadn X dX8_light_50 rfl rfl ?_
      refine gf_X8_25 X dX8_light_51 ?_
      refine v_iloadn X dX8_light_54 rfl rfl ?_
      obtain ⟨g15, q14, h⟩ := bd1_some h
      refine v_callVV (As := [.ref (ad (9, 11, 7)), .int z2]) (rest := []) X (c_X8_hoursOf l D ad cy X.2.2.2.2.2.2.2.2.1 N 7 z2 g13 g15 (by decide +kernel) q14) mw_X8_hoursOf ml_X8_235 (by decide) (by decide +kernel) (by decide) rfl rfl rfl rfl (Nat.le_of_ble_eq_true rfl) dX8_light_55 ?_
      refine v_aloadn X dX8_light_58 rfl rfl ?_
      refine gf_X8_25 X dX8_light_59 ?_
      refine v_iloadn X dX8_light_62 rfl rfl ?_
      obtain ⟨r18, g17, q16, h⟩ := bd2_some h
      refine v_callSI (As := [.ref (ad (9, 11, 7)), .int z1]) (rest := []) X (c_X8_isPolicy l D ad cy X.2.2.2.2.2.2.2.2.1 N 7 z1 g15 r18 g17 (by decide +kernel) q16) mw_X8_isPolicy ml_X8_192 (by decide) rfl rfl (Nat.le_of_ble_eq_true rfl) dX8_light_63 ?_
      refine v_if_eq X 71 dX8_light_66 (by decide) (fun c19 => ?_) (fun c19 => ?_)
      · replace h := (if_pos c19).symm.trans h
        refine v_iinc (v := (y3 + (-1))) (lc' := [some (.ref (ad (8, 0, 0))), some (.int z1), some (.int z2), some (.int (y3 + (-1)))]) X dX8_light_71 rfl rfl (by decide) rfl rfl ?_
        refine v_goto X 31 dX8_light_74 (by decide) ?_
        exact ih (y3 + (-1)) g17 _ h kr k
      · replace h := (if_neg c19).symm.trans h
        refine v_iloadn X dX8_light_69 rfl rfl ?_
        cases h
        obtain ⟨er, eg⟩ := kr _ _ rfl
        exact v_iret X dX8_light_70 er eg
set_option maxRecDepth 100000 in
set_option maxHeartbeats 4000000 in
theorem c_X8_light (l : Launch) (D : va_G) (ad : Ky → Nat) (cy : Nat → ClassId) (hI : Inj ad) (N : Nat) (x1 : Int32) (x2 : Int32) (g : GS) (r : Int32) (gq : GS) (h : F_X8_light N x1 x2 g = some (r, gq)) : CtI l D ad cy yX8_light cX8_light 4 (some .int) 7 [.ref (ad (8, 0, 0)), .int x1, .int x2] g r gq := by
  refine CtI.of 1 hI (by decide +kernel) rfl (Nat.le_of_ble_eq_true rfl) (fun p e s m args below meth c X => ?_)
  unfold F_X8_light at h
  show Vy _ _ _ _ _ _ _ _ _ _ _ _ _ _ _ 0 [some (.ref (ad (8, 0, 0))), some (.int x1), some (.int x2), none] [] g
  refine v_aloadn X dX8_light_0 rfl rfl ?_
  refine v_iconst (v := 0) X dX8_light_1 (by decide) ?_
  refine pf_X8_50 X dX8_light_2 ?_
  refine v_aloadn X dX8_light_5 rfl rfl ?_
  refine v_iloadn X dX8_light_6 rfl rfl ?_
  obtain ⟨r3, g2, q1, h⟩ := bd2_some h
  refine v_callVI (As := [.int x1]) (rest := []) X (c_X8_isPaper l D ad cy X.2.2.2.2.2.2.2.2.1 N x1 (g3 g 10 0 0 (0 : Int32)) r3 g2  q1) mw_X8_isPaper ml_X8_208 (by decide) (by decide +kernel) (by decide) rfl rfl rfl rfl (Nat.le_of_ble_eq_true rfl) dX8_light_7 ?_
  refine v_if_eq X 25 dX8_light_10 (by decide) (fun c4 => ?_) (fun c4 => ?_)
  · replace h := (if_pos c4).symm.trans h
    refine v_ldc X kc_X8_70 dX8_light_25 ?_
    cases h
    exact v_iret X dX8_light_27 rfl rfl
  · replace h := (if_neg c4).symm.trans h
    refine v_iloadn X dX8_light_13 rfl rfl ?_
    refine v_i2l X dX8_light_14 ?_
    refine v_lconst (v := 1) X dX8_light_15 (by decide) ?_
    refine v_ldc2 X kl_X8_238 dX8_light_16 ?_
    obtain ⟨r7, g6, q5, h⟩ := bd2_some h
    refine v_callSI (As := [.long (x2.toInt64), .long (1 : Int64), .long (30 : Int64)]) (rest := []) X (c_X8_in l D ad cy X.2.2.2.2.2.2.2.2.1 N (x2.toInt64) (1 : Int64) (30 : Int64) g2 r7 g6  q5) mw_X8_in ml_X8_60 (by decide) rfl rfl (Nat.le_of_ble_eq_true rfl) dX8_light_19 ?_
    refine v_if_ne X 28 dX8_light_22 (by decide) (fun c8 => ?_) (fun c8 => ?_)
    · replace h := (if_neg c8).symm.trans h
      refine v_bipush (v := 60) X dX8_light_28 (by decide) ?_
      refine v_istoren (lc' := [some (.ref (ad (8, 0, 0))), some (.int x1), some (.int x2), some (.int (60 : Int32))]) X dX8_light_30 rfl (by decide) rfl rfl ?_
      obtain ⟨z25, q22, h⟩ := bs2_some h
      refine w_X8_light_31 X x1 x2 N (60 : Int32) g6 _ q22 ?_ ?_
      · intro r23 g24 e1
        subst e1
        dsimp only at h
        cases h
        exact ⟨rfl, rfl⟩
      · intro x20 g21 e1
        subst e1
        dsimp only at h
        refine v_ldc X kc_X8_93 dX8_light_77 ?_
        cases h
        exact v_iret X dX8_light_79 rfl rfl
    · replace h := (if_pos c8).symm.trans h
      refine v_ldc X kc_X8_70 dX8_light_25 ?_
      cases h
      exact v_iret X dX8_light_27 rfl rfl
def F_X8_must (N : Nat) (x1 : Int32) (g : GS) : Option GS := if x1 = 0 then bd1 (F_X8_bad N (1 : Int32) g) (fun g6 => if (g6 10 0 17) = 0 then bd1 (F_X8_nextToken N  g6) (fun g9 => some g9) else some g6) else if (g 10 0 17) = 0 then bd1 (F_X8_nextToken N  g) (fun g4 => some g4) else some g
set_option maxRecDepth 100000 in
set_option maxHeartbeats 4000000 in
theorem c_X8_must (l : Launch) (D : va_G) (ad : Ky → Nat) (cy : Nat → ClassId) (hI : Inj ad) (N : Nat) (x1 : Int32) (g : GS) (gq : GS) (h : F_X8_must N x1 g = some gq) : CtV l D ad cy yX8_must cX8_must 2 2 [.ref (ad (8, 0, 0)), .int x1] g gq := by
  refine CtV.of 0 hI (by decide +kernel) rfl (Nat.le_of_ble_eq_true rfl) (fun p e s m args below meth c X => ?_)
  unfold F_X8_must at h
  show Vy _ _ _ _ _ _ _ _ _ _ _ _ _ _ _ 0 [some (.ref (ad (8, 0, 0))), some (.int x1)] [] g
  refine v_iloadn X dX8_must_0 rfl rfl ?_
  refine v_if_ne X 9 dX8_must_1 (by decide) (fun c1 => ?_) (fun c1 => ?_)
  · replace h := (if_neg c1).symm.trans h
    refine v_aloadn X dX8_must_9 rfl rfl ?_
    refine gf_X8_81 X dX8_must_10 ?_
    refine v_if_ne X 20 dX8_must_13 (by decide) (fun c2 => ?_) (fun c2 => ?_)
    · replace h := (if_neg c2).symm.trans h
      cases h
      exact v_vret X dX8_must_20 rfl
    · replace h := (if_pos c2).symm.trans h
      refine v_aloadn X dX8_must_16 rfl rfl ?_
      obtain ⟨g4, q3, h⟩ := bd1_some h
      refine v_callVV (As := []) (rest := []) X (c_X8_nextToken l D ad cy X.2.2.2.2.2.2.2.2.1 N  g g4  q3) mw_X8_nextToken ml_X8_112 (by decide) (by decide +kernel) (by decide) rfl rfl rfl rfl (Nat.le_of_ble_eq_true rfl) dX8_must_17 ?_
      cases h
      exact v_vret X dX8_must_20 rfl
  · replace h := (if_pos c1).symm.trans h
    refine v_aloadn X dX8_must_4 rfl rfl ?_
    refine v_iconst (v := 1) X dX8_must_5 (by decide) ?_
    obtain ⟨g6, q5, h⟩ := bd1_some h
    refine v_callVV (As := [.int (1 : Int32)]) (rest := []) X (c_X8_bad l D ad cy X.2.2.2.2.2.2.2.2.1 N (1 : Int32) g g6  q5) mw_X8_bad ml_X8_108 (by decide) (by decide +kernel) (by decide) rfl rfl rfl rfl (Nat.le_of_ble_eq_true rfl) dX8_must_6 ?_
    refine v_aloadn X dX8_must_9 rfl rfl ?_
    refine gf_X8_81 X dX8_must_10 ?_
    refine v_if_ne X 20 dX8_must_13 (by decide) (fun c7 => ?_) (fun c7 => ?_)
    · replace h := (if_neg c7).symm.trans h
      cases h
      exact v_vret X dX8_must_20 rfl
    · replace h := (if_pos c7).symm.trans h
      refine v_aloadn X dX8_must_16 rfl rfl ?_
      obtain ⟨g9, q8, h⟩ := bd1_some h
      refine v_callVV (As := []) (rest := []) X (c_X8_nextToken l D ad cy X.2.2.2.2.2.2.2.2.1 N  g6 g9  q8) mw_X8_nextToken ml_X8_112 (by decide) (by decide +kernel) (by decide) rfl rfl rfl rfl (Nat.le_of_ble_eq_true rfl) dX8_must_17 ?_
      cases h
      exact v_vret X dX8_must_20 rfl
def F_X8_mustSign (N : Nat) (x1 : Int32) (g : GS) : Option GS := if (g 10 0 15) = (4 : Int32) then if (g 10 0 16) = x1 then bd1 (F_X8_must N (1 : Int32) g) (fun g8 => some g8) else bd1 (F_X8_must N (0 : Int32) g) (fun g6 => some g6) else bd1 (F_X8_must N (0 : Int32) g) (fun g3 => some g3)
set_option maxRecDepth 100000 in
set_option maxHeartbeats 4000000 in
theorem c_X8_mustSign (l : Launch) (D : va_G) (ad : Ky → Nat) (cy : Nat → ClassId) (hI : Inj ad) (N : Nat) (x1 : Int32) (g : GS) (gq : GS) (h : F_X8_mustSign N x1 g = some gq) : CtV l D ad cy yX8_mustSign cX8_mustSign 2 3 [.ref (ad (8, 0, 0)), .int x1] g gq := by
  refine CtV.of 0 hI (by decide +kernel) rfl (Nat.le_of_ble_eq_true rfl) (fun p e s m args below meth c X => ?_)
  unfold F_X8_mustSign at h
  show Vy _ _ _ _ _ _ _ _ _ _ _ _ _ _ _ 0 [some (.ref (ad (8, 0, 0))), some (.int x1)] [] g
  refine v_aloadn X dX8_mustSign_0 rfl rfl ?_
  refine v_aloadn X dX8_mustSign_1 rfl rfl ?_
  refine gf_X8_105 X dX8_mustSign_2 ?_
  refine v_iconst (v := 4) X dX8_mustSign_5 (by decide) ?_
  refine v_icmp_ne X 21 dX8_mustSign_6 (by decide) (fun c1 => ?_) (fun c1 => ?_)
  · replace h := (if_neg c1).symm.trans h
    refine v_iconst (v := 0) X dX8_mustSign_21 (by decide) ?_
    obtain ⟨g3, q2, h⟩ := bd1_some h
    refine v_callVV (As := [.int (0 : Int32)]) (rest := []) X (c_X8_must l D ad cy X.2.2.2.2.2.2.2.2.1 N (0 : Int32) g g3  q2) mw_X8_must ml_X8_115 (by decide) (by decide +kernel) (by decide) rfl rfl rfl rfl (Nat.le_of_ble_eq_true rfl) dX8_mustSign_22 ?_
    cases h
    exact v_vret X dX8_mustSign_25 rfl
  · replace h := (if_pos c1).symm.trans h
    refine v_aloadn X dX8_mustSign_9 rfl rfl ?_
    refine gf_X8_94 X dX8_mustSign_10 ?_
    refine v_iloadn X dX8_mustSign_13 rfl rfl ?_
    refine v_icmp_ne X 21 dX8_mustSign_14 (by decide) (fun c4 => ?_) (fun c4 => ?_)
    · replace h := (if_neg c4).symm.trans h
      refine v_iconst (v := 0) X dX8_mustSign_21 (by decide) ?_
      obtain ⟨g6, q5, h⟩ := bd1_some h
      refine v_callVV (As := [.int (0 : Int32)]) (rest := []) X (c_X8_must l D ad cy X.2.2.2.2.2.2.2.2.1 N (0 : Int32) g g6  q5) mw_X8_must ml_X8_115 (by decide) (by decide +kernel) (by decide) rfl rfl rfl rfl (Nat.le_of_ble_eq_true rfl) dX8_mustSign_22 ?_
      cases h
      exact v_vret X dX8_mustSign_25 rfl
    · replace h := (if_pos c4).symm.trans h
      refine v_iconst (v := 1) X dX8_mustSign_17 (by decide) ?_
      refine v_goto X 22 dX8_mustSign_18 (by decide) ?_
      obtain ⟨g8, q7, h⟩ := bd1_some h
      refine v_callVV (As := [.int (1 : Int32)]) (rest := []) X (c_X8_must l D ad cy X.2.2.2.2.2.2.2.2.1 N (1 : Int32) g g8  q7) mw_X8_must ml_X8_115 (by decide) (by decide +kernel) (by decide) rfl rfl rfl rfl (Nat.le_of_ble_eq_true rfl) dX8_mustSign_22 ?_
      cases h
      exact v_vret X dX8_mustSign_25 rfl
def F_X8_number (N : Nat) (x1 : Int32) (x2 : Int32) (g : GS) : Option (Int32 × GS) := if (g 10 0 17) = 0 then if (g 10 0 15) = (3 : Int32) then if (g 10 0 17) = 0 then bd2 (F_X8_in N ((g 10 0 16).toInt64) (x1.toInt64) (x2.toInt64) g) (fun r33 g32 => if r33 = 0 then bd1 (F_X8_bad N (2 : Int32) g32) (fun g41 => if (g41 10 0 17) = 0 then bd1 (F_X8_must N (1 : Int32) g41) (fun g46 => some ((g41 10 0 16), g46)) else bd1 (F_X8_must N (1 : Int32) g41) (fun g44 => some (x1, g44))) else if (g32 10 0 17) = 0 then bd1 (F_X8_must N (1 : Int32) g32) (fun g39 => some ((g32 10 0 16), g39)) else bd1 (F_X8_must N (1 : Int32) g32) (fun g37 => some (x1, g37))) else if (g 10 0 17) = 0 then bd1 (F_X8_must N (1 : Int32) g) (fun g30 => some ((g 10 0 16), g30)) else bd1 (F_X8_must N (1 : Int32) g) (fun g28 => some (x1, g28)) else bd1 (F_X8_bad N (1 : Int32) g) (fun g48 => if (g48 10 0 17) = 0 then bd2 (F_X8_in N ((g48 10 0 16).toInt64) (x1.toInt64) (x2.toInt64) g48) (fun r57 g56 => if r57 = 0 then bd1 (F_X8_bad N (2 : Int32) g56) (fun g65 => if (g65 10 0 17) = 0 then bd1 (F_X8_must N (1 : Int32) g65) (fun g70 => some ((g65 10 0 16), g70)) else bd1 (F_X8_must N (1 : Int32) g65) (fun g68 => some (x1, g68))) else if (g56 10 0 17) = 0 then bd1 (F_X8_must N (1 : Int32) g56) (fun g63 => some ((g56 10 0 16), g63)) else bd1 (F_X8_must N (1 : Int32) g56) (fun g61 => some (x1, g61))) else if (g48 10 0 17) = 0 then bd1 (F_X8_must N (1 : Int32) g48) (fun g54 => some ((g48 10 0 16), g54)) else bd1 (F_X8_must N (1 : Int32) g48) (fun g52 => some (x1, g52))) else if (g 10 0 17) = 0 then bd2 (F_X8_in N ((g 10 0 16).toInt64) (x1.toInt64) (x2.toInt64) g) (fun r10 g9 => if r10 = 0 then bd1 (F_X8_bad N (2 : Int32) g9) (fun g18 => if (g18 10 0 17) = 0 then bd1 (F_X8_must N (1 : Int32) g18) (fun g23 => some ((g18 10 0 16), g23)) else bd1 (F_X8_must N (1 : Int32) g18) (fun g21 => some (x1, g21))) else if (g9 10 0 17) = 0 then bd1 (F_X8_must N (1 : Int32) g9) (fun g16 => some ((g9 10 0 16), g16)) else bd1 (F_X8_must N (1 : Int32) g9) (fun g14 => some (x1, g14))) else if (g 10 0 17) = 0 then bd1 (F_X8_must N (1 : Int32) g) (fun g7 => some ((g 10 0 16), g7)) else bd1 (F_X8_must N (1 : Int32) g) (fun g5 => some (x1, g5))
set_option maxRecDepth 100000 in
set_option maxHeartbeats 4000000 in
theorem c_X8_number (l : Launch) (D : va_G) (ad : Ky → Nat) (cy : Nat → ClassId) (hI : Inj ad) (N : Nat) (x1 : Int32) (x2 : Int32) (g : GS) (r : Int32) (gq : GS) (h : F_X8_number N x1 x2 g = some (r, gq)) : CtI l D ad cy yX8_number cX8_number 4 (some .int) 3 [.ref (ad (8, 0, 0)), .int x1, .int x2] g r gq := by
  refine CtI.of 1 hI (by decide +kernel) rfl (Nat.le_of_ble_eq_true rfl) (fun p e s m args below meth c X => ?_)
  unfold F_X8_number at h
  show Vy _ _ _ _ _ _ _ _ _ _ _ _ _ _ _ 0 [some (.ref (ad (8, 0, 0))), some (.int x1), some (.int x2), none] [] g
  refine v_aloadn X dX8_number_0 rfl rfl ?_
  refine gf_X8_81 X dX8_number_1 ?_
  refine v_if_ne X 20 dX8_number_4 (by decide) (fun c1 => ?_) (fun c1 => ?_)
  · replace h := (if_neg c1).symm.trans h
    refine v_aloadn X dX8_number_20 rfl rfl ?_
    refine gf_X8_81 X dX8_number_21 ?_
    refine v_if_ne X 47 dX8_number_24 (by decide) (fun c2 => ?_) (fun c2 => ?_)
    · replace h := (if_neg c2).symm.trans h
      refine v_aloadn X dX8_number_47 rfl rfl ?_
      refine gf_X8_81 X dX8_number_48 ?_
      refine v_if_ne X 61 dX8_number_51 (by decide) (fun c3 => ?_) (fun c3 => ?_)
      · replace h := (if_neg c3).symm.trans h
        refine v_iloadn X dX8_number_61 rfl rfl ?_
        refine v_istoren (lc' := [some (.ref (ad (8, 0, 0))), some (.int x1), some (.int x2), some (.int x1)]) X dX8_number_62 rfl (by decide) rfl rfl ?_
        refine v_aloadn X dX8_number_63 rfl rfl ?_
        refine v_iconst (v := 1) X dX8_number_64 (by decide) ?_
        obtain ⟨g5, q4, h⟩ := bd1_some h
        refine v_callVV (As := [.int (1 : Int32)]) (rest := []) X (c_X8_must l D ad cy X.2.2.2.2.2.2.2.2.1 N (1 : Int32) g g5  q4) mw_X8_must ml_X8_115 (by decide) (by decide +kernel) (by decide) rfl rfl rfl rfl (Nat.le_of_ble_eq_true rfl) dX8_number_65 ?_
        refine v_iloadn X dX8_number_68 rfl rfl ?_
        cases h
        exact v_iret X dX8_number_69 rfl rfl
      · replace h := (if_pos c3).symm.trans h
        refine v_aloadn X dX8_number_54 rfl rfl ?_
        refine gf_X8_94 X dX8_number_55 ?_
        refine v_goto X 62 dX8_number_58 (by decide) ?_
        refine v_istoren (lc' := [some (.ref (ad (8, 0, 0))), some (.int x1), some (.int x2), some (.int (g 10 0 16))]) X dX8_number_62 rfl (by decide) rfl rfl ?_
        refine v_aloadn X dX8_number_63 rfl rfl ?_
        refine v_iconst (v := 1) X dX8_number_64 (by decide) ?_
        obtain ⟨g7, q6, h⟩ := bd1_some h
        refine v_callVV (As := [.int (1 : Int32)]) (rest := []) X (c_X8_must l D ad cy X.2.2.2.2.2.2.2.2.1 N (1 : Int32) g g7  q6) mw_X8_must ml_X8_115 (by decide) (by decide +kernel) (by decide) rfl rfl rfl rfl (Nat.le_of_ble_eq_true rfl) dX8_number_65 ?_
        refine v_iloadn X dX8_number_68 rfl rfl ?_
        cases h
        exact v_iret X dX8_number_69 rfl rfl
    · replace h := (if_pos c2).symm.trans h
      refine v_aloadn X dX8_number_27 rfl rfl ?_
      refine gf_X8_94 X dX8_number_28 ?_
      refine v_i2l X dX8_number_31 ?_
      refine v_iloadn X dX8_number_32 rfl rfl ?_
      refine v_i2l X dX8_number_33 ?_
      refine v_iloadn X dX8_number_34 rfl rfl ?_
      refine v_i2l X dX8_number_35 ?_
      obtain ⟨r10, g9, q8, h⟩ := bd2_some h
      refine v_callSI (As := [.long ((g 10 0 16).toInt64), .long (x1.toInt64), .long (x2.toInt64)]) (rest := []) X (c_X8_in l D ad cy X.2.2.2.2.2.2.2.2.1 N ((g 10 0 16).toInt64) (x1.toInt64) (x2.toInt64) g r10 g9  q8) mw_X8_in ml_X8_60 (by decide) rfl rfl (Nat.le_of_ble_eq_true rfl) dX8_number_36 ?_
      refine v_if_ne X 47 dX8_number_39 (by decide) (fun c11 => ?_) (fun c11 => ?_)
      · replace h := (if_neg c11).symm.trans h
        refine v_aloadn X dX8_number_47 rfl rfl ?_
        refine gf_X8_81 X dX8_number_48 ?_
        refine v_if_ne X 61 dX8_number_51 (by decide) (fun c12 => ?_) (fun c12 => ?_)
        · replace h := (if_neg c12).symm.trans h
          refine v_iloadn X dX8_number_61 rfl rfl ?_
          refine v_istoren (lc' := [some (.ref (ad (8, 0, 0))), some (.int x1), some (.int x2), some (.int x1)]) X dX8_number_62 rfl (by decide) rfl rfl ?_
          refine v_aloadn X dX8_number_63 rfl rfl ?_
          refine v_iconst (v := 1) X dX8_number_64 (by decide) ?_
          obtain ⟨g14, q13, h⟩ := bd1_some h
          refine v_callVV (As := [.int (1 : Int32)]) (rest := []) X (c_X8_must l D ad cy X.2.2.2.2.2.2.2.2.1 N (1 : Int32) g9 g14  q13) mw_X8_must ml_X8_115 (by decide) (by decide +kernel) (by decide) rfl rfl rfl rfl (Nat.le_of_ble_eq_true rfl) dX8_number_65 ?_
          refine v_iloadn X dX8_number_68 rfl rfl ?_
          cases h
          exact v_iret X dX8_number_69 rfl rfl
        · replace h := (if_pos c12).symm.trans h
          refine v_aloadn X dX8_number_54 rfl rfl ?_
          refine gf_X8_94 X dX8_number_55 ?_
          refine v_goto X 62 dX8_number_58 (by decide) ?_
          refine v_istoren (lc' := [some (.ref (ad (8, 0, 0))), some (.int x1), some (.int x2), some (.int (g9 10 0 16))]) X dX8_number_62 rfl (by decide) rfl rfl ?_
          refine v_aloadn X dX8_number_63 rfl rfl ?_
          refine v_iconst (v := 1) X dX8_number_64 (by decide) ?_
          obtain ⟨g16, q15, h⟩ := bd1_some h
          refine v_callVV (As := [.int (1 : Int32)]) (rest := []) X (c_X8_must l D ad cy X.2.2.2.2.2.2.2.2.1 N (1 : Int32) g9 g16  q15) mw_X8_must ml_X8_115 (by decide) (by decide +kernel) (by decide) rfl rfl rfl rfl (Nat.le_of_ble_eq_true rfl) dX8_number_65 ?_
          refine v_iloadn X dX8_number_68 rfl rfl ?_
          cases h
          exact v_iret X dX8_number_69 rfl rfl
      · replace h := (if_pos c11).symm.trans h
        refine v_aloadn X dX8_number_42 rfl rfl ?_
        refine v_iconst (v := 2) X dX8_number_43 (by decide) ?_
        obtain ⟨g18, q17, h⟩ := bd1_some h
        refine v_callVV (As := [.int (2 : Int32)]) (rest := []) X (c_X8_bad l D ad cy X.2.2.2.2.2.2.2.2.1 N (2 : Int32) g9 g18  q17) mw_X8_bad ml_X8_108 (by decide) (by decide +kernel) (by decide) rfl rfl rfl rfl (Nat.le_of_ble_eq_true rfl) dX8_number_44 ?_
        refine v_aloadn X dX8_number_47 rfl rfl ?_
        refine gf_X8_81 X dX8_number_48 ?_
        refine v_if_ne X 61 dX8_number_51 (by decide) (fun c19 => ?_) (fun c19 => ?_)
        · replace h := (if_neg c19).symm.trans h
          refine v_iloadn X dX8_number_61 rfl rfl ?_
          refine v_istoren (lc' := [some (.ref (ad (8, 0, 0))), some (.int x1), some (.int x2), some (.int x1)]) X dX8_number_62 rfl (by decide) rfl rfl ?_
          refine v_aloadn X dX8_number_63 rfl rfl ?_
          refine v_iconst (v := 1) X dX8_number_64 (by decide) ?_
          obtain ⟨g21, q20, h⟩ := bd1_some h
          refine v_callVV (As := [.int (1 : Int32)]) (rest := []) X (c_X8_must l D ad cy X.2.2.2.2.2.2.2.2.1 N (1 : Int32) g18 g21  q20) mw_X8_must ml_X8_115 (by decide) (by decide +kernel) (by decide) rfl rfl rfl rfl (Nat.le_of_ble_eq_true rfl) dX8_number_65 ?_
          refine v_iloadn X dX8_number_68 rfl rfl ?_
          cases h
          exact v_iret X dX8_number_69 rfl rfl
        · replace h := (if_pos c19).symm.trans h
          refine v_aloadn X dX8_number_54 rfl rfl ?_
          refine gf_X8_94 X dX8_number_55 ?_
          refine v_goto X 62 dX8_number_58 (by decide) ?_
          refine v_istoren (lc' := [some (.ref (ad (8, 0, 0))), some (.int x1), some (.int x2), some (.int (g18 10 0 16))]) X dX8_number_62 rfl (by decide) rfl rfl ?_
          refine v_aloadn X dX8_number_63 rfl rfl ?_
          refine v_iconst (v := 1) X dX8_number_64 (by decide) ?_
          obtain ⟨g23, q22, h⟩ := bd1_some h
          refine v_callVV (As := [.int (1 : Int32)]) (rest := []) X (c_X8_must l D ad cy X.2.2.2.2.2.2.2.2.1 N (1 : Int32) g18 g23  q22) mw_X8_must ml_X8_115 (by decide) (by decide +kernel) (by decide) rfl rfl rfl rfl (Nat.le_of_ble_eq_true rfl) dX8_number_65 ?_
          refine v_iloadn X dX8_number_68 rfl rfl ?_
          cases h
          exact v_iret X dX8_number_69 rfl rfl
  · replace h := (if_pos c1).symm.trans h
    refine v_aloadn X dX8_number_7 rfl rfl ?_
    refine gf_X8_105 X dX8_number_8 ?_
    refine v_iconst (v := 3) X dX8_number_11 (by decide) ?_
    refine v_icmp_eq X 20 dX8_number_12 (by decide) (fun c24 => ?_) (fun c24 => ?_)
    · replace h := (if_pos c24).symm.trans h
      refine v_aloadn X dX8_number_20 rfl rfl ?_
      refine gf_X8_81 X dX8_number_21 ?_
      refine v_if_ne X 47 dX8_number_24 (by decide) (fun c25 => ?_) (fun c25 => ?_)
      · replace h := (if_neg c25).symm.trans h
        refine v_aloadn X dX8_number_47 rfl rfl ?_
        refine gf_X8_81 X dX8_number_48 ?_
        refine v_if_ne X 61 dX8_number_51 (by decide) (fun c26 => ?_) (fun c26 => ?_)
        · replace h := (if_neg c26).symm.trans h
          refine v_iloadn X dX8_number_61 rfl rfl ?_
          refine v_istoren (lc' := [some (.ref (ad (8, 0, 0))), some (.int x1), some (.int x2), some (.int x1)]) X dX8_number_62 rfl (by decide) rfl rfl ?_
          refine v_aloadn X dX8_number_63 rfl rfl ?_
          refine v_iconst (v := 1) X dX8_number_64 (by decide) ?_
          obtain ⟨g28, q27, h⟩ := bd1_some h
          refine v_callVV (As := [.int (1 : Int32)]) (rest := []) X (c_X8_must l D ad cy X.2.2.2.2.2.2.2.2.1 N (1 : Int32) g g28  q27) mw_X8_must ml_X8_115 (by decide) (by decide +kernel) (by decide) rfl rfl rfl rfl (Nat.le_of_ble_eq_true rfl) dX8_number_65 ?_
          refine v_iloadn X dX8_number_68 rfl rfl ?_
          cases h
          exact v_iret X dX8_number_69 rfl rfl
        · replace h := (if_pos c26).symm.trans h
          refine v_aloadn X dX8_number_54 rfl rfl ?_
          refine gf_X8_94 X dX8_number_55 ?_
          refine v_goto X 62 dX8_number_58 (by decide) ?_
          refine v_istoren (lc' := [some (.ref (ad (8, 0, 0))), some (.int x1), some (.int x2), some (.int (g 10 0 16))]) X dX8_number_62 rfl (by decide) rfl rfl ?_
          refine v_aloadn X dX8_number_63 rfl rfl ?_
          refine v_iconst (v := 1) X dX8_number_64 (by decide) ?_
          obtain ⟨g30, q29, h⟩ := bd1_some h
          refine v_callVV (As := [.int (1 : Int32)]) (rest := []) X (c_X8_must l D ad cy X.2.2.2.2.2.2.2.2.1 N (1 : Int32) g g30  q29) mw_X8_must ml_X8_115 (by decide) (by decide +kernel) (by decide) rfl rfl rfl rfl (Nat.le_of_ble_eq_true rfl) dX8_number_65 ?_
          refine v_iloadn X dX8_number_68 rfl rfl ?_
          cases h
          exact v_iret X dX8_number_69 rfl rfl
      · replace h := (if_pos c25).symm.trans h
        refine v_aloadn X dX8_number_27 rfl rfl ?_
        refine gf_X8_94 X dX8_number_28 ?_
        refine v_i2l X dX8_number_31 ?_
        refine v_iloadn X dX8_number_32 rfl rfl ?_
        refine v_i2l X dX8_number_33 ?_
        refine v_iloadn X dX8_number_34 rfl rfl ?_
        refine v_i2l X dX8_number_35 ?_
        obtain ⟨r33, g32, q31, h⟩ := bd2_some h
        refine v_callSI (As := [.long ((g 10 0 16).toInt64), .long (x1.toInt64), .long (x2.toInt64)]) (rest := []) X (c_X8_in l D ad cy X.2.2.2.2.2.2.2.2.1 N ((g 10 0 16).toInt64) (x1.toInt64) (x2.toInt64) g r33 g32  q31) mw_X8_in ml_X8_60 (by decide) rfl rfl (Nat.le_of_ble_eq_true rfl) dX8_number_36 ?_
        refine v_if_ne X 47 dX8_number_39 (by decide) (fun c34 => ?_) (fun c34 => ?_)
        · replace h := (if_neg c34).symm.trans h
          refine v_aloadn X dX8_number_47 rfl rfl ?_
          refine gf_X8_81 X dX8_number_48 ?_
          refine v_if_ne X 61 dX8_number_51 (by decide) (fun c35 => ?_) (fun c35 => ?_)
          · replace h := (if_neg c35).symm.trans h
            refine v_iloadn X dX8_number_61 rfl rfl ?_
            refine v_istoren (lc' := [some (.ref (ad (8, 0, 0))), some (.int x1), some (.int x2), some (.int x1)]) X dX8_number_62 rfl (by decide) rfl rfl ?_
            refine v_aloadn X dX8_number_63 rfl rfl ?_
            refine v_iconst (v := 1) X dX8_number_64 (by decide) ?_
            obtain ⟨g37, q36, h⟩ := bd1_some h
            refine v_callVV (As := [.int (1 : Int32)]) (rest := []) X (c_X8_must l D ad cy X.2.2.2.2.2.2.2.2.1 N (1 : Int32) g32 g37  q36) mw_X8_must ml_X8_115 (by decide) (by decide +kernel) (by decide) rfl rfl rfl rfl (Nat.le_of_ble_eq_true rfl) dX8_number_65 ?_
            refine v_iloadn X dX8_number_68 rfl rfl ?_
            cases h
            exact v_iret X dX8_number_69 rfl rfl
          · replace h := (if_pos c35).symm.trans h
            refine v_aloadn X dX8_number_54 rfl rfl ?_
            refine gf_X8_94 X dX8_number_55 ?_
            refine v_goto X 62 dX8_number_58 (by decide) ?_
            refine v_istoren (lc' := [some (.ref (ad (8, 0, 0))), some (.int x1), some (.int x2), some (.int (g32 10 0 16))]) X dX8_number_62 rfl (by decide) rfl rfl ?_
            refine v_aloadn X dX8_number_63 rfl rfl ?_
            refine v_iconst (v := 1) X dX8_number_64 (by decide) ?_
            obtain ⟨g39, q38, h⟩ := bd1_some h
            refine v_callVV (As := [.int (1 : Int32)]) (rest := []) X (c_X8_must l D ad cy X.2.2.2.2.2.2.2.2.1 N (1 : Int32) g32 g39  q38) mw_X8_must ml_X8_115 (by decide) (by decide +kernel) (by decide) rfl rfl rfl rfl (Nat.le_of_ble_eq_true rfl) dX8_number_65 ?_
            refine v_iloadn X dX8_number_68 rfl rfl ?_
            cases h
            exact v_iret X dX8_number_69 rfl rfl
        · replace h := (if_pos c34).symm.trans h
          refine v_aloadn X dX8_number_42 rfl rfl ?_
          refine v_iconst (v := 2) X dX8_number_43 (by decide) ?_
          obtain ⟨g41, q40, h⟩ := bd1_some h
          refine v_callVV (As := [.int (2 : Int32)]) (rest := []) X (c_X8_bad l D ad cy X.2.2.2.2.2.2.2.2.1 N (2 : Int32) g32 g41  q40) mw_X8_bad ml_X8_108 (by decide) (by decide +kernel) (by decide) rfl rfl rfl rfl (Nat.le_of_ble_eq_true rfl) dX8_number_44 ?_
          refine v_aloadn X dX8_number_47 rfl rfl ?_
          refine gf_X8_81 X dX8_number_48 ?_
          refine v_if_ne X 61 dX8_number_51 (by decide) (fun c42 => ?_) (fun c42 => ?_)
          · replace h := (if_neg c42).symm.trans h
            refine v_iloadn X dX8_number_61 rfl rfl ?_
            refine v_istoren (lc' := [some (.ref (ad (8, 0, 0))), some (.int x1), some (.int x2), some (.int x1)]) X dX8_number_62 rfl (by decide) rfl rfl ?_
            refine v_aloadn X dX8_number_63 rfl rfl ?_
            refine v_iconst (v := 1) X dX8_number_64 (by decide) ?_
            obtain ⟨g44, q43, h⟩ := bd1_some h
            refine v_callVV (As := [.int (1 : Int32)]) (rest := []) X (c_X8_must l D ad cy X.2.2.2.2.2.2.2.2.1 N (1 : Int32) g41 g44  q43) mw_X8_must ml_X8_115 (by decide) (by decide +kernel) (by decide) rfl rfl rfl rfl (Nat.le_of_ble_eq_true rfl) dX8_number_65 ?_
            refine v_iloadn X dX8_number_68 rfl rfl ?_
            cases h
            exact v_iret X dX8_number_69 rfl rfl
          · replace h := (if_pos c42).symm.trans h
            refine v_aloadn X dX8_number_54 rfl rfl ?_
            refine gf_X8_94 X dX8_number_55 ?_
            refine v_goto X 62 dX8_number_58 (by decide) ?_
            refine v_istoren (lc' := [some (.ref (ad (8, 0, 0))), some (.int x1), some (.int x2), some (.int (g41 10 0 16))]) X dX8_number_62 rfl (by decide) rfl rfl ?_
            refine v_aloadn X dX8_number_63 rfl rfl ?_
            refine v_iconst (v := 1) X dX8_number_64 (by decide) ?_
            obtain ⟨g46, q45, h⟩ := bd1_some h
            refine v_callVV (As := [.int (1 : Int32)]) (rest := []) X (c_X8_must l D ad cy X.2.2.2.2.2.2.2.2.1 N (1 : Int32) g41 g46  q45) mw_X8_must ml_X8_115 (by decide) (by decide +kernel) (by decide) rfl rfl rfl rfl (Nat.le_of_ble_eq_true rfl) dX8_number_65 ?_
            refine v_iloadn X dX8_number_68 rfl rfl ?_
            cases h
            exact v_iret X dX8_number_69 rfl rfl
    · replace h := (if_neg c24).symm.trans h
      refine v_aloadn X dX8_number_15 rfl rfl ?_
      refine v_iconst (v := 1) X dX8_number_16 (by decide) ?_
      obtain ⟨g48, q47, h⟩ := bd1_some h
      refine v_callVV (As := [.int (1 : Int32)]) (rest := []) X (c_X8_bad l D ad cy X.2.2.2.2.2.2.2.2.1 N (1 : Int32) g g48  q47) mw_X8_bad ml_X8_108 (by decide) (by decide +kernel) (by decide) rfl rfl rfl rfl (Nat.le_of_ble_eq_true rfl) dX8_number_17 ?_
      refine v_aloadn X dX8_number_20 rfl rfl ?_
      refine gf_X8_81 X dX8_number_21 ?_
      refine v_if_ne X 47 dX8_number_24 (by decide) (fun c49 => ?_) (fun c49 => ?_)
      · replace h := (if_neg c49).symm.trans h
        refine v_aloadn X dX8_number_47 rfl rfl ?_
        refine gf_X8_81 X dX8_number_48 ?_
        refine v_if_ne X 61 dX8_number_51 (by decide) (fun c50 => ?_) (fun c50 => ?_)
        · replace h := (if_neg c50).symm.trans h
          refine v_iloadn X dX8_number_61 rfl rfl ?_
          refine v_istoren (lc' := [some (.ref (ad (8, 0, 0))), some (.int x1), some (.int x2), some (.int x1)]) X dX8_number_62 rfl (by decide) rfl rfl ?_
          refine v_aloadn X dX8_number_63 rfl rfl ?_
          refine v_iconst (v := 1) X dX8_number_64 (by decide) ?_
          obtain ⟨g52, q51, h⟩ := bd1_some h
          refine v_callVV (As := [.int (1 : Int32)]) (rest := []) X (c_X8_must l D ad cy X.2.2.2.2.2.2.2.2.1 N (1 : Int32) g48 g52  q51) mw_X8_must ml_X8_115 (by decide) (by decide +kernel) (by decide) rfl rfl rfl rfl (Nat.le_of_ble_eq_true rfl) dX8_number_65 ?_
          refine v_iloadn X dX8_number_68 rfl rfl ?_
          cases h
          exact v_iret X dX8_number_69 rfl rfl
        · replace h := (if_pos c50).symm.trans h
          refine v_aloadn X dX8_number_54 rfl rfl ?_
          refine gf_X8_94 X dX8_number_55 ?_
          refine v_goto X 62 dX8_number_58 (by decide) ?_
          refine v_istoren (lc' := [some (.ref (ad (8, 0, 0))), some (.int x1), some (.int x2), some (.int (g48 10 0 16))]) X dX8_number_62 rfl (by decide) rfl rfl ?_
          refine v_aloadn X dX8_number_63 rfl rfl ?_
          refine v_iconst (v := 1) X dX8_number_64 (by decide) ?_
          obtain ⟨g54, q53, h⟩ := bd1_some h
          refine v_callVV (As := [.int (1 : Int32)]) (rest := []) X (c_X8_must l D ad cy X.2.2.2.2.2.2.2.2.1 N (1 : Int32) g48 g54  q53) mw_X8_must ml_X8_115 (by decide) (by decide +kernel) (by decide) rfl rfl rfl rfl (Nat.le_of_ble_eq_true rfl) dX8_number_65 ?_
          refine v_iloadn X dX8_number_68 rfl rfl ?_
          cases h
          exact v_iret X dX8_number_69 rfl rfl
      · replace h := (if_pos c49).symm.trans h
        refine v_aloadn X dX8_number_27 rfl rfl ?_
        refine gf_X8_94 X dX8_number_28 ?_
        refine v_i2l X dX8_number_31 ?_
        refine v_iloadn X dX8_number_32 rfl rfl ?_
        refine v_i2l X dX8_number_33 ?_
        refine v_iloadn X dX8_number_34 rfl rfl ?_
        refine v_i2l X dX8_number_35 ?_
        obtain ⟨r57, g56, q55, h⟩ := bd2_some h
        refine v_callSI (As := [.long ((g48 10 0 16).toInt64), .long (x1.toInt64), .long (x2.toInt64)]) (rest := []) X (c_X8_in l D ad cy X.2.2.2.2.2.2.2.2.1 N ((g48 10 0 16).toInt64) (x1.toInt64) (x2.toInt64) g48 r57 g56  q55) mw_X8_in ml_X8_60 (by decide) rfl rfl (Nat.le_of_ble_eq_true rfl) dX8_number_36 ?_
        refine v_if_ne X 47 dX8_number_39 (by decide) (fun c58 => ?_) (fun c58 => ?_)
        · replace h := (if_neg c58).symm.trans h
          refine v_aloadn X dX8_number_47 rfl rfl ?_
          refine gf_X8_81 X dX8_number_48 ?_
          refine v_if_ne X 61 dX8_number_51 (by decide) (fun c59 => ?_) (fun c59 => ?_)
          · replace h := (if_neg c59).symm.trans h
            refine v_iloadn X dX8_number_61 rfl rfl ?_
            refine v_istoren (lc' := [some (.ref (ad (8, 0, 0))), some (.int x1), some (.int x2), some (.int x1)]) X dX8_number_62 rfl (by decide) rfl rfl ?_
            refine v_aloadn X dX8_number_63 rfl rfl ?_
            refine v_iconst (v := 1) X dX8_number_64 (by decide) ?_
            obtain ⟨g61, q60, h⟩ := bd1_some h
            refine v_callVV (As := [.int (1 : Int32)]) (rest := []) X (c_X8_must l D ad cy X.2.2.2.2.2.2.2.2.1 N (1 : Int32) g56 g61  q60) mw_X8_must ml_X8_115 (by decide) (by decide +kernel) (by decide) rfl rfl rfl rfl (Nat.le_of_ble_eq_true rfl) dX8_number_65 ?_
            refine v_iloadn X dX8_number_68 rfl rfl ?_
            cases h
            exact v_iret X dX8_number_69 rfl rfl
          · replace h := (if_pos c59).symm.trans h
            refine v_aloadn X dX8_number_54 rfl rfl ?_
            refine gf_X8_94 X dX8_number_55 ?_
            refine v_goto X 62 dX8_number_58 (by decide) ?_
            refine v_istoren (lc' := [some (.ref (ad (8, 0, 0))), some (.int x1), some (.int x2), some (.int (g56 10 0 16))]) X dX8_number_62 rfl (by decide) rfl rfl ?_
            refine v_aloadn X dX8_number_63 rfl rfl ?_
            refine v_iconst (v := 1) X dX8_number_64 (by decide) ?_
            obtain ⟨g63, q62, h⟩ := bd1_some h
            refine v_callVV (As := [.int (1 : Int32)]) (rest := []) X (c_X8_must l D ad cy X.2.2.2.2.2.2.2.2.1 N (1 : Int32) g56 g63  q62) mw_X8_must ml_X8_115 (by decide) (by decide +kernel) (by decide) rfl rfl rfl rfl (Nat.le_of_ble_eq_true rfl) dX8_number_65 ?_
            refine v_iloadn X dX8_number_68 rfl rfl ?_
            cases h
            exact v_iret X dX8_number_69 rfl rfl
        · replace h := (if_pos c58).symm.trans h
          refine v_aloadn X dX8_number_42 rfl rfl ?_
          refine v_iconst (v := 2) X dX8_number_43 (by decide) ?_
          obtain ⟨g65, q64, h⟩ := bd1_some h
          refine v_callVV (As := [.int (2 : Int32)]) (rest := []) X (c_X8_bad l D ad cy X.2.2.2.2.2.2.2.2.1 N (2 : Int32) g56 g65  q64) mw_X8_bad ml_X8_108 (by decide) (by decide +kernel) (by decide) rfl rfl rfl rfl (Nat.le_of_ble_eq_true rfl) dX8_number_44 ?_
          refine v_aloadn X dX8_number_47 rfl rfl ?_
          refine gf_X8_81 X dX8_number_48 ?_
          refine v_if_ne X 61 dX8_number_51 (by decide) (fun c66 => ?_) (fun c66 => ?_)
          · replace h := (if_neg c66).symm.trans h
            refine v_iloadn X dX8_number_61 rfl rfl ?_
            refine v_istoren (lc' := [some (.ref (ad (8, 0, 0))), some (.int x1), some (.int x2), some (.int x1)]) X dX8_number_62 rfl (by decide) rfl rfl ?_
            refine v_aloadn X dX8_number_63 rfl rfl ?_
            refine v_iconst (v := 1) X dX8_number_64 (by decide) ?_
            obtain ⟨g68, q67, h⟩ := bd1_some h
            refine v_callVV (As := [.int (1 : Int32)]) (rest := []) X (c_X8_must l D ad cy X.2.2.2.2.2.2.2.2.1 N (1 : Int32) g65 g68  q67) mw_X8_must ml_X8_115 (by decide) (by decide +kernel) (by decide) rfl rfl rfl rfl (Nat.le_of_ble_eq_true rfl) dX8_number_65 ?_
            refine v_iloadn X dX8_number_68 rfl rfl ?_
            cases h
            exact v_iret X dX8_number_69 rfl rfl
          · replace h := (if_pos c66).symm.trans h
            refine v_aloadn X dX8_number_54 rfl rfl ?_
            refine gf_X8_94 X dX8_number_55 ?_
            refine v_goto X 62 dX8_number_58 (by decide) ?_
            refine v_istoren (lc' := [some (.ref (ad (8, 0, 0))), some (.int x1), some (.int x2), some (.int (g65 10 0 16))]) X dX8_number_62 rfl (by decide) rfl rfl ?_
            refine v_aloadn X dX8_number_63 rfl rfl ?_
            refine v_iconst (v := 1) X dX8_number_64 (by decide) ?_
            obtain ⟨g70, q69, h⟩ := bd1_some h
            refine v_callVV (As := [.int (1 : Int32)]) (rest := []) X (c_X8_must l D ad cy X.2.2.2.2.2.2.2.2.1 N (1 : Int32) g65 g70  q69) mw_X8_must ml_X8_115 (by decide) (by decide +kernel) (by decide) rfl rfl rfl rfl (Nat.le_of_ble_eq_true rfl) dX8_number_65 ?_
            refine v_iloadn X dX8_number_68 rfl rfl ?_
            cases h
            exact v_iret X dX8_number_69 rfl rfl
def F_X8_paper (N : Nat) (x1 : Int32) (x2 : Int32) (g : GS) : Option (Int32 × GS) := bd2 (F_X8_isPaper N x1 (g3 g 10 0 0 (0 : Int32))) (fun r3 g2 => if r3 = 0 then some ((-1000001 : Int32), g2) else if x2 = 0 then bd2 (F_X8_of N 5 x1 (1 : Int32) g2) (fun r8 g7 => some (r8, g7)) else if x2 = 1 then bd2 (F_X8_of N 5 x1 (2 : Int32) g2) (fun r12 g11 => some (r12, g11)) else if x2 = 2 then bd2 (F_X8_of N 5 x1 (3 : Int32) g2) (fun r16 g15 => some (r16, g15)) else if x2 = 3 then bd2 (F_X8_of N 5 x1 (4 : Int32) g2) (fun r20 g19 => some (r20, g19)) else if x2 = 4 then bd2 (F_X8_of N 5 x1 (5 : Int32) g2) (fun r24 g23 => some (r24, g23)) else if x2 = 5 then bd2 (F_X8_cellOf N 5 x1 g2) (fun r28 g27 => some (r28, g27)) else if x2 = 6 then bd2 (F_X8_isPolicy N 5 x1 g2) (fun r32 g31 => if r32 = 0 then some ((0 : Int32), g31) else some ((1 : Int32), g31)) else some ((-1000001 : Int32), g2))
set_option maxRecDepth 100000 in
set_option maxHeartbeats 4000000 in
theorem c_X8_paper (l : Launch) (D : va_G) (ad : Ky → Nat) (cy : Nat → ClassId) (hI : Inj ad) (N : Nat) (x1 : Int32) (x2 : Int32) (g : GS) (r : Int32) (gq : GS) (h : F_X8_paper N x1 x2 g = some (r, gq)) : CtI l D ad cy yX8_paper cX8_paper 3 (some .int) 3 [.ref (ad (8, 0, 0)), .int x1, .int x2] g r gq := by
  refine CtI.of 0 hI (by decide +kernel) rfl (Nat.le_of_ble_eq_true rfl) (fun p e s m args below meth c X => ?_)
  unfold F_X8_paper at h
  show Vy _ _ _ _ _ _ _ _ _ _ _ _ _ _ _ 0 [some (.ref (ad (8, 0, 0))), some (.int x1), some (.int x2)] [] g
  refine v_aloadn X dX8_paper_0 rfl rfl ?_
  refine v_iconst (v := 0) X dX8_paper_1 (by decide) ?_
  refine pf_X8_50 X dX8_paper_2 ?_
  refine v_aloadn X dX8_paper_5 rfl rfl ?_
  refine v_iloadn X dX8_paper_6 rfl rfl ?_
  obtain ⟨r3, g2, q1, h⟩ := bd2_some h
  refine v_callVI (As := [.int x1]) (rest := []) X (c_X8_isPaper l D ad cy X.2.2.2.2.2.2.2.2.1 N x1 (g3 g 10 0 0 (0 : Int32)) r3 g2  q1) mw_X8_isPaper ml_X8_208 (by decide) (by decide +kernel) (by decide) rfl rfl rfl rfl (Nat.le_of_ble_eq_true rfl) dX8_paper_7 ?_
  refine v_if_ne X 16 dX8_paper_10 (by decide) (fun c4 => ?_) (fun c4 => ?_)
  · replace h := (if_neg c4).symm.trans h
    refine v_iloadn X dX8_paper_16 rfl rfl ?_
    by_cases c5 : x2 = 0
    · replace h := (if_pos c5).symm.trans h
      refine v_tableIn X 60 dX8_paper_17 (by rw [c5]; decide) (by rw [c5]; decide) (by rw [c5]; rfl) (by decide) ?_
      refine v_aloadn X dX8_paper_60 rfl rfl ?_
      refine gf_X8_19 X dX8_paper_61 ?_
      refine v_iloadn X dX8_paper_64 rfl rfl ?_
      refine v_iconst (v := 1) X dX8_paper_65 (by decide) ?_
      obtain ⟨r8, g7, q6, h⟩ := bd2_some h
      refine v_callSI (As := [.ref (ad (9, 11, 5)), .int x1, .int (1 : Int32)]) (rest := []) X (c_X8_of l D ad cy X.2.2.2.2.2.2.2.2.1 N 5 x1 (1 : Int32) g2 r8 g7 (by decide +kernel) q6) mw_X8_of ml_X8_155 (by decide) rfl rfl (Nat.le_of_ble_eq_true rfl) dX8_paper_66 ?_
      cases h
      exact v_iret X dX8_paper_69 rfl rfl
    replace h := (if_neg c5).symm.trans h
    by_cases c9 : x2 = 1
    · replace h := (if_pos c9).symm.trans h
      refine v_tableIn X 70 dX8_paper_17 (by rw [c9]; decide) (by rw [c9]; decide) (by rw [c9]; rfl) (by decide) ?_
      refine v_aloadn X dX8_paper_70 rfl rfl ?_
      refine gf_X8_19 X dX8_paper_71 ?_
      refine v_iloadn X dX8_paper_74 rfl rfl ?_
      refine v_iconst (v := 2) X dX8_paper_75 (by decide) ?_
      obtain ⟨r12, g11, q10, h⟩ := bd2_some h
      refine v_callSI (As := [.ref (ad (9, 11, 5)), .int x1, .int (2 : Int32)]) (rest := []) X (c_X8_of l D ad cy X.2.2.2.2.2.2.2.2.1 N 5 x1 (2 : Int32) g2 r12 g11 (by decide +kernel) q10) mw_X8_of ml_X8_155 (by decide) rfl rfl (Nat.le_of_ble_eq_true rfl) dX8_paper_76 ?_
      cases h
      exact v_iret X dX8_paper_79 rfl rfl
    replace h := (if_neg c9).symm.trans h
    by_cases c13 : x2 = 2
    · replace h := (if_pos c13).symm.trans h
      refine v_tableIn X 80 dX8_paper_17 (by rw [c13]; decide) (by rw [c13]; decide) (by rw [c13]; rfl) (by decide) ?_
      refine v_aloadn X dX8_paper_80 rfl rfl ?_
      refine gf_X8_19 X dX8_paper_81 ?_
      refine v_iloadn X dX8_paper_84 rfl rfl ?_
      refine v_iconst (v := 3) X dX8_paper_85 (by decide) ?_
      obtain ⟨r16, g15, q14, h⟩ := bd2_some h
      refine v_callSI (As := [.ref (ad (9, 11, 5)), .int x1, .int (3 : Int32)]) (rest := []) X (c_X8_of l D ad cy X.2.2.2.2.2.2.2.2.1 N 5 x1 (3 : Int32) g2 r16 g15 (by decide +kernel) q14) mw_X8_of ml_X8_155 (by decide) rfl rfl (Nat.le_of_ble_eq_true rfl) dX8_paper_86 ?_
      cases h
      exact v_iret X dX8_paper_89 rfl rfl
    replace h := (if_neg c13).symm.trans h
    by_cases c17 : x2 = 3
    · replace h := (if_pos c17).symm.trans h
      refine v_tableIn X 90 dX8_paper_17 (by rw [c17]; decide) (by rw [c17]; decide) (by rw [c17]; rfl) (by decide) ?_
      refine v_aloadn X dX8_paper_90 rfl rfl ?_
      refine gf_X8_19 X dX8_paper_91 ?_
      refine v_iloadn X dX8_paper_94 rfl rfl ?_
      refine v_iconst (v := 4) X dX8_paper_95 (by decide) ?_
      obtain ⟨r20, g19, q18, h⟩ := bd2_some h
      refine v_callSI (As := [.ref (ad (9, 11, 5)), .int x1, .int (4 : Int32)]) (rest := []) X (c_X8_of l D ad cy X.2.2.2.2.2.2.2.2.1 N 5 x1 (4 : Int32) g2 r20 g19 (by decide +kernel) q18) mw_X8_of ml_X8_155 (by decide) rfl rfl (Nat.le_of_ble_eq_true rfl) dX8_paper_96 ?_
      cases h
      exact v_iret X dX8_paper_99 rfl rfl
    replace h := (if_neg c17).symm.trans h
    by_cases c21 : x2 = 4
    · replace h := (if_pos c21).symm.trans h
      refine v_tableIn X 100 dX8_paper_17 (by rw [c21]; decide) (by rw [c21]; decide) (by rw [c21]; rfl) (by decide) ?_
      refine v_aloadn X dX8_paper_100 rfl rfl ?_
      refine gf_X8_19 X dX8_paper_101 ?_
      refine v_iloadn X dX8_paper_104 rfl rfl ?_
      refine v_iconst (v := 5) X dX8_paper_105 (by decide) ?_
      obtain ⟨r24, g23, q22, h⟩ := bd2_some h
      refine v_callSI (As := [.ref (ad (9, 11, 5)), .int x1, .int (5 : Int32)]) (rest := []) X (c_X8_of l D ad cy X.2.2.2.2.2.2.2.2.1 N 5 x1 (5 : Int32) g2 r24 g23 (by decide +kernel) q22) mw_X8_of ml_X8_155 (by decide) rfl rfl (Nat.le_of_ble_eq_true rfl) dX8_paper_106 ?_
      cases h
      exact v_iret X dX8_paper_109 rfl rfl
    replace h := (if_neg c21).symm.trans h
    by_cases c25 : x2 = 5
    · replace h := (if_pos c25).symm.trans h
      refine v_tableIn X 110 dX8_paper_17 (by rw [c25]; decide) (by rw [c25]; decide) (by rw [c25]; rfl) (by decide) ?_
      refine v_aloadn X dX8_paper_110 rfl rfl ?_
      refine gf_X8_19 X dX8_paper_111 ?_
      refine v_iloadn X dX8_paper_114 rfl rfl ?_
      obtain ⟨r28, g27, q26, h⟩ := bd2_some h
      refine v_callSI (As := [.ref (ad (9, 11, 5)), .int x1]) (rest := []) X (c_X8_cellOf l D ad cy X.2.2.2.2.2.2.2.2.1 N 5 x1 g2 r28 g27 (by decide +kernel) q26) mw_X8_cellOf ml_X8_229 (by decide) rfl rfl (Nat.le_of_ble_eq_true rfl) dX8_paper_115 ?_
      cases h
      exact v_iret X dX8_paper_118 rfl rfl
    replace h := (if_neg c25).symm.trans h
    by_cases c29 : x2 = 6
    · replace h := (if_pos c29).symm.trans h
      refine v_tableIn X 119 dX8_paper_17 (by rw [c29]; decide) (by rw [c29]; decide) (by rw [c29]; rfl) (by decide) ?_
      refine v_aloadn X dX8_paper_119 rfl rfl ?_
      refine gf_X8_19 X dX8_paper_120 ?_
      refine v_iloadn X dX8_paper_123 rfl rfl ?_
      obtain ⟨r32, g31, q30, h⟩ := bd2_some h
      refine v_callSI (As := [.ref (ad (9, 11, 5)), .int x1]) (rest := []) X (c_X8_isPolicy l D ad cy X.2.2.2.2.2.2.2.2.1 N 5 x1 g2 r32 g31 (by decide +kernel) q30) mw_X8_isPolicy ml_X8_192 (by decide) rfl rfl (Nat.le_of_ble_eq_true rfl) dX8_paper_124 ?_
      refine v_if_eq X 134 dX8_paper_127 (by decide) (fun c33 => ?_) (fun c33 => ?_)
      · replace h := (if_pos c33).symm.trans h
        refine v_iconst (v := 0) X dX8_paper_134 (by decide) ?_
        cases h
        exact v_iret X dX8_paper_135 rfl rfl
      · replace h := (if_neg c33).symm.trans h
        refine v_iconst (v := 1) X dX8_paper_130 (by decide) ?_
        refine v_goto X 135 dX8_paper_131 (by decide) ?_
        cases h
        exact v_iret X dX8_paper_135 rfl rfl
    replace h := (if_neg c29).symm.trans h
    have t34 := tab_ne (k := 0) (n := 0) c5 (by decide)
    have t35 := tab_ne (k := 1) (n := 1) c9 (by decide)
    have t36 := tab_ne (k := 2) (n := 2) c13 (by decide)
    have t37 := tab_ne (k := 3) (n := 3) c17 (by decide)
    have t38 := tab_ne (k := 4) (n := 4) c21 (by decide)
    have t39 := tab_ne (k := 5) (n := 5) c25 (by decide)
    have t40 := tab_ne (k := 6) (n := 6) c29 (by decide)
    refine v_tableOut X 136 dX8_paper_17 (by omega) (by decide) ?_
    refine v_ldc X kc_X8_70 dX8_paper_136 ?_
    cases h
    exact v_iret X dX8_paper_138 rfl rfl
  · replace h := (if_pos c4).symm.trans h
    refine v_ldc X kc_X8_70 dX8_paper_13 ?_
    cases h
    exact v_iret X dX8_paper_15 rfl rfl
def F_X8_policy (N : Nat) (x1 : Int32) (g : GS) : Option (Int32 × GS) := bd2 (F_X8_isThere N  (g3 g 10 0 0 (0 : Int32))) (fun r3 g2 => if r3 = 0 then some ((-1000002 : Int32), g2) else bd2 (F_X8_in N (x1.toInt64) (0 : Int64) (60 : Int64) g2) (fun r7 g6 => if r7 = 0 then some ((-1000001 : Int32), g6) else bd1 (F_X8_layThen N  g6) (fun g10 => bd1 (F_X8_hoursOf N 7 x1 g10) (fun g12 => bd2 (F_X8_policies N 7 g12) (fun r15 g14 => some (r15, g14))))))
set_option maxRecDepth 100000 in
set_option maxHeartbeats 4000000 in
theorem c_X8_policy (l : Launch) (D : va_G) (ad : Ky → Nat) (cy : Nat → ClassId) (hI : Inj ad) (N : Nat) (x1 : Int32) (g : GS) (r : Int32) (gq : GS) (h : F_X8_policy N x1 g = some (r, gq)) : CtI l D ad cy yX8_policy cX8_policy 2 (some .int) 7 [.ref (ad (8, 0, 0)), .int x1] g r gq := by
  refine CtI.of 0 hI (by decide +kernel) rfl (Nat.le_of_ble_eq_true rfl) (fun p e s m args below meth c X => ?_)
  unfold F_X8_policy at h
  show Vy _ _ _ _ _ _ _ _ _ _ _ _ _ _ _ 0 [some (.ref (ad (8, 0, 0))), some (.int x1)] [] g
  refine v_aloadn X dX8_policy_0 rfl rfl ?_
  refine v_iconst (v := 0) X dX8_policy_1 (by decide) ?_
  refine pf_X8_50 X dX8_policy_2 ?_
  refine v_aloadn X dX8_policy_5 rfl rfl ?_
  obtain ⟨r3, g2, q1, h⟩ := bd2_some h
  refine v_callVI (As := []) (rest := []) X (c_X8_isThere l D ad cy X.2.2.2.2.2.2.2.2.1 N  (g3 g 10 0 0 (0 : Int32)) r3 g2  q1) mw_X8_isThere ml_X8_195 (by decide) (by decide +kernel) (by decide) rfl rfl rfl rfl (Nat.le_of_ble_eq_true rfl) dX8_policy_6 ?_
  refine v_if_ne X 15 dX8_policy_9 (by decide) (fun c4 => ?_) (fun c4 => ?_)
  · replace h := (if_neg c4).symm.trans h
    refine v_iloadn X dX8_policy_15 rfl rfl ?_
    refine v_i2l X dX8_policy_16 ?_
    refine v_lconst (v := 0) X dX8_policy_17 (by decide) ?_
    refine v_ldc2 X kl_X8_225 dX8_policy_18 ?_
    obtain ⟨r7, g6, q5, h⟩ := bd2_some h
    refine v_callSI (As := [.long (x1.toInt64), .long (0 : Int64), .long (60 : Int64)]) (rest := []) X (c_X8_in l D ad cy X.2.2.2.2.2.2.2.2.1 N (x1.toInt64) (0 : Int64) (60 : Int64) g2 r7 g6  q5) mw_X8_in ml_X8_60 (by decide) rfl rfl (Nat.le_of_ble_eq_true rfl) dX8_policy_21 ?_
    refine v_if_ne X 30 dX8_policy_24 (by decide) (fun c8 => ?_) (fun c8 => ?_)
    · replace h := (if_neg c8).symm.trans h
      refine v_aloadn X dX8_policy_30 rfl rfl ?_
      obtain ⟨g10, q9, h⟩ := bd1_some h
      refine v_callVV (As := []) (rest := []) X (c_X8_layThen l D ad cy X.2.2.2.2.2.2.2.2.1 N  g6 g10  q9) mw_X8_layThen ml_X8_232 (by decide) (by decide +kernel) (by decide) rfl rfl rfl rfl (Nat.le_of_ble_eq_true rfl) dX8_policy_31 ?_
      refine v_aloadn X dX8_policy_34 rfl rfl ?_
      refine v_aloadn X dX8_policy_35 rfl rfl ?_
      refine gf_X8_25 X dX8_policy_36 ?_
      refine v_iloadn X dX8_policy_39 rfl rfl ?_
      obtain ⟨g12, q11, h⟩ := bd1_some h
      refine v_callVV (As := [.ref (ad (9, 11, 7)), .int x1]) (rest := []) X (c_X8_hoursOf l D ad cy X.2.2.2.2.2.2.2.2.1 N 7 x1 g10 g12 (by decide +kernel) q11) mw_X8_hoursOf ml_X8_235 (by decide) (by decide +kernel) (by decide) rfl rfl rfl rfl (Nat.le_of_ble_eq_true rfl) dX8_policy_40 ?_
      refine v_aloadn X dX8_policy_43 rfl rfl ?_
      refine gf_X8_25 X dX8_policy_44 ?_
      obtain ⟨r15, g14, q13, h⟩ := bd2_some h
      refine v_callSI (As := [.ref (ad (9, 11, 7))]) (rest := []) X (c_X8_policies l D ad cy X.2.2.2.2.2.2.2.2.1 N 7 g12 r15 g14 (by decide +kernel) q13) mw_X8_policies ml_X8_204 (by decide) rfl rfl (Nat.le_of_ble_eq_true rfl) dX8_policy_47 ?_
      cases h
      exact v_iret X dX8_policy_50 rfl rfl
    · replace h := (if_pos c8).symm.trans h
      refine v_ldc X kc_X8_70 dX8_policy_27 ?_
      cases h
      exact v_iret X dX8_policy_29 rfl rfl
  · replace h := (if_pos c4).symm.trans h
    refine v_ldc X kc_X8_198 dX8_policy_12 ?_
    cases h
    exact v_iret X dX8_policy_14 rfl rfl
def F_X8_pull (N : Nat) (x1 : Int32) (g : GS) : Option (Int32 × GS) := bd2 (F_X8_isPaper N x1 (g3 g 10 0 0 (0 : Int32))) (fun r3 g2 => if r3 = 0 then some ((-1000001 : Int32), g2) else bd2 (F_X8_isUp N 5 x1 g2) (fun r7 g6 => if r7 = 0 then some ((-1000002 : Int32), g6) else bd1 (ix (4 : Int32) 53) (fun j9 => bd2 (F_X8_forceOf N 5 (g6 11 5 j9) g6) (fun r13 g12 => bd2 (F_X8_riseOf N 5 x1 r13 g12) (fun r16 g15 => some (r16, g15))))))
set_option maxRecDepth 100000 in
set_option maxHeartbeats 4000000 in
theorem c_X8_pull (l : Launch) (D : va_G) (ad : Ky → Nat) (cy : Nat → ClassId) (hI : Inj ad) (N : Nat) (x1 : Int32) (g : GS) (r : Int32) (gq : GS) (h : F_X8_pull N x1 g = some (r, gq)) : CtI l D ad cy yX8_pull cX8_pull 2 (some .int) 4 [.ref (ad (8, 0, 0)), .int x1] g r gq := by
  refine CtI.of 0 hI (by decide +kernel) rfl (Nat.le_of_ble_eq_true rfl) (fun p e s m args below meth c X => ?_)
  unfold F_X8_pull at h
  show Vy _ _ _ _ _ _ _ _ _ _ _ _ _ _ _ 0 [some (.ref (ad (8, 0, 0))), some (.int x1)] [] g
  refine v_aloadn X dX8_pull_0 rfl rfl ?_
  refine v_iconst (v := 0) X dX8_pull_1 (by decide) ?_
  refine pf_X8_50 X dX8_pull_2 ?_
  refine v_aloadn X dX8_pull_5 rfl rfl ?_
  refine v_iloadn X dX8_pull_6 rfl rfl ?_
  obtain ⟨r3, g2, q1, h⟩ := bd2_some h
  refine v_callVI (As := [.int x1]) (rest := []) X (c_X8_isPaper l D ad cy X.2.2.2.2.2.2.2.2.1 N x1 (g3 g 10 0 0 (0 : Int32)) r3 g2  q1) mw_X8_isPaper ml_X8_208 (by decide) (by decide +kernel) (by decide) rfl rfl rfl rfl (Nat.le_of_ble_eq_true rfl) dX8_pull_7 ?_
  refine v_if_ne X 16 dX8_pull_10 (by decide) (fun c4 => ?_) (fun c4 => ?_)
  · replace h := (if_neg c4).symm.trans h
    refine v_aloadn X dX8_pull_16 rfl rfl ?_
    refine gf_X8_19 X dX8_pull_17 ?_
    refine v_iloadn X dX8_pull_20 rfl rfl ?_
    obtain ⟨r7, g6, q5, h⟩ := bd2_some h
    refine v_callSI (As := [.ref (ad (9, 11, 5)), .int x1]) (rest := []) X (c_X8_isUp l D ad cy X.2.2.2.2.2.2.2.2.1 N 5 x1 g2 r7 g6 (by decide +kernel) q5) mw_X8_isUp ml_X8_159 (by decide) rfl rfl (Nat.le_of_ble_eq_true rfl) dX8_pull_21 ?_
    refine v_if_eq X 51 dX8_pull_24 (by decide) (fun c8 => ?_) (fun c8 => ?_)
    · replace h := (if_pos c8).symm.trans h
      refine v_ldc X kc_X8_198 dX8_pull_51 ?_
      cases h
      exact v_iret X dX8_pull_53 rfl rfl
    · replace h := (if_neg c8).symm.trans h
      refine v_aloadn X dX8_pull_27 rfl rfl ?_
      refine gf_X8_19 X dX8_pull_28 ?_
      refine v_iloadn X dX8_pull_31 rfl rfl ?_
      refine v_aloadn X dX8_pull_32 rfl rfl ?_
      refine gf_X8_19 X dX8_pull_33 ?_
      refine v_aloadn X dX8_pull_36 rfl rfl ?_
      refine gf_X8_19 X dX8_pull_37 ?_
      refine v_iconst (v := 4) X dX8_pull_40 (by decide) ?_
      obtain ⟨j9, q10, h⟩ := bd1_some h
      obtain ⟨ej9, lj9⟩ := ix_spec q10
      refine alM X (by decide +kernel) j9 ej9 lj9 dX8_pull_41 ?_
      obtain ⟨r13, g12, q11, h⟩ := bd2_some h
      refine v_callSI (As := [.ref (ad (9, 11, 5)), .int (g6 11 5 j9)]) (rest := [.int x1, .ref (ad (9, 11, 5))]) X (c_X8_forceOf l D ad cy X.2.2.2.2.2.2.2.2.1 N 5 (g6 11 5 j9) g6 r13 g12 (by decide +kernel) q11) mw_X8_forceOf ml_X8_180 (by decide) rfl rfl (Nat.le_of_ble_eq_true rfl) dX8_pull_42 ?_
      obtain ⟨r16, g15, q14, h⟩ := bd2_some h
      refine v_callSI (As := [.ref (ad (9, 11, 5)), .int x1, .int r13]) (rest := []) X (c_X8_riseOf l D ad cy X.2.2.2.2.2.2.2.2.1 N 5 x1 r13 g12 r16 g15 (by decide +kernel) q14) mw_X8_riseOf ml_X8_174 (by decide) rfl rfl (Nat.le_of_ble_eq_true rfl) dX8_pull_45 ?_
      refine v_goto X 53 dX8_pull_48 (by decide) ?_
      cases h
      exact v_iret X dX8_pull_53 rfl rfl
  · replace h := (if_pos c4).symm.trans h
    refine v_ldc X kc_X8_70 dX8_pull_13 ?_
    cases h
    exact v_iret X dX8_pull_15 rfl rfl
def L_X8_quarrels_53 (N : Nat) (z1 : Int32) (z4 : Int32) : Nat → Int32 → Int32 → Int32 → GS → Option (Int32 × Int32 × Int32 × GS)
  | 0, _, _, _, _ => none
  | n + 1, y2, y3, y5, g => bd1 (ix (0 : Int32) 53) (fun j12 => if (g 11 5 j12) ≤ y5 then some (y2, y3, y5, g) else bd2 (F_X8_cellOf N 5 z4 g) (fun r17 g16 => if r17 = (-1000000 : Int32) then L_X8_quarrels_53 N z1 z4 n y2 y3 (y5 + 1) g16 else bd2 (F_X8_cellOf N 5 z4 g16) (fun r21 g20 => bd2 (F_X8_cellOf N 5 y5 g20) (fun r24 g23 => if r21 = r24 then if y2 = 0 then L_X8_quarrels_53 N z1 z4 n (y2 + 1) (((10 : Int32) * z4) + y5) (y5 + 1) g23 else L_X8_quarrels_53 N z1 z4 n (y2 + 1) y3 (y5 + 1) g23 else L_X8_quarrels_53 N z1 z4 n y2 y3 (y5 + 1) g23))))
def L_X8_quarrels_36 (N : Nat) (z1 : Int32) : Nat → Int32 → Int32 → Int32 → GS → Option (Int32 × Int32 × Int32 × GS)
  | 0, _, _, _, _ => none
  | n + 1, y2, y3, y4, g => bd1 (ix (0 : Int32) 53) (fun j9 => if (g 11 5 j9) ≤ y4 then some (y2, y3, y4, g) else bd4 (L_X8_quarrels_53 N z1 y4 N y2 y3 (y4 + (1 : Int32)) g) (fun x27 x28 x29 g30 => L_X8_quarrels_36 N z1 n x27 x28 (y4 + 1) g30))
def F_X8_quarrels (N : Nat) (x1 : Int32) (g : GS) : Option (Int32 × GS) := bd2 (F_X8_isThere N  (g3 g 10 0 0 (0 : Int32))) (fun r3 g2 => if r3 = 0 then some ((-1000002 : Int32), g2) else bd2 (F_X8_in N (x1.toInt64) (0 : Int64) (1 : Int64) g2) (fun r7 g6 => if r7 = 0 then some ((-1000001 : Int32), g6) else bd4 (L_X8_quarrels_36 N x1 N (0 : Int32) (-1000000 : Int32) (0 : Int32) g6) (fun x32 x33 x34 g35 => if x1 = 0 then some (x32, g35) else some (x33, g35))))
set_option maxRecDepth 100000 in
set_option maxHeartbeats 4000000 in
theorem w_X8_quarrels_53 {p : Program} {l : Launch} {e : Env} {s : State} {m : MethodId} {args : Array Value} {below : List Frame} {meth : Method} {c : Code} {D : va_G} {ad : Ky → Nat} {cy : Nat → ClassId} {r : Int32} {gq : GS} {N : Nat} (X : Cx p (rmd 2) s m args meth c RX8 cX8_quarrels 6 (some .int) D ad cy) (z1 : Int32) (z4 : Int32) : ∀ (n : Nat) (y2 : Int32) (y3 : Int32) (y5 : Int32) (g : GS) (y2' : Int32) (y3' : Int32) (y5' : Int32) (g' : GS), L_X8_quarrels_53 N z1 z4 n y2 y3 y5 g = some (y2', y3', y5', g') → Vy p l e (rmd 2) s m args below meth c 6 D ad cy (QI D ad cy below args s r gq) 125 [some (.ref (ad (8, 0, 0))), some (.int z1), some (.int y2'), some (.int y3'), some (.int z4), some (.int y5')] [] g' → Vy p l e (rmd 2) s m args below meth c 6 D ad cy (QI D ad cy below args s r gq) 53 [some (.ref (ad (8, 0, 0))), some (.int z1), some (.int y2), some (.int y3), some (.int z4), some (.int y5)] [] g := by
  intro n
  induction n with
  | zero => intro y2 y3 y5 g y2' y3' y5' g' h k; cases h
  | succ n ih =>
    intro y2 y3 y5 g y2' y3' y5' g' h k
    rw [L_X8_quarrels_53] at h
    refine v_iload X dX8_quarrels_53 rfl ?_
    refine v_aloadn X dX8_quarrels_55 rfl rfl ?_
    refine gf_X8_19 X dX8_quarrels_56 ?_
    refine v_iconst (v := 0) X dX8_quarrels_59 (by decide) ?_
    obtain ⟨j12, q13, h⟩ := bd1_some h
    obtain ⟨ej12, lj12⟩ := ix_spec q13
    refine alM X (by decide +kernel) j12 ej12 lj12 dX8_quarrels_60 ?_
    refine v_icmp_ge X 125 dX8_quarrels_61 (by decide) (fun c14 => ?_) (fun c14 => ?_)
    · replace h := (if_pos c14).symm.trans h
      cases h
      exact k
    · replace h := (if_neg c14).symm.trans h
      refine v_aloadn X dX8_quarrels_64 rfl rfl ?_
      refine gf_X8_19 X dX8_quarrels_65 ?_
      refine v_iload X dX8_quarrels_68 rfl ?_
      obtain ⟨r17, g16, q15, h⟩ := bd2_some h
      refine v_callSI (As := [.ref (ad (9, 11, 5)), .int z4]) (rest := []) X (c_X8_cellOf l D ad cy X.2.2.2.2.2.2.2.2.1 N 5 z4 g r17 g16 (by decide +kernel) q15) mw_X8_cellOf ml_X8_229 (by decide) rfl rfl (Nat.le_of_ble_eq_true rfl) dX8_quarrels_70 ?_
      refine v_ldc X kc_X8_93 dX8_quarrels_73 ?_
      refine v_icmp_eq X 119 dX8_quarrels_75 (by decide) (fun c18 => ?_) (fun c18 => ?_)
      · replace h := (if_pos c18).symm.trans h
        refine v_iinc (v := (y5 + 1)) (lc' := [some (.ref (ad (8, 0, 0))), some (.int z1), some (.int y2), some (.int y3), some (.int z4), some (.int (y5 + 1))]) X dX8_quarrels_119 rfl rfl (by decide) rfl rfl ?_
        refine v_goto X 53 dX8_quarrels_122 (by decide) ?_
        exact ih y2 y3 (y5 + 1) g16 _ _ _ _ h k
      · replace h := (if_neg c18).symm.trans h
        refine v_aloadn X dX8_quarrels_78 rfl rfl ?_
        refine gf_X8_19 X dX8_quarrels_79 ?_
        refine v_iload X dX8_quarrels_82 rfl ?_
        obtain ⟨r21, g20, q19, h⟩ := bd2_some h
        refine v_callSI (As := [.ref (ad (9, 11, 5)), .int z4]) (rest := []) X (c_X8_cellOf l D ad cy X.2.2.2.2.2.2.2.2.1 N 5 z4 g16 r21 g20 (by decide +kernel) q19) mw_X8_cellOf ml_X8_229 (by decide) rfl rfl (Nat.le_of_ble_eq_true rfl) dX8_quarrels_84 ?_
        refine v_aloadn X dX8_quarrels_87 rfl rfl ?_
        refine gf_X8_19 X dX8_quarrels_88 ?_
        refine v_iload X dX8_quarrels_91 rfl ?_
        obtain ⟨r24, g23, q22, h⟩ := bd2_some h
        refine v_callSI (As := [.ref (ad (9, 11, 5)), .int y5]) (rest := [.int r21]) X (c_X8_cellOf l D ad cy X.2.2.2.2.2.2.2.2.1 N 5 y5 g20 r24 g23 (by decide +kernel) q22) mw_X8_cellOf ml_X8_229 (by decide) rfl rfl (Nat.le_of_ble_eq_true rfl) dX8_quarrels_93 ?_
        refine v_icmp_ne X 119 dX8_quarrels_96 (by decide) (fun c25 => ?_) (fun c25 => ?_)
        · replace h := (if_neg c25).symm.trans h
          refine v_iinc (v := (y5 + 1)) (lc' := [some (.ref (ad (8, 0, 0))), some (.int z1), some (.int y2), some (.int y3), some (.int z4), some (.int (y5 + 1))]) X dX8_quarrels_119 rfl rfl (by decide) rfl rfl ?_
          refine v_goto X 53 dX8_quarrels_122 (by decide) ?_
          exact ih y2 y3 (y5 + 1) g23 _ _ _ _ h k
        · replace h := (if_pos c25).symm.trans h
          refine v_iloadn X dX8_quarrels_99 rfl rfl ?_
          refine v_if_ne X 114 dX8_quarrels_100 (by decide) (fun c26 => ?_) (fun c26 => ?_)
          · replace h := (if_neg c26).symm.trans h
            refine v_iloadn X dX8_quarrels_114 rfl rfl ?_
            refine v_istoren (lc' := [some (.ref (ad (8, 0, 0))), some (.int z1), some (.int y2), some (.int y3), some (.int z4), some (.int y5)]) X dX8_quarrels_115 rfl (by decide) rfl rfl ?_
            refine v_iinc (v := (y2 + 1)) (lc' := [some (.ref (ad (8, 0, 0))), some (.int z1), some (.int (y2 + 1)), some (.int y3), some (.int z4), some (.int y5)]) X dX8_quarrels_116 rfl rfl (by decide) rfl rfl ?_
            refine v_iinc (v := (y5 + 1)) (lc' := [some (.ref (ad (8, 0, 0))), some (.int z1), some (.int (y2 + 1)), some (.int y3), some (.int z4), some (.int (y5 + 1))]) X dX8_quarrels_119 rfl rfl (by decide) rfl rfl ?_
            refine v_goto X 53 dX8_quarrels_122 (by decide) ?_
            exact ih (y2 + 1) y3 (y5 + 1) g23 _ _ _ _ h k
          · replace h := (if_pos c26).symm.trans h
            refine v_bipush (v := 10) X dX8_quarrels_103 (by decide) ?_
            refine v_iload X dX8_quarrels_105 rfl ?_
            refine v_imul X dX8_quarrels_107 ?_
            refine v_iload X dX8_quarrels_108 rfl ?_
            refine v_iadd X dX8_quarrels_110 ?_
            refine v_goto X 115 dX8_quarrels_111 (by decide) ?_
            refine v_istoren (lc' := [some (.ref (ad (8, 0, 0))), some (.int z1), some (.int y2), some (.int (((10 : Int32) * z4) + y5)), some (.int z4), some (.int y5)]) X dX8_quarrels_115 rfl (by decide) rfl rfl ?_
            refine v_iinc (v := (y2 + 1)) (lc' := [some (.ref (ad (8, 0, 0))), some (.int z1), some (.int (y2 + 1)), some (.int (((10 : Int32) * z4) + y5)), some (.int z4), some (.int y5)]) X dX8_quarrels_116 rfl rfl (by decide) rfl rfl ?_
            refine v_iinc (v := (y5 + 1)) (lc' := [some (.ref (ad (8, 0, 0))), some (.int z1), some (.int (y2 + 1)), some (.int (((10 : Int32) * z4) + y5)), some (.int z4), some (.int (y5 + 1))]) X dX8_quarrels_119 rfl rfl (by decide) rfl rfl ?_
            refine v_goto X 53 dX8_quarrels_122 (by decide) ?_
            exact ih (y2 + 1) (((10 : Int32) * z4) + y5) (y5 + 1) g23 _ _ _ _ h k
set_option maxRecDepth 100000 in
set_option maxHeartbeats 4000000 in
theorem w_X8_quarrels_36 {p : Program} {l : Launch} {e : Env} {s : State} {m : MethodId} {args : Array Value} {below : List Frame} {meth : Method} {c : Code} {D : va_G} {ad : Ky → Nat} {cy : Nat → ClassId} {r : Int32} {gq : GS} {N : Nat} (X : Cx p (rmd 2) s m args meth c RX8 cX8_quarrels 6 (some .int) D ad cy) (z1 : Int32) : ∀ (n : Nat) (y2 : Int32) (y3 : Int32) (y4 : Int32) (g : GS) (y2' : Int32) (y3' : Int32) (y4' : Int32) (g' : GS), L_X8_quarrels_36 N z1 n y2 y3 y4 g = some (y2', y3', y4', g') → Vy p l e (rmd 2) s m args below meth c 6 D ad cy (QI D ad cy below args s r gq) 131 [some (.ref (ad (8, 0, 0))), some (.int z1), some (.int y2'), some (.int y3'), some (.int y4'), none] [] g' → Vy p l e (rmd 2) s m args below meth c 6 D ad cy (QI D ad cy below args s r gq) 36 [some (.ref (ad (8, 0, 0))), some (.int z1), some (.int y2), some (.int y3), some (.int y4), none] [] g := by
  intro n
  induction n with
  | zero => intro y2 y3 y4 g y2' y3' y4' g' h k; cases h
  | succ n ih =>
    intro y2 y3 y4 g y2' y3' y4' g' h k
    rw [L_X8_quarrels_36] at h
    refine v_iload X dX8_quarrels_36 rfl ?_
    refine v_aloadn X dX8_quarrels_38 rfl rfl ?_
    refine gf_X8_19 X dX8_quarrels_39 ?_
    refine v_iconst (v := 0) X dX8_quarrels_42 (by decide) ?_
    obtain ⟨j9, q10, h⟩ := bd1_some h
    obtain ⟨ej9, lj9⟩ := ix_spec q10
    refine alM X (by decide +kernel) j9 ej9 lj9 dX8_quarrels_43 ?_
    refine v_icmp_ge X 131 dX8_quarrels_44 (by decide) (fun c11 => ?_) (fun c11 => ?_)
    · replace h := (if_pos c11).symm.trans h
      cases h
      exact k
    · replace h := (if_neg c11).symm.trans h
      refine v_iload X dX8_quarrels_47 rfl ?_
      refine v_iconst (v := 1) X dX8_quarrels_49 (by decide) ?_
      refine v_iadd X dX8_quarrels_50 ?_
      refine v_istore (lc' := [some (.ref (ad (8, 0, 0))), some (.int z1), some (.int y2), some (.int y3), some (.int y4), some (.int (y4 + (1 : Int32)))]) X dX8_quarrels_51 (by decide) rfl rfl ?_
      obtain ⟨x27, x28, x29, g30, q31, h⟩ := bd4_some h
      refine w_X8_quarrels_53 X z1 y4 N y2 y3 (y4 + (1 : Int32)) g x27 x28 x29 g30 q31 ?_
      refine v_iinc (v := (y4 + 1)) (lc' := [some (.ref (ad (8, 0, 0))), some (.int z1), some (.int x27), some (.int x28), some (.int (y4 + 1)), some (.int x29)]) X dX8_quarrels_125 rfl rfl (by decide) rfl rfl ?_
      refine v_goto X 36 dX8_quarrels_128 (by decide) ?_
      refine v_weak (lc2 := [some (.ref (ad (8, 0, 0))), some (.int z1), some (.int x27), some (.int x28), some (.int (y4 + 1)), none]) ⟨rfl, rfl, rfl, rfl, rfl, trivial⟩ ?_
      exact ih x27 x28 (y4 + 1) g30 _ _ _ _ h k
set_option maxRecDepth 100000 in
set_option maxHeartbeats 4000000 in
theorem c_X8_quarrels (l : Launch) (D : va_G) (ad : Ky → Nat) (cy : Nat → ClassId) (hI : Inj ad) (N : Nat) (x1 : Int32) (g : GS) (r : Int32) (gq : GS) (h : F_X8_quarrels N x1 g = some (r, gq)) : CtI l D ad cy yX8_quarrels cX8_quarrels 6 (some .int) 2 [.ref (ad (8, 0, 0)), .int x1] g r gq := by
  refine CtI.of 4 hI (by decide +kernel) rfl (Nat.le_of_ble_eq_true rfl) (fun p e s m args below meth c X => ?_)
  unfold F_X8_quarrels at h
  show Vy _ _ _ _ _ _ _ _ _ _ _ _ _ _ _ 0 [some (.ref (ad (8, 0, 0))), some (.int x1), none, none, none, none] [] g
  refine v_aloadn X dX8_quarrels_0 rfl rfl ?_
  refine v_iconst (v := 0) X dX8_quarrels_1 (by decide) ?_
  refine pf_X8_50 X dX8_quarrels_2 ?_
  refine v_aloadn X dX8_quarrels_5 rfl rfl ?_
  obtain ⟨r3, g2, q1, h⟩ := bd2_some h
  refine v_callVI (As := []) (rest := []) X (c_X8_isThere l D ad cy X.2.2.2.2.2.2.2.2.1 N  (g3 g 10 0 0 (0 : Int32)) r3 g2  q1) mw_X8_isThere ml_X8_195 (by decide) (by decide +kernel) (by decide) rfl rfl rfl rfl (Nat.le_of_ble_eq_true rfl) dX8_quarrels_6 ?_
  refine v_if_ne X 15 dX8_quarrels_9 (by decide) (fun c4 => ?_) (fun c4 => ?_)
  · replace h := (if_neg c4).symm.trans h
    refine v_iloadn X dX8_quarrels_15 rfl rfl ?_
    refine v_i2l X dX8_quarrels_16 ?_
    refine v_lconst (v := 0) X dX8_quarrels_17 (by decide) ?_
    refine v_lconst (v := 1) X dX8_quarrels_18 (by decide) ?_
    obtain ⟨r7, g6, q5, h⟩ := bd2_some h
    refine v_callSI (As := [.long (x1.toInt64), .long (0 : Int64), .long (1 : Int64)]) (rest := []) X (c_X8_in l D ad cy X.2.2.2.2.2.2.2.2.1 N (x1.toInt64) (0 : Int64) (1 : Int64) g2 r7 g6  q5) mw_X8_in ml_X8_60 (by decide) rfl rfl (Nat.le_of_ble_eq_true rfl) dX8_quarrels_19 ?_
    refine v_if_ne X 28 dX8_quarrels_22 (by decide) (fun c8 => ?_) (fun c8 => ?_)
    · replace h := (if_neg c8).symm.trans h
      refine v_iconst (v := 0) X dX8_quarrels_28 (by decide) ?_
      refine v_istoren (lc' := [some (.ref (ad (8, 0, 0))), some (.int x1), some (.int (0 : Int32)), none, none, none]) X dX8_quarrels_29 rfl (by decide) rfl rfl ?_
      refine v_ldc X kc_X8_93 dX8_quarrels_30 ?_
      refine v_istoren (lc' := [some (.ref (ad (8, 0, 0))), some (.int x1), some (.int (0 : Int32)), some (.int (-1000000 : Int32)), none, none]) X dX8_quarrels_32 rfl (by decide) rfl rfl ?_
      refine v_iconst (v := 0) X dX8_quarrels_33 (by decide) ?_
      refine v_istore (lc' := [some (.ref (ad (8, 0, 0))), some (.int x1), some (.int (0 : Int32)), some (.int (-1000000 : Int32)), some (.int (0 : Int32)), none]) X dX8_quarrels_34 (by decide) rfl rfl ?_
      obtain ⟨x32, x33, x34, g35, q36, h⟩ := bd4_some h
      refine w_X8_quarrels_36 X x1 N (0 : Int32) (-1000000 : Int32) (0 : Int32) g6 x32 x33 x34 g35 q36 ?_
      refine v_iloadn X dX8_quarrels_131 rfl rfl ?_
      refine v_if_ne X 139 dX8_quarrels_132 (by decide) (fun c37 => ?_) (fun c37 => ?_)
      · replace h := (if_neg c37).symm.trans h
        refine v_iloadn X dX8_quarrels_139 rfl rfl ?_
        cases h
        exact v_iret X dX8_quarrels_140 rfl rfl
      · replace h := (if_pos c37).symm.trans h
        refine v_iloadn X dX8_quarrels_135 rfl rfl ?_
        refine v_goto X 140 dX8_quarrels_136 (by decide) ?_
        cases h
        exact v_iret X dX8_quarrels_140 rfl rfl
    · replace h := (if_pos c8).symm.trans h
      refine v_ldc X kc_X8_70 dX8_quarrels_25 ?_
      cases h
      exact v_iret X dX8_quarrels_27 rfl rfl
  · replace h := (if_pos c4).symm.trans h
    refine v_ldc X kc_X8_198 dX8_quarrels_12 ?_
    cases h
    exact v_iret X dX8_quarrels_14 rfl rfl
def F_X8_readPaper (N : Nat) (g : GS) : Option GS := bd2 (F_X8_kindBy N (g 10 0 16) g) (fun r3 g2 => bd1 (ix (0 : Int32) 53) (fun j4 => if (g2 11 6 j4) = (6 : Int32) then bd1 (F_X8_bad N (3 : Int32) g2) (fun g33 => bd1 (F_X8_must N (1 : Int32) g33) (fun g35 => bd2 (F_X8_number N (0 : Int32) (9 : Int32) g35) (fun r38 g37 => bd1 (F_X8_mustSign N (44 : Int32) g37) (fun g40 => bd2 (F_X8_number N (1 : Int32) (60 : Int32) g40) (fun r43 g42 => bd1 (F_X8_mustSign N (59 : Int32) g42) (fun g45 => if (g45 10 0 17) = 0 then bd1 (ix (0 : Int32) 53) (fun j47 => bd1 (ix ((11 : Int32) + ((7 : Int32) * (g45 11 6 j47))) 53) (fun j49 => bd1 (ix (((11 : Int32) + ((7 : Int32) * (g45 11 6 j47))) + (1 : Int32)) 53) (fun j51 => bd1 (ix (((11 : Int32) + ((7 : Int32) * (g45 11 6 j47))) + (2 : Int32)) 53) (fun j53 => bd1 (ix (0 : Int32) 53) (fun j55 => bd1 (ix (0 : Int32) 53) (fun j57 => some (g3 (g3 (g3 (g3 g45 11 6 j49 r3) 11 6 j51 r38) 11 6 j53 r43) 11 6 j57 (((g3 (g3 (g3 g45 11 6 j49 r3) 11 6 j51 r38) 11 6 j53 r43) 11 6 j55) + (1 : Int32))))))))) else some g45)))))) else bd1 (F_X8_must N (1 : Int32) g2) (fun g8 => bd2 (F_X8_number N (0 : Int32) (9 : Int32) g8) (fun r11 g10 => bd1 (F_X8_mustSign N (44 : Int32) g10) (fun g13 => bd2 (F_X8_number N (1 : Int32) (60 : Int32) g13) (fun r16 g15 => bd1 (F_X8_mustSign N (59 : Int32) g15) (fun g18 => if (g18 10 0 17) = 0 then bd1 (ix (0 : Int32) 53) (fun j20 => bd1 (ix ((11 : Int32) + ((7 : Int32) * (g18 11 6 j20))) 53) (fun j22 => bd1 (ix (((11 : Int32) + ((7 : Int32) * (g18 11 6 j20))) + (1 : Int32)) 53) (fun j24 => bd1 (ix (((11 : Int32) + ((7 : Int32) * (g18 11 6 j20))) + (2 : Int32)) 53) (fun j26 => bd1 (ix (0 : Int32) 53) (fun j28 => bd1 (ix (0 : Int32) 53) (fun j30 => some (g3 (g3 (g3 (g3 g18 11 6 j22 r3) 11 6 j24 r11) 11 6 j26 r16) 11 6 j30 (((g3 (g3 (g3 g18 11 6 j22 r3) 11 6 j24 r11) 11 6 j26 r16) 11 6 j28) + (1 : Int32))))))))) else some g18)))))))
set_option maxRecDepth 100000 in
set_option maxHeartbeats 4000000 in
theorem c_X8_readPaper (l : Launch) (D : va_G) (ad : Ky → Nat) (cy : Nat → ClassId) (hI : Inj ad) (N : Nat) (g : GS) (gq : GS) (h : F_X8_readPaper N  g = some gq) : CtV l D ad cy yX8_readPaper cX8_readPaper 5 4 [.ref (ad (8, 0, 0))] g gq := by
  refine CtV.of 4 hI (by decide +kernel) rfl (Nat.le_of_ble_eq_true rfl) (fun p e s m args below meth c X => ?_)
  unfold F_X8_readPaper at h
  show Vy _ _ _ _ _ _ _ _ _ _ _ _ _ _ _ 0 [some (.ref (ad (8, 0, 0))), none, none, none, none] [] g
  refine v_aloadn X dX8_readPaper_0 rfl rfl ?_
  refine gf_X8_94 X dX8_readPaper_1 ?_
  obtain ⟨r3, g2, q1, h⟩ := bd2_some h
  refine v_callSI (As := [.int (g 10 0 16)]) (rest := []) X (c_X8_kindBy l D ad cy X.2.2.2.2.2.2.2.2.1 N (g 10 0 16) g r3 g2  q1) mw_X8_kindBy ml_X8_122 (by decide) rfl rfl (Nat.le_of_ble_eq_true rfl) dX8_readPaper_4 ?_
  refine v_istoren (lc' := [some (.ref (ad (8, 0, 0))), some (.int r3), none, none, none]) X dX8_readPaper_7 rfl (by decide) rfl rfl ?_
  refine v_aloadn X dX8_readPaper_8 rfl rfl ?_
  refine gf_X8_22 X dX8_readPaper_9 ?_
  refine v_iconst (v := 0) X dX8_readPaper_12 (by decide) ?_
  obtain ⟨j4, q5, h⟩ := bd1_some h
  obtain ⟨ej4, lj4⟩ := ix_spec q5
  refine alM X (by decide +kernel) j4 ej4 lj4 dX8_readPaper_13 ?_
  refine v_bipush (v := 6) X dX8_readPaper_14 (by decide) ?_
  refine v_icmp_ne X 24 dX8_readPaper_16 (by decide) (fun c6 => ?_) (fun c6 => ?_)
  · replace h := (if_neg c6).symm.trans h
    refine v_aloadn X dX8_readPaper_24 rfl rfl ?_
    refine v_iconst (v := 1) X dX8_readPaper_25 (by decide) ?_
    obtain ⟨g8, q7, h⟩ := bd1_some h
    refine v_callVV (As := [.int (1 : Int32)]) (rest := []) X (c_X8_must l D ad cy X.2.2.2.2.2.2.2.2.1 N (1 : Int32) g2 g8  q7) mw_X8_must ml_X8_115 (by decide) (by decide +kernel) (by decide) rfl rfl rfl rfl (Nat.le_of_ble_eq_true rfl) dX8_readPaper_26 ?_
    refine v_aloadn X dX8_readPaper_29 rfl rfl ?_
    refine v_iconst (v := 0) X dX8_readPaper_30 (by decide) ?_
    refine v_bipush (v := 9) X dX8_readPaper_31 (by decide) ?_
    obtain ⟨r11, g10, q9, h⟩ := bd2_some h
    refine v_callVI (As := [.int (0 : Int32), .int (9 : Int32)]) (rest := []) X (c_X8_number l D ad cy X.2.2.2.2.2.2.2.2.1 N (0 : Int32) (9 : Int32) g8 r11 g10  q9) mw_X8_number ml_X8_128 (by decide) (by decide +kernel) (by decide) rfl rfl rfl rfl (Nat.le_of_ble_eq_true rfl) dX8_readPaper_33 ?_
    refine v_istoren (lc' := [some (.ref (ad (8, 0, 0))), some (.int r3), some (.int r11), none, none]) X dX8_readPaper_36 rfl (by decide) rfl rfl ?_
    refine v_aloadn X dX8_readPaper_37 rfl rfl ?_
    refine v_bipush (v := 44) X dX8_readPaper_38 (by decide) ?_
    obtain ⟨g13, q12, h⟩ := bd1_some h
    refine v_callVV (As := [.int (44 : Int32)]) (rest := []) X (c_X8_mustSign l D ad cy X.2.2.2.2.2.2.2.2.1 N (44 : Int32) g10 g13  q12) mw_X8_mustSign ml_X8_132 (by decide) (by decide +kernel) (by decide) rfl rfl rfl rfl (Nat.le_of_ble_eq_true rfl) dX8_readPaper_40 ?_
    refine v_aloadn X dX8_readPaper_43 rfl rfl ?_
    refine v_iconst (v := 1) X dX8_readPaper_44 (by decide) ?_
    refine v_bipush (v := 60) X dX8_readPaper_45 (by decide) ?_
    obtain ⟨r16, g15, q14, h⟩ := bd2_some h
    refine v_callVI (As := [.int (1 : Int32), .int (60 : Int32)]) (rest := []) X (c_X8_number l D ad cy X.2.2.2.2.2.2.2.2.1 N (1 : Int32) (60 : Int32) g13 r16 g15  q14) mw_X8_number ml_X8_128 (by decide) (by decide +kernel) (by decide) rfl rfl rfl rfl (Nat.le_of_ble_eq_true rfl) dX8_readPaper_47 ?_
    refine v_istoren (lc' := [some (.ref (ad (8, 0, 0))), some (.int r3), some (.int r11), some (.int r16), none]) X dX8_readPaper_50 rfl (by decide) rfl rfl ?_
    refine v_aloadn X dX8_readPaper_51 rfl rfl ?_
    refine v_bipush (v := 59) X dX8_readPaper_52 (by decide) ?_
    obtain ⟨g18, q17, h⟩ := bd1_some h
    refine v_callVV (As := [.int (59 : Int32)]) (rest := []) X (c_X8_mustSign l D ad cy X.2.2.2.2.2.2.2.2.1 N (59 : Int32) g15 g18  q17) mw_X8_mustSign ml_X8_132 (by decide) (by decide +kernel) (by decide) rfl rfl rfl rfl (Nat.le_of_ble_eq_true rfl) dX8_readPaper_54 ?_
    refine v_aloadn X dX8_readPaper_57 rfl rfl ?_
    refine gf_X8_81 X dX8_readPaper_58 ?_
    refine v_if_ne X 116 dX8_readPaper_61 (by decide) (fun c19 => ?_) (fun c19 => ?_)
    · replace h := (if_neg c19).symm.trans h
      cases h
      exact v_vret X dX8_readPaper_116 rfl
    · replace h := (if_pos c19).symm.trans h
      refine v_bipush (v := 11) X dX8_readPaper_64 (by decide) ?_
      refine v_bipush (v := 7) X dX8_readPaper_66 (by decide) ?_
      refine v_aloadn X dX8_readPaper_68 rfl rfl ?_
      refine gf_X8_22 X dX8_readPaper_69 ?_
      refine v_iconst (v := 0) X dX8_readPaper_72 (by decide) ?_
      obtain ⟨j20, q21, h⟩ := bd1_some h
      obtain ⟨ej20, lj20⟩ := ix_spec q21
      refine alM X (by decide +kernel) j20 ej20 lj20 dX8_readPaper_73 ?_
      refine v_imul X dX8_readPaper_74 ?_
      refine v_iadd X dX8_readPaper_75 ?_
      refine v_istore (lc' := [some (.ref (ad (8, 0, 0))), some (.int r3), some (.int r11), some (.int r16), some (.int ((11 : Int32) + ((7 : Int32) * (g18 11 6 j20))))]) X dX8_readPaper_76 (by decide) rfl rfl ?_
      refine v_aloadn X dX8_readPaper_78 rfl rfl ?_
      refine gf_X8_22 X dX8_readPaper_79 ?_
      refine v_iload X dX8_readPaper_82 rfl ?_
      refine v_iloadn X dX8_readPaper_84 rfl rfl ?_
      obtain ⟨j22, q23, h⟩ := bd1_some h
      obtain ⟨ej22, lj22⟩ := ix_spec q23
      refine asM X (by decide +kernel) j22 ej22 lj22 dX8_readPaper_85 ?_
      refine v_aloadn X dX8_readPaper_86 rfl rfl ?_
      refine gf_X8_22 X dX8_readPaper_87 ?_
      refine v_iload X dX8_readPaper_90 rfl ?_
      refine v_iconst (v := 1) X dX8_readPaper_92 (by decide) ?_
      refine v_iadd X dX8_readPaper_93 ?_
      refine v_iloadn X dX8_readPaper_94 rfl rfl ?_
      obtain ⟨j24, q25, h⟩ := bd1_some h
      obtain ⟨ej24, lj24⟩ := ix_spec q25
      refine asM X (by decide +kernel) j24 ej24 lj24 dX8_readPaper_95 ?_
      refine v_aloadn X dX8_readPaper_96 rfl rfl ?_
      refine gf_X8_22 X dX8_readPaper_97 ?_
      refine v_iload X dX8_readPaper_100 rfl ?_
      refine v_iconst (v := 2) X dX8_readPaper_102 (by decide) ?_
      refine v_iadd X dX8_readPaper_103 ?_
      refine v_iloadn X dX8_readPaper_104 rfl rfl ?_
      obtain ⟨j26, q27, h⟩ := bd1_some h
      obtain ⟨ej26, lj26⟩ := ix_spec q27
      refine asM X (by decide +kernel) j26 ej26 lj26 dX8_readPaper_105 ?_
      refine v_aloadn X dX8_readPaper_106 rfl rfl ?_
      refine gf_X8_22 X dX8_readPaper_107 ?_
      refine v_iconst (v := 0) X dX8_readPaper_110 (by decide) ?_
      refine v_dup2 X dX8_readPaper_111 rfl rfl ?_
      obtain ⟨j28, q29, h⟩ := bd1_some h
      obtain ⟨ej28, lj28⟩ := ix_spec q29
      refine alM X (by decide +kernel) j28 ej28 lj28 dX8_readPaper_112 ?_
      refine v_iconst (v := 1) X dX8_readPaper_113 (by decide) ?_
      refine v_iadd X dX8_readPaper_114 ?_
      obtain ⟨j30, q31, h⟩ := bd1_some h
      obtain ⟨ej30, lj30⟩ := ix_spec q31
      refine asM X (by decide +kernel) j30 ej30 lj30 dX8_readPaper_115 ?_
      cases h
      exact v_vret X dX8_readPaper_116 rfl
  · replace h := (if_pos c6).symm.trans h
    refine v_aloadn X dX8_readPaper_19 rfl rfl ?_
    refine v_iconst (v := 3) X dX8_readPaper_20 (by decide) ?_
    obtain ⟨g33, q32, h⟩ := bd1_some h
    refine v_callVV (As := [.int (3 : Int32)]) (rest := []) X (c_X8_bad l D ad cy X.2.2.2.2.2.2.2.2.1 N (3 : Int32) g2 g33  q32) mw_X8_bad ml_X8_108 (by decide) (by decide +kernel) (by decide) rfl rfl rfl rfl (Nat.le_of_ble_eq_true rfl) dX8_readPaper_21 ?_
    refine v_aloadn X dX8_readPaper_24 rfl rfl ?_
    refine v_iconst (v := 1) X dX8_readPaper_25 (by decide) ?_
    obtain ⟨g35, q34, h⟩ := bd1_some h
    refine v_callVV (As := [.int (1 : Int32)]) (rest := []) X (c_X8_must l D ad cy X.2.2.2.2.2.2.2.2.1 N (1 : Int32) g33 g35  q34) mw_X8_must ml_X8_115 (by decide) (by decide +kernel) (by decide) rfl rfl rfl rfl (Nat.le_of_ble_eq_true rfl) dX8_readPaper_26 ?_
    refine v_aloadn X dX8_readPaper_29 rfl rfl ?_
    refine v_iconst (v := 0) X dX8_readPaper_30 (by decide) ?_
    refine v_bipush (v := 9) X dX8_readPaper_31 (by decide) ?_
    obtain ⟨r38, g37, q36, h⟩ := bd2_some h
    refine v_callVI (As := [.int (0 : Int32), .int (9 : Int32)]) (rest := []) X (c_X8_number l D ad cy X.2.2.2.2.2.2.2.2.1 N (0 : Int32) (9 : Int32) g35 r38 g37  q36) mw_X8_number ml_X8_128 (by decide) (by decide +kernel) (by decide) rfl rfl rfl rfl (Nat.le_of_ble_eq_true rfl) dX8_readPaper_33 ?_
    refine v_istoren (lc' := [some (.ref (ad (8, 0, 0))), some (.int r3), some (.int r38), none, none]) X dX8_readPaper_36 rfl (by decide) rfl rfl ?_
    refine v_aloadn X dX8_readPaper_37 rfl rfl ?_
    refine v_bipush (v := 44) X dX8_readPaper_38 (by decide) ?_
    obtain ⟨g40, q39, h⟩ := bd1_some h
    refine v_callVV (As := [.int (44 : Int32)]) (rest := []) X (c_X8_mustSign l D ad cy X.2.2.2.2.2.2.2.2.1 N (44 : Int32) g37 g40  q39) mw_X8_mustSign ml_X8_132 (by decide) (by decide +kernel) (by decide) rfl rfl rfl rfl (Nat.le_of_ble_eq_true rfl) dX8_readPaper_40 ?_
    refine v_aloadn X dX8_readPaper_43 rfl rfl ?_
    refine v_iconst (v := 1) X dX8_readPaper_44 (by decide) ?_
    refine v_bipush (v := 60) X dX8_readPaper_45 (by decide) ?_
    obtain ⟨r43, g42, q41, h⟩ := bd2_some h
    refine v_callVI (As := [.int (1 : Int32), .int (60 : Int32)]) (rest := []) X (c_X8_number l D ad cy X.2.2.2.2.2.2.2.2.1 N (1 : Int32) (60 : Int32) g40 r43 g42  q41) mw_X8_number ml_X8_128 (by decide) (by decide +kernel) (by decide) rfl rfl rfl rfl (Nat.le_of_ble_eq_true rfl) dX8_readPaper_47 ?_
    refine v_istoren (lc' := [some (.ref (ad (8, 0, 0))), some (.int r3), some (.int r38), some (.int r43), none]) X dX8_readPaper_50 rfl (by decide) rfl rfl ?_
    refine v_aloadn X dX8_readPaper_51 rfl rfl ?_
    refine v_bipush (v := 59) X dX8_readPaper_52 (by decide) ?_
    obtain ⟨g45, q44, h⟩ := bd1_some h
    refine v_callVV (As := [.int (59 : Int32)]) (rest := []) X (c_X8_mustSign l D ad cy X.2.2.2.2.2.2.2.2.1 N (59 : Int32) g42 g45  q44) mw_X8_mustSign ml_X8_132 (by decide) (by decide +kernel) (by decide) rfl rfl rfl rfl (Nat.le_of_ble_eq_true rfl) dX8_readPaper_54 ?_
    refine v_aloadn X dX8_readPaper_57 rfl rfl ?_
    refine gf_X8_81 X dX8_readPaper_58 ?_
    refine v_if_ne X 116 dX8_readPaper_61 (by decide) (fun c46 => ?_) (fun c46 => ?_)
    · replace h := (if_neg c46).symm.trans h
      cases h
      exact v_vret X dX8_readPaper_116 rfl
    · replace h := (if_pos c46).symm.trans h
      refine v_bipush (v := 11) X dX8_readPaper_64 (by decide) ?_
      refine v_bipush (v := 7) X dX8_readPaper_66 (by decide) ?_
      refine v_aloadn X dX8_readPaper_68 rfl rfl ?_
      refine gf_X8_22 X dX8_readPaper_69 ?_
      refine v_iconst (v := 0) X dX8_readPaper_72 (by decide) ?_
      obtain ⟨j47, q48, h⟩ := bd1_some h
      obtain ⟨ej47, lj47⟩ := ix_spec q48
      refine alM X (by decide +kernel) j47 ej47 lj47 dX8_readPaper_73 ?_
      refine v_imul X dX8_readPaper_74 ?_
      refine v_iadd X dX8_readPaper_75 ?_
      refine v_istore (lc' := [some (.ref (ad (8, 0, 0))), some (.int r3), some (.int r38), some (.int r43), some (.int ((11 : Int32) + ((7 : Int32) * (g45 11 6 j47))))]) X dX8_readPaper_76 (by decide) rfl rfl ?_
      refine v_aloadn X dX8_readPaper_78 rfl rfl ?_
      refine gf_X8_22 X dX8_readPaper_79 ?_
      refine v_iload X dX8_readPaper_82 rfl ?_
      refine v_iloadn X dX8_readPaper_84 rfl rfl ?_
      obtain ⟨j49, q50, h⟩ := bd1_some h
      obtain ⟨ej49, lj49⟩ := ix_spec q50
      refine asM X (by decide +kernel) j49 ej49 lj49 dX8_readPaper_85 ?_
      refine v_aloadn X dX8_readPaper_86 rfl rfl ?_
      refine gf_X8_22 X dX8_readPaper_87 ?_
      refine v_iload X dX8_readPaper_90 rfl ?_
      refine v_iconst (v := 1) X dX8_readPaper_92 (by decide) ?_
      refine v_iadd X dX8_readPaper_93 ?_
      refine v_iloadn X dX8_readPaper_94 rfl rfl ?_
      obtain ⟨j51, q52, h⟩ := bd1_some h
      obtain ⟨ej51, lj51⟩ := ix_spec q52
      refine asM X (by decide +kernel) j51 ej51 lj51 dX8_readPaper_95 ?_
      refine v_aloadn X dX8_readPaper_96 rfl rfl ?_
      refine gf_X8_22 X dX8_readPaper_97 ?_
      refine v_iload X dX8_readPaper_100 rfl ?_
      refine v_iconst (v := 2) X dX8_readPaper_102 (by decide) ?_
      refine v_iadd X dX8_readPaper_103 ?_
      refine v_iloadn X dX8_readPaper_104 rfl rfl ?_
      obtain ⟨j53, q54, h⟩ := bd1_some h
      obtain ⟨ej53, lj53⟩ := ix_spec q54
      refine asM X (by decide +kernel) j53 ej53 lj53 dX8_readPaper_105 ?_
      refine v_aloadn X dX8_readPaper_106 rfl rfl ?_
      refine gf_X8_22 X dX8_readPaper_107 ?_
      refine v_iconst (v := 0) X dX8_readPaper_110 (by decide) ?_
      refine v_dup2 X dX8_readPaper_111 rfl rfl ?_
      obtain ⟨j55, q56, h⟩ := bd1_some h
      obtain ⟨ej55, lj55⟩ := ix_spec q56
      refine alM X (by decide +kernel) j55 ej55 lj55 dX8_readPaper_112 ?_
      refine v_iconst (v := 1) X dX8_readPaper_113 (by decide) ?_
      refine v_iadd X dX8_readPaper_114 ?_
      obtain ⟨j57, q58, h⟩ := bd1_some h
      obtain ⟨ej57, lj57⟩ := ix_spec q58
      refine asM X (by decide +kernel) j57 ej57 lj57 dX8_readPaper_115 ?_
      cases h
      exact v_vret X dX8_readPaper_116 rfl
def F_X8_readWind (N : Nat) (g : GS) : Option GS := bd1 (ix (1 : Int32) 53) (fun j1 => if (g 11 6 j1) = (6 : Int32) then bd1 (F_X8_bad N (3 : Int32) g) (fun g24 => bd2 (F_X8_isLetter N (119 : Int32) g24) (fun r27 g26 => bd1 (F_X8_must N r27 g26) (fun g29 => bd2 (F_X8_number N (0 : Int32) (9 : Int32) g29) (fun r32 g31 => bd1 (F_X8_mustSign N (59 : Int32) g31) (fun g34 => if (g34 10 0 17) = 0 then bd1 (ix (1 : Int32) 53) (fun j36 => bd1 (ix ((5 : Int32) + (g34 11 6 j36)) 53) (fun j38 => bd1 (ix (1 : Int32) 53) (fun j40 => bd1 (ix (1 : Int32) 53) (fun j42 => some (g3 (g3 g34 11 6 j38 r32) 11 6 j42 (((g3 g34 11 6 j38 r32) 11 6 j40) + (1 : Int32))))))) else some g34))))) else bd2 (F_X8_isLetter N (119 : Int32) g) (fun r6 g5 => bd1 (F_X8_must N r6 g5) (fun g8 => bd2 (F_X8_number N (0 : Int32) (9 : Int32) g8) (fun r11 g10 => bd1 (F_X8_mustSign N (59 : Int32) g10) (fun g13 => if (g13 10 0 17) = 0 then bd1 (ix (1 : Int32) 53) (fun j15 => bd1 (ix ((5 : Int32) + (g13 11 6 j15)) 53) (fun j17 => bd1 (ix (1 : Int32) 53) (fun j19 => bd1 (ix (1 : Int32) 53) (fun j21 => some (g3 (g3 g13 11 6 j17 r11) 11 6 j21 (((g3 g13 11 6 j17 r11) 11 6 j19) + (1 : Int32))))))) else some g13)))))
set_option maxRecDepth 100000 in
set_option maxHeartbeats 4000000 in
theorem c_X8_readWind (l : Launch) (D : va_G) (ad : Ky → Nat) (cy : Nat → ClassId) (hI : Inj ad) (N : Nat) (g : GS) (gq : GS) (h : F_X8_readWind N  g = some gq) : CtV l D ad cy yX8_readWind cX8_readWind 2 4 [.ref (ad (8, 0, 0))] g gq := by
  refine CtV.of 1 hI (by decide +kernel) rfl (Nat.le_of_ble_eq_true rfl) (fun p e s m args below meth c X => ?_)
  unfold F_X8_readWind at h
  show Vy _ _ _ _ _ _ _ _ _ _ _ _ _ _ _ 0 [some (.ref (ad (8, 0, 0))), none] [] g
  refine v_aloadn X dX8_readWind_0 rfl rfl ?_
  refine gf_X8_22 X dX8_readWind_1 ?_
  refine v_iconst (v := 1) X dX8_readWind_4 (by decide) ?_
  obtain ⟨j1, q2, h⟩ := bd1_some h
  obtain ⟨ej1, lj1⟩ := ix_spec q2
  refine alM X (by decide +kernel) j1 ej1 lj1 dX8_readWind_5 ?_
  refine v_bipush (v := 6) X dX8_readWind_6 (by decide) ?_
  refine v_icmp_ne X 16 dX8_readWind_8 (by decide) (fun c3 => ?_) (fun c3 => ?_)
  · replace h := (if_neg c3).symm.trans h
    refine v_aloadn X dX8_readWind_16 rfl rfl ?_
    refine v_aloadn X dX8_readWind_17 rfl rfl ?_
    refine v_bipush (v := 119) X dX8_readWind_18 (by decide) ?_
    obtain ⟨r6, g5, q4, h⟩ := bd2_some h
    refine v_callVI (As := [.int (119 : Int32)]) (rest := [.ref (ad (8, 0, 0))]) X (c_X8_isLetter l D ad cy X.2.2.2.2.2.2.2.2.1 N (119 : Int32) g r6 g5  q4) mw_X8_isLetter ml_X8_125 (by decide) (by decide +kernel) (by decide) rfl rfl rfl rfl (Nat.le_of_ble_eq_true rfl) dX8_readWind_20 ?_
    obtain ⟨g8, q7, h⟩ := bd1_some h
    refine v_callVV (As := [.int r6]) (rest := []) X (c_X8_must l D ad cy X.2.2.2.2.2.2.2.2.1 N r6 g5 g8  q7) mw_X8_must ml_X8_115 (by decide) (by decide +kernel) (by decide) rfl rfl rfl rfl (Nat.le_of_ble_eq_true rfl) dX8_readWind_23 ?_
    refine v_aloadn X dX8_readWind_26 rfl rfl ?_
    refine v_iconst (v := 0) X dX8_readWind_27 (by decide) ?_
    refine v_bipush (v := 9) X dX8_readWind_28 (by decide) ?_
    obtain ⟨r11, g10, q9, h⟩ := bd2_some h
    refine v_callVI (As := [.int (0 : Int32), .int (9 : Int32)]) (rest := []) X (c_X8_number l D ad cy X.2.2.2.2.2.2.2.2.1 N (0 : Int32) (9 : Int32) g8 r11 g10  q9) mw_X8_number ml_X8_128 (by decide) (by decide +kernel) (by decide) rfl rfl rfl rfl (Nat.le_of_ble_eq_true rfl) dX8_readWind_30 ?_
    refine v_istoren (lc' := [some (.ref (ad (8, 0, 0))), some (.int r11)]) X dX8_readWind_33 rfl (by decide) rfl rfl ?_
    refine v_aloadn X dX8_readWind_34 rfl rfl ?_
    refine v_bipush (v := 59) X dX8_readWind_35 (by decide) ?_
    obtain ⟨g13, q12, h⟩ := bd1_some h
    refine v_callVV (As := [.int (59 : Int32)]) (rest := []) X (c_X8_mustSign l D ad cy X.2.2.2.2.2.2.2.2.1 N (59 : Int32) g10 g13  q12) mw_X8_mustSign ml_X8_132 (by decide) (by decide +kernel) (by decide) rfl rfl rfl rfl (Nat.le_of_ble_eq_true rfl) dX8_readWind_37 ?_
    refine v_aloadn X dX8_readWind_40 rfl rfl ?_
    refine gf_X8_81 X dX8_readWind_41 ?_
    refine v_if_ne X 71 dX8_readWind_44 (by decide) (fun c14 => ?_) (fun c14 => ?_)
    · replace h := (if_neg c14).symm.trans h
      cases h
      exact v_vret X dX8_readWind_71 rfl
    · replace h := (if_pos c14).symm.trans h
      refine v_aloadn X dX8_readWind_47 rfl rfl ?_
      refine gf_X8_22 X dX8_readWind_48 ?_
      refine v_iconst (v := 5) X dX8_readWind_51 (by decide) ?_
      refine v_aloadn X dX8_readWind_52 rfl rfl ?_
      refine gf_X8_22 X dX8_readWind_53 ?_
      refine v_iconst (v := 1) X dX8_readWind_56 (by decide) ?_
      obtain ⟨j15, q16, h⟩ := bd1_some h
      obtain ⟨ej15, lj15⟩ := ix_spec q16
      refine alM X (by decide +kernel) j15 ej15 lj15 dX8_readWind_57 ?_
      refine v_iadd X dX8_readWind_58 ?_
      refine v_iloadn X dX8_readWind_59 rfl rfl ?_
      obtain ⟨j17, q18, h⟩ := bd1_some h
      obtain ⟨ej17, lj17⟩ := ix_spec q18
      refine asM X (by decide +kernel) j17 ej17 lj17 dX8_readWind_60 ?_
      refine v_aloadn X dX8_readWind_61 rfl rfl ?_
      refine gf_X8_22 X dX8_readWind_62 ?_
      refine v_iconst (v := 1) X dX8_readWind_65 (by decide) ?_
      refine v_dup2 X dX8_readWind_66 rfl rfl ?_
      obtain ⟨j19, q20, h⟩ := bd1_some h
      obtain ⟨ej19, lj19⟩ := ix_spec q20
      refine alM X (by decide +kernel) j19 ej19 lj19 dX8_readWind_67 ?_
      refine v_iconst (v := 1) X dX8_readWind_68 (by decide) ?_
      refine v_iadd X dX8_readWind_69 ?_
      obtain ⟨j21, q22, h⟩ := bd1_some h
      obtain ⟨ej21, lj21⟩ := ix_spec q22
      refine asM X (by decide +kernel) j21 ej21 lj21 dX8_readWind_70 ?_
      cases h
      exact v_vret X dX8_readWind_71 rfl
  · replace h := (if_pos c3).symm.trans h
    refine v_aloadn X dX8_readWind_11 rfl rfl ?_
    refine v_iconst (v := 3) X dX8_readWind_12 (by decide) ?_
    obtain ⟨g24, q23, h⟩ := bd1_some h
    refine v_callVV (As := [.int (3 : Int32)]) (rest := []) X (c_X8_bad l D ad cy X.2.2.2.2.2.2.2.2.1 N (3 : Int32) g g24  q23) mw_X8_bad ml_X8_108 (by decide) (by decide +kernel) (by decide) rfl rfl rfl rfl (Nat.le_of_ble_eq_true rfl) dX8_readWind_13 ?_
    refine v_aloadn X dX8_readWind_16 rfl rfl ?_
    refine v_aloadn X dX8_readWind_17 rfl rfl ?_
    refine v_bipush (v := 119) X dX8_readWind_18 (by decide) ?_
    obtain ⟨r27, g26, q25, h⟩ := bd2_some h
    refine v_callVI (As := [.int (119 : Int32)]) (rest := [.ref (ad (8, 0, 0))]) X (c_X8_isLetter l D ad cy X.2.2.2.2.2.2.2.2.1 N (119 : Int32) g24 r27 g26  q25) mw_X8_isLetter ml_X8_125 (by decide) (by decide +kernel) (by decide) rfl rfl rfl rfl (Nat.le_of_ble_eq_true rfl) dX8_readWind_20 ?_
    obtain ⟨g29, q28, h⟩ := bd1_some h
    refine v_callVV (As := [.int r27]) (rest := []) X (c_X8_must l D ad cy X.2.2.2.2.2.2.2.2.1 N r27 g26 g29  q28) mw_X8_must ml_X8_115 (by decide) (by decide +kernel) (by decide) rfl rfl rfl rfl (Nat.le_of_ble_eq_true rfl) dX8_readWind_23 ?_
    refine v_aloadn X dX8_readWind_26 rfl rfl ?_
    refine v_iconst (v := 0) X dX8_readWind_27 (by decide) ?_
    refine v_bipush (v := 9) X dX8_readWind_28 (by decide) ?_
    obtain ⟨r32, g31, q30, h⟩ := bd2_some h
    refine v_callVI (As := [.int (0 : Int32), .int (9 : Int32)]) (rest := []) X (c_X8_number l D ad cy X.2.2.2.2.2.2.2.2.1 N (0 : Int32) (9 : Int32) g29 r32 g31  q30) mw_X8_number ml_X8_128 (by decide) (by decide +kernel) (by decide) rfl rfl rfl rfl (Nat.le_of_ble_eq_true rfl) dX8_readWind_30 ?_
    refine v_istoren (lc' := [some (.ref (ad (8, 0, 0))), some (.int r32)]) X dX8_readWind_33 rfl (by decide) rfl rfl ?_
    refine v_aloadn X dX8_readWind_34 rfl rfl ?_
    refine v_bipush (v := 59) X dX8_readWind_35 (by decide) ?_
    obtain ⟨g34, q33, h⟩ := bd1_some h
    refine v_callVV (As := [.int (59 : Int32)]) (rest := []) X (c_X8_mustSign l D ad cy X.2.2.2.2.2.2.2.2.1 N (59 : Int32) g31 g34  q33) mw_X8_mustSign ml_X8_132 (by decide) (by decide +kernel) (by decide) rfl rfl rfl rfl (Nat.le_of_ble_eq_true rfl) dX8_readWind_37 ?_
    refine v_aloadn X dX8_readWind_40 rfl rfl ?_
    refine gf_X8_81 X dX8_readWind_41 ?_
    refine v_if_ne X 71 dX8_readWind_44 (by decide) (fun c35 => ?_) (fun c35 => ?_)
    · replace h := (if_neg c35).symm.trans h
      cases h
      exact v_vret X dX8_readWind_71 rfl
    · replace h := (if_pos c35).symm.trans h
      refine v_aloadn X dX8_readWind_47 rfl rfl ?_
      refine gf_X8_22 X dX8_readWind_48 ?_
      refine v_iconst (v := 5) X dX8_readWind_51 (by decide) ?_
      refine v_aloadn X dX8_readWind_52 rfl rfl ?_
      refine gf_X8_22 X dX8_readWind_53 ?_
      refine v_iconst (v := 1) X dX8_readWind_56 (by decide) ?_
      obtain ⟨j36, q37, h⟩ := bd1_some h
      obtain ⟨ej36, lj36⟩ := ix_spec q37
      refine alM X (by decide +kernel) j36 ej36 lj36 dX8_readWind_57 ?_
      refine v_iadd X dX8_readWind_58 ?_
      refine v_iloadn X dX8_readWind_59 rfl rfl ?_
      obtain ⟨j38, q39, h⟩ := bd1_some h
      obtain ⟨ej38, lj38⟩ := ix_spec q39
      refine asM X (by decide +kernel) j38 ej38 lj38 dX8_readWind_60 ?_
      refine v_aloadn X dX8_readWind_61 rfl rfl ?_
      refine gf_X8_22 X dX8_readWind_62 ?_
      refine v_iconst (v := 1) X dX8_readWind_65 (by decide) ?_
      refine v_dup2 X dX8_readWind_66 rfl rfl ?_
      obtain ⟨j40, q41, h⟩ := bd1_some h
      obtain ⟨ej40, lj40⟩ := ix_spec q41
      refine alM X (by decide +kernel) j40 ej40 lj40 dX8_readWind_67 ?_
      refine v_iconst (v := 1) X dX8_readWind_68 (by decide) ?_
      refine v_iadd X dX8_readWind_69 ?_
      obtain ⟨j42, q43, h⟩ := bd1_some h
      obtain ⟨ej42, lj42⟩ := ix_spec q43
      refine asM X (by decide +kernel) j42 ej42 lj42 dX8_readWind_70 ?_
      cases h
      exact v_vret X dX8_readWind_71 rfl
def L_X8_restore_32 (N : Nat) (z1 : Int32) : Nat → Int32 → GS → Option (Int32 × GS)
  | 0, _, _ => none
  | n + 1, y2, g => if (53 : Int32) ≤ y2 then some (y2, g) else bd1 (ix (((53 : Int32) * z1) + y2) 106) (fun j9 => bd1 (ix y2 53) (fun j11 => L_X8_restore_32 N z1 n (y2 + 1) (g3 g 11 5 j11 (g 11 22 j9))))
def F_X8_restore (N : Nat) (x1 : Int32) (g : GS) : Option (Int32 × GS) := bd2 (F_X8_in N (x1.toInt64) (0 : Int64) (1 : Int64) (g3 g 10 0 0 (0 : Int32))) (fun r3 g2 => if r3 = 0 then some ((-1000001 : Int32), g2) else bd1 (ix x1 2) (fun j5 => if (g2 11 21 j5) = 0 then some ((-1000002 : Int32), g2) else bd2 (L_X8_restore_32 N x1 N (0 : Int32) g2) (fun x13 g14 => some ((1 : Int32), (g3 g14 10 0 10 (0 : Int32))))))
set_option maxRecDepth 100000 in
set_option maxHeartbeats 4000000 in
theorem w_X8_restore_32 {p : Program} {l : Launch} {e : Env} {s : State} {m : MethodId} {args : Array Value} {below : List Frame} {meth : Method} {c : Code} {D : va_G} {ad : Ky → Nat} {cy : Nat → ClassId} {r : Int32} {gq : GS} {N : Nat} (X : Cx p (rmd 1) s m args meth c RX8 cX8_restore 3 (some .int) D ad cy) (z1 : Int32) : ∀ (n : Nat) (y2 : Int32) (g : GS) (y2' : Int32) (g' : GS), L_X8_restore_32 N z1 n y2 g = some (y2', g') → Vy p l e (rmd 1) s m args below meth c 3 D ad cy (QI D ad cy below args s r gq) 61 [some (.ref (ad (8, 0, 0))), some (.int z1), some (.int y2')] [] g' → Vy p l e (rmd 1) s m args below meth c 3 D ad cy (QI D ad cy below args s r gq) 32 [some (.ref (ad (8, 0, 0))), some (.int z1), some (.int y2)] [] g := by
  intro n
  induction n with
  | zero => intro y2 g y2' g' h k; cases h
  | succ n ih =>
    intro y2 g y2' g' h k
    rw [L_X8_restore_32] at h
    refine v_iloadn X dX8_restore_32 rfl rfl ?_
    refine v_bipush (v := 53) X dX8_restore_33 (by decide) ?_
    refine v_icmp_ge X 61 dX8_restore_35 (by decide) (fun c8 => ?_) (fun c8 => ?_)
    · replace h := (if_pos c8).symm.trans h
      cases h
      exact k
    · replace h := (if_neg c8).symm.trans h
      refine v_aloadn X dX8_restore_38 rfl rfl ?_
      refine gf_X8_19 X dX8_restore_39 ?_
      refine v_iloadn X dX8_restore_42 rfl rfl ?_
      refine v_aloadn X dX8_restore_43 rfl rfl ?_
      refine gf_X8_44 X dX8_restore_44 ?_
      refine v_bipush (v := 53) X dX8_restore_47 (by decide) ?_
      refine v_iloadn X dX8_restore_49 rfl rfl ?_
      refine v_imul X dX8_restore_50 ?_
      refine v_iloadn X dX8_restore_51 rfl rfl ?_
      refine v_iadd X dX8_restore_52 ?_
      obtain ⟨j9, q10, h⟩ := bd1_some h
      obtain ⟨ej9, lj9⟩ := ix_spec q10
      refine alM X (by decide +kernel) j9 ej9 lj9 dX8_restore_53 ?_
      obtain ⟨j11, q12, h⟩ := bd1_some h
      obtain ⟨ej11, lj11⟩ := ix_spec q12
      refine asM X (by decide +kernel) j11 ej11 lj11 dX8_restore_54 ?_
      refine v_iinc (v := (y2 + 1)) (lc' := [some (.ref (ad (8, 0, 0))), some (.int z1), some (.int (y2 + 1))]) X dX8_restore_55 rfl rfl (by decide) rfl rfl ?_
      refine v_goto X 32 dX8_restore_58 (by decide) ?_
      exact ih (y2 + 1) (g3 g 11 5 j11 (g 11 22 j9)) _ _ h k
set_option maxRecDepth 100000 in
set_option maxHeartbeats 4000000 in
theorem c_X8_restore (l : Launch) (D : va_G) (ad : Ky → Nat) (cy : Nat → ClassId) (hI : Inj ad) (N : Nat) (x1 : Int32) (g : GS) (r : Int32) (gq : GS) (h : F_X8_restore N x1 g = some (r, gq)) : CtI l D ad cy yX8_restore cX8_restore 3 (some .int) 1 [.ref (ad (8, 0, 0)), .int x1] g r gq := by
  refine CtI.of 1 hI (by decide +kernel) rfl (Nat.le_of_ble_eq_true rfl) (fun p e s m args below meth c X => ?_)
  unfold F_X8_restore at h
  show Vy _ _ _ _ _ _ _ _ _ _ _ _ _ _ _ 0 [some (.ref (ad (8, 0, 0))), some (.int x1), none] [] g
  refine v_aloadn X dX8_restore_0 rfl rfl ?_
  refine v_iconst (v := 0) X dX8_restore_1 (by decide) ?_
  refine pf_X8_50 X dX8_restore_2 ?_
  refine v_iloadn X dX8_restore_5 rfl rfl ?_
  refine v_i2l X dX8_restore_6 ?_
  refine v_lconst (v := 0) X dX8_restore_7 (by decide) ?_
  refine v_lconst (v := 1) X dX8_restore_8 (by decide) ?_
  obtain ⟨r3, g2, q1, h⟩ := bd2_some h
  refine v_callSI (As := [.long (x1.toInt64), .long (0 : Int64), .long (1 : Int64)]) (rest := []) X (c_X8_in l D ad cy X.2.2.2.2.2.2.2.2.1 N (x1.toInt64) (0 : Int64) (1 : Int64) (g3 g 10 0 0 (0 : Int32)) r3 g2  q1) mw_X8_in ml_X8_60 (by decide) rfl rfl (Nat.le_of_ble_eq_true rfl) dX8_restore_9 ?_
  refine v_if_ne X 18 dX8_restore_12 (by decide) (fun c4 => ?_) (fun c4 => ?_)
  · replace h := (if_neg c4).symm.trans h
    refine v_aloadn X dX8_restore_18 rfl rfl ?_
    refine gf_X8_40 X dX8_restore_19 ?_
    refine v_iloadn X dX8_restore_22 rfl rfl ?_
    obtain ⟨j5, q6, h⟩ := bd1_some h
    obtain ⟨ej5, lj5⟩ := ix_spec q6
    refine alZ X j5 ej5 lj5 dX8_restore_23 ?_
    refine v_if_ne X 30 dX8_restore_24 (by decide) (fun c7 => ?_) (fun c7 => ?_)
    · replace h := (if_neg c7).symm.trans h
      refine v_iconst (v := 0) X dX8_restore_30 (by decide) ?_
      refine v_istoren (lc' := [some (.ref (ad (8, 0, 0))), some (.int x1), some (.int (0 : Int32))]) X dX8_restore_31 rfl (by decide) rfl rfl ?_
      obtain ⟨x13, g14, q15, h⟩ := bd2_some h
      refine w_X8_restore_32 X x1 N (0 : Int32) g2 x13 g14 q15 ?_
      refine v_aloadn X dX8_restore_61 rfl rfl ?_
      refine v_iconst (v := 0) X dX8_restore_62 (by decide) ?_
      refine pf_X8_152 X dX8_restore_63 ?_
      refine v_iconst (v := 1) X dX8_restore_66 (by decide) ?_
      cases h
      exact v_iret X dX8_restore_67 rfl rfl
    · replace h := (if_pos c7).symm.trans h
      refine v_ldc X kc_X8_198 dX8_restore_27 ?_
      cases h
      exact v_iret X dX8_restore_29 rfl rfl
  · replace h := (if_pos c4).symm.trans h
    refine v_ldc X kc_X8_70 dX8_restore_15 ?_
    cases h
    exact v_iret X dX8_restore_17 rfl rfl
def L_X8_roof_11 (N : Nat) : Nat → Int32 → GS → Option (Int32 × GS)
  | 0, _, _ => none
  | n + 1, y1, g => if (53 : Int32) ≤ y1 then some (y1, g) else bd1 (ix y1 53) (fun j4 => L_X8_roof_11 N n (y1 + 1) (g3 g 11 6 j4 (0 : Int32)))
def L_X8_roof_78 (N : Nat) (z1 : Int32) : Nat → GS → Option (GS)
  | 0, _ => none
  | n + 1, g => bd2 (F_X8_isLetter N (119 : Int32) g) (fun r30 g29 => if r30 = 0 then some (g29) else bd1 (F_X8_readWind N  g29) (fun g33 => L_X8_roof_78 N z1 n  g33))
def L_X8_roof_106 (N : Nat) (z1 : Int32) : Nat → GS → Option (GS)
  | 0, _ => none
  | n + 1, g => bd2 (F_X8_isSort N  g) (fun r42 g41 => if r42 = 0 then some (g41) else bd1 (F_X8_readPaper N  g41) (fun g45 => L_X8_roof_106 N z1 n  g45))
def L_X8_roof_142 (N : Nat) : Nat → Int32 → GS → Option (Int32 × GS)
  | 0, _, _ => none
  | n + 1, y1, g => if (53 : Int32) ≤ y1 then some (y1, g) else bd1 (ix y1 53) (fun j53 => bd1 (ix y1 53) (fun j55 => L_X8_roof_142 N n (y1 + 1) (g3 g 11 5 j55 (g 11 6 j53))))
def F_X8_roof (N : Nat) (g : GS) : Option (Int32 × GS) := bd1 (F_X8_begin N  (g3 g 10 0 0 (0 : Int32))) (fun g2 => bd2 (L_X8_roof_11 N N (0 : Int32) g2) (fun x6 g7 => bd2 (F_X8_isLetter N (114 : Int32) g7) (fun r11 g10 => bd1 (F_X8_must N r11 g10) (fun g13 => bd2 (F_X8_number N (1 : Int32) (40 : Int32) g13) (fun r16 g15 => bd1 (ix (2 : Int32) 53) (fun j17 => bd1 (F_X8_mustSign N (44 : Int32) (g3 g15 11 6 j17 r16)) (fun g20 => bd2 (F_X8_number N (1 : Int32) (99 : Int32) g20) (fun r23 g22 => bd1 (ix (3 : Int32) 53) (fun j24 => bd1 (F_X8_mustSign N (59 : Int32) (g3 g22 11 6 j24 r23)) (fun g27 => bd1 (L_X8_roof_78 N x6 N  g27) (fun g34 => bd2 (F_X8_isSort N  g34) (fun r38 g37 => if r38 = 0 then bd1 (F_X8_bad N (1 : Int32) g37) (fun g63 => bd1 (L_X8_roof_106 N x6 N  g63) (fun g64 => bd2 (F_X8_failed N  g64) (fun r68 g67 => if r68 = 0 then bd2 (L_X8_roof_142 N N (0 : Int32) (g3 g67 10 0 10 (0 : Int32))) (fun x70 g71 => bd1 (ix (0 : Int32) 53) (fun j73 => some ((g71 11 5 j73), g71))) else some (((-1000100 : Int32) - (g67 10 0 18)), g67)))) else bd1 (L_X8_roof_106 N x6 N  g37) (fun g46 => bd2 (F_X8_failed N  g46) (fun r50 g49 => if r50 = 0 then bd2 (L_X8_roof_142 N N (0 : Int32) (g3 g49 10 0 10 (0 : Int32))) (fun x57 g58 => bd1 (ix (0 : Int32) 53) (fun j60 => some ((g58 11 5 j60), g58))) else some (((-1000100 : Int32) - (g49 10 0 18)), g49)))))))))))))))
set_option maxRecDepth 100000 in
set_option maxHeartbeats 4000000 in
theorem w_X8_roof_11 {p : Program} {l : Launch} {e : Env} {s : State} {m : MethodId} {args : Array Value} {below : List Frame} {meth : Method} {c : Code} {D : va_G} {ad : Ky → Nat} {cy : Nat → ClassId} {r : Int32} {gq : GS} {N : Nat} (X : Cx p (rmd 5) s m args meth c RX8 cX8_roof 2 (some .int) D ad cy) : ∀ (n : Nat) (y1 : Int32) (g : GS) (y1' : Int32) (g' : GS), L_X8_roof_11 N n y1 g = some (y1', g') → Vy p l e (rmd 5) s m args below meth c 2 D ad cy (QI D ad cy below args s r gq) 30 [some (.ref (ad (8, 0, 0))), some (.int y1')] [] g' → Vy p l e (rmd 5) s m args below meth c 2 D ad cy (QI D ad cy below args s r gq) 11 [some (.ref (ad (8, 0, 0))), some (.int y1)] [] g := by
  intro n
  induction n with
  | zero => intro y1 g y1' g' h k; cases h
  | succ n ih =>
    intro y1 g y1' g' h k
    rw [L_X8_roof_11] at h
    refine v_iloadn X dX8_roof_11 rfl rfl ?_
    refine v_bipush (v := 53) X dX8_roof_12 (by decide) ?_
    refine v_icmp_ge X 30 dX8_roof_14 (by decide) (fun c3 => ?_) (fun c3 => ?_)
    · replace h := (if_pos c3).symm.trans h
      cases h
      exact k
    · replace h := (if_neg c3).symm.trans h
      refine v_aloadn X dX8_roof_17 rfl rfl ?_
      refine gf_X8_22 X dX8_roof_18 ?_
      refine v_iloadn X dX8_roof_21 rfl rfl ?_
      refine v_iconst (v := 0) X dX8_roof_22 (by decide) ?_
      obtain ⟨j4, q5, h⟩ := bd1_some h
      obtain ⟨ej4, lj4⟩ := ix_spec q5
      refine asM X (by decide +kernel) j4 ej4 lj4 dX8_roof_23 ?_
      refine v_iinc (v := (y1 + 1)) (lc' := [some (.ref (ad (8, 0, 0))), some (.int (y1 + 1))]) X dX8_roof_24 rfl rfl (by decide) rfl rfl ?_
      refine v_goto X 11 dX8_roof_27 (by decide) ?_
      exact ih (y1 + 1) (g3 g 11 6 j4 (0 : Int32)) _ _ h k
set_option maxRecDepth 100000 in
set_option maxHeartbeats 4000000 in
theorem w_X8_roof_78 {p : Program} {l : Launch} {e : Env} {s : State} {m : MethodId} {args : Array Value} {below : List Frame} {meth : Method} {c : Code} {D : va_G} {ad : Ky → Nat} {cy : Nat → ClassId} {r : Int32} {gq : GS} {N : Nat} (X : Cx p (rmd 5) s m args meth c RX8 cX8_roof 2 (some .int) D ad cy) (z1 : Int32) : ∀ (n : Nat)  (g : GS)  (g' : GS), L_X8_roof_78 N z1 n  g = some (g') → Vy p l e (rmd 5) s m args below meth c 2 D ad cy (QI D ad cy below args s r gq) 94 [some (.ref (ad (8, 0, 0))), some (.int z1)] [] g' → Vy p l e (rmd 5) s m args below meth c 2 D ad cy (QI D ad cy below args s r gq) 78 [some (.ref (ad (8, 0, 0))), some (.int z1)] [] g := by
  intro n
  induction n with
  | zero => intro g g' h k; cases h
  | succ n ih =>
    intro g g' h k
    rw [L_X8_roof_78] at h
    refine v_aloadn X dX8_roof_78 rfl rfl ?_
    refine v_bipush (v := 119) X dX8_roof_79 (by decide) ?_
    obtain ⟨r30, g29, q28, h⟩ := bd2_some h
    refine v_callVI (As := [.int (119 : Int32)]) (rest := []) X (c_X8_isLetter l D ad cy X.2.2.2.2.2.2.2.2.1 N (119 : Int32) g r30 g29  q28) mw_X8_isLetter ml_X8_125 (by decide) (by decide +kernel) (by decide) rfl rfl rfl rfl (Nat.le_of_ble_eq_true rfl) dX8_roof_81 ?_
    refine v_if_eq X 94 dX8_roof_84 (by decide) (fun c31 => ?_) (fun c31 => ?_)
    · replace h := (if_pos c31).symm.trans h
      cases h
      exact k
    · replace h := (if_neg c31).symm.trans h
      refine v_aloadn X dX8_roof_87 rfl rfl ?_
      obtain ⟨g33, q32, h⟩ := bd1_some h
      refine v_callVV (As := []) (rest := []) X (c_X8_readWind l D ad cy X.2.2.2.2.2.2.2.2.1 N  g29 g33  q32) mw_X8_readWind ml_X8_138 (by decide) (by decide +kernel) (by decide) rfl rfl rfl rfl (Nat.le_of_ble_eq_true rfl) dX8_roof_88 ?_
      refine v_goto X 78 dX8_roof_91 (by decide) ?_
      exact ih  g33 _ h k
set_option maxRecDepth 100000 in
set_option maxHeartbeats 4000000 in
theorem w_X8_roof_106 {p : Program} {l : Launch} {e : Env} {s : State} {m : MethodId} {args : Array Value} {below : List Frame} {meth : Method} {c : Code} {D : va_G} {ad : Ky → Nat} {cy : Nat → ClassId} {r : Int32} {gq : GS} {N : Nat} (X : Cx p (rmd 5) s m args meth c RX8 cX8_roof 2 (some .int) D ad cy) (z1 : Int32) : ∀ (n : Nat)  (g : GS)  (g' : GS), L_X8_roof_106 N z1 n  g = some (g') → Vy p l e (rmd 5) s m args below meth c 2 D ad cy (QI D ad cy below args s r gq) 120 [some (.ref (ad (8, 0, 0))), some (.int z1)] [] g' → Vy p l e (rmd 5) s m args below meth c 2 D ad cy (QI D ad cy below args s r gq) 106 [some (.ref (ad (8, 0, 0))), some (.int z1)] [] g := by
  intro n
  induction n with
  | zero => intro g g' h k; cases h
  | succ n ih =>
    intro g g' h k
    rw [L_X8_roof_106] at h
    refine v_aloadn X dX8_roof_106 rfl rfl ?_
    obtain ⟨r42, g41, q40, h⟩ := bd2_some h
    refine v_callVI (As := []) (rest := []) X (c_X8_isSort l D ad cy X.2.2.2.2.2.2.2.2.1 N  g r42 g41  q40) mw_X8_isSort ml_X8_141 (by decide) (by decide +kernel) (by decide) rfl rfl rfl rfl (Nat.le_of_ble_eq_true rfl) dX8_roof_107 ?_
    refine v_if_eq X 120 dX8_roof_110 (by decide) (fun c43 => ?_) (fun c43 => ?_)
    · replace h := (if_pos c43).symm.trans h
      cases h
      exact k
    · replace h := (if_neg c43).symm.trans h
      refine v_aloadn X dX8_roof_113 rfl rfl ?_
      obtain ⟨g45, q44, h⟩ := bd1_some h
      refine v_callVV (As := []) (rest := []) X (c_X8_readPaper l D ad cy X.2.2.2.2.2.2.2.2.1 N  g41 g45  q44) mw_X8_readPaper ml_X8_145 (by decide) (by decide +kernel) (by decide) rfl rfl rfl rfl (Nat.le_of_ble_eq_true rfl) dX8_roof_114 ?_
      refine v_goto X 106 dX8_roof_117 (by decide) ?_
      exact ih  g45 _ h k
set_option maxRecDepth 100000 in
set_option maxHeartbeats 4000000 in
theorem w_X8_roof_142 {p : Program} {l : Launch} {e : Env} {s : State} {m : MethodId} {args : Array Value} {below : List Frame} {meth : Method} {c : Code} {D : va_G} {ad : Ky → Nat} {cy : Nat → ClassId} {r : Int32} {gq : GS} {N : Nat} (X : Cx p (rmd 5) s m args meth c RX8 cX8_roof 2 (some .int) D ad cy) : ∀ (n : Nat) (y1 : Int32) (g : GS) (y1' : Int32) (g' : GS), L_X8_roof_142 N n y1 g = some (y1', g') → Vy p l e (rmd 5) s m args below meth c 2 D ad cy (QI D ad cy below args s r gq) 166 [some (.ref (ad (8, 0, 0))), some (.int y1')] [] g' → Vy p l e (rmd 5) s m args below meth c 2 D ad cy (QI D ad cy below args s r gq) 142 [some (.ref (ad (8, 0, 0))), some (.int y1)] [] g := by
  intro n
  induction n with
  | zero => intro y1 g y1' g' h k; cases h
  | succ n ih =>
    intro y1 g y1' g' h k
    rw [L_X8_roof_142] at h
    refine v_iloadn X dX8_roof_142 rfl rfl ?_
    refine v_bipush (v := 53) X dX8_roof_143 (by decide) ?_
    refine v_icmp_ge X 166 dX8_roof_145 (by decide) (fun c52 => ?_) (fun c52 => ?_)
    · replace h := (if_pos c52).symm.trans h
      cases h
      exact k
    · replace h := (if_neg c52).symm.trans h
      refine v_aloadn X dX8_roof_148 rfl rfl ?_
      refine gf_X8_19 X dX8_roof_149 ?_
      refine v_iloadn X dX8_roof_152 rfl rfl ?_
      refine v_aloadn X dX8_roof_153 rfl rfl ?_
      refine gf_X8_22 X dX8_roof_154 ?_
      refine v_iloadn X dX8_roof_157 rfl rfl ?_
      obtain ⟨j53, q54, h⟩ := bd1_some h
      obtain ⟨ej53, lj53⟩ := ix_spec q54
      refine alM X (by decide +kernel) j53 ej53 lj53 dX8_roof_158 ?_
      obtain ⟨j55, q56, h⟩ := bd1_some h
      obtain ⟨ej55, lj55⟩ := ix_spec q56
      refine asM X (by decide +kernel) j55 ej55 lj55 dX8_roof_159 ?_
      refine v_iinc (v := (y1 + 1)) (lc' := [some (.ref (ad (8, 0, 0))), some (.int (y1 + 1))]) X dX8_roof_160 rfl rfl (by decide) rfl rfl ?_
      refine v_goto X 142 dX8_roof_163 (by decide) ?_
      exact ih (y1 + 1) (g3 g 11 5 j55 (g 11 6 j53)) _ _ h k
set_option maxRecDepth 100000 in
set_option maxHeartbeats 4000000 in
theorem c_X8_roof (l : Launch) (D : va_G) (ad : Ky → Nat) (cy : Nat → ClassId) (hI : Inj ad) (N : Nat) (g : GS) (r : Int32) (gq : GS) (h : F_X8_roof N  g = some (r, gq)) : CtI l D ad cy yX8_roof cX8_roof 2 (some .int) 5 [.ref (ad (8, 0, 0))] g r gq := by
  refine CtI.of 1 hI (by decide +kernel) rfl (Nat.le_of_ble_eq_true rfl) (fun p e s m args below meth c X => ?_)
  unfold F_X8_roof at h
  show Vy _ _ _ _ _ _ _ _ _ _ _ _ _ _ _ 0 [some (.ref (ad (8, 0, 0))), none] [] g
  refine v_aloadn X dX8_roof_0 rfl rfl ?_
  refine v_iconst (v := 0) X dX8_roof_1 (by decide) ?_
  refine pf_X8_50 X dX8_roof_2 ?_
  refine v_aloadn X dX8_roof_5 rfl rfl ?_
  obtain ⟨g2, q1, h⟩ := bd1_some h
  refine v_callVV (As := []) (rest := []) X (c_X8_begin l D ad cy X.2.2.2.2.2.2.2.2.1 N  (g3 g 10 0 0 (0 : Int32)) g2  q1) mw_X8_begin ml_X8_135 (by decide) (by decide +kernel) (by decide) rfl rfl rfl rfl (Nat.le_of_ble_eq_true rfl) dX8_roof_6 ?_
  refine v_iconst (v := 0) X dX8_roof_9 (by decide) ?_
  refine v_istoren (lc' := [some (.ref (ad (8, 0, 0))), some (.int (0 : Int32))]) X dX8_roof_10 rfl (by decide) rfl rfl ?_
  obtain ⟨x6, g7, q8, h⟩ := bd2_some h
  refine w_X8_roof_11 X  N (0 : Int32) g2 x6 g7 q8 ?_
  refine v_aloadn X dX8_roof_30 rfl rfl ?_
  refine v_aloadn X dX8_roof_31 rfl rfl ?_
  refine v_bipush (v := 114) X dX8_roof_32 (by decide) ?_
  obtain ⟨r11, g10, q9, h⟩ := bd2_some h
  refine v_callVI (As := [.int (114 : Int32)]) (rest := [.ref (ad (8, 0, 0))]) X (c_X8_isLetter l D ad cy X.2.2.2.2.2.2.2.2.1 N (114 : Int32) g7 r11 g10  q9) mw_X8_isLetter ml_X8_125 (by decide) (by decide +kernel) (by decide) rfl rfl rfl rfl (Nat.le_of_ble_eq_true rfl) dX8_roof_34 ?_
  obtain ⟨g13, q12, h⟩ := bd1_some h
  refine v_callVV (As := [.int r11]) (rest := []) X (c_X8_must l D ad cy X.2.2.2.2.2.2.2.2.1 N r11 g10 g13  q12) mw_X8_must ml_X8_115 (by decide) (by decide +kernel) (by decide) rfl rfl rfl rfl (Nat.le_of_ble_eq_true rfl) dX8_roof_37 ?_
  refine v_aloadn X dX8_roof_40 rfl rfl ?_
  refine gf_X8_22 X dX8_roof_41 ?_
  refine v_iconst (v := 2) X dX8_roof_44 (by decide) ?_
  refine v_aloadn X dX8_roof_45 rfl rfl ?_
  refine v_iconst (v := 1) X dX8_roof_46 (by decide) ?_
  refine v_bipush (v := 40) X dX8_roof_47 (by decide) ?_
  obtain ⟨r16, g15, q14, h⟩ := bd2_some h
  refine v_callVI (As := [.int (1 : Int32), .int (40 : Int32)]) (rest := [.int (2 : Int32), .ref (ad (9, 11, 6))]) X (c_X8_number l D ad cy X.2.2.2.2.2.2.2.2.1 N (1 : Int32) (40 : Int32) g13 r16 g15  q14) mw_X8_number ml_X8_128 (by decide) (by decide +kernel) (by decide) rfl rfl rfl rfl (Nat.le_of_ble_eq_true rfl) dX8_roof_49 ?_
  obtain ⟨j17, q18, h⟩ := bd1_some h
  obtain ⟨ej17, lj17⟩ := ix_spec q18
  refine asM X (by decide +kernel) j17 ej17 lj17 dX8_roof_52 ?_
  refine v_aloadn X dX8_roof_53 rfl rfl ?_
  refine v_bipush (v := 44) X dX8_roof_54 (by decide) ?_
  obtain ⟨g20, q19, h⟩ := bd1_some h
  refine v_callVV (As := [.int (44 : Int32)]) (rest := []) X (c_X8_mustSign l D ad cy X.2.2.2.2.2.2.2.2.1 N (44 : Int32) (g3 g15 11 6 j17 r16) g20  q19) mw_X8_mustSign ml_X8_132 (by decide) (by decide +kernel) (by decide) rfl rfl rfl rfl (Nat.le_of_ble_eq_true rfl) dX8_roof_56 ?_
  refine v_aloadn X dX8_roof_59 rfl rfl ?_
  refine gf_X8_22 X dX8_roof_60 ?_
  refine v_iconst (v := 3) X dX8_roof_63 (by decide) ?_
  refine v_aloadn X dX8_roof_64 rfl rfl ?_
  refine v_iconst (v := 1) X dX8_roof_65 (by decide) ?_
  refine v_bipush (v := 99) X dX8_roof_66 (by decide) ?_
  obtain ⟨r23, g22, q21, h⟩ := bd2_some h
  refine v_callVI (As := [.int (1 : Int32), .int (99 : Int32)]) (rest := [.int (3 : Int32), .ref (ad (9, 11, 6))]) X (c_X8_number l D ad cy X.2.2.2.2.2.2.2.2.1 N (1 : Int32) (99 : Int32) g20 r23 g22  q21) mw_X8_number ml_X8_128 (by decide) (by decide +kernel) (by decide) rfl rfl rfl rfl (Nat.le_of_ble_eq_true rfl) dX8_roof_68 ?_
  obtain ⟨j24, q25, h⟩ := bd1_some h
  obtain ⟨ej24, lj24⟩ := ix_spec q25
  refine asM X (by decide +kernel) j24 ej24 lj24 dX8_roof_71 ?_
  refine v_aloadn X dX8_roof_72 rfl rfl ?_
  refine v_bipush (v := 59) X dX8_roof_73 (by decide) ?_
  obtain ⟨g27, q26, h⟩ := bd1_some h
  refine v_callVV (As := [.int (59 : Int32)]) (rest := []) X (c_X8_mustSign l D ad cy X.2.2.2.2.2.2.2.2.1 N (59 : Int32) (g3 g22 11 6 j24 r23) g27  q26) mw_X8_mustSign ml_X8_132 (by decide) (by decide +kernel) (by decide) rfl rfl rfl rfl (Nat.le_of_ble_eq_true rfl) dX8_roof_75 ?_
  obtain ⟨g34, q35, h⟩ := bd1_some h
  refine w_X8_roof_78 X x6 N  g27 g34 q35 ?_
  refine v_aloadn X dX8_roof_94 rfl rfl ?_
  obtain ⟨r38, g37, q36, h⟩ := bd2_some h
  refine v_callVI (As := []) (rest := []) X (c_X8_isSort l D ad cy X.2.2.2.2.2.2.2.2.1 N  g34 r38 g37  q36) mw_X8_isSort ml_X8_141 (by decide) (by decide +kernel) (by decide) rfl rfl rfl rfl (Nat.le_of_ble_eq_true rfl) dX8_roof_95 ?_
  refine v_if_ne X 106 dX8_roof_98 (by decide) (fun c39 => ?_) (fun c39 => ?_)
  · replace h := (if_neg c39).symm.trans h
    obtain ⟨g46, q47, h⟩ := bd1_some h
    refine w_X8_roof_106 X x6 N  g37 g46 q47 ?_
    refine v_aloadn X dX8_roof_120 rfl rfl ?_
    obtain ⟨r50, g49, q48, h⟩ := bd2_some h
    refine v_callVI (As := []) (rest := []) X (c_X8_failed l D ad cy X.2.2.2.2.2.2.2.2.1 N  g46 r50 g49  q48) mw_X8_failed ml_X8_148 (by decide) (by decide +kernel) (by decide) rfl rfl rfl rfl (Nat.le_of_ble_eq_true rfl) dX8_roof_121 ?_
    refine v_if_eq X 135 dX8_roof_124 (by decide) (fun c51 => ?_) (fun c51 => ?_)
    · replace h := (if_pos c51).symm.trans h
      refine v_aloadn X dX8_roof_135 rfl rfl ?_
      refine v_iconst (v := 0) X dX8_roof_136 (by decide) ?_
      refine pf_X8_152 X dX8_roof_137 ?_
      refine v_iconst (v := 0) X dX8_roof_140 (by decide) ?_
      refine v_istoren (lc' := [some (.ref (ad (8, 0, 0))), some (.int (0 : Int32))]) X dX8_roof_141 rfl (by decide) rfl rfl ?_
      obtain ⟨x57, g58, q59, h⟩ := bd2_some h
      refine w_X8_roof_142 X  N (0 : Int32) (g3 g49 10 0 10 (0 : Int32)) x57 g58 q59 ?_
      refine v_aloadn X dX8_roof_166 rfl rfl ?_
      refine gf_X8_19 X dX8_roof_167 ?_
      refine v_iconst (v := 0) X dX8_roof_170 (by decide) ?_
      obtain ⟨j60, q61, h⟩ := bd1_some h
      obtain ⟨ej60, lj60⟩ := ix_spec q61
      refine alM X (by decide +kernel) j60 ej60 lj60 dX8_roof_171 ?_
      cases h
      exact v_iret X dX8_roof_172 rfl rfl
    · replace h := (if_neg c51).symm.trans h
      refine v_ldc X kc_X8_151 dX8_roof_127 ?_
      refine v_aloadn X dX8_roof_129 rfl rfl ?_
      refine gf_X8_87 X dX8_roof_130 ?_
      refine v_isub X dX8_roof_133 ?_
      cases h
      exact v_iret X dX8_roof_134 rfl rfl
  · replace h := (if_pos c39).symm.trans h
    refine v_aloadn X dX8_roof_101 rfl rfl ?_
    refine v_iconst (v := 1) X dX8_roof_102 (by decide) ?_
    obtain ⟨g63, q62, h⟩ := bd1_some h
    refine v_callVV (As := [.int (1 : Int32)]) (rest := []) X (c_X8_bad l D ad cy X.2.2.2.2.2.2.2.2.1 N (1 : Int32) g37 g63  q62) mw_X8_bad ml_X8_108 (by decide) (by decide +kernel) (by decide) rfl rfl rfl rfl (Nat.le_of_ble_eq_true rfl) dX8_roof_103 ?_
    obtain ⟨g64, q65, h⟩ := bd1_some h
    refine w_X8_roof_106 X x6 N  g63 g64 q65 ?_
    refine v_aloadn X dX8_roof_120 rfl rfl ?_
    obtain ⟨r68, g67, q66, h⟩ := bd2_some h
    refine v_callVI (As := []) (rest := []) X (c_X8_failed l D ad cy X.2.2.2.2.2.2.2.2.1 N  g64 r68 g67  q66) mw_X8_failed ml_X8_148 (by decide) (by decide +kernel) (by decide) rfl rfl rfl rfl (Nat.le_of_ble_eq_true rfl) dX8_roof_121 ?_
    refine v_if_eq X 135 dX8_roof_124 (by decide) (fun c69 => ?_) (fun c69 => ?_)
    · replace h := (if_pos c69).symm.trans h
      refine v_aloadn X dX8_roof_135 rfl rfl ?_
      refine v_iconst (v := 0) X dX8_roof_136 (by decide) ?_
      refine pf_X8_152 X dX8_roof_137 ?_
      refine v_iconst (v := 0) X dX8_roof_140 (by decide) ?_
      refine v_istoren (lc' := [some (.ref (ad (8, 0, 0))), some (.int (0 : Int32))]) X dX8_roof_141 rfl (by decide) rfl rfl ?_
      obtain ⟨x70, g71, q72, h⟩ := bd2_some h
      refine w_X8_roof_142 X  N (0 : Int32) (g3 g67 10 0 10 (0 : Int32)) x70 g71 q72 ?_
      refine v_aloadn X dX8_roof_166 rfl rfl ?_
      refine gf_X8_19 X dX8_roof_167 ?_
      refine v_iconst (v := 0) X dX8_roof_170 (by decide) ?_
      obtain ⟨j73, q74, h⟩ := bd1_some h
      obtain ⟨ej73, lj73⟩ := ix_spec q74
      refine alM X (by decide +kernel) j73 ej73 lj73 dX8_roof_171 ?_
      cases h
      exact v_iret X dX8_roof_172 rfl rfl
    · replace h := (if_neg c69).symm.trans h
      refine v_ldc X kc_X8_151 dX8_roof_127 ?_
      refine v_aloadn X dX8_roof_129 rfl rfl ?_
      refine gf_X8_87 X dX8_roof_130 ?_
      refine v_isub X dX8_roof_133 ?_
      cases h
      exact v_iret X dX8_roof_134 rfl rfl
def L_X8_row_65 (N : Nat) (z1 : Int32) (z2 : Int32) (z3 : Int32) : Nat → Int32 → GS → Option (Int32 × GS)
  | 0, _, _ => none
  | n + 1, y4, g => if (40 : Int32) ≤ y4 then some (y4, g) else bd1 (ix (((40 : Int32) * z1) + y4) 320) (fun j16 => L_X8_row_65 N z1 z2 z3 n (y4 + 1) (g3 g 11 4 j16 (0 : Int32)))
def F_X8_row (N : Nat) (x1 : Int32) (x2 : Int32) (x3 : Int32) (g : GS) : Option (Int32 × GS) := bd2 (F_X8_isRow N x1 (g3 g 10 0 0 (0 : Int32))) (fun r3 g2 => if r3 = 0 then some ((-1000001 : Int32), g2) else bd2 (F_X8_in N (x2.toInt64) (0 : Int64) (2 : Int64) g2) (fun r7 g6 => if r7 = 0 then some ((-1000001 : Int32), g6) else if x3 ≤ (40 : Int32) then if 0 ≤ x3 then bd1 (ix x1 8) (fun j11 => bd1 (ix x1 8) (fun j13 => bd2 (L_X8_row_65 N x1 x2 x3 N (0 : Int32) (g3 (g3 (g3 g6 10 0 1 (0 : Int32)) 11 2 j11 x2) 11 3 j13 x3)) (fun x18 g19 => some (x3, g19)))) else bd2 (F_X8_finding N (4 : Int32) (g3 g6 10 0 1 (0 : Int32))) (fun r23 g22 => some (r23, g22)) else some ((-1000001 : Int32), g6)))
set_option maxRecDepth 100000 in
set_option maxHeartbeats 4000000 in
theorem w_X8_row_65 {p : Program} {l : Launch} {e : Env} {s : State} {m : MethodId} {args : Array Value} {below : List Frame} {meth : Method} {c : Code} {D : va_G} {ad : Ky → Nat} {cy : Nat → ClassId} {r : Int32} {gq : GS} {N : Nat} (X : Cx p (rmd 2) s m args meth c RX8 cX8_row 5 (some .int) D ad cy) (z1 : Int32) (z2 : Int32) (z3 : Int32) : ∀ (n : Nat) (y4 : Int32) (g : GS) (y4' : Int32) (g' : GS), L_X8_row_65 N z1 z2 z3 n y4 g = some (y4', g') → Vy p l e (rmd 2) s m args below meth c 5 D ad cy (QI D ad cy below args s r gq) 91 [some (.ref (ad (8, 0, 0))), some (.int z1), some (.int z2), some (.int z3), some (.int y4')] [] g' → Vy p l e (rmd 2) s m args below meth c 5 D ad cy (QI D ad cy below args s r gq) 65 [some (.ref (ad (8, 0, 0))), some (.int z1), some (.int z2), some (.int z3), some (.int y4)] [] g := by
  intro n
  induction n with
  | zero => intro y4 g y4' g' h k; cases h
  | succ n ih =>
    intro y4 g y4' g' h k
    rw [L_X8_row_65] at h
    refine v_iload X dX8_row_65 rfl ?_
    refine v_bipush (v := 40) X dX8_row_67 (by decide) ?_
    refine v_icmp_ge X 91 dX8_row_69 (by decide) (fun c15 => ?_) (fun c15 => ?_)
    · replace h := (if_pos c15).symm.trans h
      cases h
      exact k
    · replace h := (if_neg c15).symm.trans h
      refine v_aloadn X dX8_row_72 rfl rfl ?_
      refine gf_X8_16 X dX8_row_73 ?_
      refine v_bipush (v := 40) X dX8_row_76 (by decide) ?_
      refine v_iloadn X dX8_row_78 rfl rfl ?_
      refine v_imul X dX8_row_79 ?_
      refine v_iload X dX8_row_80 rfl ?_
      refine v_iadd X dX8_row_82 ?_
      refine v_iconst (v := 0) X dX8_row_83 (by decide) ?_
      obtain ⟨j16, q17, h⟩ := bd1_some h
      obtain ⟨ej16, lj16⟩ := ix_spec q17
      refine asM X (by decide +kernel) j16 ej16 lj16 dX8_row_84 ?_
      refine v_iinc (v := (y4 + 1)) (lc' := [some (.ref (ad (8, 0, 0))), some (.int z1), some (.int z2), some (.int z3), some (.int (y4 + 1))]) X dX8_row_85 rfl rfl (by decide) rfl rfl ?_
      refine v_goto X 65 dX8_row_88 (by decide) ?_
      exact ih (y4 + 1) (g3 g 11 4 j16 (0 : Int32)) _ _ h k
set_option maxRecDepth 100000 in
set_option maxHeartbeats 4000000 in
theorem c_X8_row (l : Launch) (D : va_G) (ad : Ky → Nat) (cy : Nat → ClassId) (hI : Inj ad) (N : Nat) (x1 : Int32) (x2 : Int32) (x3 : Int32) (g : GS) (r : Int32) (gq : GS) (h : F_X8_row N x1 x2 x3 g = some (r, gq)) : CtI l D ad cy yX8_row cX8_row 5 (some .int) 2 [.ref (ad (8, 0, 0)), .int x1, .int x2, .int x3] g r gq := by
  refine CtI.of 1 hI (by decide +kernel) rfl (Nat.le_of_ble_eq_true rfl) (fun p e s m args below meth c X => ?_)
  unfold F_X8_row at h
  show Vy _ _ _ _ _ _ _ _ _ _ _ _ _ _ _ 0 [some (.ref (ad (8, 0, 0))), some (.int x1), some (.int x2), some (.int x3), none] [] g
  refine v_aloadn X dX8_row_0 rfl rfl ?_
  refine v_iconst (v := 0) X dX8_row_1 (by decide) ?_
  refine pf_X8_50 X dX8_row_2 ?_
  refine v_iloadn X dX8_row_5 rfl rfl ?_
  obtain ⟨r3, g2, q1, h⟩ := bd2_some h
  refine v_callSI (As := [.int x1]) (rest := []) X (c_X8_isRow l D ad cy X.2.2.2.2.2.2.2.2.1 N x1 (g3 g 10 0 0 (0 : Int32)) r3 g2  q1) mw_X8_isRow ml_X8_64 (by decide) rfl rfl (Nat.le_of_ble_eq_true rfl) dX8_row_6 ?_
  refine v_if_eq X 30 dX8_row_9 (by decide) (fun c4 => ?_) (fun c4 => ?_)
  · replace h := (if_pos c4).symm.trans h
    refine v_ldc X kc_X8_70 dX8_row_30 ?_
    cases h
    exact v_iret X dX8_row_32 rfl rfl
  · replace h := (if_neg c4).symm.trans h
    refine v_iloadn X dX8_row_12 rfl rfl ?_
    refine v_i2l X dX8_row_13 ?_
    refine v_lconst (v := 0) X dX8_row_14 (by decide) ?_
    refine v_ldc2 X kl_X8_68 dX8_row_15 ?_
    obtain ⟨r7, g6, q5, h⟩ := bd2_some h
    refine v_callSI (As := [.long (x2.toInt64), .long (0 : Int64), .long (2 : Int64)]) (rest := []) X (c_X8_in l D ad cy X.2.2.2.2.2.2.2.2.1 N (x2.toInt64) (0 : Int64) (2 : Int64) g2 r7 g6  q5) mw_X8_in ml_X8_60 (by decide) rfl rfl (Nat.le_of_ble_eq_true rfl) dX8_row_18 ?_
    refine v_if_eq X 30 dX8_row_21 (by decide) (fun c8 => ?_) (fun c8 => ?_)
    · replace h := (if_pos c8).symm.trans h
      refine v_ldc X kc_X8_70 dX8_row_30 ?_
      cases h
      exact v_iret X dX8_row_32 rfl rfl
    · replace h := (if_neg c8).symm.trans h
      refine v_iloadn X dX8_row_24 rfl rfl ?_
      refine v_bipush (v := 40) X dX8_row_25 (by decide) ?_
      refine v_icmp_le X 33 dX8_row_27 (by decide) (fun c9 => ?_) (fun c9 => ?_)
      · replace h := (if_pos c9).symm.trans h
        refine v_aloadn X dX8_row_33 rfl rfl ?_
        refine v_iconst (v := 0) X dX8_row_34 (by decide) ?_
        refine pf_X8_54 X dX8_row_35 ?_
        refine v_iloadn X dX8_row_38 rfl rfl ?_
        refine v_if_ge X 48 dX8_row_39 (by decide) (fun c10 => ?_) (fun c10 => ?_)
        · replace h := (if_pos c10).symm.trans h
          refine v_aloadn X dX8_row_48 rfl rfl ?_
          refine gf_X8_7 X dX8_row_49 ?_
          refine v_iloadn X dX8_row_52 rfl rfl ?_
          refine v_iloadn X dX8_row_53 rfl rfl ?_
          obtain ⟨j11, q12, h⟩ := bd1_some h
          obtain ⟨ej11, lj11⟩ := ix_spec q12
          refine asM X (by decide +kernel) j11 ej11 lj11 dX8_row_54 ?_
          refine v_aloadn X dX8_row_55 rfl rfl ?_
          refine gf_X8_13 X dX8_row_56 ?_
          refine v_iloadn X dX8_row_59 rfl rfl ?_
          refine v_iloadn X dX8_row_60 rfl rfl ?_
          obtain ⟨j13, q14, h⟩ := bd1_some h
          obtain ⟨ej13, lj13⟩ := ix_spec q14
          refine asM X (by decide +kernel) j13 ej13 lj13 dX8_row_61 ?_
          refine v_iconst (v := 0) X dX8_row_62 (by decide) ?_
          refine v_istore (lc' := [some (.ref (ad (8, 0, 0))), some (.int x1), some (.int x2), some (.int x3), some (.int (0 : Int32))]) X dX8_row_63 (by decide) rfl rfl ?_
          obtain ⟨x18, g19, q20, h⟩ := bd2_some h
          refine w_X8_row_65 X x1 x2 x3 N (0 : Int32) (g3 (g3 (g3 g6 10 0 1 (0 : Int32)) 11 2 j11 x2) 11 3 j13 x3) x18 g19 q20 ?_
          refine v_iloadn X dX8_row_91 rfl rfl ?_
          cases h
          exact v_iret X dX8_row_92 rfl rfl
        · replace h := (if_neg c10).symm.trans h
          refine v_aloadn X dX8_row_42 rfl rfl ?_
          refine v_iconst (v := 4) X dX8_row_43 (by decide) ?_
          obtain ⟨r23, g22, q21, h⟩ := bd2_some h
          refine v_callVI (As := [.int (4 : Int32)]) (rest := []) X (c_X8_finding l D ad cy X.2.2.2.2.2.2.2.2.1 N (4 : Int32) (g3 g6 10 0 1 (0 : Int32)) r23 g22  q21) mw_X8_finding ml_X8_71 (by decide) (by decide +kernel) (by decide) rfl rfl rfl rfl (Nat.le_of_ble_eq_true rfl) dX8_row_44 ?_
          cases h
          exact v_iret X dX8_row_47 rfl rfl
      · replace h := (if_neg c9).symm.trans h
        refine v_ldc X kc_X8_70 dX8_row_30 ?_
        cases h
        exact v_iret X dX8_row_32 rfl rfl
def F_X8_rowFound (N : Nat) (x1 : Int32) (x2 : Int32) (x3 : Int32) (g : GS) : Option (Int32 × GS) := bd1 (ix x1 8) (fun j1 => if 0 ≤ (g 11 2 j1) then if x2 < 0 then bd2 (F_X8_finding N (2 : Int32) g) (fun r7 g6 => some (r7, g6)) else bd1 (ix x1 8) (fun j8 => if (lg_cmp ((x2.toInt64) + (x3.toInt64)) ((g 11 3 j8).toInt64)) ≤ 0 then some ((0 : Int32), (g3 g 10 0 1 (0 : Int32))) else bd2 (F_X8_finding N (2 : Int32) g) (fun r13 g12 => some (r13, g12))) else bd2 (F_X8_finding N (1 : Int32) g) (fun r16 g15 => some (r16, g15)))
set_option maxRecDepth 100000 in
set_option maxHeartbeats 4000000 in
theorem c_X8_rowFound (l : Launch) (D : va_G) (ad : Ky → Nat) (cy : Nat → ClassId) (hI : Inj ad) (N : Nat) (x1 : Int32) (x2 : Int32) (x3 : Int32) (g : GS) (r : Int32) (gq : GS) (h : F_X8_rowFound N x1 x2 x3 g = some (r, gq)) : CtI l D ad cy yX8_rowFound cX8_rowFound 4 (some .int) 1 [.ref (ad (8, 0, 0)), .int x1, .int x2, .int x3] g r gq := by
  refine CtI.of 0 hI (by decide +kernel) rfl (Nat.le_of_ble_eq_true rfl) (fun p e s m args below meth c X => ?_)
  unfold F_X8_rowFound at h
  show Vy _ _ _ _ _ _ _ _ _ _ _ _ _ _ _ 0 [some (.ref (ad (8, 0, 0))), some (.int x1), some (.int x2), some (.int x3)] [] g
  refine v_aloadn X dX8_rowFound_0 rfl rfl ?_
  refine gf_X8_7 X dX8_rowFound_1 ?_
  refine v_iloadn X dX8_rowFound_4 rfl rfl ?_
  obtain ⟨j1, q2, h⟩ := bd1_some h
  obtain ⟨ej1, lj1⟩ := ix_spec q2
  refine alM X (by decide +kernel) j1 ej1 lj1 dX8_rowFound_5 ?_
  refine v_if_ge X 15 dX8_rowFound_6 (by decide) (fun c3 => ?_) (fun c3 => ?_)
  · replace h := (if_pos c3).symm.trans h
    refine v_iloadn X dX8_rowFound_15 rfl rfl ?_
    refine v_if_lt X 35 dX8_rowFound_16 (by decide) (fun c4 => ?_) (fun c4 => ?_)
    · replace h := (if_pos c4).symm.trans h
      refine v_aloadn X dX8_rowFound_35 rfl rfl ?_
      refine v_iconst (v := 2) X dX8_rowFound_36 (by decide) ?_
      obtain ⟨r7, g6, q5, h⟩ := bd2_some h
      refine v_callVI (As := [.int (2 : Int32)]) (rest := []) X (c_X8_finding l D ad cy X.2.2.2.2.2.2.2.2.1 N (2 : Int32) g r7 g6  q5) mw_X8_finding ml_X8_71 (by decide) (by decide +kernel) (by decide) rfl rfl rfl rfl (Nat.le_of_ble_eq_true rfl) dX8_rowFound_37 ?_
      cases h
      exact v_iret X dX8_rowFound_40 rfl rfl
    · replace h := (if_neg c4).symm.trans h
      refine v_iloadn X dX8_rowFound_19 rfl rfl ?_
      refine v_i2l X dX8_rowFound_20 ?_
      refine v_iloadn X dX8_rowFound_21 rfl rfl ?_
      refine v_i2l X dX8_rowFound_22 ?_
      refine v_ladd X dX8_rowFound_23 ?_
      refine v_aloadn X dX8_rowFound_24 rfl rfl ?_
      refine gf_X8_13 X dX8_rowFound_25 ?_
      refine v_iloadn X dX8_rowFound_28 rfl rfl ?_
      obtain ⟨j8, q9, h⟩ := bd1_some h
      obtain ⟨ej8, lj8⟩ := ix_spec q9
      refine alM X (by decide +kernel) j8 ej8 lj8 dX8_rowFound_29 ?_
      refine v_i2l X dX8_rowFound_30 ?_
      refine v_lcmp X dX8_rowFound_31 ?_
      refine v_if_le X 41 dX8_rowFound_32 (by decide) (fun c10 => ?_) (fun c10 => ?_)
      · replace h := (if_pos c10).symm.trans h
        refine v_aloadn X dX8_rowFound_41 rfl rfl ?_
        refine v_iconst (v := 0) X dX8_rowFound_42 (by decide) ?_
        refine pf_X8_54 X dX8_rowFound_43 ?_
        refine v_iconst (v := 0) X dX8_rowFound_46 (by decide) ?_
        cases h
        exact v_iret X dX8_rowFound_47 rfl rfl
      · replace h := (if_neg c10).symm.trans h
        refine v_aloadn X dX8_rowFound_35 rfl rfl ?_
        refine v_iconst (v := 2) X dX8_rowFound_36 (by decide) ?_
        obtain ⟨r13, g12, q11, h⟩ := bd2_some h
        refine v_callVI (As := [.int (2 : Int32)]) (rest := []) X (c_X8_finding l D ad cy X.2.2.2.2.2.2.2.2.1 N (2 : Int32) g r13 g12  q11) mw_X8_finding ml_X8_71 (by decide) (by decide +kernel) (by decide) rfl rfl rfl rfl (Nat.le_of_ble_eq_true rfl) dX8_rowFound_37 ?_
        cases h
        exact v_iret X dX8_rowFound_40 rfl rfl
  · replace h := (if_neg c3).symm.trans h
    refine v_aloadn X dX8_rowFound_9 rfl rfl ?_
    refine v_iconst (v := 1) X dX8_rowFound_10 (by decide) ?_
    obtain ⟨r16, g15, q14, h⟩ := bd2_some h
    refine v_callVI (As := [.int (1 : Int32)]) (rest := []) X (c_X8_finding l D ad cy X.2.2.2.2.2.2.2.2.1 N (1 : Int32) g r16 g15  q14) mw_X8_finding ml_X8_71 (by decide) (by decide +kernel) (by decide) rfl rfl rfl rfl (Nat.le_of_ble_eq_true rfl) dX8_rowFound_11 ?_
    cases h
    exact v_iret X dX8_rowFound_14 rfl rfl
def F_X8_send (N : Nat) (x1 : Int32) (x2 : Int32) (g : GS) : Option (Int32 × GS) := bd2 (F_X8_isPaper N x1 (g3 g 10 0 0 (0 : Int32))) (fun r3 g2 => if r3 = 0 then some ((-1000001 : Int32), g2) else bd2 (F_X8_in N (x2.toInt64) (1 : Int64) (40 : Int64) g2) (fun r7 g6 => if r7 = 0 then some ((-1000001 : Int32), g6) else bd2 (F_X8_of N 5 x1 (3 : Int32) g6) (fun r11 g10 => if r11 = 0 then bd1 (F_X8_keep N  g10) (fun g14 => bd1 (F_X8_goesUp N 5 x1 x2 g14) (fun g16 => bd2 (F_X8_those N 5 (1 : Int32) g16) (fun r19 g18 => some (r19, g18)))) else some ((-1000002 : Int32), g10))))
set_option maxRecDepth 100000 in
set_option maxHeartbeats 4000000 in
theorem c_X8_send (l : Launch) (D : va_G) (ad : Ky → Nat) (cy : Nat → ClassId) (hI : Inj ad) (N : Nat) (x1 : Int32) (x2 : Int32) (g : GS) (r : Int32) (gq : GS) (h : F_X8_send N x1 x2 g = some (r, gq)) : CtI l D ad cy yX8_send cX8_send 3 (some .int) 2 [.ref (ad (8, 0, 0)), .int x1, .int x2] g r gq := by
  refine CtI.of 0 hI (by decide +kernel) rfl (Nat.le_of_ble_eq_true rfl) (fun p e s m args below meth c X => ?_)
  unfold F_X8_send at h
  show Vy _ _ _ _ _ _ _ _ _ _ _ _ _ _ _ 0 [some (.ref (ad (8, 0, 0))), some (.int x1), some (.int x2)] [] g
  refine v_aloadn X dX8_send_0 rfl rfl ?_
  refine v_iconst (v := 0) X dX8_send_1 (by decide) ?_
  refine pf_X8_50 X dX8_send_2 ?_
  refine v_aloadn X dX8_send_5 rfl rfl ?_
  refine v_iloadn X dX8_send_6 rfl rfl ?_
  obtain ⟨r3, g2, q1, h⟩ := bd2_some h
  refine v_callVI (As := [.int x1]) (rest := []) X (c_X8_isPaper l D ad cy X.2.2.2.2.2.2.2.2.1 N x1 (g3 g 10 0 0 (0 : Int32)) r3 g2  q1) mw_X8_isPaper ml_X8_208 (by decide) (by decide +kernel) (by decide) rfl rfl rfl rfl (Nat.le_of_ble_eq_true rfl) dX8_send_7 ?_
  refine v_if_eq X 25 dX8_send_10 (by decide) (fun c4 => ?_) (fun c4 => ?_)
  · replace h := (if_pos c4).symm.trans h
    refine v_ldc X kc_X8_70 dX8_send_25 ?_
    cases h
    exact v_iret X dX8_send_27 rfl rfl
  · replace h := (if_neg c4).symm.trans h
    refine v_iloadn X dX8_send_13 rfl rfl ?_
    refine v_i2l X dX8_send_14 ?_
    refine v_lconst (v := 1) X dX8_send_15 (by decide) ?_
    refine v_ldc2 X kl_X8_211 dX8_send_16 ?_
    obtain ⟨r7, g6, q5, h⟩ := bd2_some h
    refine v_callSI (As := [.long (x2.toInt64), .long (1 : Int64), .long (40 : Int64)]) (rest := []) X (c_X8_in l D ad cy X.2.2.2.2.2.2.2.2.1 N (x2.toInt64) (1 : Int64) (40 : Int64) g2 r7 g6  q5) mw_X8_in ml_X8_60 (by decide) rfl rfl (Nat.le_of_ble_eq_true rfl) dX8_send_19 ?_
    refine v_if_ne X 28 dX8_send_22 (by decide) (fun c8 => ?_) (fun c8 => ?_)
    · replace h := (if_neg c8).symm.trans h
      refine v_aloadn X dX8_send_28 rfl rfl ?_
      refine gf_X8_19 X dX8_send_29 ?_
      refine v_iloadn X dX8_send_32 rfl rfl ?_
      refine v_iconst (v := 3) X dX8_send_33 (by decide) ?_
      obtain ⟨r11, g10, q9, h⟩ := bd2_some h
      refine v_callSI (As := [.ref (ad (9, 11, 5)), .int x1, .int (3 : Int32)]) (rest := []) X (c_X8_of l D ad cy X.2.2.2.2.2.2.2.2.1 N 5 x1 (3 : Int32) g6 r11 g10 (by decide +kernel) q9) mw_X8_of ml_X8_155 (by decide) rfl rfl (Nat.le_of_ble_eq_true rfl) dX8_send_34 ?_
      refine v_if_eq X 43 dX8_send_37 (by decide) (fun c12 => ?_) (fun c12 => ?_)
      · replace h := (if_pos c12).symm.trans h
        refine v_aloadn X dX8_send_43 rfl rfl ?_
        obtain ⟨g14, q13, h⟩ := bd1_some h
        refine v_callVV (As := []) (rest := []) X (c_X8_keep l D ad cy X.2.2.2.2.2.2.2.2.1 N  g10 g14  q13) mw_X8_keep ml_X8_201 (by decide) (by decide +kernel) (by decide) rfl rfl rfl rfl (Nat.le_of_ble_eq_true rfl) dX8_send_44 ?_
        refine v_aloadn X dX8_send_47 rfl rfl ?_
        refine gf_X8_19 X dX8_send_48 ?_
        refine v_iloadn X dX8_send_51 rfl rfl ?_
        refine v_iloadn X dX8_send_52 rfl rfl ?_
        obtain ⟨g16, q15, h⟩ := bd1_some h
        refine v_callSV (As := [.ref (ad (9, 11, 5)), .int x1, .int x2]) (rest := []) X (c_X8_goesUp l D ad cy X.2.2.2.2.2.2.2.2.1 N 5 x1 x2 g14 g16 (by decide +kernel) q15) mw_X8_goesUp ml_X8_213 (by decide) rfl rfl (Nat.le_of_ble_eq_true rfl) dX8_send_53 ?_
        refine v_aloadn X dX8_send_56 rfl rfl ?_
        refine gf_X8_19 X dX8_send_57 ?_
        refine v_iconst (v := 1) X dX8_send_60 (by decide) ?_
        obtain ⟨r19, g18, q17, h⟩ := bd2_some h
        refine v_callSI (As := [.ref (ad (9, 11, 5)), .int (1 : Int32)]) (rest := []) X (c_X8_those l D ad cy X.2.2.2.2.2.2.2.2.1 N 5 (1 : Int32) g16 r19 g18 (by decide +kernel) q17) mw_X8_those ml_X8_217 (by decide) rfl rfl (Nat.le_of_ble_eq_true rfl) dX8_send_61 ?_
        cases h
        exact v_iret X dX8_send_64 rfl rfl
      · replace h := (if_neg c12).symm.trans h
        refine v_ldc X kc_X8_198 dX8_send_40 ?_
        cases h
        exact v_iret X dX8_send_42 rfl rfl
    · replace h := (if_pos c8).symm.trans h
      refine v_ldc X kc_X8_70 dX8_send_25 ?_
      cases h
      exact v_iret X dX8_send_27 rfl rfl
def L_X8_sends_97 (N : Nat) (z1 : Int32) (z2 : Int32) (z3 : Int32) (z4 : Int32) (z5 : Int32) (z6 : Int32) : Nat → Int32 → GS → Option (Int32 × GS)
  | 0, _, _ => none
  | n + 1, y7, g => bd1 (ix (0 : Int32) 53) (fun j26 => if (g 11 5 j26) ≤ y7 then some (y7, g) else bd2 (F_X8_has N z6 y7 g) (fun r31 g30 => if r31 = 0 then L_X8_sends_97 N z1 z2 z3 z4 z5 z6 n (y7 + 1) g30 else bd1 (F_X8_goesUp N 7 y7 z2 g30) (fun g34 => L_X8_sends_97 N z1 z2 z3 z4 z5 z6 n (y7 + 1) g34)))
def L_X8_sends_61 (N : Nat) (z1 : Int32) (z2 : Int32) (z3 : Int32) : Nat → Int32 → Int32 → Int32 → GS → Option (Int32 × Int32 × Int32 × GS)
  | 0, _, _, _, _ => none
  | n + 1, y4, y5, y6, g => bd1 (ix (0 : Int32) 53) (fun j17 => if ((1 : Int32) <<< ((g 11 5 j17) &&& 31)) ≤ y6 then some (y4, y5, y6, g) else bd2 (F_X8_those N 5 (0 : Int32) g) (fun r22 g21 => if (y6 &&& (r22 ^^^ (-1 : Int32))) = 0 then bd1 (F_X8_layThen N  g21) (fun g25 => bd2 (L_X8_sends_97 N z1 z2 z3 y4 y5 y6 N (0 : Int32) g25) (fun x35 g36 => bd1 (F_X8_hoursOf N 7 z1 g36) (fun g39 => bd2 (F_X8_policies N 7 g39) (fun r42 g41 => bd2 (F_X8_bits N r42 g41) (fun r45 g44 => if y5 < r45 then L_X8_sends_61 N z1 z2 z3 n y6 r45 (y6 + 1) g44 else if r45 = y5 then bd2 (F_X8_bits N y6 g44) (fun r50 g49 => bd2 (F_X8_bits N y4 g49) (fun r53 g52 => if r53 ≤ r50 then L_X8_sends_61 N z1 z2 z3 n y4 y5 (y6 + 1) g52 else L_X8_sends_61 N z1 z2 z3 n y6 r45 (y6 + 1) g52)) else L_X8_sends_61 N z1 z2 z3 n y4 y5 (y6 + 1) g44))))) else L_X8_sends_61 N z1 z2 z3 n y4 y5 (y6 + 1) g21))
def F_X8_sends (N : Nat) (x1 : Int32) (x2 : Int32) (x3 : Int32) (g : GS) : Option (Int32 × GS) := bd2 (F_X8_isThere N  (g3 g 10 0 0 (0 : Int32))) (fun r3 g2 => if r3 = 0 then some ((-1000002 : Int32), g2) else bd2 (F_X8_in N (x1.toInt64) (1 : Int64) (30 : Int64) g2) (fun r7 g6 => if r7 = 0 then some ((-1000001 : Int32), g6) else bd2 (F_X8_in N (x2.toInt64) (1 : Int64) (40 : Int64) g6) (fun r11 g10 => if r11 = 0 then some ((-1000001 : Int32), g10) else bd2 (F_X8_in N (x3.toInt64) (0 : Int64) (1 : Int64) g10) (fun r15 g14 => if r15 = 0 then some ((-1000001 : Int32), g14) else bd4 (L_X8_sends_61 N x1 x2 x3 N (0 : Int32) (-1 : Int32) (0 : Int32) g14) (fun x55 x56 x57 g58 => if x3 = 0 then some (x55, g58) else some (x56, g58))))))
set_option maxRecDepth 100000 in
set_option maxHeartbeats 4000000 in
theorem w_X8_sends_97 {p : Program} {l : Launch} {e : Env} {s : State} {m : MethodId} {args : Array Value} {below : List Frame} {meth : Method} {c : Code} {D : va_G} {ad : Ky → Nat} {cy : Nat → ClassId} {r : Int32} {gq : GS} {N : Nat} (X : Cx p (rmd 7) s m args meth c RX8 cX8_sends 8 (some .int) D ad cy) (z1 : Int32) (z2 : Int32) (z3 : Int32) (z4 : Int32) (z5 : Int32) (z6 : Int32) : ∀ (n : Nat) (y7 : Int32) (g : GS) (y7' : Int32) (g' : GS), L_X8_sends_97 N z1 z2 z3 z4 z5 z6 n y7 g = some (y7', g') → Vy p l e (rmd 7) s m args below meth c 8 D ad cy (QI D ad cy below args s r gq) 134 [some (.ref (ad (8, 0, 0))), some (.int z1), some (.int z2), some (.int z3), some (.int z4), some (.int z5), some (.int z6), some (.int y7')] [] g' → Vy p l e (rmd 7) s m args below meth c 8 D ad cy (QI D ad cy below args s r gq) 97 [some (.ref (ad (8, 0, 0))), some (.int z1), some (.int z2), some (.int z3), some (.int z4), some (.int z5), some (.int z6), some (.int y7)] [] g := by
  intro n
  induction n with
  | zero => intro y7 g y7' g' h k; cases h
  | succ n ih =>
    intro y7 g y7' g' h k
    rw [L_X8_sends_97] at h
    refine v_iload X dX8_sends_97 rfl ?_
    refine v_aloadn X dX8_sends_99 rfl rfl ?_
    refine gf_X8_19 X dX8_sends_100 ?_
    refine v_iconst (v := 0) X dX8_sends_103 (by decide) ?_
    obtain ⟨j26, q27, h⟩ := bd1_some h
    obtain ⟨ej26, lj26⟩ := ix_spec q27
    refine alM X (by decide +kernel) j26 ej26 lj26 dX8_sends_104 ?_
    refine v_icmp_ge X 134 dX8_sends_105 (by decide) (fun c28 => ?_) (fun c28 => ?_)
    · replace h := (if_pos c28).symm.trans h
      cases h
      exact k
    · replace h := (if_neg c28).symm.trans h
      refine v_iload X dX8_sends_108 rfl ?_
      refine v_iload X dX8_sends_110 rfl ?_
      obtain ⟨r31, g30, q29, h⟩ := bd2_some h
      refine v_callSI (As := [.int z6, .int y7]) (rest := []) X (c_X8_has l D ad cy X.2.2.2.2.2.2.2.2.1 N z6 y7 g r31 g30  q29) mw_X8_has ml_X8_240 (by decide) rfl rfl (Nat.le_of_ble_eq_true rfl) dX8_sends_112 ?_
      refine v_if_eq X 128 dX8_sends_115 (by decide) (fun c32 => ?_) (fun c32 => ?_)
      · replace h := (if_pos c32).symm.trans h
        refine v_iinc (v := (y7 + 1)) (lc' := [some (.ref (ad (8, 0, 0))), some (.int z1), some (.int z2), some (.int z3), some (.int z4), some (.int z5), some (.int z6), some (.int (y7 + 1))]) X dX8_sends_128 rfl rfl (by decide) rfl rfl ?_
        refine v_goto X 97 dX8_sends_131 (by decide) ?_
        exact ih (y7 + 1) g30 _ _ h k
      · replace h := (if_neg c32).symm.trans h
        refine v_aloadn X dX8_sends_118 rfl rfl ?_
        refine gf_X8_25 X dX8_sends_119 ?_
        refine v_iload X dX8_sends_122 rfl ?_
        refine v_iloadn X dX8_sends_124 rfl rfl ?_
        obtain ⟨g34, q33, h⟩ := bd1_some h
        refine v_callSV (As := [.ref (ad (9, 11, 7)), .int y7, .int z2]) (rest := []) X (c_X8_goesUp l D ad cy X.2.2.2.2.2.2.2.2.1 N 7 y7 z2 g30 g34 (by decide +kernel) q33) mw_X8_goesUp ml_X8_213 (by decide) rfl rfl (Nat.le_of_ble_eq_true rfl) dX8_sends_125 ?_
        refine v_iinc (v := (y7 + 1)) (lc' := [some (.ref (ad (8, 0, 0))), some (.int z1), some (.int z2), some (.int z3), some (.int z4), some (.int z5), some (.int z6), some (.int (y7 + 1))]) X dX8_sends_128 rfl rfl (by decide) rfl rfl ?_
        refine v_goto X 97 dX8_sends_131 (by decide) ?_
        exact ih (y7 + 1) g34 _ _ h k
set_option maxRecDepth 100000 in
set_option maxHeartbeats 4000000 in
theorem w_X8_sends_61 {p : Program} {l : Launch} {e : Env} {s : State} {m : MethodId} {args : Array Value} {below : List Frame} {meth : Method} {c : Code} {D : va_G} {ad : Ky → Nat} {cy : Nat → ClassId} {r : Int32} {gq : GS} {N : Nat} (X : Cx p (rmd 7) s m args meth c RX8 cX8_sends 8 (some .int) D ad cy) (z1 : Int32) (z2 : Int32) (z3 : Int32) : ∀ (n : Nat) (y4 : Int32) (y5 : Int32) (y6 : Int32) (g : GS) (y4' : Int32) (y5' : Int32) (y6' : Int32) (g' : GS), L_X8_sends_61 N z1 z2 z3 n y4 y5 y6 g = some (y4', y5', y6', g') → Vy p l e (rmd 7) s m args below meth c 8 D ad cy (QI D ad cy below args s r gq) 196 [some (.ref (ad (8, 0, 0))), some (.int z1), some (.int z2), some (.int z3), some (.int y4'), some (.int y5'), some (.int y6'), none] [] g' → Vy p l e (rmd 7) s m args below meth c 8 D ad cy (QI D ad cy below args s r gq) 61 [some (.ref (ad (8, 0, 0))), some (.int z1), some (.int z2), some (.int z3), some (.int y4), some (.int y5), some (.int y6), none] [] g := by
  intro n
  induction n with
  | zero => intro y4 y5 y6 g y4' y5' y6' g' h k; cases h
  | succ n ih =>
    intro y4 y5 y6 g y4' y5' y6' g' h k
    rw [L_X8_sends_61] at h
    refine v_iload X dX8_sends_61 rfl ?_
    refine v_iconst (v := 1) X dX8_sends_63 (by decide) ?_
    refine v_aloadn X dX8_sends_64 rfl rfl ?_
    refine gf_X8_19 X dX8_sends_65 ?_
    refine v_iconst (v := 0) X dX8_sends_68 (by decide) ?_
    obtain ⟨j17, q18, h⟩ := bd1_some h
    obtain ⟨ej17, lj17⟩ := ix_spec q18
    refine alM X (by decide +kernel) j17 ej17 lj17 dX8_sends_69 ?_
    refine v_ishl X dX8_sends_70 ?_
    refine v_icmp_ge X 196 dX8_sends_71 (by decide) (fun c19 => ?_) (fun c19 => ?_)
    · replace h := (if_pos c19).symm.trans h
      cases h
      exact k
    · replace h := (if_neg c19).symm.trans h
      refine v_iload X dX8_sends_74 rfl ?_
      refine v_aloadn X dX8_sends_76 rfl rfl ?_
      refine gf_X8_19 X dX8_sends_77 ?_
      refine v_iconst (v := 0) X dX8_sends_80 (by decide) ?_
      obtain ⟨r22, g21, q20, h⟩ := bd2_some h
      refine v_callSI (As := [.ref (ad (9, 11, 5)), .int (0 : Int32)]) (rest := [.int y6]) X (c_X8_those l D ad cy X.2.2.2.2.2.2.2.2.1 N 5 (0 : Int32) g r22 g21 (by decide +kernel) q20) mw_X8_those ml_X8_217 (by decide) rfl rfl (Nat.le_of_ble_eq_true rfl) dX8_sends_81 ?_
      refine v_iconst (v := -1) X dX8_sends_84 (by decide) ?_
      refine v_ixor X dX8_sends_85 ?_
      refine v_iand X dX8_sends_86 ?_
      refine v_if_ne X 190 dX8_sends_87 (by decide) (fun c23 => ?_) (fun c23 => ?_)
      · replace h := (if_neg c23).symm.trans h
        refine v_iinc (v := (y6 + 1)) (lc' := [some (.ref (ad (8, 0, 0))), some (.int z1), some (.int z2), some (.int z3), some (.int y4), some (.int y5), some (.int (y6 + 1)), none]) X dX8_sends_190 rfl rfl (by decide) rfl rfl ?_
        refine v_goto X 61 dX8_sends_193 (by decide) ?_
        exact ih y4 y5 (y6 + 1) g21 _ _ _ _ h k
      · replace h := (if_pos c23).symm.trans h
        refine v_aloadn X dX8_sends_90 rfl rfl ?_
        obtain ⟨g25, q24, h⟩ := bd1_some h
        refine v_callVV (As := []) (rest := []) X (c_X8_layThen l D ad cy X.2.2.2.2.2.2.2.2.1 N  g21 g25  q24) mw_X8_layThen ml_X8_232 (by decide) (by decide +kernel) (by decide) rfl rfl rfl rfl (Nat.le_of_ble_eq_true rfl) dX8_sends_91 ?_
        refine v_iconst (v := 0) X dX8_sends_94 (by decide) ?_
        refine v_istore (lc' := [some (.ref (ad (8, 0, 0))), some (.int z1), some (.int z2), some (.int z3), some (.int y4), some (.int y5), some (.int y6), some (.int (0 : Int32))]) X dX8_sends_95 (by decide) rfl rfl ?_
        obtain ⟨x35, g36, q37, h⟩ := bd2_some h
        refine w_X8_sends_97 X z1 z2 z3 y4 y5 y6 N (0 : Int32) g25 x35 g36 q37 ?_
        refine v_aloadn X dX8_sends_134 rfl rfl ?_
        refine v_aloadn X dX8_sends_135 rfl rfl ?_
        refine gf_X8_25 X dX8_sends_136 ?_
        refine v_iloadn X dX8_sends_139 rfl rfl ?_
        obtain ⟨g39, q38, h⟩ := bd1_some h
        refine v_callVV (As := [.ref (ad (9, 11, 7)), .int z1]) (rest := []) X (c_X8_hoursOf l D ad cy X.2.2.2.2.2.2.2.2.1 N 7 z1 g36 g39 (by decide +kernel) q38) mw_X8_hoursOf ml_X8_235 (by decide) (by decide +kernel) (by decide) rfl rfl rfl rfl (Nat.le_of_ble_eq_true rfl) dX8_sends_140 ?_
        refine v_aloadn X dX8_sends_143 rfl rfl ?_
        refine gf_X8_25 X dX8_sends_144 ?_
        obtain ⟨r42, g41, q40, h⟩ := bd2_some h
        refine v_callSI (As := [.ref (ad (9, 11, 7))]) (rest := []) X (c_X8_policies l D ad cy X.2.2.2.2.2.2.2.2.1 N 7 g39 r42 g41 (by decide +kernel) q40) mw_X8_policies ml_X8_204 (by decide) rfl rfl (Nat.le_of_ble_eq_true rfl) dX8_sends_147 ?_
        obtain ⟨r45, g44, q43, h⟩ := bd2_some h
        refine v_callSI (As := [.int r42]) (rest := []) X (c_X8_bits l D ad cy X.2.2.2.2.2.2.2.2.1 N r42 g41 r45 g44  q43) mw_X8_bits ml_X8_244 (by decide) rfl rfl (Nat.le_of_ble_eq_true rfl) dX8_sends_150 ?_
        refine v_istore (lc' := [some (.ref (ad (8, 0, 0))), some (.int z1), some (.int z2), some (.int z3), some (.int y4), some (.int y5), some (.int y6), some (.int r45)]) X dX8_sends_153 (by decide) rfl rfl ?_
        refine v_iload X dX8_sends_155 rfl ?_
        refine v_iload X dX8_sends_157 rfl ?_
        refine v_icmp_gt X 182 dX8_sends_159 (by decide) (fun c46 => ?_) (fun c46 => ?_)
        · replace h := (if_pos c46).symm.trans h
          refine v_iload X dX8_sends_182 rfl ?_
          refine v_istore (lc' := [some (.ref (ad (8, 0, 0))), some (.int z1), some (.int z2), some (.int z3), some (.int y4), some (.int r45), some (.int y6), some (.int r45)]) X dX8_sends_184 (by decide) rfl rfl ?_
          refine v_iload X dX8_sends_186 rfl ?_
          refine v_istore (lc' := [some (.ref (ad (8, 0, 0))), some (.int z1), some (.int z2), some (.int z3), some (.int y6), some (.int r45), some (.int y6), some (.int r45)]) X dX8_sends_188 (by decide) rfl rfl ?_
          refine v_iinc (v := (y6 + 1)) (lc' := [some (.ref (ad (8, 0, 0))), some (.int z1), some (.int z2), some (.int z3), some (.int y6), some (.int r45), some (.int (y6 + 1)), some (.int r45)]) X dX8_sends_190 rfl rfl (by decide) rfl rfl ?_
          refine v_goto X 61 dX8_sends_193 (by decide) ?_
          refine v_weak (lc2 := [some (.ref (ad (8, 0, 0))), some (.int z1), some (.int z2), some (.int z3), some (.int y6), some (.int r45), some (.int (y6 + 1)), none]) ⟨rfl, rfl, rfl, rfl, rfl, rfl, rfl, trivial⟩ ?_
          exact ih y6 r45 (y6 + 1) g44 _ _ _ _ h k
        · replace h := (if_neg c46).symm.trans h
          refine v_iload X dX8_sends_162 rfl ?_
          refine v_iload X dX8_sends_164 rfl ?_
          refine v_icmp_ne X 190 dX8_sends_166 (by decide) (fun c47 => ?_) (fun c47 => ?_)
          · replace h := (if_neg c47).symm.trans h
            refine v_iinc (v := (y6 + 1)) (lc' := [some (.ref (ad (8, 0, 0))), some (.int z1), some (.int z2), some (.int z3), some (.int y4), some (.int y5), some (.int (y6 + 1)), some (.int r45)]) X dX8_sends_190 rfl rfl (by decide) rfl rfl ?_
            refine v_goto X 61 dX8_sends_193 (by decide) ?_
            refine v_weak (lc2 := [some (.ref (ad (8, 0, 0))), some (.int z1), some (.int z2), some (.int z3), some (.int y4), some (.int y5), some (.int (y6 + 1)), none]) ⟨rfl, rfl, rfl, rfl, rfl, rfl, rfl, trivial⟩ ?_
            exact ih y4 y5 (y6 + 1) g44 _ _ _ _ h k
          · replace h := (if_pos c47).symm.trans h
            refine v_iload X dX8_sends_169 rfl ?_
            obtain ⟨r50, g49, q48, h⟩ := bd2_some h
            refine v_callSI (As := [.int y6]) (rest := []) X (c_X8_bits l D ad cy X.2.2.2.2.2.2.2.2.1 N y6 g44 r50 g49  q48) mw_X8_bits ml_X8_244 (by decide) rfl rfl (Nat.le_of_ble_eq_true rfl) dX8_sends_171 ?_
            refine v_iload X dX8_sends_174 rfl ?_
            obtain ⟨r53, g52, q51, h⟩ := bd2_some h
            refine v_callSI (As := [.int y4]) (rest := [.int r50]) X (c_X8_bits l D ad cy X.2.2.2.2.2.2.2.2.1 N y4 g49 r53 g52  q51) mw_X8_bits ml_X8_244 (by decide) rfl rfl (Nat.le_of_ble_eq_true rfl) dX8_sends_176 ?_
            refine v_icmp_ge X 190 dX8_sends_179 (by decide) (fun c54 => ?_) (fun c54 => ?_)
            · replace h := (if_pos c54).symm.trans h
              refine v_iinc (v := (y6 + 1)) (lc' := [some (.ref (ad (8, 0, 0))), some (.int z1), some (.int z2), some (.int z3), some (.int y4), some (.int y5), some (.int (y6 + 1)), some (.int r45)]) X dX8_sends_190 rfl rfl (by decide) rfl rfl ?_
              refine v_goto X 61 dX8_sends_193 (by decide) ?_
              refine v_weak (lc2 := [some (.ref (ad (8, 0, 0))), some (.int z1), some (.int z2), some (.int z3), some (.int y4), some (.int y5), some (.int (y6 + 1)), none]) ⟨rfl, rfl, rfl, rfl, rfl, rfl, rfl, trivial⟩ ?_
              exact ih y4 y5 (y6 + 1) g52 _ _ _ _ h k
            · replace h := (if_neg c54).symm.trans h
              refine v_iload X dX8_sends_182 rfl ?_
              refine v_istore (lc' := [some (.ref (ad (8, 0, 0))), some (.int z1), some (.int z2), some (.int z3), some (.int y4), some (.int r45), some (.int y6), some (.int r45)]) X dX8_sends_184 (by decide) rfl rfl ?_
              refine v_iload X dX8_sends_186 rfl ?_
              refine v_istore (lc' := [some (.ref (ad (8, 0, 0))), some (.int z1), some (.int z2), some (.int z3), some (.int y6), some (.int r45), some (.int y6), some (.int r45)]) X dX8_sends_188 (by decide) rfl rfl ?_
              refine v_iinc (v := (y6 + 1)) (lc' := [some (.ref (ad (8, 0, 0))), some (.int z1), some (.int z2), some (.int z3), some (.int y6), some (.int r45), some (.int (y6 + 1)), some (.int r45)]) X dX8_sends_190 rfl rfl (by decide) rfl rfl ?_
              refine v_goto X 61 dX8_sends_193 (by decide) ?_
              refine v_weak (lc2 := [some (.ref (ad (8, 0, 0))), some (.int z1), some (.int z2), some (.int z3), some (.int y6), some (.int r45), some (.int (y6 + 1)), none]) ⟨rfl, rfl, rfl, rfl, rfl, rfl, rfl, trivial⟩ ?_
              exact ih y6 r45 (y6 + 1) g52 _ _ _ _ h k
set_option maxRecDepth 100000 in
set_option maxHeartbeats 4000000 in
theorem c_X8_sends (l : Launch) (D : va_G) (ad : Ky → Nat) (cy : Nat → ClassId) (hI : Inj ad) (N : Nat) (x1 : Int32) (x2 : Int32) (x3 : Int32) (g : GS) (r : Int32) (gq : GS) (h : F_X8_sends N x1 x2 x3 g = some (r, gq)) : CtI l D ad cy yX8_sends cX8_sends 8 (some .int) 7 [.ref (ad (8, 0, 0)), .int x1, .int x2, .int x3] g r gq := by
  refine CtI.of 4 hI (by decide +kernel) rfl (Nat.le_of_ble_eq_true rfl) (fun p e s m args below meth c X => ?_)
  unfold F_X8_sends at h
  show Vy _ _ _ _ _ _ _ _ _ _ _ _ _ _ _ 0 [some (.ref (ad (8, 0, 0))), some (.int x1), some (.int x2), some (.int x3), none, none, none, none] [] g
  refine v_aloadn X dX8_sends_0 rfl rfl ?_
  refine v_iconst (v := 0) X dX8_sends_1 (by decide) ?_
  refine pf_X8_50 X dX8_sends_2 ?_
  refine v_aloadn X dX8_sends_5 rfl rfl ?_
  obtain ⟨r3, g2, q1, h⟩ := bd2_some h
  refine v_callVI (As := []) (rest := []) X (c_X8_isThere l D ad cy X.2.2.2.2.2.2.2.2.1 N  (g3 g 10 0 0 (0 : Int32)) r3 g2  q1) mw_X8_isThere ml_X8_195 (by decide) (by decide +kernel) (by decide) rfl rfl rfl rfl (Nat.le_of_ble_eq_true rfl) dX8_sends_6 ?_
  refine v_if_ne X 15 dX8_sends_9 (by decide) (fun c4 => ?_) (fun c4 => ?_)
  · replace h := (if_neg c4).symm.trans h
    refine v_iloadn X dX8_sends_15 rfl rfl ?_
    refine v_i2l X dX8_sends_16 ?_
    refine v_lconst (v := 1) X dX8_sends_17 (by decide) ?_
    refine v_ldc2 X kl_X8_238 dX8_sends_18 ?_
    obtain ⟨r7, g6, q5, h⟩ := bd2_some h
    refine v_callSI (As := [.long (x1.toInt64), .long (1 : Int64), .long (30 : Int64)]) (rest := []) X (c_X8_in l D ad cy X.2.2.2.2.2.2.2.2.1 N (x1.toInt64) (1 : Int64) (30 : Int64) g2 r7 g6  q5) mw_X8_in ml_X8_60 (by decide) rfl rfl (Nat.le_of_ble_eq_true rfl) dX8_sends_21 ?_
    refine v_if_eq X 49 dX8_sends_24 (by decide) (fun c8 => ?_) (fun c8 => ?_)
    · replace h := (if_pos c8).symm.trans h
      refine v_ldc X kc_X8_70 dX8_sends_49 ?_
      cases h
      exact v_iret X dX8_sends_51 rfl rfl
    · replace h := (if_neg c8).symm.trans h
      refine v_iloadn X dX8_sends_27 rfl rfl ?_
      refine v_i2l X dX8_sends_28 ?_
      refine v_lconst (v := 1) X dX8_sends_29 (by decide) ?_
      refine v_ldc2 X kl_X8_211 dX8_sends_30 ?_
      obtain ⟨r11, g10, q9, h⟩ := bd2_some h
      refine v_callSI (As := [.long (x2.toInt64), .long (1 : Int64), .long (40 : Int64)]) (rest := []) X (c_X8_in l D ad cy X.2.2.2.2.2.2.2.2.1 N (x2.toInt64) (1 : Int64) (40 : Int64) g6 r11 g10  q9) mw_X8_in ml_X8_60 (by decide) rfl rfl (Nat.le_of_ble_eq_true rfl) dX8_sends_33 ?_
      refine v_if_eq X 49 dX8_sends_36 (by decide) (fun c12 => ?_) (fun c12 => ?_)
      · replace h := (if_pos c12).symm.trans h
        refine v_ldc X kc_X8_70 dX8_sends_49 ?_
        cases h
        exact v_iret X dX8_sends_51 rfl rfl
      · replace h := (if_neg c12).symm.trans h
        refine v_iloadn X dX8_sends_39 rfl rfl ?_
        refine v_i2l X dX8_sends_40 ?_
        refine v_lconst (v := 0) X dX8_sends_41 (by decide) ?_
        refine v_lconst (v := 1) X dX8_sends_42 (by decide) ?_
        obtain ⟨r15, g14, q13, h⟩ := bd2_some h
        refine v_callSI (As := [.long (x3.toInt64), .long (0 : Int64), .long (1 : Int64)]) (rest := []) X (c_X8_in l D ad cy X.2.2.2.2.2.2.2.2.1 N (x3.toInt64) (0 : Int64) (1 : Int64) g10 r15 g14  q13) mw_X8_in ml_X8_60 (by decide) rfl rfl (Nat.le_of_ble_eq_true rfl) dX8_sends_43 ?_
        refine v_if_ne X 52 dX8_sends_46 (by decide) (fun c16 => ?_) (fun c16 => ?_)
        · replace h := (if_neg c16).symm.trans h
          refine v_iconst (v := 0) X dX8_sends_52 (by decide) ?_
          refine v_istore (lc' := [some (.ref (ad (8, 0, 0))), some (.int x1), some (.int x2), some (.int x3), some (.int (0 : Int32)), none, none, none]) X dX8_sends_53 (by decide) rfl rfl ?_
          refine v_iconst (v := -1) X dX8_sends_55 (by decide) ?_
          refine v_istore (lc' := [some (.ref (ad (8, 0, 0))), some (.int x1), some (.int x2), some (.int x3), some (.int (0 : Int32)), some (.int (-1 : Int32)), none, none]) X dX8_sends_56 (by decide) rfl rfl ?_
          refine v_iconst (v := 0) X dX8_sends_58 (by decide) ?_
          refine v_istore (lc' := [some (.ref (ad (8, 0, 0))), some (.int x1), some (.int x2), some (.int x3), some (.int (0 : Int32)), some (.int (-1 : Int32)), some (.int (0 : Int32)), none]) X dX8_sends_59 (by decide) rfl rfl ?_
          obtain ⟨x55, x56, x57, g58, q59, h⟩ := bd4_some h
          refine w_X8_sends_61 X x1 x2 x3 N (0 : Int32) (-1 : Int32) (0 : Int32) g14 x55 x56 x57 g58 q59 ?_
          refine v_iloadn X dX8_sends_196 rfl rfl ?_
          refine v_if_ne X 205 dX8_sends_197 (by decide) (fun c60 => ?_) (fun c60 => ?_)
          · replace h := (if_neg c60).symm.trans h
            refine v_iload X dX8_sends_205 rfl ?_
            cases h
            exact v_iret X dX8_sends_207 rfl rfl
          · replace h := (if_pos c60).symm.trans h
            refine v_iload X dX8_sends_200 rfl ?_
            refine v_goto X 207 dX8_sends_202 (by decide) ?_
            cases h
            exact v_iret X dX8_sends_207 rfl rfl
        · replace h := (if_pos c16).symm.trans h
          refine v_ldc X kc_X8_70 dX8_sends_49 ?_
          cases h
          exact v_iret X dX8_sends_51 rfl rfl
  · replace h := (if_pos c4).symm.trans h
    refine v_ldc X kc_X8_198 dX8_sends_12 ?_
    cases h
    exact v_iret X dX8_sends_14 rfl rfl
def F_X8_set (N : Nat) (x1 : Int32) (x2 : Int32) (x3 : Int32) (g : GS) : Option (Int32 × GS) := bd2 (F_X8_isRow N x1 (g3 g 10 0 0 (0 : Int32))) (fun r3 g2 => if r3 = 0 then some ((-1000001 : Int32), g2) else bd1 (ix x1 8) (fun j5 => if 0 ≤ ((g3 g2 10 0 1 (0 : Int32)) 11 2 j5) then bd1 (ix x1 8) (fun j8 => bd2 (F_X8_in N (x2.toInt64) (0 : Int64) ((((g3 g2 10 0 1 (0 : Int32)) 11 3 j8) - (1 : Int32)).toInt64) (g3 g2 10 0 1 (0 : Int32))) (fun r12 g11 => if r12 = 0 then bd2 (F_X8_finding N (2 : Int32) g11) (fun r34 g33 => some (r34, g33)) else bd1 (ix x1 8) (fun j14 => if (g11 11 2 j14) = 0 then bd1 (ix (((40 : Int32) * x1) + x2) 320) (fun j28 => bd1 (ix (((40 : Int32) * x1) + x2) 320) (fun j30 => some (((g3 g11 11 4 j28 (x3.toInt8.toInt32)) 11 4 j30), (g3 g11 11 4 j28 (x3.toInt8.toInt32))))) else bd1 (ix x1 8) (fun j17 => if (g11 11 2 j17) = (1 : Int32) then bd1 (ix (((40 : Int32) * x1) + x2) 320) (fun j24 => bd1 (ix (((40 : Int32) * x1) + x2) 320) (fun j26 => some (((g3 g11 11 4 j24 (x3.toInt16.toInt32)) 11 4 j26), (g3 g11 11 4 j24 (x3.toInt16.toInt32))))) else bd1 (ix (((40 : Int32) * x1) + x2) 320) (fun j20 => bd1 (ix (((40 : Int32) * x1) + x2) 320) (fun j22 => some (((g3 g11 11 4 j20 x3) 11 4 j22), (g3 g11 11 4 j20 x3)))))))) else bd2 (F_X8_finding N (1 : Int32) (g3 g2 10 0 1 (0 : Int32))) (fun r37 g36 => some (r37, g36))))
set_option maxRecDepth 100000 in
set_option maxHeartbeats 4000000 in
theorem c_X8_set (l : Launch) (D : va_G) (ad : Ky → Nat) (cy : Nat → ClassId) (hI : Inj ad) (N : Nat) (x1 : Int32) (x2 : Int32) (x3 : Int32) (g : GS) (r : Int32) (gq : GS) (h : F_X8_set N x1 x2 x3 g = some (r, gq)) : CtI l D ad cy yX8_set cX8_set 4 (some .int) 2 [.ref (ad (8, 0, 0)), .int x1, .int x2, .int x3] g r gq := by
  refine CtI.of 0 hI (by decide +kernel) rfl (Nat.le_of_ble_eq_true rfl) (fun p e s m args below meth c X => ?_)
  unfold F_X8_set at h
  show Vy _ _ _ _ _ _ _ _ _ _ _ _ _ _ _ 0 [some (.ref (ad (8, 0, 0))), some (.int x1), some (.int x2), some (.int x3)] [] g
  refine v_aloadn X dX8_set_0 rfl rfl ?_
  refine v_iconst (v := 0) X dX8_set_1 (by decide) ?_
  refine pf_X8_50 X dX8_set_2 ?_
  refine v_iloadn X dX8_set_5 rfl rfl ?_
  obtain ⟨r3, g2, q1, h⟩ := bd2_some h
  refine v_callSI (As := [.int x1]) (rest := []) X (c_X8_isRow l D ad cy X.2.2.2.2.2.2.2.2.1 N x1 (g3 g 10 0 0 (0 : Int32)) r3 g2  q1) mw_X8_isRow ml_X8_64 (by decide) rfl rfl (Nat.le_of_ble_eq_true rfl) dX8_set_6 ?_
  refine v_if_ne X 15 dX8_set_9 (by decide) (fun c4 => ?_) (fun c4 => ?_)
  · replace h := (if_neg c4).symm.trans h
    refine v_aloadn X dX8_set_15 rfl rfl ?_
    refine v_iconst (v := 0) X dX8_set_16 (by decide) ?_
    refine pf_X8_54 X dX8_set_17 ?_
    refine v_aloadn X dX8_set_20 rfl rfl ?_
    refine gf_X8_7 X dX8_set_21 ?_
    refine v_iloadn X dX8_set_24 rfl rfl ?_
    obtain ⟨j5, q6, h⟩ := bd1_some h
    obtain ⟨ej5, lj5⟩ := ix_spec q6
    refine alM X (by decide +kernel) j5 ej5 lj5 dX8_set_25 ?_
    refine v_if_ge X 35 dX8_set_26 (by decide) (fun c7 => ?_) (fun c7 => ?_)
    · replace h := (if_pos c7).symm.trans h
      refine v_iloadn X dX8_set_35 rfl rfl ?_
      refine v_i2l X dX8_set_36 ?_
      refine v_lconst (v := 0) X dX8_set_37 (by decide) ?_
      refine v_aloadn X dX8_set_38 rfl rfl ?_
      refine gf_X8_13 X dX8_set_39 ?_
      refine v_iloadn X dX8_set_42 rfl rfl ?_
      obtain ⟨j8, q9, h⟩ := bd1_some h
      obtain ⟨ej8, lj8⟩ := ix_spec q9
      refine alM X (by decide +kernel) j8 ej8 lj8 dX8_set_43 ?_
      refine v_iconst (v := 1) X dX8_set_44 (by decide) ?_
      refine v_isub X dX8_set_45 ?_
      refine v_i2l X dX8_set_46 ?_
      obtain ⟨r12, g11, q10, h⟩ := bd2_some h
      refine v_callSI (As := [.long (x2.toInt64), .long (0 : Int64), .long ((((g3 g2 10 0 1 (0 : Int32)) 11 3 j8) - (1 : Int32)).toInt64)]) (rest := []) X (c_X8_in l D ad cy X.2.2.2.2.2.2.2.2.1 N (x2.toInt64) (0 : Int64) ((((g3 g2 10 0 1 (0 : Int32)) 11 3 j8) - (1 : Int32)).toInt64) (g3 g2 10 0 1 (0 : Int32)) r12 g11  q10) mw_X8_in ml_X8_60 (by decide) rfl rfl (Nat.le_of_ble_eq_true rfl) dX8_set_47 ?_
      refine v_if_ne X 59 dX8_set_50 (by decide) (fun c13 => ?_) (fun c13 => ?_)
      · replace h := (if_neg c13).symm.trans h
        refine v_aloadn X dX8_set_59 rfl rfl ?_
        refine gf_X8_16 X dX8_set_60 ?_
        refine v_bipush (v := 40) X dX8_set_63 (by decide) ?_
        refine v_iloadn X dX8_set_65 rfl rfl ?_
        refine v_imul X dX8_set_66 ?_
        refine v_iloadn X dX8_set_67 rfl rfl ?_
        refine v_iadd X dX8_set_68 ?_
        refine v_aloadn X dX8_set_69 rfl rfl ?_
        refine gf_X8_7 X dX8_set_70 ?_
        refine v_iloadn X dX8_set_73 rfl rfl ?_
        obtain ⟨j14, q15, h⟩ := bd1_some h
        obtain ⟨ej14, lj14⟩ := ix_spec q15
        refine alM X (by decide +kernel) j14 ej14 lj14 dX8_set_74 ?_
        refine v_if_ne X 83 dX8_set_75 (by decide) (fun c16 => ?_) (fun c16 => ?_)
        · replace h := (if_neg c16).symm.trans h
          refine v_aloadn X dX8_set_83 rfl rfl ?_
          refine gf_X8_7 X dX8_set_84 ?_
          refine v_iloadn X dX8_set_87 rfl rfl ?_
          obtain ⟨j17, q18, h⟩ := bd1_some h
          obtain ⟨ej17, lj17⟩ := ix_spec q18
          refine alM X (by decide +kernel) j17 ej17 lj17 dX8_set_88 ?_
          refine v_iconst (v := 1) X dX8_set_89 (by decide) ?_
          refine v_icmp_ne X 98 dX8_set_90 (by decide) (fun c19 => ?_) (fun c19 => ?_)
          · replace h := (if_neg c19).symm.trans h
            refine v_iloadn X dX8_set_98 rfl rfl ?_
            obtain ⟨j20, q21, h⟩ := bd1_some h
            obtain ⟨ej20, lj20⟩ := ix_spec q21
            refine asM X (by decide +kernel) j20 ej20 lj20 dX8_set_99 ?_
            refine v_aloadn X dX8_set_100 rfl rfl ?_
            refine gf_X8_16 X dX8_set_101 ?_
            refine v_bipush (v := 40) X dX8_set_104 (by decide) ?_
            refine v_iloadn X dX8_set_106 rfl rfl ?_
            refine v_imul X dX8_set_107 ?_
            refine v_iloadn X dX8_set_108 rfl rfl ?_
            refine v_iadd X dX8_set_109 ?_
            obtain ⟨j22, q23, h⟩ := bd1_some h
            obtain ⟨ej22, lj22⟩ := ix_spec q23
            refine alM X (by decide +kernel) j22 ej22 lj22 dX8_set_110 ?_
            cases h
            exact v_iret X dX8_set_111 rfl rfl
          · replace h := (if_pos c19).symm.trans h
            refine v_iloadn X dX8_set_93 rfl rfl ?_
            refine v_i2s X dX8_set_94 ?_
            refine v_goto X 99 dX8_set_95 (by decide) ?_
            obtain ⟨j24, q25, h⟩ := bd1_some h
            obtain ⟨ej24, lj24⟩ := ix_spec q25
            refine asM X (by decide +kernel) j24 ej24 lj24 dX8_set_99 ?_
            refine v_aloadn X dX8_set_100 rfl rfl ?_
            refine gf_X8_16 X dX8_set_101 ?_
            refine v_bipush (v := 40) X dX8_set_104 (by decide) ?_
            refine v_iloadn X dX8_set_106 rfl rfl ?_
            refine v_imul X dX8_set_107 ?_
            refine v_iloadn X dX8_set_108 rfl rfl ?_
            refine v_iadd X dX8_set_109 ?_
            obtain ⟨j26, q27, h⟩ := bd1_some h
            obtain ⟨ej26, lj26⟩ := ix_spec q27
            refine alM X (by decide +kernel) j26 ej26 lj26 dX8_set_110 ?_
            cases h
            exact v_iret X dX8_set_111 rfl rfl
        · replace h := (if_pos c16).symm.trans h
          refine v_iloadn X dX8_set_78 rfl rfl ?_
          refine v_i2b X dX8_set_79 ?_
          refine v_goto X 99 dX8_set_80 (by decide) ?_
          obtain ⟨j28, q29, h⟩ := bd1_some h
          obtain ⟨ej28, lj28⟩ := ix_spec q29
          refine asM X (by decide +kernel) j28 ej28 lj28 dX8_set_99 ?_
          refine v_aloadn X dX8_set_100 rfl rfl ?_
          refine gf_X8_16 X dX8_set_101 ?_
          refine v_bipush (v := 40) X dX8_set_104 (by decide) ?_
          refine v_iloadn X dX8_set_106 rfl rfl ?_
          refine v_imul X dX8_set_107 ?_
          refine v_iloadn X dX8_set_108 rfl rfl ?_
          refine v_iadd X dX8_set_109 ?_
          obtain ⟨j30, q31, h⟩ := bd1_some h
          obtain ⟨ej30, lj30⟩ := ix_spec q31
          refine alM X (by decide +kernel) j30 ej30 lj30 dX8_set_110 ?_
          cases h
          exact v_iret X dX8_set_111 rfl rfl
      · replace h := (if_pos c13).symm.trans h
        refine v_aloadn X dX8_set_53 rfl rfl ?_
        refine v_iconst (v := 2) X dX8_set_54 (by decide) ?_
        obtain ⟨r34, g33, q32, h⟩ := bd2_some h
        refine v_callVI (As := [.int (2 : Int32)]) (rest := []) X (c_X8_finding l D ad cy X.2.2.2.2.2.2.2.2.1 N (2 : Int32) g11 r34 g33  q32) mw_X8_finding ml_X8_71 (by decide) (by decide +kernel) (by decide) rfl rfl rfl rfl (Nat.le_of_ble_eq_true rfl) dX8_set_55 ?_
        cases h
        exact v_iret X dX8_set_58 rfl rfl
    · replace h := (if_neg c7).symm.trans h
      refine v_aloadn X dX8_set_29 rfl rfl ?_
      refine v_iconst (v := 1) X dX8_set_30 (by decide) ?_
      obtain ⟨r37, g36, q35, h⟩ := bd2_some h
      refine v_callVI (As := [.int (1 : Int32)]) (rest := []) X (c_X8_finding l D ad cy X.2.2.2.2.2.2.2.2.1 N (1 : Int32) (g3 g2 10 0 1 (0 : Int32)) r37 g36  q35) mw_X8_finding ml_X8_71 (by decide) (by decide +kernel) (by decide) rfl rfl rfl rfl (Nat.le_of_ble_eq_true rfl) dX8_set_31 ?_
      cases h
      exact v_iret X dX8_set_34 rfl rfl
  · replace h := (if_pos c4).symm.trans h
    refine v_ldc X kc_X8_70 dX8_set_12 ?_
    cases h
    exact v_iret X dX8_set_14 rfl rfl
def F_X8_stand (N : Nat) (x1 : Int32) (g : GS) : Option (Int32 × GS) := bd2 (F_X8_isThere N  (g3 g 10 0 0 (0 : Int32))) (fun r3 g2 => if r3 = 0 then some ((-1000002 : Int32), g2) else if x1 = 0 then bd2 (F_X8_those N 5 (1 : Int32) g2) (fun r8 g7 => some (r8, g7)) else if x1 = 1 then bd2 (F_X8_policies N 5 g2) (fun r12 g11 => some (r12, g11)) else if x1 = 2 then bd2 (F_X8_those N 5 (2 : Int32) g2) (fun r16 g15 => some (r16, g15)) else if x1 = 3 then bd1 (ix (2 : Int32) 53) (fun j18 => some ((g2 11 5 j18), g2)) else if x1 = 4 then bd1 (ix (3 : Int32) 53) (fun j21 => some ((g2 11 5 j21), g2)) else some ((-1000001 : Int32), g2))
set_option maxRecDepth 100000 in
set_option maxHeartbeats 4000000 in
theorem c_X8_stand (l : Launch) (D : va_G) (ad : Ky → Nat) (cy : Nat → ClassId) (hI : Inj ad) (N : Nat) (x1 : Int32) (g : GS) (r : Int32) (gq : GS) (h : F_X8_stand N x1 g = some (r, gq)) : CtI l D ad cy yX8_stand cX8_stand 2 (some .int) 4 [.ref (ad (8, 0, 0)), .int x1] g r gq := by
  refine CtI.of 0 hI (by decide +kernel) rfl (Nat.le_of_ble_eq_true rfl) (fun p e s m args below meth c X => ?_)
  unfold F_X8_stand at h
  show Vy _ _ _ _ _ _ _ _ _ _ _ _ _ _ _ 0 [some (.ref (ad (8, 0, 0))), some (.int x1)] [] g
  refine v_aloadn X dX8_stand_0 rfl rfl ?_
  refine v_iconst (v := 0) X dX8_stand_1 (by decide) ?_
  refine pf_X8_50 X dX8_stand_2 ?_
  refine v_aloadn X dX8_stand_5 rfl rfl ?_
  obtain ⟨r3, g2, q1, h⟩ := bd2_some h
  refine v_callVI (As := []) (rest := []) X (c_X8_isThere l D ad cy X.2.2.2.2.2.2.2.2.1 N  (g3 g 10 0 0 (0 : Int32)) r3 g2  q1) mw_X8_isThere ml_X8_195 (by decide) (by decide +kernel) (by decide) rfl rfl rfl rfl (Nat.le_of_ble_eq_true rfl) dX8_stand_6 ?_
  refine v_if_ne X 15 dX8_stand_9 (by decide) (fun c4 => ?_) (fun c4 => ?_)
  · replace h := (if_neg c4).symm.trans h
    refine v_iloadn X dX8_stand_15 rfl rfl ?_
    by_cases c5 : x1 = 0
    · replace h := (if_pos c5).symm.trans h
      refine v_tableIn X 52 dX8_stand_16 (by rw [c5]; decide) (by rw [c5]; decide) (by rw [c5]; rfl) (by decide) ?_
      refine v_aloadn X dX8_stand_52 rfl rfl ?_
      refine gf_X8_19 X dX8_stand_53 ?_
      refine v_iconst (v := 1) X dX8_stand_56 (by decide) ?_
      obtain ⟨r8, g7, q6, h⟩ := bd2_some h
      refine v_callSI (As := [.ref (ad (9, 11, 5)), .int (1 : Int32)]) (rest := []) X (c_X8_those l D ad cy X.2.2.2.2.2.2.2.2.1 N 5 (1 : Int32) g2 r8 g7 (by decide +kernel) q6) mw_X8_those ml_X8_217 (by decide) rfl rfl (Nat.le_of_ble_eq_true rfl) dX8_stand_57 ?_
      cases h
      exact v_iret X dX8_stand_60 rfl rfl
    replace h := (if_neg c5).symm.trans h
    by_cases c9 : x1 = 1
    · replace h := (if_pos c9).symm.trans h
      refine v_tableIn X 61 dX8_stand_16 (by rw [c9]; decide) (by rw [c9]; decide) (by rw [c9]; rfl) (by decide) ?_
      refine v_aloadn X dX8_stand_61 rfl rfl ?_
      refine gf_X8_19 X dX8_stand_62 ?_
      obtain ⟨r12, g11, q10, h⟩ := bd2_some h
      refine v_callSI (As := [.ref (ad (9, 11, 5))]) (rest := []) X (c_X8_policies l D ad cy X.2.2.2.2.2.2.2.2.1 N 5 g2 r12 g11 (by decide +kernel) q10) mw_X8_policies ml_X8_204 (by decide) rfl rfl (Nat.le_of_ble_eq_true rfl) dX8_stand_65 ?_
      cases h
      exact v_iret X dX8_stand_68 rfl rfl
    replace h := (if_neg c9).symm.trans h
    by_cases c13 : x1 = 2
    · replace h := (if_pos c13).symm.trans h
      refine v_tableIn X 69 dX8_stand_16 (by rw [c13]; decide) (by rw [c13]; decide) (by rw [c13]; rfl) (by decide) ?_
      refine v_aloadn X dX8_stand_69 rfl rfl ?_
      refine gf_X8_19 X dX8_stand_70 ?_
      refine v_iconst (v := 2) X dX8_stand_73 (by decide) ?_
      obtain ⟨r16, g15, q14, h⟩ := bd2_some h
      refine v_callSI (As := [.ref (ad (9, 11, 5)), .int (2 : Int32)]) (rest := []) X (c_X8_those l D ad cy X.2.2.2.2.2.2.2.2.1 N 5 (2 : Int32) g2 r16 g15 (by decide +kernel) q14) mw_X8_those ml_X8_217 (by decide) rfl rfl (Nat.le_of_ble_eq_true rfl) dX8_stand_74 ?_
      cases h
      exact v_iret X dX8_stand_77 rfl rfl
    replace h := (if_neg c13).symm.trans h
    by_cases c17 : x1 = 3
    · replace h := (if_pos c17).symm.trans h
      refine v_tableIn X 78 dX8_stand_16 (by rw [c17]; decide) (by rw [c17]; decide) (by rw [c17]; rfl) (by decide) ?_
      refine v_aloadn X dX8_stand_78 rfl rfl ?_
      refine gf_X8_19 X dX8_stand_79 ?_
      refine v_iconst (v := 2) X dX8_stand_82 (by decide) ?_
      obtain ⟨j18, q19, h⟩ := bd1_some h
      obtain ⟨ej18, lj18⟩ := ix_spec q19
      refine alM X (by decide +kernel) j18 ej18 lj18 dX8_stand_83 ?_
      cases h
      exact v_iret X dX8_stand_84 rfl rfl
    replace h := (if_neg c17).symm.trans h
    by_cases c20 : x1 = 4
    · replace h := (if_pos c20).symm.trans h
      refine v_tableIn X 85 dX8_stand_16 (by rw [c20]; decide) (by rw [c20]; decide) (by rw [c20]; rfl) (by decide) ?_
      refine v_aloadn X dX8_stand_85 rfl rfl ?_
      refine gf_X8_19 X dX8_stand_86 ?_
      refine v_iconst (v := 3) X dX8_stand_89 (by decide) ?_
      obtain ⟨j21, q22, h⟩ := bd1_some h
      obtain ⟨ej21, lj21⟩ := ix_spec q22
      refine alM X (by decide +kernel) j21 ej21 lj21 dX8_stand_90 ?_
      cases h
      exact v_iret X dX8_stand_91 rfl rfl
    replace h := (if_neg c20).symm.trans h
    have t23 := tab_ne (k := 0) (n := 0) c5 (by decide)
    have t24 := tab_ne (k := 1) (n := 1) c9 (by decide)
    have t25 := tab_ne (k := 2) (n := 2) c13 (by decide)
    have t26 := tab_ne (k := 3) (n := 3) c17 (by decide)
    have t27 := tab_ne (k := 4) (n := 4) c20 (by decide)
    refine v_tableOut X 92 dX8_stand_16 (by omega) (by decide) ?_
    refine v_ldc X kc_X8_70 dX8_stand_92 ?_
    cases h
    exact v_iret X dX8_stand_94 rfl rfl
  · replace h := (if_pos c4).symm.trans h
    refine v_ldc X kc_X8_198 dX8_stand_12 ?_
    cases h
    exact v_iret X dX8_stand_14 rfl rfl
def F_X8_status (N : Nat) (g : GS) : Option (Int32 × GS) := some (((g3 g 10 0 0 (0 : Int32)) 10 0 1), (g3 g 10 0 0 (0 : Int32)))
set_option maxRecDepth 100000 in
set_option maxHeartbeats 4000000 in
theorem c_X8_status (l : Launch) (D : va_G) (ad : Ky → Nat) (cy : Nat → ClassId) (hI : Inj ad) (N : Nat) (g : GS) (r : Int32) (gq : GS) (h : F_X8_status N  g = some (r, gq)) : CtI l D ad cy yX8_status cX8_status 1 (some .int) 0 [.ref (ad (8, 0, 0))] g r gq := by
  refine CtI.of 0 hI (by decide +kernel) rfl (Nat.le_of_ble_eq_true rfl) (fun p e s m args below meth c X => ?_)
  unfold F_X8_status at h
  show Vy _ _ _ _ _ _ _ _ _ _ _ _ _ _ _ 0 [some (.ref (ad (8, 0, 0)))] [] g
  refine v_aloadn X dX8_status_0 rfl rfl ?_
  refine v_iconst (v := 0) X dX8_status_1 (by decide) ?_
  refine pf_X8_50 X dX8_status_2 ?_
  refine v_aloadn X dX8_status_5 rfl rfl ?_
  refine gf_X8_54 X dX8_status_6 ?_
  cases h
  exact v_iret X dX8_status_9 rfl rfl
def L_X8_tapes_65 (N : Nat) (z1 : Int32) (z2 : Int32) (z3 : Int32) (z4 : Int32) (z5 : Int32) (z6 : Int32) : Nat → Int32 → Int32 → Int32 → GS → Option (Int32 × Int32 × Int32 × GS)
  | 0, _, _, _, _ => none
  | n + 1, y7, y8, y9, g => if y9 ≤ 0 then some (y7, y8, y9, g) else bd1 (F_X8_layThen N  g) (fun g19 => bd1 (ix (3 : Int32) 53) (fun j20 => bd2 (F_X8_isSo N z1 (((40 : Int32) * z3) + z4) z5 (g3 g19 11 7 j20 y9)) (fun r24 g23 => if r24 = 0 then L_X8_tapes_65 N z1 z2 z3 z4 z5 z6 n y7 y8 (y9 + (-1)) g23 else L_X8_tapes_65 N z1 z2 z3 z4 z5 z6 n (y7 + 1) y9 (y9 + (-1)) g23)))
def F_X8_tapes (N : Nat) (x1 : Int32) (x2 : Int32) (x3 : Int32) (x4 : Int32) (x5 : Int32) (g : GS) : Option (Int32 × GS) := bd2 (F_X8_isPaper N x1 (g3 g 10 0 0 (0 : Int32))) (fun r3 g2 => if r3 = 0 then some ((-1000001 : Int32), g2) else bd2 (F_X8_in N (x2.toInt64) (0 : Int64) (1 : Int64) g2) (fun r7 g6 => if r7 = 0 then some ((-1000001 : Int32), g6) else bd2 (F_X8_isMany N x3 x5 g6) (fun r11 g10 => if r11 = 0 then some ((-1000001 : Int32), g10) else bd2 (F_X8_rowFound N x3 x4 x5 g10) (fun r15 g14 => if r15 = 0 then bd4 (L_X8_tapes_65 N x1 x2 x3 x4 x5 r15 N (0 : Int32) (-1000000 : Int32) (99 : Int32) g14) (fun x26 x27 x28 g29 => if x2 = 0 then some (x26, g29) else some (x27, g29)) else some (r15, g14)))))
set_option maxRecDepth 100000 in
set_option maxHeartbeats 4000000 in
theorem w_X8_tapes_65 {p : Program} {l : Launch} {e : Env} {s : State} {m : MethodId} {args : Array Value} {below : List Frame} {meth : Method} {c : Code} {D : va_G} {ad : Ky → Nat} {cy : Nat → ClassId} {r : Int32} {gq : GS} {N : Nat} (X : Cx p (rmd 7) s m args meth c RX8 cX8_tapes 10 (some .int) D ad cy) (z1 : Int32) (z2 : Int32) (z3 : Int32) (z4 : Int32) (z5 : Int32) (z6 : Int32) : ∀ (n : Nat) (y7 : Int32) (y8 : Int32) (y9 : Int32) (g : GS) (y7' : Int32) (y8' : Int32) (y9' : Int32) (g' : GS), L_X8_tapes_65 N z1 z2 z3 z4 z5 z6 n y7 y8 y9 g = some (y7', y8', y9', g') → Vy p l e (rmd 7) s m args below meth c 10 D ad cy (QI D ad cy below args s r gq) 112 [some (.ref (ad (8, 0, 0))), some (.int z1), some (.int z2), some (.int z3), some (.int z4), some (.int z5), some (.int z6), some (.int y7'), some (.int y8'), some (.int y9')] [] g' → Vy p l e (rmd 7) s m args below meth c 10 D ad cy (QI D ad cy below args s r gq) 65 [some (.ref (ad (8, 0, 0))), some (.int z1), some (.int z2), some (.int z3), some (.int z4), some (.int z5), some (.int z6), some (.int y7), some (.int y8), some (.int y9)] [] g := by
  intro n
  induction n with
  | zero => intro y7 y8 y9 g y7' y8' y9' g' h k; cases h
  | succ n ih =>
    intro y7 y8 y9 g y7' y8' y9' g' h k
    rw [L_X8_tapes_65] at h
    refine v_iload X dX8_tapes_65 rfl ?_
    refine v_if_le X 112 dX8_tapes_67 (by decide) (fun c17 => ?_) (fun c17 => ?_)
    · replace h := (if_pos c17).symm.trans h
      cases h
      exact k
    · replace h := (if_neg c17).symm.trans h
      refine v_aloadn X dX8_tapes_70 rfl rfl ?_
      obtain ⟨g19, q18, h⟩ := bd1_some h
      refine v_callVV (As := []) (rest := []) X (c_X8_layThen l D ad cy X.2.2.2.2.2.2.2.2.1 N  g g19  q18) mw_X8_layThen ml_X8_232 (by decide) (by decide +kernel) (by decide) rfl rfl rfl rfl (Nat.le_of_ble_eq_true rfl) dX8_tapes_71 ?_
      refine v_aloadn X dX8_tapes_74 rfl rfl ?_
      refine gf_X8_25 X dX8_tapes_75 ?_
      refine v_iconst (v := 3) X dX8_tapes_78 (by decide) ?_
      refine v_iload X dX8_tapes_79 rfl ?_
      obtain ⟨j20, q21, h⟩ := bd1_some h
      obtain ⟨ej20, lj20⟩ := ix_spec q21
      refine asM X (by decide +kernel) j20 ej20 lj20 dX8_tapes_81 ?_
      refine v_aloadn X dX8_tapes_82 rfl rfl ?_
      refine v_iloadn X dX8_tapes_83 rfl rfl ?_
      refine v_bipush (v := 40) X dX8_tapes_84 (by decide) ?_
      refine v_iloadn X dX8_tapes_86 rfl rfl ?_
      refine v_imul X dX8_tapes_87 ?_
      refine v_iload X dX8_tapes_88 rfl ?_
      refine v_iadd X dX8_tapes_90 ?_
      refine v_iload X dX8_tapes_91 rfl ?_
      obtain ⟨r24, g23, q22, h⟩ := bd2_some h
      refine v_callVI (As := [.int z1, .int (((40 : Int32) * z3) + z4), .int z5]) (rest := []) X (c_X8_isSo l D ad cy X.2.2.2.2.2.2.2.2.1 N z1 (((40 : Int32) * z3) + z4) z5 (g3 g19 11 7 j20 y9) r24 g23  q22) mw_X8_isSo ml_X8_258 (by decide) (by decide +kernel) (by decide) rfl rfl rfl rfl (Nat.le_of_ble_eq_true rfl) dX8_tapes_93 ?_
      refine v_if_eq X 106 dX8_tapes_96 (by decide) (fun c25 => ?_) (fun c25 => ?_)
      · replace h := (if_pos c25).symm.trans h
        refine v_iinc (v := (y9 + (-1))) (lc' := [some (.ref (ad (8, 0, 0))), some (.int z1), some (.int z2), some (.int z3), some (.int z4), some (.int z5), some (.int z6), some (.int y7), some (.int y8), some (.int (y9 + (-1)))]) X dX8_tapes_106 rfl rfl (by decide) rfl rfl ?_
        refine v_goto X 65 dX8_tapes_109 (by decide) ?_
        exact ih y7 y8 (y9 + (-1)) g23 _ _ _ _ h k
      · replace h := (if_neg c25).symm.trans h
        refine v_iinc (v := (y7 + 1)) (lc' := [some (.ref (ad (8, 0, 0))), some (.int z1), some (.int z2), some (.int z3), some (.int z4), some (.int z5), some (.int z6), some (.int (y7 + 1)), some (.int y8), some (.int y9)]) X dX8_tapes_99 rfl rfl (by decide) rfl rfl ?_
        refine v_iload X dX8_tapes_102 rfl ?_
        refine v_istore (lc' := [some (.ref (ad (8, 0, 0))), some (.int z1), some (.int z2), some (.int z3), some (.int z4), some (.int z5), some (.int z6), some (.int (y7 + 1)), some (.int y9), some (.int y9)]) X dX8_tapes_104 (by decide) rfl rfl ?_
        refine v_iinc (v := (y9 + (-1))) (lc' := [some (.ref (ad (8, 0, 0))), some (.int z1), some (.int z2), some (.int z3), some (.int z4), some (.int z5), some (.int z6), some (.int (y7 + 1)), some (.int y9), some (.int (y9 + (-1)))]) X dX8_tapes_106 rfl rfl (by decide) rfl rfl ?_
        refine v_goto X 65 dX8_tapes_109 (by decide) ?_
        exact ih (y7 + 1) y9 (y9 + (-1)) g23 _ _ _ _ h k
set_option maxRecDepth 100000 in
set_option maxHeartbeats 4000000 in
theorem c_X8_tapes (l : Launch) (D : va_G) (ad : Ky → Nat) (cy : Nat → ClassId) (hI : Inj ad) (N : Nat) (x1 : Int32) (x2 : Int32) (x3 : Int32) (x4 : Int32) (x5 : Int32) (g : GS) (r : Int32) (gq : GS) (h : F_X8_tapes N x1 x2 x3 x4 x5 g = some (r, gq)) : CtI l D ad cy yX8_tapes cX8_tapes 10 (some .int) 7 [.ref (ad (8, 0, 0)), .int x1, .int x2, .int x3, .int x4, .int x5] g r gq := by
  refine CtI.of 4 hI (by decide +kernel) rfl (Nat.le_of_ble_eq_true rfl) (fun p e s m args below meth c X => ?_)
  unfold F_X8_tapes at h
  show Vy _ _ _ _ _ _ _ _ _ _ _ _ _ _ _ 0 [some (.ref (ad (8, 0, 0))), some (.int x1), some (.int x2), some (.int x3), some (.int x4), some (.int x5), none, none, none, none] [] g
  refine v_aloadn X dX8_tapes_0 rfl rfl ?_
  refine v_iconst (v := 0) X dX8_tapes_1 (by decide) ?_
  refine pf_X8_50 X dX8_tapes_2 ?_
  refine v_aloadn X dX8_tapes_5 rfl rfl ?_
  refine v_iloadn X dX8_tapes_6 rfl rfl ?_
  obtain ⟨r3, g2, q1, h⟩ := bd2_some h
  refine v_callVI (As := [.int x1]) (rest := []) X (c_X8_isPaper l D ad cy X.2.2.2.2.2.2.2.2.1 N x1 (g3 g 10 0 0 (0 : Int32)) r3 g2  q1) mw_X8_isPaper ml_X8_208 (by decide) (by decide +kernel) (by decide) rfl rfl rfl rfl (Nat.le_of_ble_eq_true rfl) dX8_tapes_7 ?_
  refine v_if_eq X 32 dX8_tapes_10 (by decide) (fun c4 => ?_) (fun c4 => ?_)
  · replace h := (if_pos c4).symm.trans h
    refine v_ldc X kc_X8_70 dX8_tapes_32 ?_
    cases h
    exact v_iret X dX8_tapes_34 rfl rfl
  · replace h := (if_neg c4).symm.trans h
    refine v_iloadn X dX8_tapes_13 rfl rfl ?_
    refine v_i2l X dX8_tapes_14 ?_
    refine v_lconst (v := 0) X dX8_tapes_15 (by decide) ?_
    refine v_lconst (v := 1) X dX8_tapes_16 (by decide) ?_
    obtain ⟨r7, g6, q5, h⟩ := bd2_some h
    refine v_callSI (As := [.long (x2.toInt64), .long (0 : Int64), .long (1 : Int64)]) (rest := []) X (c_X8_in l D ad cy X.2.2.2.2.2.2.2.2.1 N (x2.toInt64) (0 : Int64) (1 : Int64) g2 r7 g6  q5) mw_X8_in ml_X8_60 (by decide) rfl rfl (Nat.le_of_ble_eq_true rfl) dX8_tapes_17 ?_
    refine v_if_eq X 32 dX8_tapes_20 (by decide) (fun c8 => ?_) (fun c8 => ?_)
    · replace h := (if_pos c8).symm.trans h
      refine v_ldc X kc_X8_70 dX8_tapes_32 ?_
      cases h
      exact v_iret X dX8_tapes_34 rfl rfl
    · replace h := (if_neg c8).symm.trans h
      refine v_iloadn X dX8_tapes_23 rfl rfl ?_
      refine v_iload X dX8_tapes_24 rfl ?_
      obtain ⟨r11, g10, q9, h⟩ := bd2_some h
      refine v_callSI (As := [.int x3, .int x5]) (rest := []) X (c_X8_isMany l D ad cy X.2.2.2.2.2.2.2.2.1 N x3 x5 g6 r11 g10  q9) mw_X8_isMany ml_X8_251 (by decide) rfl rfl (Nat.le_of_ble_eq_true rfl) dX8_tapes_26 ?_
      refine v_if_ne X 35 dX8_tapes_29 (by decide) (fun c12 => ?_) (fun c12 => ?_)
      · replace h := (if_neg c12).symm.trans h
        refine v_aloadn X dX8_tapes_35 rfl rfl ?_
        refine v_iloadn X dX8_tapes_36 rfl rfl ?_
        refine v_iload X dX8_tapes_37 rfl ?_
        refine v_iload X dX8_tapes_39 rfl ?_
        obtain ⟨r15, g14, q13, h⟩ := bd2_some h
        refine v_callVI (As := [.int x3, .int x4, .int x5]) (rest := []) X (c_X8_rowFound l D ad cy X.2.2.2.2.2.2.2.2.1 N x3 x4 x5 g10 r15 g14  q13) mw_X8_rowFound ml_X8_254 (by decide) (by decide +kernel) (by decide) rfl rfl rfl rfl (Nat.le_of_ble_eq_true rfl) dX8_tapes_41 ?_
        refine v_istore (lc' := [some (.ref (ad (8, 0, 0))), some (.int x1), some (.int x2), some (.int x3), some (.int x4), some (.int x5), some (.int r15), none, none, none]) X dX8_tapes_44 (by decide) rfl rfl ?_
        refine v_iload X dX8_tapes_46 rfl ?_
        refine v_if_eq X 54 dX8_tapes_48 (by decide) (fun c16 => ?_) (fun c16 => ?_)
        · replace h := (if_pos c16).symm.trans h
          refine v_iconst (v := 0) X dX8_tapes_54 (by decide) ?_
          refine v_istore (lc' := [some (.ref (ad (8, 0, 0))), some (.int x1), some (.int x2), some (.int x3), some (.int x4), some (.int x5), some (.int r15), some (.int (0 : Int32)), none, none]) X dX8_tapes_55 (by decide) rfl rfl ?_
          refine v_ldc X kc_X8_93 dX8_tapes_57 ?_
          refine v_istore (lc' := [some (.ref (ad (8, 0, 0))), some (.int x1), some (.int x2), some (.int x3), some (.int x4), some (.int x5), some (.int r15), some (.int (0 : Int32)), some (.int (-1000000 : Int32)), none]) X dX8_tapes_59 (by decide) rfl rfl ?_
          refine v_bipush (v := 99) X dX8_tapes_61 (by decide) ?_
          refine v_istore (lc' := [some (.ref (ad (8, 0, 0))), some (.int x1), some (.int x2), some (.int x3), some (.int x4), some (.int x5), some (.int r15), some (.int (0 : Int32)), some (.int (-1000000 : Int32)), some (.int (99 : Int32))]) X dX8_tapes_63 (by decide) rfl rfl ?_
          obtain ⟨x26, x27, x28, g29, q30, h⟩ := bd4_some h
          refine w_X8_tapes_65 X x1 x2 x3 x4 x5 r15 N (0 : Int32) (-1000000 : Int32) (99 : Int32) g14 x26 x27 x28 g29 q30 ?_
          refine v_iloadn X dX8_tapes_112 rfl rfl ?_
          refine v_if_ne X 121 dX8_tapes_113 (by decide) (fun c31 => ?_) (fun c31 => ?_)
          · replace h := (if_neg c31).symm.trans h
            refine v_iload X dX8_tapes_121 rfl ?_
            cases h
            exact v_iret X dX8_tapes_123 rfl rfl
          · replace h := (if_pos c31).symm.trans h
            refine v_iload X dX8_tapes_116 rfl ?_
            refine v_goto X 123 dX8_tapes_118 (by decide) ?_
            cases h
            exact v_iret X dX8_tapes_123 rfl rfl
        · replace h := (if_neg c16).symm.trans h
          refine v_iload X dX8_tapes_51 rfl ?_
          cases h
          exact v_iret X dX8_tapes_53 rfl rfl
      · replace h := (if_pos c12).symm.trans h
        refine v_ldc X kc_X8_70 dX8_tapes_32 ?_
        cases h
        exact v_iret X dX8_tapes_34 rfl rfl
def F_X8_trace (N : Nat) (x1 : Int32) (g : GS) : Option (Int32 × GS) := bd2 (F_X8_in N (x1.toInt64) (0 : Int64) ((((g3 g 10 0 0 (0 : Int32)) 10 0 24) - (1 : Int32)).toInt64) (g3 g 10 0 0 (0 : Int32))) (fun r3 g2 => if r3 = 0 then some ((-1000000 : Int32), g2) else bd1 (ix x1 16) (fun j5 => some ((g2 11 23 j5), g2)))
set_option maxRecDepth 100000 in
set_option maxHeartbeats 4000000 in
theorem c_X8_trace (l : Launch) (D : va_G) (ad : Ky → Nat) (cy : Nat → ClassId) (hI : Inj ad) (N : Nat) (x1 : Int32) (g : GS) (r : Int32) (gq : GS) (h : F_X8_trace N x1 g = some (r, gq)) : CtI l D ad cy yX8_trace cX8_trace 2 (some .int) 1 [.ref (ad (8, 0, 0)), .int x1] g r gq := by
  refine CtI.of 0 hI (by decide +kernel) rfl (Nat.le_of_ble_eq_true rfl) (fun p e s m args below meth c X => ?_)
  unfold F_X8_trace at h
  show Vy _ _ _ _ _ _ _ _ _ _ _ _ _ _ _ 0 [some (.ref (ad (8, 0, 0))), some (.int x1)] [] g
  refine v_aloadn X dX8_trace_0 rfl rfl ?_
  refine v_iconst (v := 0) X dX8_trace_1 (by decide) ?_
  refine pf_X8_50 X dX8_trace_2 ?_
  refine v_iloadn X dX8_trace_5 rfl rfl ?_
  refine v_i2l X dX8_trace_6 ?_
  refine v_lconst (v := 0) X dX8_trace_7 (by decide) ?_
  refine v_aloadn X dX8_trace_8 rfl rfl ?_
  refine gf_X8_279 X dX8_trace_9 ?_
  refine v_iconst (v := 1) X dX8_trace_12 (by decide) ?_
  refine v_isub X dX8_trace_13 ?_
  refine v_i2l X dX8_trace_14 ?_
  obtain ⟨r3, g2, q1, h⟩ := bd2_some h
  refine v_callSI (As := [.long (x1.toInt64), .long (0 : Int64), .long ((((g3 g 10 0 0 (0 : Int32)) 10 0 24) - (1 : Int32)).toInt64)]) (rest := []) X (c_X8_in l D ad cy X.2.2.2.2.2.2.2.2.1 N (x1.toInt64) (0 : Int64) ((((g3 g 10 0 0 (0 : Int32)) 10 0 24) - (1 : Int32)).toInt64) (g3 g 10 0 0 (0 : Int32)) r3 g2  q1) mw_X8_in ml_X8_60 (by decide) rfl rfl (Nat.le_of_ble_eq_true rfl) dX8_trace_15 ?_
  refine v_if_eq X 30 dX8_trace_18 (by decide) (fun c4 => ?_) (fun c4 => ?_)
  · replace h := (if_pos c4).symm.trans h
    refine v_ldc X kc_X8_93 dX8_trace_30 ?_
    cases h
    exact v_iret X dX8_trace_32 rfl rfl
  · replace h := (if_neg c4).symm.trans h
    refine v_aloadn X dX8_trace_21 rfl rfl ?_
    refine gf_X8_47 X dX8_trace_22 ?_
    refine v_iloadn X dX8_trace_25 rfl rfl ?_
    obtain ⟨j5, q6, h⟩ := bd1_some h
    obtain ⟨ej5, lj5⟩ := ix_spec q6
    refine alM X (by decide +kernel) j5 ej5 lj5 dX8_trace_26 ?_
    refine v_goto X 32 dX8_trace_27 (by decide) ?_
    cases h
    exact v_iret X dX8_trace_32 rfl rfl
def L_X8_undo_27 (N : Nat) : Nat → Int32 → GS → Option (Int32 × GS)
  | 0, _, _ => none
  | n + 1, y1, g => if (53 : Int32) ≤ y1 then some (y1, g) else bd1 (ix (((53 : Int32) * (g 10 0 10)) + y1) 1272) (fun j3 => bd1 (ix y1 53) (fun j5 => L_X8_undo_27 N n (y1 + 1) (g3 g 11 5 j5 (g 11 9 j3))))
def F_X8_undo (N : Nat) (g : GS) : Option (Int32 × GS) := if ((g3 g 10 0 0 (0 : Int32)) 10 0 10) = 0 then some ((-1000002 : Int32), (g3 g 10 0 0 (0 : Int32))) else bd2 (L_X8_undo_27 N N (0 : Int32) (g3 (g3 g 10 0 0 (0 : Int32)) 10 0 10 (((g3 g 10 0 0 (0 : Int32)) 10 0 10) - (1 : Int32)))) (fun x7 g8 => some ((g8 10 0 10), g8))
set_option maxRecDepth 100000 in
set_option maxHeartbeats 4000000 in
theorem w_X8_undo_27 {p : Program} {l : Launch} {e : Env} {s : State} {m : MethodId} {args : Array Value} {below : List Frame} {meth : Method} {c : Code} {D : va_G} {ad : Ky → Nat} {cy : Nat → ClassId} {r : Int32} {gq : GS} {N : Nat} (X : Cx p (rmd 0) s m args meth c RX8 cX8_undo 2 (some .int) D ad cy) : ∀ (n : Nat) (y1 : Int32) (g : GS) (y1' : Int32) (g' : GS), L_X8_undo_27 N n y1 g = some (y1', g') → Vy p l e (rmd 0) s m args below meth c 2 D ad cy (QI D ad cy below args s r gq) 59 [some (.ref (ad (8, 0, 0))), some (.int y1')] [] g' → Vy p l e (rmd 0) s m args below meth c 2 D ad cy (QI D ad cy below args s r gq) 27 [some (.ref (ad (8, 0, 0))), some (.int y1)] [] g := by
  intro n
  induction n with
  | zero => intro y1 g y1' g' h k; cases h
  | succ n ih =>
    intro y1 g y1' g' h k
    rw [L_X8_undo_27] at h
    refine v_iloadn X dX8_undo_27 rfl rfl ?_
    refine v_bipush (v := 53) X dX8_undo_28 (by decide) ?_
    refine v_icmp_ge X 59 dX8_undo_30 (by decide) (fun c2 => ?_) (fun c2 => ?_)
    · replace h := (if_pos c2).symm.trans h
      cases h
      exact k
    · replace h := (if_neg c2).symm.trans h
      refine v_aloadn X dX8_undo_33 rfl rfl ?_
      refine gf_X8_19 X dX8_undo_34 ?_
      refine v_iloadn X dX8_undo_37 rfl rfl ?_
      refine v_aloadn X dX8_undo_38 rfl rfl ?_
      refine gf_X8_31 X dX8_undo_39 ?_
      refine v_bipush (v := 53) X dX8_undo_42 (by decide) ?_
      refine v_aloadn X dX8_undo_44 rfl rfl ?_
      refine gf_X8_152 X dX8_undo_45 ?_
      refine v_imul X dX8_undo_48 ?_
      refine v_iloadn X dX8_undo_49 rfl rfl ?_
      refine v_iadd X dX8_undo_50 ?_
      obtain ⟨j3, q4, h⟩ := bd1_some h
      obtain ⟨ej3, lj3⟩ := ix_spec q4
      refine alM X (by decide +kernel) j3 ej3 lj3 dX8_undo_51 ?_
      obtain ⟨j5, q6, h⟩ := bd1_some h
      obtain ⟨ej5, lj5⟩ := ix_spec q6
      refine asM X (by decide +kernel) j5 ej5 lj5 dX8_undo_52 ?_
      refine v_iinc (v := (y1 + 1)) (lc' := [some (.ref (ad (8, 0, 0))), some (.int (y1 + 1))]) X dX8_undo_53 rfl rfl (by decide) rfl rfl ?_
      refine v_goto X 27 dX8_undo_56 (by decide) ?_
      exact ih (y1 + 1) (g3 g 11 5 j5 (g 11 9 j3)) _ _ h k
set_option maxRecDepth 100000 in
set_option maxHeartbeats 4000000 in
theorem c_X8_undo (l : Launch) (D : va_G) (ad : Ky → Nat) (cy : Nat → ClassId) (hI : Inj ad) (N : Nat) (g : GS) (r : Int32) (gq : GS) (h : F_X8_undo N  g = some (r, gq)) : CtI l D ad cy yX8_undo cX8_undo 2 (some .int) 0 [.ref (ad (8, 0, 0))] g r gq := by
  refine CtI.of 1 hI (by decide +kernel) rfl (Nat.le_of_ble_eq_true rfl) (fun p e s m args below meth c X => ?_)
  unfold F_X8_undo at h
  show Vy _ _ _ _ _ _ _ _ _ _ _ _ _ _ _ 0 [some (.ref (ad (8, 0, 0))), none] [] g
  refine v_aloadn X dX8_undo_0 rfl rfl ?_
  refine v_iconst (v := 0) X dX8_undo_1 (by decide) ?_
  refine pf_X8_50 X dX8_undo_2 ?_
  refine v_aloadn X dX8_undo_5 rfl rfl ?_
  refine gf_X8_152 X dX8_undo_6 ?_
  refine v_if_ne X 15 dX8_undo_9 (by decide) (fun c1 => ?_) (fun c1 => ?_)
  · replace h := (if_neg c1).symm.trans h
    refine v_aloadn X dX8_undo_15 rfl rfl ?_
    refine v_dup X dX8_undo_16 rfl ?_
    refine gf_X8_152 X dX8_undo_17 ?_
    refine v_iconst (v := 1) X dX8_undo_20 (by decide) ?_
    refine v_isub X dX8_undo_21 ?_
    refine pf_X8_152 X dX8_undo_22 ?_
    refine v_iconst (v := 0) X dX8_undo_25 (by decide) ?_
    refine v_istoren (lc' := [some (.ref (ad (8, 0, 0))), some (.int (0 : Int32))]) X dX8_undo_26 rfl (by decide) rfl rfl ?_
    obtain ⟨x7, g8, q9, h⟩ := bd2_some h
    refine w_X8_undo_27 X  N (0 : Int32) (g3 (g3 g 10 0 0 (0 : Int32)) 10 0 10 (((g3 g 10 0 0 (0 : Int32)) 10 0 10) - (1 : Int32))) x7 g8 q9 ?_
    refine v_aloadn X dX8_undo_59 rfl rfl ?_
    refine gf_X8_152 X dX8_undo_60 ?_
    cases h
    exact v_iret X dX8_undo_63 rfl rfl
  · replace h := (if_pos c1).symm.trans h
    refine v_ldc X kc_X8_198 dX8_undo_12 ?_
    cases h
    exact v_iret X dX8_undo_14 rfl rfl
def F_X8_weigh (N : Nat) (x1 : Int32) (x2 : Int32) (g : GS) : Option (Int32 × GS) := bd2 (F_X8_isPaper N x1 (g3 g 10 0 0 (0 : Int32))) (fun r3 g2 => if r3 = 0 then some ((-1000001 : Int32), g2) else bd2 (F_X8_in N (x2.toInt64) (1 : Int64) (60 : Int64) g2) (fun r7 g6 => if r7 = 0 then some ((-1000001 : Int32), g6) else bd1 (F_X8_keep N  g6) (fun g10 => bd2 (F_X8_of N 5 x1 (2 : Int32) g10) (fun r13 g12 => bd1 (F_X8_be N 5 x1 (2 : Int32) x2 g12) (fun g15 => some (r13, g15))))))
set_option maxRecDepth 100000 in
set_option maxHeartbeats 4000000 in
theorem c_X8_weigh (l : Launch) (D : va_G) (ad : Ky → Nat) (cy : Nat → ClassId) (hI : Inj ad) (N : Nat) (x1 : Int32) (x2 : Int32) (g : GS) (r : Int32) (gq : GS) (h : F_X8_weigh N x1 x2 g = some (r, gq)) : CtI l D ad cy yX8_weigh cX8_weigh 4 (some .int) 2 [.ref (ad (8, 0, 0)), .int x1, .int x2] g r gq := by
  refine CtI.of 1 hI (by decide +kernel) rfl (Nat.le_of_ble_eq_true rfl) (fun p e s m args below meth c X => ?_)
  unfold F_X8_weigh at h
  show Vy _ _ _ _ _ _ _ _ _ _ _ _ _ _ _ 0 [some (.ref (ad (8, 0, 0))), some (.int x1), some (.int x2), none] [] g
  refine v_aloadn X dX8_weigh_0 rfl rfl ?_
  refine v_iconst (v := 0) X dX8_weigh_1 (by decide) ?_
  refine pf_X8_50 X dX8_weigh_2 ?_
  refine v_aloadn X dX8_weigh_5 rfl rfl ?_
  refine v_iloadn X dX8_weigh_6 rfl rfl ?_
  obtain ⟨r3, g2, q1, h⟩ := bd2_some h
  refine v_callVI (As := [.int x1]) (rest := []) X (c_X8_isPaper l D ad cy X.2.2.2.2.2.2.2.2.1 N x1 (g3 g 10 0 0 (0 : Int32)) r3 g2  q1) mw_X8_isPaper ml_X8_208 (by decide) (by decide +kernel) (by decide) rfl rfl rfl rfl (Nat.le_of_ble_eq_true rfl) dX8_weigh_7 ?_
  refine v_if_eq X 25 dX8_weigh_10 (by decide) (fun c4 => ?_) (fun c4 => ?_)
  · replace h := (if_pos c4).symm.trans h
    refine v_ldc X kc_X8_70 dX8_weigh_25 ?_
    cases h
    exact v_iret X dX8_weigh_27 rfl rfl
  · replace h := (if_neg c4).symm.trans h
    refine v_iloadn X dX8_weigh_13 rfl rfl ?_
    refine v_i2l X dX8_weigh_14 ?_
    refine v_lconst (v := 1) X dX8_weigh_15 (by decide) ?_
    refine v_ldc2 X kl_X8_225 dX8_weigh_16 ?_
    obtain ⟨r7, g6, q5, h⟩ := bd2_some h
    refine v_callSI (As := [.long (x2.toInt64), .long (1 : Int64), .long (60 : Int64)]) (rest := []) X (c_X8_in l D ad cy X.2.2.2.2.2.2.2.2.1 N (x2.toInt64) (1 : Int64) (60 : Int64) g2 r7 g6  q5) mw_X8_in ml_X8_60 (by decide) rfl rfl (Nat.le_of_ble_eq_true rfl) dX8_weigh_19 ?_
    refine v_if_ne X 28 dX8_weigh_22 (by decide) (fun c8 => ?_) (fun c8 => ?_)
    · replace h := (if_neg c8).symm.trans h
      refine v_aloadn X dX8_weigh_28 rfl rfl ?_
      obtain ⟨g10, q9, h⟩ := bd1_some h
      refine v_callVV (As := []) (rest := []) X (c_X8_keep l D ad cy X.2.2.2.2.2.2.2.2.1 N  g6 g10  q9) mw_X8_keep ml_X8_201 (by decide) (by decide +kernel) (by decide) rfl rfl rfl rfl (Nat.le_of_ble_eq_true rfl) dX8_weigh_29 ?_
      refine v_aloadn X dX8_weigh_32 rfl rfl ?_
      refine gf_X8_19 X dX8_weigh_33 ?_
      refine v_iloadn X dX8_weigh_36 rfl rfl ?_
      refine v_iconst (v := 2) X dX8_weigh_37 (by decide) ?_
      obtain ⟨r13, g12, q11, h⟩ := bd2_some h
      refine v_callSI (As := [.ref (ad (9, 11, 5)), .int x1, .int (2 : Int32)]) (rest := []) X (c_X8_of l D ad cy X.2.2.2.2.2.2.2.2.1 N 5 x1 (2 : Int32) g10 r13 g12 (by decide +kernel) q11) mw_X8_of ml_X8_155 (by decide) rfl rfl (Nat.le_of_ble_eq_true rfl) dX8_weigh_38 ?_
      refine v_istoren (lc' := [some (.ref (ad (8, 0, 0))), some (.int x1), some (.int x2), some (.int r13)]) X dX8_weigh_41 rfl (by decide) rfl rfl ?_
      refine v_aloadn X dX8_weigh_42 rfl rfl ?_
      refine gf_X8_19 X dX8_weigh_43 ?_
      refine v_iloadn X dX8_weigh_46 rfl rfl ?_
      refine v_iconst (v := 2) X dX8_weigh_47 (by decide) ?_
      refine v_iloadn X dX8_weigh_48 rfl rfl ?_
      obtain ⟨g15, q14, h⟩ := bd1_some h
      refine v_callSV (As := [.ref (ad (9, 11, 5)), .int x1, .int (2 : Int32), .int x2]) (rest := []) X (c_X8_be l D ad cy X.2.2.2.2.2.2.2.2.1 N 5 x1 (2 : Int32) x2 g12 g15 (by decide +kernel) q14) mw_X8_be ml_X8_170 (by decide) rfl rfl (Nat.le_of_ble_eq_true rfl) dX8_weigh_49 ?_
      refine v_iloadn X dX8_weigh_52 rfl rfl ?_
      cases h
      exact v_iret X dX8_weigh_53 rfl rfl
    · replace h := (if_pos c8).symm.trans h
      refine v_ldc X kc_X8_70 dX8_weigh_25 ?_
      cases h
      exact v_iret X dX8_weigh_27 rfl rfl
def L_X8_when_34 (N : Nat) (z1 : Int32) (z2 : Int32) : Nat → Int32 → GS → Option ((Int32 × GS) ⊕ (Int32 × GS))
  | 0, _, _ => none
  | n + 1, y3, g => if (60 : Int32) < y3 then some (.inr (y3, g)) else if z2 = (1 : Int32) then bd2 (F_X8_isPolicy N 7 z1 g) (fun r21 g20 => if r21 = 0 then bd1 (F_X8_hour N 7 g20) (fun g24 => L_X8_when_34 N z1 z2 n (y3 + 1) g24) else some (.inl (y3, g20))) else bd2 (F_X8_of N 7 z1 (3 : Int32) g) (fun r15 g14 => if r15 = (2 : Int32) then some (.inl (y3, g14)) else bd1 (F_X8_hour N 7 g14) (fun g18 => L_X8_when_34 N z1 z2 n (y3 + 1) g18))
def F_X8_when (N : Nat) (x1 : Int32) (x2 : Int32) (g : GS) : Option (Int32 × GS) := bd2 (F_X8_isPaper N x1 (g3 g 10 0 0 (0 : Int32))) (fun r3 g2 => if r3 = 0 then some ((-1000001 : Int32), g2) else bd2 (F_X8_in N (x2.toInt64) (1 : Int64) (2 : Int64) g2) (fun r7 g6 => if r7 = 0 then some ((-1000001 : Int32), g6) else bd1 (F_X8_layThen N  g6) (fun g10 => bs2 (L_X8_when_34 N x1 x2 N (0 : Int32) g10) (fun r28 g29 => some (r28, g29)) (fun x25 g26 => some ((-1000000 : Int32), g26)))))
set_option maxRecDepth 100000 in
set_option maxHeartbeats 4000000 in
theorem w_X8_when_34 {p : Program} {l : Launch} {e : Env} {s : State} {m : MethodId} {args : Array Value} {below : List Frame} {meth : Method} {c : Code} {D : va_G} {ad : Ky → Nat} {cy : Nat → ClassId} {r : Int32} {gq : GS} {N : Nat} (X : Cx p (rmd 6) s m args meth c RX8 cX8_when 4 (some .int) D ad cy) (z1 : Int32) (z2 : Int32) : ∀ (n : Nat) (y3 : Int32) (g : GS) (res : _), L_X8_when_34 N z1 z2 n y3 g = some res → (∀ (r1 : Int32) (g1 : GS), res = .inl (r1, g1) → r1 = r ∧ g1 = gq) → (∀ (y3' : Int32) (g' : GS), res = .inr (y3', g') → Vy p l e (rmd 6) s m args below meth c 4 D ad cy (QI D ad cy below args s r gq) 88 [some (.ref (ad (8, 0, 0))), some (.int z1), some (.int z2), some (.int y3')] [] g') → Vy p l e (rmd 6) s m args below meth c 4 D ad cy (QI D ad cy below args s r gq) 34 [some (.ref (ad (8, 0, 0))), some (.int z1), some (.int z2), some (.int y3)] [] g := by
  intro n
  induction n with
  | zero => intro y3 g res h kr k; cases h
  | succ n ih =>
    intro y3 g res h kr k
    rw [L_X8_when_34] at h
    refine v_iloadn X dX8_when_34 rfl rfl ?_
    refine v_bipush (v := 60) X dX8_when_35 (by decide) ?_
    refine v_icmp_gt X 88 dX8_when_37 (by decide) (fun c11 => ?_) (fun c11 => ?_)
    · replace h := (if_pos c11).symm.trans h
      cases h
      exact k _ _ rfl
    · replace h := (if_neg c11).symm.trans h
      refine v_iloadn X dX8_when_40 rfl rfl ?_
      refine v_iconst (v := 1) X dX8_when_41 (by decide) ?_
      refine v_icmp_ne X 59 dX8_when_42 (by decide) (fun c12 => ?_) (fun c12 => ?_)
      · replace h := (if_neg c12).symm.trans h
        refine v_aloadn X dX8_when_59 rfl rfl ?_
        refine gf_X8_25 X dX8_when_60 ?_
        refine v_iloadn X dX8_when_63 rfl rfl ?_
        refine v_iconst (v := 3) X dX8_when_64 (by decide) ?_
        obtain ⟨r15, g14, q13, h⟩ := bd2_some h
        refine v_callSI (As := [.ref (ad (9, 11, 7)), .int z1, .int (3 : Int32)]) (rest := []) X (c_X8_of l D ad cy X.2.2.2.2.2.2.2.2.1 N 7 z1 (3 : Int32) g r15 g14 (by decide +kernel) q13) mw_X8_of ml_X8_155 (by decide) rfl rfl (Nat.le_of_ble_eq_true rfl) dX8_when_65 ?_
        refine v_iconst (v := 2) X dX8_when_68 (by decide) ?_
        refine v_icmp_ne X 74 dX8_when_69 (by decide) (fun c16 => ?_) (fun c16 => ?_)
        · replace h := (if_neg c16).symm.trans h
          refine v_aloadn X dX8_when_74 rfl rfl ?_
          refine v_aloadn X dX8_when_75 rfl rfl ?_
          refine gf_X8_25 X dX8_when_76 ?_
          obtain ⟨g18, q17, h⟩ := bd1_some h
          refine v_callVV (As := [.ref (ad (9, 11, 7))]) (rest := []) X (c_X8_hour l D ad cy X.2.2.2.2.2.2.2.2.1 N 7 g14 g18 (by decide +kernel) q17) mw_X8_hour ml_X8_188 (by decide) (by decide +kernel) (by decide) rfl rfl rfl rfl (Nat.le_of_ble_eq_true rfl) dX8_when_79 ?_
          refine v_iinc (v := (y3 + 1)) (lc' := [some (.ref (ad (8, 0, 0))), some (.int z1), some (.int z2), some (.int (y3 + 1))]) X dX8_when_82 rfl rfl (by decide) rfl rfl ?_
          refine v_goto X 34 dX8_when_85 (by decide) ?_
          exact ih (y3 + 1) g18 _ h kr k
        · replace h := (if_pos c16).symm.trans h
          refine v_iloadn X dX8_when_72 rfl rfl ?_
          cases h
          obtain ⟨er, eg⟩ := kr _ _ rfl
          exact v_iret X dX8_when_73 er eg
      · replace h := (if_pos c12).symm.trans h
        refine v_aloadn X dX8_when_45 rfl rfl ?_
        refine gf_X8_25 X dX8_when_46 ?_
        refine v_iloadn X dX8_when_49 rfl rfl ?_
        obtain ⟨r21, g20, q19, h⟩ := bd2_some h
        refine v_callSI (As := [.ref (ad (9, 11, 7)), .int z1]) (rest := []) X (c_X8_isPolicy l D ad cy X.2.2.2.2.2.2.2.2.1 N 7 z1 g r21 g20 (by decide +kernel) q19) mw_X8_isPolicy ml_X8_192 (by decide) rfl rfl (Nat.le_of_ble_eq_true rfl) dX8_when_50 ?_
        refine v_if_eq X 74 dX8_when_53 (by decide) (fun c22 => ?_) (fun c22 => ?_)
        · replace h := (if_pos c22).symm.trans h
          refine v_aloadn X dX8_when_74 rfl rfl ?_
          refine v_aloadn X dX8_when_75 rfl rfl ?_
          refine gf_X8_25 X dX8_when_76 ?_
          obtain ⟨g24, q23, h⟩ := bd1_some h
          refine v_callVV (As := [.ref (ad (9, 11, 7))]) (rest := []) X (c_X8_hour l D ad cy X.2.2.2.2.2.2.2.2.1 N 7 g20 g24 (by decide +kernel) q23) mw_X8_hour ml_X8_188 (by decide) (by decide +kernel) (by decide) rfl rfl rfl rfl (Nat.le_of_ble_eq_true rfl) dX8_when_79 ?_
          refine v_iinc (v := (y3 + 1)) (lc' := [some (.ref (ad (8, 0, 0))), some (.int z1), some (.int z2), some (.int (y3 + 1))]) X dX8_when_82 rfl rfl (by decide) rfl rfl ?_
          refine v_goto X 34 dX8_when_85 (by decide) ?_
          exact ih (y3 + 1) g24 _ h kr k
        · replace h := (if_neg c22).symm.trans h
          refine v_goto X 72 dX8_when_56 (by decide) ?_
          refine v_iloadn X dX8_when_72 rfl rfl ?_
          cases h
          obtain ⟨er, eg⟩ := kr _ _ rfl
          exact v_iret X dX8_when_73 er eg
set_option maxRecDepth 100000 in
set_option maxHeartbeats 4000000 in
theorem c_X8_when (l : Launch) (D : va_G) (ad : Ky → Nat) (cy : Nat → ClassId) (hI : Inj ad) (N : Nat) (x1 : Int32) (x2 : Int32) (g : GS) (r : Int32) (gq : GS) (h : F_X8_when N x1 x2 g = some (r, gq)) : CtI l D ad cy yX8_when cX8_when 4 (some .int) 6 [.ref (ad (8, 0, 0)), .int x1, .int x2] g r gq := by
  refine CtI.of 1 hI (by decide +kernel) rfl (Nat.le_of_ble_eq_true rfl) (fun p e s m args below meth c X => ?_)
  unfold F_X8_when at h
  show Vy _ _ _ _ _ _ _ _ _ _ _ _ _ _ _ 0 [some (.ref (ad (8, 0, 0))), some (.int x1), some (.int x2), none] [] g
  refine v_aloadn X dX8_when_0 rfl rfl ?_
  refine v_iconst (v := 0) X dX8_when_1 (by decide) ?_
  refine pf_X8_50 X dX8_when_2 ?_
  refine v_aloadn X dX8_when_5 rfl rfl ?_
  refine v_iloadn X dX8_when_6 rfl rfl ?_
  obtain ⟨r3, g2, q1, h⟩ := bd2_some h
  refine v_callVI (As := [.int x1]) (rest := []) X (c_X8_isPaper l D ad cy X.2.2.2.2.2.2.2.2.1 N x1 (g3 g 10 0 0 (0 : Int32)) r3 g2  q1) mw_X8_isPaper ml_X8_208 (by decide) (by decide +kernel) (by decide) rfl rfl rfl rfl (Nat.le_of_ble_eq_true rfl) dX8_when_7 ?_
  refine v_if_eq X 25 dX8_when_10 (by decide) (fun c4 => ?_) (fun c4 => ?_)
  · replace h := (if_pos c4).symm.trans h
    refine v_ldc X kc_X8_70 dX8_when_25 ?_
    cases h
    exact v_iret X dX8_when_27 rfl rfl
  · replace h := (if_neg c4).symm.trans h
    refine v_iloadn X dX8_when_13 rfl rfl ?_
    refine v_i2l X dX8_when_14 ?_
    refine v_lconst (v := 1) X dX8_when_15 (by decide) ?_
    refine v_ldc2 X kl_X8_68 dX8_when_16 ?_
    obtain ⟨r7, g6, q5, h⟩ := bd2_some h
    refine v_callSI (As := [.long (x2.toInt64), .long (1 : Int64), .long (2 : Int64)]) (rest := []) X (c_X8_in l D ad cy X.2.2.2.2.2.2.2.2.1 N (x2.toInt64) (1 : Int64) (2 : Int64) g2 r7 g6  q5) mw_X8_in ml_X8_60 (by decide) rfl rfl (Nat.le_of_ble_eq_true rfl) dX8_when_19 ?_
    refine v_if_ne X 28 dX8_when_22 (by decide) (fun c8 => ?_) (fun c8 => ?_)
    · replace h := (if_neg c8).symm.trans h
      refine v_aloadn X dX8_when_28 rfl rfl ?_
      obtain ⟨g10, q9, h⟩ := bd1_some h
      refine v_callVV (As := []) (rest := []) X (c_X8_layThen l D ad cy X.2.2.2.2.2.2.2.2.1 N  g6 g10  q9) mw_X8_layThen ml_X8_232 (by decide) (by decide +kernel) (by decide) rfl rfl rfl rfl (Nat.le_of_ble_eq_true rfl) dX8_when_29 ?_
      refine v_iconst (v := 0) X dX8_when_32 (by decide) ?_
      refine v_istoren (lc' := [some (.ref (ad (8, 0, 0))), some (.int x1), some (.int x2), some (.int (0 : Int32))]) X dX8_when_33 rfl (by decide) rfl rfl ?_
      obtain ⟨z30, q27, h⟩ := bs2_some h
      refine w_X8_when_34 X x1 x2 N (0 : Int32) g10 _ q27 ?_ ?_
      · intro r28 g29 e1
        subst e1
        dsimp only at h
        cases h
        exact ⟨rfl, rfl⟩
      · intro x25 g26 e1
        subst e1
        dsimp only at h
        refine v_ldc X kc_X8_93 dX8_when_88 ?_
        cases h
        exact v_iret X dX8_when_90 rfl rfl
    · replace h := (if_pos c8).symm.trans h
      refine v_ldc X kc_X8_70 dX8_when_25 ?_
      cases h
      exact v_iret X dX8_when_27 rfl rfl
def L_X8_who_104 (N : Nat) (z1 : Int32) (z2 : Int32) (z3 : Int32) (z4 : Int32) (z5 : Int32) (z6 : Int32) (z11 : Int32) : Nat → Int32 → Int32 → Int32 → Int32 → Int32 → GS → Option (Int32 × Int32 × Int32 × Int32 × Int32 × GS)
  | 0, _, _, _, _, _, _ => none
  | n + 1, y7, y8, y9, y10, y12, g => if z11 < y12 then some (y7, y8, y9, y10, y12, g) else bd1 (F_X8_layThen N  g) (fun g22 => if z2 = 0 then bd1 (F_X8_be N 7 z1 (0 : Int32) y12 g22) (fun g44 => bd2 (F_X8_isSo N z1 (((40 : Int32) * z3) + z4) z5 g44) (fun r47 g46 => if r47 = 0 then L_X8_who_104 N z1 z2 z3 z4 z5 z6 z11 n y7 y8 y9 y10 (y12 + 1) g46 else if (2 : Int32) ≤ z2 then if y8 = 0 then L_X8_who_104 N z1 z2 z3 z4 z5 z6 z11 n (y7 ||| (0 : Int32)) (y8 + 1) y12 y12 (y12 + 1) g46 else L_X8_who_104 N z1 z2 z3 z4 z5 z6 z11 n (y7 ||| (0 : Int32)) (y8 + 1) y9 y12 (y12 + 1) g46 else if y8 = 0 then L_X8_who_104 N z1 z2 z3 z4 z5 z6 z11 n (y7 ||| ((1 : Int32) <<< (y12 &&& 31))) (y8 + 1) y12 y12 (y12 + 1) g46 else L_X8_who_104 N z1 z2 z3 z4 z5 z6 z11 n (y7 ||| ((1 : Int32) <<< (y12 &&& 31))) (y8 + 1) y9 y12 (y12 + 1) g46)) else if z2 = (1 : Int32) then bd1 (F_X8_be N 7 z1 (1 : Int32) y12 g22) (fun g35 => bd2 (F_X8_isSo N z1 (((40 : Int32) * z3) + z4) z5 g35) (fun r38 g37 => if r38 = 0 then L_X8_who_104 N z1 z2 z3 z4 z5 z6 z11 n y7 y8 y9 y10 (y12 + 1) g37 else if (2 : Int32) ≤ z2 then if y8 = 0 then L_X8_who_104 N z1 z2 z3 z4 z5 z6 z11 n (y7 ||| (0 : Int32)) (y8 + 1) y12 y12 (y12 + 1) g37 else L_X8_who_104 N z1 z2 z3 z4 z5 z6 z11 n (y7 ||| (0 : Int32)) (y8 + 1) y9 y12 (y12 + 1) g37 else if y8 = 0 then L_X8_who_104 N z1 z2 z3 z4 z5 z6 z11 n (y7 ||| ((1 : Int32) <<< (y12 &&& 31))) (y8 + 1) y12 y12 (y12 + 1) g37 else L_X8_who_104 N z1 z2 z3 z4 z5 z6 z11 n (y7 ||| ((1 : Int32) <<< (y12 &&& 31))) (y8 + 1) y9 y12 (y12 + 1) g37)) else bd1 (F_X8_be N 7 z1 (2 : Int32) y12 g22) (fun g26 => bd2 (F_X8_isSo N z1 (((40 : Int32) * z3) + z4) z5 g26) (fun r29 g28 => if r29 = 0 then L_X8_who_104 N z1 z2 z3 z4 z5 z6 z11 n y7 y8 y9 y10 (y12 + 1) g28 else if (2 : Int32) ≤ z2 then if y8 = 0 then L_X8_who_104 N z1 z2 z3 z4 z5 z6 z11 n (y7 ||| (0 : Int32)) (y8 + 1) y12 y12 (y12 + 1) g28 else L_X8_who_104 N z1 z2 z3 z4 z5 z6 z11 n (y7 ||| (0 : Int32)) (y8 + 1) y9 y12 (y12 + 1) g28 else if y8 = 0 then L_X8_who_104 N z1 z2 z3 z4 z5 z6 z11 n (y7 ||| ((1 : Int32) <<< (y12 &&& 31))) (y8 + 1) y12 y12 (y12 + 1) g28 else L_X8_who_104 N z1 z2 z3 z4 z5 z6 z11 n (y7 ||| ((1 : Int32) <<< (y12 &&& 31))) (y8 + 1) y9 y12 (y12 + 1) g28)))
def F_X8_who (N : Nat) (x1 : Int32) (x2 : Int32) (x3 : Int32) (x4 : Int32) (x5 : Int32) (g : GS) : Option (Int32 × GS) := bd2 (F_X8_isPaper N x1 (g3 g 10 0 0 (0 : Int32))) (fun r3 g2 => if r3 = 0 then some ((-1000001 : Int32), g2) else bd2 (F_X8_in N (x2.toInt64) (0 : Int64) (4 : Int64) g2) (fun r7 g6 => if r7 = 0 then some ((-1000001 : Int32), g6) else bd2 (F_X8_isMany N x3 x5 g6) (fun r11 g10 => if r11 = 0 then some ((-1000001 : Int32), g10) else bd2 (F_X8_rowFound N x3 x4 x5 g10) (fun r15 g14 => if r15 = 0 then if x2 = 0 then if x2 = (1 : Int32) then bd6 (L_X8_who_104 N x1 x2 x3 x4 x5 r15 (5 : Int32) N (0 : Int32) (0 : Int32) (-1000000 : Int32) (-1000000 : Int32) (0 : Int32) g14) (fun x104 x105 x106 x107 x108 g109 => if (2 : Int32) ≤ x2 then if x2 = (2 : Int32) then some (x105, g109) else if x2 = (3 : Int32) then some (x106, g109) else some (x107, g109) else some (x104, g109)) else bd6 (L_X8_who_104 N x1 x2 x3 x4 x5 r15 (5 : Int32) N (0 : Int32) (0 : Int32) (-1000000 : Int32) (-1000000 : Int32) (1 : Int32) g14) (fun x94 x95 x96 x97 x98 g99 => if (2 : Int32) ≤ x2 then if x2 = (2 : Int32) then some (x95, g99) else if x2 = (3 : Int32) then some (x96, g99) else some (x97, g99) else some (x94, g99)) else if x2 = (1 : Int32) then if x2 = (1 : Int32) then bd6 (L_X8_who_104 N x1 x2 x3 x4 x5 r15 (9 : Int32) N (0 : Int32) (0 : Int32) (-1000000 : Int32) (-1000000 : Int32) (0 : Int32) g14) (fun x83 x84 x85 x86 x87 g88 => if (2 : Int32) ≤ x2 then if x2 = (2 : Int32) then some (x84, g88) else if x2 = (3 : Int32) then some (x85, g88) else some (x86, g88) else some (x83, g88)) else bd6 (L_X8_who_104 N x1 x2 x3 x4 x5 r15 (9 : Int32) N (0 : Int32) (0 : Int32) (-1000000 : Int32) (-1000000 : Int32) (1 : Int32) g14) (fun x73 x74 x75 x76 x77 g78 => if (2 : Int32) ≤ x2 then if x2 = (2 : Int32) then some (x74, g78) else if x2 = (3 : Int32) then some (x75, g78) else some (x76, g78) else some (x73, g78)) else if x2 = (1 : Int32) then bd6 (L_X8_who_104 N x1 x2 x3 x4 x5 r15 (60 : Int32) N (0 : Int32) (0 : Int32) (-1000000 : Int32) (-1000000 : Int32) (0 : Int32) g14) (fun x62 x63 x64 x65 x66 g67 => if (2 : Int32) ≤ x2 then if x2 = (2 : Int32) then some (x63, g67) else if x2 = (3 : Int32) then some (x64, g67) else some (x65, g67) else some (x62, g67)) else bd6 (L_X8_who_104 N x1 x2 x3 x4 x5 r15 (60 : Int32) N (0 : Int32) (0 : Int32) (-1000000 : Int32) (-1000000 : Int32) (1 : Int32) g14) (fun x52 x53 x54 x55 x56 g57 => if (2 : Int32) ≤ x2 then if x2 = (2 : Int32) then some (x53, g57) else if x2 = (3 : Int32) then some (x54, g57) else some (x55, g57) else some (x52, g57)) else some (r15, g14)))))
set_option maxRecDepth 100000 in
set_option maxHeartbeats 4000000 in
theorem w_X8_who_104 {p : Program} {l : Launch} {e : Env} {s : State} {m : MethodId} {args : Array Value} {below : List Frame} {meth : Method} {c : Code} {D : va_G} {ad : Ky → Nat} {cy : Nat → ClassId} {r : Int32} {gq : GS} {N : Nat} (X : Cx p (rmd 7) s m args meth c RX8 cX8_who 13 (some .int) D ad cy) (z1 : Int32) (z2 : Int32) (z3 : Int32) (z4 : Int32) (z5 : Int32) (z6 : Int32) (z11 : Int32) : ∀ (n : Nat) (y7 : Int32) (y8 : Int32) (y9 : Int32) (y10 : Int32) (y12 : Int32) (g : GS) (y7' : Int32) (y8' : Int32) (y9' : Int32) (y10' : Int32) (y12' : Int32) (g' : GS), L_X8_who_104 N z1 z2 z3 z4 z5 z6 z11 n y7 y8 y9 y10 y12 g = some (y7', y8', y9', y10', y12', g') → Vy p l e (rmd 7) s m args below meth c 13 D ad cy (QI D ad cy below args s r gq) 205 [some (.ref (ad (8, 0, 0))), some (.int z1), some (.int z2), some (.int z3), some (.int z4), some (.int z5), some (.int z6), some (.int y7'), some (.int y8'), some (.int y9'), some (.int y10'), some (.int z11), some (.int y12')] [] g' → Vy p l e (rmd 7) s m args below meth c 13 D ad cy (QI D ad cy below args s r gq) 104 [some (.ref (ad (8, 0, 0))), some (.int z1), some (.int z2), some (.int z3), some (.int z4), some (.int z5), some (.int z6), some (.int y7), some (.int y8), some (.int y9), some (.int y10), some (.int z11), some (.int y12)] [] g := by
  intro n
  induction n with
  | zero => intro y7 y8 y9 y10 y12 g y7' y8' y9' y10' y12' g' h k; cases h
  | succ n ih =>
    intro y7 y8 y9 y10 y12 g y7' y8' y9' y10' y12' g' h k
    rw [L_X8_who_104] at h
    refine v_iload X dX8_who_104 rfl ?_
    refine v_iload X dX8_who_106 rfl ?_
    refine v_icmp_gt X 205 dX8_who_108 (by decide) (fun c20 => ?_) (fun c20 => ?_)
    · replace h := (if_pos c20).symm.trans h
      cases h
      exact k
    · replace h := (if_neg c20).symm.trans h
      refine v_aloadn X dX8_who_111 rfl rfl ?_
      obtain ⟨g22, q21, h⟩ := bd1_some h
      refine v_callVV (As := []) (rest := []) X (c_X8_layThen l D ad cy X.2.2.2.2.2.2.2.2.1 N  g g22  q21) mw_X8_layThen ml_X8_232 (by decide) (by decide +kernel) (by decide) rfl rfl rfl rfl (Nat.le_of_ble_eq_true rfl) dX8_who_112 ?_
      refine v_aloadn X dX8_who_115 rfl rfl ?_
      refine gf_X8_25 X dX8_who_116 ?_
      refine v_iloadn X dX8_who_119 rfl rfl ?_
      refine v_iloadn X dX8_who_120 rfl rfl ?_
      refine v_if_ne X 128 dX8_who_121 (by decide) (fun c23 => ?_) (fun c23 => ?_)
      · replace h := (if_neg c23).symm.trans h
        refine v_iloadn X dX8_who_128 rfl rfl ?_
        refine v_iconst (v := 1) X dX8_who_129 (by decide) ?_
        refine v_icmp_ne X 137 dX8_who_130 (by decide) (fun c24 => ?_) (fun c24 => ?_)
        · replace h := (if_neg c24).symm.trans h
          refine v_iconst (v := 2) X dX8_who_137 (by decide) ?_
          refine v_iload X dX8_who_138 rfl ?_
          obtain ⟨g26, q25, h⟩ := bd1_some h
          refine v_callSV (As := [.ref (ad (9, 11, 7)), .int z1, .int (2 : Int32), .int y12]) (rest := []) X (c_X8_be l D ad cy X.2.2.2.2.2.2.2.2.1 N 7 z1 (2 : Int32) y12 g22 g26 (by decide +kernel) q25) mw_X8_be ml_X8_170 (by decide) rfl rfl (Nat.le_of_ble_eq_true rfl) dX8_who_140 ?_
          refine v_aloadn X dX8_who_143 rfl rfl ?_
          refine v_iloadn X dX8_who_144 rfl rfl ?_
          refine v_bipush (v := 40) X dX8_who_145 (by decide) ?_
          refine v_iloadn X dX8_who_147 rfl rfl ?_
          refine v_imul X dX8_who_148 ?_
          refine v_iload X dX8_who_149 rfl ?_
          refine v_iadd X dX8_who_151 ?_
          refine v_iload X dX8_who_152 rfl ?_
          obtain ⟨r29, g28, q27, h⟩ := bd2_some h
          refine v_callVI (As := [.int z1, .int (((40 : Int32) * z3) + z4), .int z5]) (rest := []) X (c_X8_isSo l D ad cy X.2.2.2.2.2.2.2.2.1 N z1 (((40 : Int32) * z3) + z4) z5 g26 r29 g28  q27) mw_X8_isSo ml_X8_258 (by decide) (by decide +kernel) (by decide) rfl rfl rfl rfl (Nat.le_of_ble_eq_true rfl) dX8_who_154 ?_
          refine v_if_eq X 199 dX8_who_157 (by decide) (fun c30 => ?_) (fun c30 => ?_)
          · replace h := (if_pos c30).symm.trans h
            refine v_iinc (v := (y12 + 1)) (lc' := [some (.ref (ad (8, 0, 0))), some (.int z1), some (.int z2), some (.int z3), some (.int z4), some (.int z5), some (.int z6), some (.int y7), some (.int y8), some (.int y9), some (.int y10), some (.int z11), some (.int (y12 + 1))]) X dX8_who_199 rfl rfl (by decide) rfl rfl ?_
            refine v_goto X 104 dX8_who_202 (by decide) ?_
            exact ih y7 y8 y9 y10 (y12 + 1) g28 _ _ _ _ _ _ h k
          · replace h := (if_neg c30).symm.trans h
            refine v_iload X dX8_who_160 rfl ?_
            refine v_iloadn X dX8_who_162 rfl rfl ?_
            refine v_iconst (v := 2) X dX8_who_163 (by decide) ?_
            refine v_icmp_ge X 174 dX8_who_164 (by decide) (fun c31 => ?_) (fun c31 => ?_)
            · replace h := (if_pos c31).symm.trans h
              refine v_iconst (v := 0) X dX8_who_174 (by decide) ?_
              refine v_ior X dX8_who_175 ?_
              refine v_istore (lc' := [some (.ref (ad (8, 0, 0))), some (.int z1), some (.int z2), some (.int z3), some (.int z4), some (.int z5), some (.int z6), some (.int (y7 ||| (0 : Int32))), some (.int y8), some (.int y9), some (.int y10), some (.int z11), some (.int y12)]) X dX8_who_176 (by decide) rfl rfl ?_
              refine v_iload X dX8_who_178 rfl ?_
              refine v_if_ne X 188 dX8_who_180 (by decide) (fun c32 => ?_) (fun c32 => ?_)
              · replace h := (if_neg c32).symm.trans h
                refine v_iload X dX8_who_188 rfl ?_
                refine v_istore (lc' := [some (.ref (ad (8, 0, 0))), some (.int z1), some (.int z2), some (.int z3), some (.int z4), some (.int z5), some (.int z6), some (.int (y7 ||| (0 : Int32))), some (.int y8), some (.int y9), some (.int y10), some (.int z11), some (.int y12)]) X dX8_who_190 (by decide) rfl rfl ?_
                refine v_iload X dX8_who_192 rfl ?_
                refine v_istore (lc' := [some (.ref (ad (8, 0, 0))), some (.int z1), some (.int z2), some (.int z3), some (.int z4), some (.int z5), some (.int z6), some (.int (y7 ||| (0 : Int32))), some (.int y8), some (.int y9), some (.int y12), some (.int z11), some (.int y12)]) X dX8_who_194 (by decide) rfl rfl ?_
                refine v_iinc (v := (y8 + 1)) (lc' := [some (.ref (ad (8, 0, 0))), some (.int z1), some (.int z2), some (.int z3), some (.int z4), some (.int z5), some (.int z6), some (.int (y7 ||| (0 : Int32))), some (.int (y8 + 1)), some (.int y9), some (.int y12), some (.int z11), some (.int y12)]) X dX8_who_196 rfl rfl (by decide) rfl rfl ?_
                refine v_iinc (v := (y12 + 1)) (lc' := [some (.ref (ad (8, 0, 0))), some (.int z1), some (.int z2), some (.int z3), some (.int z4), some (.int z5), some (.int z6), some (.int (y7 ||| (0 : Int32))), some (.int (y8 + 1)), some (.int y9), some (.int y12), some (.int z11), some (.int (y12 + 1))]) X dX8_who_199 rfl rfl (by decide) rfl rfl ?_
                refine v_goto X 104 dX8_who_202 (by decide) ?_
                exact ih (y7 ||| (0 : Int32)) (y8 + 1) y9 y12 (y12 + 1) g28 _ _ _ _ _ _ h k
              · replace h := (if_pos c32).symm.trans h
                refine v_iload X dX8_who_183 rfl ?_
                refine v_goto X 190 dX8_who_185 (by decide) ?_
                refine v_istore (lc' := [some (.ref (ad (8, 0, 0))), some (.int z1), some (.int z2), some (.int z3), some (.int z4), some (.int z5), some (.int z6), some (.int (y7 ||| (0 : Int32))), some (.int y8), some (.int y12), some (.int y10), some (.int z11), some (.int y12)]) X dX8_who_190 (by decide) rfl rfl ?_
                refine v_iload X dX8_who_192 rfl ?_
                refine v_istore (lc' := [some (.ref (ad (8, 0, 0))), some (.int z1), some (.int z2), some (.int z3), some (.int z4), some (.int z5), some (.int z6), some (.int (y7 ||| (0 : Int32))), some (.int y8), some (.int y12), some (.int y12), some (.int z11), some (.int y12)]) X dX8_who_194 (by decide) rfl rfl ?_
                refine v_iinc (v := (y8 + 1)) (lc' := [some (.ref (ad (8, 0, 0))), some (.int z1), some (.int z2), some (.int z3), some (.int z4), some (.int z5), some (.int z6), some (.int (y7 ||| (0 : Int32))), some (.int (y8 + 1)), some (.int y12), some (.int y12), some (.int z11), some (.int y12)]) X dX8_who_196 rfl rfl (by decide) rfl rfl ?_
                refine v_iinc (v := (y12 + 1)) (lc' := [some (.ref (ad (8, 0, 0))), some (.int z1), some (.int z2), some (.int z3), some (.int z4), some (.int z5), some (.int z6), some (.int (y7 ||| (0 : Int32))), some (.int (y8 + 1)), some (.int y12), some (.int y12), some (.int z11), some (.int (y12 + 1))]) X dX8_who_199 rfl rfl (by decide) rfl rfl ?_
                refine v_goto X 104 dX8_who_202 (by decide) ?_
                exact ih (y7 ||| (0 : Int32)) (y8 + 1) y12 y12 (y12 + 1) g28 _ _ _ _ _ _ h k
            · replace h := (if_neg c31).symm.trans h
              refine v_iconst (v := 1) X dX8_who_167 (by decide) ?_
              refine v_iload X dX8_who_168 rfl ?_
              refine v_ishl X dX8_who_170 ?_
              refine v_goto X 175 dX8_who_171 (by decide) ?_
              refine v_ior X dX8_who_175 ?_
              refine v_istore (lc' := [some (.ref (ad (8, 0, 0))), some (.int z1), some (.int z2), some (.int z3), some (.int z4), some (.int z5), some (.int z6), some (.int (y7 ||| ((1 : Int32) <<< (y12 &&& 31)))), some (.int y8), some (.int y9), some (.int y10), some (.int z11), some (.int y12)]) X dX8_who_176 (by decide) rfl rfl ?_
              refine v_iload X dX8_who_178 rfl ?_
              refine v_if_ne X 188 dX8_who_180 (by decide) (fun c33 => ?_) (fun c33 => ?_)
              · replace h := (if_neg c33).symm.trans h
                refine v_iload X dX8_who_188 rfl ?_
                refine v_istore (lc' := [some (.ref (ad (8, 0, 0))), some (.int z1), some (.int z2), some (.int z3), some (.int z4), some (.int z5), some (.int z6), some (.int (y7 ||| ((1 : Int32) <<< (y12 &&& 31)))), some (.int y8), some (.int y9), some (.int y10), some (.int z11), some (.int y12)]) X dX8_who_190 (by decide) rfl rfl ?_
                refine v_iload X dX8_who_192 rfl ?_
                refine v_istore (lc' := [some (.ref (ad (8, 0, 0))), some (.int z1), some (.int z2), some (.int z3), some (.int z4), some (.int z5), some (.int z6), some (.int (y7 ||| ((1 : Int32) <<< (y12 &&& 31)))), some (.int y8), some (.int y9), some (.int y12), some (.int z11), some (.int y12)]) X dX8_who_194 (by decide) rfl rfl ?_
                refine v_iinc (v := (y8 + 1)) (lc' := [some (.ref (ad (8, 0, 0))), some (.int z1), some (.int z2), some (.int z3), some (.int z4), some (.int z5), some (.int z6), some (.int (y7 ||| ((1 : Int32) <<< (y12 &&& 31)))), some (.int (y8 + 1)), some (.int y9), some (.int y12), some (.int z11), some (.int y12)]) X dX8_who_196 rfl rfl (by decide) rfl rfl ?_
                refine v_iinc (v := (y12 + 1)) (lc' := [some (.ref (ad (8, 0, 0))), some (.int z1), some (.int z2), some (.int z3), some (.int z4), some (.int z5), some (.int z6), some (.int (y7 ||| ((1 : Int32) <<< (y12 &&& 31)))), some (.int (y8 + 1)), some (.int y9), some (.int y12), some (.int z11), some (.int (y12 + 1))]) X dX8_who_199 rfl rfl (by decide) rfl rfl ?_
                refine v_goto X 104 dX8_who_202 (by decide) ?_
                exact ih (y7 ||| ((1 : Int32) <<< (y12 &&& 31))) (y8 + 1) y9 y12 (y12 + 1) g28 _ _ _ _ _ _ h k
              · replace h := (if_pos c33).symm.trans h
                refine v_iload X dX8_who_183 rfl ?_
                refine v_goto X 190 dX8_who_185 (by decide) ?_
                refine v_istore (lc' := [some (.ref (ad (8, 0, 0))), some (.int z1), some (.int z2), some (.int z3), some (.int z4), some (.int z5), some (.int z6), some (.int (y7 ||| ((1 : Int32) <<< (y12 &&& 31)))), some (.int y8), some (.int y12), some (.int y10), some (.int z11), some (.int y12)]) X dX8_who_190 (by decide) rfl rfl ?_
                refine v_iload X dX8_who_192 rfl ?_
                refine v_istore (lc' := [some (.ref (ad (8, 0, 0))), some (.int z1), some (.int z2), some (.int z3), some (.int z4), some (.int z5), some (.int z6), some (.int (y7 ||| ((1 : Int32) <<< (y12 &&& 31)))), some (.int y8), some (.int y12), some (.int y12), some (.int z11), some (.int y12)]) X dX8_who_194 (by decide) rfl rfl ?_
                refine v_iinc (v := (y8 + 1)) (lc' := [some (.ref (ad (8, 0, 0))), some (.int z1), some (.int z2), some (.int z3), some (.int z4), some (.int z5), some (.int z6), some (.int (y7 ||| ((1 : Int32) <<< (y12 &&& 31)))), some (.int (y8 + 1)), some (.int y12), some (.int y12), some (.int z11), some (.int y12)]) X dX8_who_196 rfl rfl (by decide) rfl rfl ?_
                refine v_iinc (v := (y12 + 1)) (lc' := [some (.ref (ad (8, 0, 0))), some (.int z1), some (.int z2), some (.int z3), some (.int z4), some (.int z5), some (.int z6), some (.int (y7 ||| ((1 : Int32) <<< (y12 &&& 31)))), some (.int (y8 + 1)), some (.int y12), some (.int y12), some (.int z11), some (.int (y12 + 1))]) X dX8_who_199 rfl rfl (by decide) rfl rfl ?_
                refine v_goto X 104 dX8_who_202 (by decide) ?_
                exact ih (y7 ||| ((1 : Int32) <<< (y12 &&& 31))) (y8 + 1) y12 y12 (y12 + 1) g28 _ _ _ _ _ _ h k
        · replace h := (if_pos c24).symm.trans h
          refine v_iconst (v := 1) X dX8_who_133 (by decide) ?_
          refine v_goto X 138 dX8_who_134 (by decide) ?_
          refine v_iload X dX8_who_138 rfl ?_
          obtain ⟨g35, q34, h⟩ := bd1_some h
          refine v_callSV (As := [.ref (ad (9, 11, 7)), .int z1, .int (1 : Int32), .int y12]) (rest := []) X (c_X8_be l D ad cy X.2.2.2.2.2.2.2.2.1 N 7 z1 (1 : Int32) y12 g22 g35 (by decide +kernel) q34) mw_X8_be ml_X8_170 (by decide) rfl rfl (Nat.le_of_ble_eq_true rfl) dX8_who_140 ?_
          refine v_aloadn X dX8_who_143 rfl rfl ?_
          refine v_iloadn X dX8_who_144 rfl rfl ?_
          refine v_bipush (v := 40) X dX8_who_145 (by decide) ?_
          refine v_iloadn X dX8_who_147 rfl rfl ?_
          refine v_imul X dX8_who_148 ?_
          refine v_iload X dX8_who_149 rfl ?_
          refine v_iadd X dX8_who_151 ?_
          refine v_iload X dX8_who_152 rfl ?_
          obtain ⟨r38, g37, q36, h⟩ := bd2_some h
          refine v_callVI (As := [.int z1, .int (((40 : Int32) * z3) + z4), .int z5]) (rest := []) X (c_X8_isSo l D ad cy X.2.2.2.2.2.2.2.2.1 N z1 (((40 : Int32) * z3) + z4) z5 g35 r38 g37  q36) mw_X8_isSo ml_X8_258 (by decide) (by decide +kernel) (by decide) rfl rfl rfl rfl (Nat.le_of_ble_eq_true rfl) dX8_who_154 ?_
          refine v_if_eq X 199 dX8_who_157 (by decide) (fun c39 => ?_) (fun c39 => ?_)
          · replace h := (if_pos c39).symm.trans h
            refine v_iinc (v := (y12 + 1)) (lc' := [some (.ref (ad (8, 0, 0))), some (.int z1), some (.int z2), some (.int z3), some (.int z4), some (.int z5), some (.int z6), some (.int y7), some (.int y8), some (.int y9), some (.int y10), some (.int z11), some (.int (y12 + 1))]) X dX8_who_199 rfl rfl (by decide) rfl rfl ?_
            refine v_goto X 104 dX8_who_202 (by decide) ?_
            exact ih y7 y8 y9 y10 (y12 + 1) g37 _ _ _ _ _ _ h k
          · replace h := (if_neg c39).symm.trans h
            refine v_iload X dX8_who_160 rfl ?_
            refine v_iloadn X dX8_who_162 rfl rfl ?_
            refine v_iconst (v := 2) X dX8_who_163 (by decide) ?_
            refine v_icmp_ge X 174 dX8_who_164 (by decide) (fun c40 => ?_) (fun c40 => ?_)
            · replace h := (if_pos c40).symm.trans h
              refine v_iconst (v := 0) X dX8_who_174 (by decide) ?_
              refine v_ior X dX8_who_175 ?_
              refine v_istore (lc' := [some (.ref (ad (8, 0, 0))), some (.int z1), some (.int z2), some (.int z3), some (.int z4), some (.int z5), some (.int z6), some (.int (y7 ||| (0 : Int32))), some (.int y8), some (.int y9), some (.int y10), some (.int z11), some (.int y12)]) X dX8_who_176 (by decide) rfl rfl ?_
              refine v_iload X dX8_who_178 rfl ?_
              refine v_if_ne X 188 dX8_who_180 (by decide) (fun c41 => ?_) (fun c41 => ?_)
              · replace h := (if_neg c41).symm.trans h
                refine v_iload X dX8_who_188 rfl ?_
                refine v_istore (lc' := [some (.ref (ad (8, 0, 0))), some (.int z1), some (.int z2), some (.int z3), some (.int z4), some (.int z5), some (.int z6), some (.int (y7 ||| (0 : Int32))), some (.int y8), some (.int y9), some (.int y10), some (.int z11), some (.int y12)]) X dX8_who_190 (by decide) rfl rfl ?_
                refine v_iload X dX8_who_192 rfl ?_
                refine v_istore (lc' := [some (.ref (ad (8, 0, 0))), some (.int z1), some (.int z2), some (.int z3), some (.int z4), some (.int z5), some (.int z6), some (.int (y7 ||| (0 : Int32))), some (.int y8), some (.int y9), some (.int y12), some (.int z11), some (.int y12)]) X dX8_who_194 (by decide) rfl rfl ?_
                refine v_iinc (v := (y8 + 1)) (lc' := [some (.ref (ad (8, 0, 0))), some (.int z1), some (.int z2), some (.int z3), some (.int z4), some (.int z5), some (.int z6), some (.int (y7 ||| (0 : Int32))), some (.int (y8 + 1)), some (.int y9), some (.int y12), some (.int z11), some (.int y12)]) X dX8_who_196 rfl rfl (by decide) rfl rfl ?_
                refine v_iinc (v := (y12 + 1)) (lc' := [some (.ref (ad (8, 0, 0))), some (.int z1), some (.int z2), some (.int z3), some (.int z4), some (.int z5), some (.int z6), some (.int (y7 ||| (0 : Int32))), some (.int (y8 + 1)), some (.int y9), some (.int y12), some (.int z11), some (.int (y12 + 1))]) X dX8_who_199 rfl rfl (by decide) rfl rfl ?_
                refine v_goto X 104 dX8_who_202 (by decide) ?_
                exact ih (y7 ||| (0 : Int32)) (y8 + 1) y9 y12 (y12 + 1) g37 _ _ _ _ _ _ h k
              · replace h := (if_pos c41).symm.trans h
                refine v_iload X dX8_who_183 rfl ?_
                refine v_goto X 190 dX8_who_185 (by decide) ?_
                refine v_istore (lc' := [some (.ref (ad (8, 0, 0))), some (.int z1), some (.int z2), some (.int z3), some (.int z4), some (.int z5), some (.int z6), some (.int (y7 ||| (0 : Int32))), some (.int y8), some (.int y12), some (.int y10), some (.int z11), some (.int y12)]) X dX8_who_190 (by decide) rfl rfl ?_
                refine v_iload X dX8_who_192 rfl ?_
                refine v_istore (lc' := [some (.ref (ad (8, 0, 0))), some (.int z1), some (.int z2), some (.int z3), some (.int z4), some (.int z5), some (.int z6), some (.int (y7 ||| (0 : Int32))), some (.int y8), some (.int y12), some (.int y12), some (.int z11), some (.int y12)]) X dX8_who_194 (by decide) rfl rfl ?_
                refine v_iinc (v := (y8 + 1)) (lc' := [some (.ref (ad (8, 0, 0))), some (.int z1), some (.int z2), some (.int z3), some (.int z4), some (.int z5), some (.int z6), some (.int (y7 ||| (0 : Int32))), some (.int (y8 + 1)), some (.int y12), some (.int y12), some (.int z11), some (.int y12)]) X dX8_who_196 rfl rfl (by decide) rfl rfl ?_
                refine v_iinc (v := (y12 + 1)) (lc' := [some (.ref (ad (8, 0, 0))), some (.int z1), some (.int z2), some (.int z3), some (.int z4), some (.int z5), some (.int z6), some (.int (y7 ||| (0 : Int32))), some (.int (y8 + 1)), some (.int y12), some (.int y12), some (.int z11), some (.int (y12 + 1))]) X dX8_who_199 rfl rfl (by decide) rfl rfl ?_
                refine v_goto X 104 dX8_who_202 (by decide) ?_
                exact ih (y7 ||| (0 : Int32)) (y8 + 1) y12 y12 (y12 + 1) g37 _ _ _ _ _ _ h k
            · replace h := (if_neg c40).symm.trans h
              refine v_iconst (v := 1) X dX8_who_167 (by decide) ?_
              refine v_iload X dX8_who_168 rfl ?_
              refine v_ishl X dX8_who_170 ?_
              refine v_goto X 175 dX8_who_171 (by decide) ?_
              refine v_ior X dX8_who_175 ?_
              refine v_istore (lc' := [some (.ref (ad (8, 0, 0))), some (.int z1), some (.int z2), some (.int z3), some (.int z4), some (.int z5), some (.int z6), some (.int (y7 ||| ((1 : Int32) <<< (y12 &&& 31)))), some (.int y8), some (.int y9), some (.int y10), some (.int z11), some (.int y12)]) X dX8_who_176 (by decide) rfl rfl ?_
              refine v_iload X dX8_who_178 rfl ?_
              refine v_if_ne X 188 dX8_who_180 (by decide) (fun c42 => ?_) (fun c42 => ?_)
              · replace h := (if_neg c42).symm.trans h
                refine v_iload X dX8_who_188 rfl ?_
                refine v_istore (lc' := [some (.ref (ad (8, 0, 0))), some (.int z1), some (.int z2), some (.int z3), some (.int z4), some (.int z5), some (.int z6), some (.int (y7 ||| ((1 : Int32) <<< (y12 &&& 31)))), some (.int y8), some (.int y9), some (.int y10), some (.int z11), some (.int y12)]) X dX8_who_190 (by decide) rfl rfl ?_
                refine v_iload X dX8_who_192 rfl ?_
                refine v_istore (lc' := [some (.ref (ad (8, 0, 0))), some (.int z1), some (.int z2), some (.int z3), some (.int z4), some (.int z5), some (.int z6), some (.int (y7 ||| ((1 : Int32) <<< (y12 &&& 31)))), some (.int y8), some (.int y9), some (.int y12), some (.int z11), some (.int y12)]) X dX8_who_194 (by decide) rfl rfl ?_
                refine v_iinc (v := (y8 + 1)) (lc' := [some (.ref (ad (8, 0, 0))), some (.int z1), some (.int z2), some (.int z3), some (.int z4), some (.int z5), some (.int z6), some (.int (y7 ||| ((1 : Int32) <<< (y12 &&& 31)))), some (.int (y8 + 1)), some (.int y9), some (.int y12), some (.int z11), some (.int y12)]) X dX8_who_196 rfl rfl (by decide) rfl rfl ?_
                refine v_iinc (v := (y12 + 1)) (lc' := [some (.ref (ad (8, 0, 0))), some (.int z1), some (.int z2), some (.int z3), some (.int z4), some (.int z5), some (.int z6), some (.int (y7 ||| ((1 : Int32) <<< (y12 &&& 31)))), some (.int (y8 + 1)), some (.int y9), some (.int y12), some (.int z11), some (.int (y12 + 1))]) X dX8_who_199 rfl rfl (by decide) rfl rfl ?_
                refine v_goto X 104 dX8_who_202 (by decide) ?_
                exact ih (y7 ||| ((1 : Int32) <<< (y12 &&& 31))) (y8 + 1) y9 y12 (y12 + 1) g37 _ _ _ _ _ _ h k
              · replace h := (if_pos c42).symm.trans h
                refine v_iload X dX8_who_183 rfl ?_
                refine v_goto X 190 dX8_who_185 (by decide) ?_
                refine v_istore (lc' := [some (.ref (ad (8, 0, 0))), some (.int z1), some (.int z2), some (.int z3), some (.int z4), some (.int z5), some (.int z6), some (.int (y7 ||| ((1 : Int32) <<< (y12 &&& 31)))), some (.int y8), some (.int y12), some (.int y10), some (.int z11), some (.int y12)]) X dX8_who_190 (by decide) rfl rfl ?_
                refine v_iload X dX8_who_192 rfl ?_
                refine v_istore (lc' := [some (.ref (ad (8, 0, 0))), some (.int z1), some (.int z2), some (.int z3), some (.int z4), some (.int z5), some (.int z6), some (.int (y7 ||| ((1 : Int32) <<< (y12 &&& 31)))), some (.int y8), some (.int y12), some (.int y12), some (.int z11), some (.int y12)]) X dX8_who_194 (by decide) rfl rfl ?_
                refine v_iinc (v := (y8 + 1)) (lc' := [some (.ref (ad (8, 0, 0))), some (.int z1), some (.int z2), some (.int z3), some (.int z4), some (.int z5), some (.int z6), some (.int (y7 ||| ((1 : Int32) <<< (y12 &&& 31)))), some (.int (y8 + 1)), some (.int y12), some (.int y12), some (.int z11), some (.int y12)]) X dX8_who_196 rfl rfl (by decide) rfl rfl ?_
                refine v_iinc (v := (y12 + 1)) (lc' := [some (.ref (ad (8, 0, 0))), some (.int z1), some (.int z2), some (.int z3), some (.int z4), some (.int z5), some (.int z6), some (.int (y7 ||| ((1 : Int32) <<< (y12 &&& 31)))), some (.int (y8 + 1)), some (.int y12), some (.int y12), some (.int z11), some (.int (y12 + 1))]) X dX8_who_199 rfl rfl (by decide) rfl rfl ?_
                refine v_goto X 104 dX8_who_202 (by decide) ?_
                exact ih (y7 ||| ((1 : Int32) <<< (y12 &&& 31))) (y8 + 1) y12 y12 (y12 + 1) g37 _ _ _ _ _ _ h k
      · replace h := (if_pos c23).symm.trans h
        refine v_iconst (v := 0) X dX8_who_124 (by decide) ?_
        refine v_goto X 138 dX8_who_125 (by decide) ?_
        refine v_iload X dX8_who_138 rfl ?_
        obtain ⟨g44, q43, h⟩ := bd1_some h
        refine v_callSV (As := [.ref (ad (9, 11, 7)), .int z1, .int (0 : Int32), .int y12]) (rest := []) X (c_X8_be l D ad cy X.2.2.2.2.2.2.2.2.1 N 7 z1 (0 : Int32) y12 g22 g44 (by decide +kernel) q43) mw_X8_be ml_X8_170 (by decide) rfl rfl (Nat.le_of_ble_eq_true rfl) dX8_who_140 ?_
        refine v_aloadn X dX8_who_143 rfl rfl ?_
        refine v_iloadn X dX8_who_144 rfl rfl ?_
        refine v_bipush (v := 40) X dX8_who_145 (by decide) ?_
        refine v_iloadn X dX8_who_147 rfl rfl ?_
        refine v_imul X dX8_who_148 ?_
        refine v_iload X dX8_who_149 rfl ?_
        refine v_iadd X dX8_who_151 ?_
        refine v_iload X dX8_who_152 rfl ?_
        obtain ⟨r47, g46, q45, h⟩ := bd2_some h
        refine v_callVI (As := [.int z1, .int (((40 : Int32) * z3) + z4), .int z5]) (rest := []) X (c_X8_isSo l D ad cy X.2.2.2.2.2.2.2.2.1 N z1 (((40 : Int32) * z3) + z4) z5 g44 r47 g46  q45) mw_X8_isSo ml_X8_258 (by decide) (by decide +kernel) (by decide) rfl rfl rfl rfl (Nat.le_of_ble_eq_true rfl) dX8_who_154 ?_
        refine v_if_eq X 199 dX8_who_157 (by decide) (fun c48 => ?_) (fun c48 => ?_)
        · replace h := (if_pos c48).symm.trans h
          refine v_iinc (v := (y12 + 1)) (lc' := [some (.ref (ad (8, 0, 0))), some (.int z1), some (.int z2), some (.int z3), some (.int z4), some (.int z5), some (.int z6), some (.int y7), some (.int y8), some (.int y9), some (.int y10), some (.int z11), some (.int (y12 + 1))]) X dX8_who_199 rfl rfl (by decide) rfl rfl ?_
          refine v_goto X 104 dX8_who_202 (by decide) ?_
          exact ih y7 y8 y9 y10 (y12 + 1) g46 _ _ _ _ _ _ h k
        · replace h := (if_neg c48).symm.trans h
          refine v_iload X dX8_who_160 rfl ?_
          refine v_iloadn X dX8_who_162 rfl rfl ?_
          refine v_iconst (v := 2) X dX8_who_163 (by decide) ?_
          refine v_icmp_ge X 174 dX8_who_164 (by decide) (fun c49 => ?_) (fun c49 => ?_)
          · replace h := (if_pos c49).symm.trans h
            refine v_iconst (v := 0) X dX8_who_174 (by decide) ?_
            refine v_ior X dX8_who_175 ?_
            refine v_istore (lc' := [some (.ref (ad (8, 0, 0))), some (.int z1), some (.int z2), some (.int z3), some (.int z4), some (.int z5), some (.int z6), some (.int (y7 ||| (0 : Int32))), some (.int y8), some (.int y9), some (.int y10), some (.int z11), some (.int y12)]) X dX8_who_176 (by decide) rfl rfl ?_
            refine v_iload X dX8_who_178 rfl ?_
            refine v_if_ne X 188 dX8_who_180 (by decide) (fun c50 => ?_) (fun c50 => ?_)
            · replace h := (if_neg c50).symm.trans h
              refine v_iload X dX8_who_188 rfl ?_
              refine v_istore (lc' := [some (.ref (ad (8, 0, 0))), some (.int z1), some (.int z2), some (.int z3), some (.int z4), some (.int z5), some (.int z6), some (.int (y7 ||| (0 : Int32))), some (.int y8), some (.int y9), some (.int y10), some (.int z11), some (.int y12)]) X dX8_who_190 (by decide) rfl rfl ?_
              refine v_iload X dX8_who_192 rfl ?_
              refine v_istore (lc' := [some (.ref (ad (8, 0, 0))), some (.int z1), some (.int z2), some (.int z3), some (.int z4), some (.int z5), some (.int z6), some (.int (y7 ||| (0 : Int32))), some (.int y8), some (.int y9), some (.int y12), some (.int z11), some (.int y12)]) X dX8_who_194 (by decide) rfl rfl ?_
              refine v_iinc (v := (y8 + 1)) (lc' := [some (.ref (ad (8, 0, 0))), some (.int z1), some (.int z2), some (.int z3), some (.int z4), some (.int z5), some (.int z6), some (.int (y7 ||| (0 : Int32))), some (.int (y8 + 1)), some (.int y9), some (.int y12), some (.int z11), some (.int y12)]) X dX8_who_196 rfl rfl (by decide) rfl rfl ?_
              refine v_iinc (v := (y12 + 1)) (lc' := [some (.ref (ad (8, 0, 0))), some (.int z1), some (.int z2), some (.int z3), some (.int z4), some (.int z5), some (.int z6), some (.int (y7 ||| (0 : Int32))), some (.int (y8 + 1)), some (.int y9), some (.int y12), some (.int z11), some (.int (y12 + 1))]) X dX8_who_199 rfl rfl (by decide) rfl rfl ?_
              refine v_goto X 104 dX8_who_202 (by decide) ?_
              exact ih (y7 ||| (0 : Int32)) (y8 + 1) y9 y12 (y12 + 1) g46 _ _ _ _ _ _ h k
            · replace h := (if_pos c50).symm.trans h
              refine v_iload X dX8_who_183 rfl ?_
              refine v_goto X 190 dX8_who_185 (by decide) ?_
              refine v_istore (lc' := [some (.ref (ad (8, 0, 0))), some (.int z1), some (.int z2), some (.int z3), some (.int z4), some (.int z5), some (.int z6), some (.int (y7 ||| (0 : Int32))), some (.int y8), some (.int y12), some (.int y10), some (.int z11), some (.int y12)]) X dX8_who_190 (by decide) rfl rfl ?_
              refine v_iload X dX8_who_192 rfl ?_
              refine v_istore (lc' := [some (.ref (ad (8, 0, 0))), some (.int z1), some (.int z2), some (.int z3), some (.int z4), some (.int z5), some (.int z6), some (.int (y7 ||| (0 : Int32))), some (.int y8), some (.int y12), some (.int y12), some (.int z11), some (.int y12)]) X dX8_who_194 (by decide) rfl rfl ?_
              refine v_iinc (v := (y8 + 1)) (lc' := [some (.ref (ad (8, 0, 0))), some (.int z1), some (.int z2), some (.int z3), some (.int z4), some (.int z5), some (.int z6), some (.int (y7 ||| (0 : Int32))), some (.int (y8 + 1)), some (.int y12), some (.int y12), some (.int z11), some (.int y12)]) X dX8_who_196 rfl rfl (by decide) rfl rfl ?_
              refine v_iinc (v := (y12 + 1)) (lc' := [some (.ref (ad (8, 0, 0))), some (.int z1), some (.int z2), some (.int z3), some (.int z4), some (.int z5), some (.int z6), some (.int (y7 ||| (0 : Int32))), some (.int (y8 + 1)), some (.int y12), some (.int y12), some (.int z11), some (.int (y12 + 1))]) X dX8_who_199 rfl rfl (by decide) rfl rfl ?_
              refine v_goto X 104 dX8_who_202 (by decide) ?_
              exact ih (y7 ||| (0 : Int32)) (y8 + 1) y12 y12 (y12 + 1) g46 _ _ _ _ _ _ h k
          · replace h := (if_neg c49).symm.trans h
            refine v_iconst (v := 1) X dX8_who_167 (by decide) ?_
            refine v_iload X dX8_who_168 rfl ?_
            refine v_ishl X dX8_who_170 ?_
            refine v_goto X 175 dX8_who_171 (by decide) ?_
            refine v_ior X dX8_who_175 ?_
            refine v_istore (lc' := [some (.ref (ad (8, 0, 0))), some (.int z1), some (.int z2), some (.int z3), some (.int z4), some (.int z5), some (.int z6), some (.int (y7 ||| ((1 : Int32) <<< (y12 &&& 31)))), some (.int y8), some (.int y9), some (.int y10), some (.int z11), some (.int y12)]) X dX8_who_176 (by decide) rfl rfl ?_
            refine v_iload X dX8_who_178 rfl ?_
            refine v_if_ne X 188 dX8_who_180 (by decide) (fun c51 => ?_) (fun c51 => ?_)
            · replace h := (if_neg c51).symm.trans h
              refine v_iload X dX8_who_188 rfl ?_
              refine v_istore (lc' := [some (.ref (ad (8, 0, 0))), some (.int z1), some (.int z2), some (.int z3), some (.int z4), some (.int z5), some (.int z6), some (.int (y7 ||| ((1 : Int32) <<< (y12 &&& 31)))), some (.int y8), some (.int y9), some (.int y10), some (.int z11), some (.int y12)]) X dX8_who_190 (by decide) rfl rfl ?_
              refine v_iload X dX8_who_192 rfl ?_
              refine v_istore (lc' := [some (.ref (ad (8, 0, 0))), some (.int z1), some (.int z2), some (.int z3), some (.int z4), some (.int z5), some (.int z6), some (.int (y7 ||| ((1 : Int32) <<< (y12 &&& 31)))), some (.int y8), some (.int y9), some (.int y12), some (.int z11), some (.int y12)]) X dX8_who_194 (by decide) rfl rfl ?_
              refine v_iinc (v := (y8 + 1)) (lc' := [some (.ref (ad (8, 0, 0))), some (.int z1), some (.int z2), some (.int z3), some (.int z4), some (.int z5), some (.int z6), some (.int (y7 ||| ((1 : Int32) <<< (y12 &&& 31)))), some (.int (y8 + 1)), some (.int y9), some (.int y12), some (.int z11), some (.int y12)]) X dX8_who_196 rfl rfl (by decide) rfl rfl ?_
              refine v_iinc (v := (y12 + 1)) (lc' := [some (.ref (ad (8, 0, 0))), some (.int z1), some (.int z2), some (.int z3), some (.int z4), some (.int z5), some (.int z6), some (.int (y7 ||| ((1 : Int32) <<< (y12 &&& 31)))), some (.int (y8 + 1)), some (.int y9), some (.int y12), some (.int z11), some (.int (y12 + 1))]) X dX8_who_199 rfl rfl (by decide) rfl rfl ?_
              refine v_goto X 104 dX8_who_202 (by decide) ?_
              exact ih (y7 ||| ((1 : Int32) <<< (y12 &&& 31))) (y8 + 1) y9 y12 (y12 + 1) g46 _ _ _ _ _ _ h k
            · replace h := (if_pos c51).symm.trans h
              refine v_iload X dX8_who_183 rfl ?_
              refine v_goto X 190 dX8_who_185 (by decide) ?_
              refine v_istore (lc' := [some (.ref (ad (8, 0, 0))), some (.int z1), some (.int z2), some (.int z3), some (.int z4), some (.int z5), some (.int z6), some (.int (y7 ||| ((1 : Int32) <<< (y12 &&& 31)))), some (.int y8), some (.int y12), some (.int y10), some (.int z11), some (.int y12)]) X dX8_who_190 (by decide) rfl rfl ?_
              refine v_iload X dX8_who_192 rfl ?_
              refine v_istore (lc' := [some (.ref (ad (8, 0, 0))), some (.int z1), some (.int z2), some (.int z3), some (.int z4), some (.int z5), some (.int z6), some (.int (y7 ||| ((1 : Int32) <<< (y12 &&& 31)))), some (.int y8), some (.int y12), some (.int y12), some (.int z11), some (.int y12)]) X dX8_who_194 (by decide) rfl rfl ?_
              refine v_iinc (v := (y8 + 1)) (lc' := [some (.ref (ad (8, 0, 0))), some (.int z1), some (.int z2), some (.int z3), some (.int z4), some (.int z5), some (.int z6), some (.int (y7 ||| ((1 : Int32) <<< (y12 &&& 31)))), some (.int (y8 + 1)), some (.int y12), some (.int y12), some (.int z11), some (.int y12)]) X dX8_who_196 rfl rfl (by decide) rfl rfl ?_
              refine v_iinc (v := (y12 + 1)) (lc' := [some (.ref (ad (8, 0, 0))), some (.int z1), some (.int z2), some (.int z3), some (.int z4), some (.int z5), some (.int z6), some (.int (y7 ||| ((1 : Int32) <<< (y12 &&& 31)))), some (.int (y8 + 1)), some (.int y12), some (.int y12), some (.int z11), some (.int (y12 + 1))]) X dX8_who_199 rfl rfl (by decide) rfl rfl ?_
              refine v_goto X 104 dX8_who_202 (by decide) ?_
              exact ih (y7 ||| ((1 : Int32) <<< (y12 &&& 31))) (y8 + 1) y12 y12 (y12 + 1) g46 _ _ _ _ _ _ h k
set_option maxRecDepth 100000 in
set_option maxHeartbeats 4000000 in
theorem c_X8_who (l : Launch) (D : va_G) (ad : Ky → Nat) (cy : Nat → ClassId) (hI : Inj ad) (N : Nat) (x1 : Int32) (x2 : Int32) (x3 : Int32) (x4 : Int32) (x5 : Int32) (g : GS) (r : Int32) (gq : GS) (h : F_X8_who N x1 x2 x3 x4 x5 g = some (r, gq)) : CtI l D ad cy yX8_who cX8_who 13 (some .int) 7 [.ref (ad (8, 0, 0)), .int x1, .int x2, .int x3, .int x4, .int x5] g r gq := by
  refine CtI.of 7 hI (by decide +kernel) rfl (Nat.le_of_ble_eq_true rfl) (fun p e s m args below meth c X => ?_)
  unfold F_X8_who at h
  show Vy _ _ _ _ _ _ _ _ _ _ _ _ _ _ _ 0 [some (.ref (ad (8, 0, 0))), some (.int x1), some (.int x2), some (.int x3), some (.int x4), some (.int x5), none, none, none, none, none, none, none] [] g
  refine v_aloadn X dX8_who_0 rfl rfl ?_
  refine v_iconst (v := 0) X dX8_who_1 (by decide) ?_
  refine pf_X8_50 X dX8_who_2 ?_
  refine v_aloadn X dX8_who_5 rfl rfl ?_
  refine v_iloadn X dX8_who_6 rfl rfl ?_
  obtain ⟨r3, g2, q1, h⟩ := bd2_some h
  refine v_callVI (As := [.int x1]) (rest := []) X (c_X8_isPaper l D ad cy X.2.2.2.2.2.2.2.2.1 N x1 (g3 g 10 0 0 (0 : Int32)) r3 g2  q1) mw_X8_isPaper ml_X8_208 (by decide) (by decide +kernel) (by decide) rfl rfl rfl rfl (Nat.le_of_ble_eq_true rfl) dX8_who_7 ?_
  refine v_if_eq X 34 dX8_who_10 (by decide) (fun c4 => ?_) (fun c4 => ?_)
  · replace h := (if_pos c4).symm.trans h
    refine v_ldc X kc_X8_70 dX8_who_34 ?_
    cases h
    exact v_iret X dX8_who_36 rfl rfl
  · replace h := (if_neg c4).symm.trans h
    refine v_iloadn X dX8_who_13 rfl rfl ?_
    refine v_i2l X dX8_who_14 ?_
    refine v_lconst (v := 0) X dX8_who_15 (by decide) ?_
    refine v_ldc2 X kl_X8_247 dX8_who_16 ?_
    obtain ⟨r7, g6, q5, h⟩ := bd2_some h
    refine v_callSI (As := [.long (x2.toInt64), .long (0 : Int64), .long (4 : Int64)]) (rest := []) X (c_X8_in l D ad cy X.2.2.2.2.2.2.2.2.1 N (x2.toInt64) (0 : Int64) (4 : Int64) g2 r7 g6  q5) mw_X8_in ml_X8_60 (by decide) rfl rfl (Nat.le_of_ble_eq_true rfl) dX8_who_19 ?_
    refine v_if_eq X 34 dX8_who_22 (by decide) (fun c8 => ?_) (fun c8 => ?_)
    · replace h := (if_pos c8).symm.trans h
      refine v_ldc X kc_X8_70 dX8_who_34 ?_
      cases h
      exact v_iret X dX8_who_36 rfl rfl
    · replace h := (if_neg c8).symm.trans h
      refine v_iloadn X dX8_who_25 rfl rfl ?_
      refine v_iload X dX8_who_26 rfl ?_
      obtain ⟨r11, g10, q9, h⟩ := bd2_some h
      refine v_callSI (As := [.int x3, .int x5]) (rest := []) X (c_X8_isMany l D ad cy X.2.2.2.2.2.2.2.2.1 N x3 x5 g6 r11 g10  q9) mw_X8_isMany ml_X8_251 (by decide) rfl rfl (Nat.le_of_ble_eq_true rfl) dX8_who_28 ?_
      refine v_if_ne X 37 dX8_who_31 (by decide) (fun c12 => ?_) (fun c12 => ?_)
      · replace h := (if_neg c12).symm.trans h
        refine v_aloadn X dX8_who_37 rfl rfl ?_
        refine v_iloadn X dX8_who_38 rfl rfl ?_
        refine v_iload X dX8_who_39 rfl ?_
        refine v_iload X dX8_who_41 rfl ?_
        obtain ⟨r15, g14, q13, h⟩ := bd2_some h
        refine v_callVI (As := [.int x3, .int x4, .int x5]) (rest := []) X (c_X8_rowFound l D ad cy X.2.2.2.2.2.2.2.2.1 N x3 x4 x5 g10 r15 g14  q13) mw_X8_rowFound ml_X8_254 (by decide) (by decide +kernel) (by decide) rfl rfl rfl rfl (Nat.le_of_ble_eq_true rfl) dX8_who_43 ?_
        refine v_istore (lc' := [some (.ref (ad (8, 0, 0))), some (.int x1), some (.int x2), some (.int x3), some (.int x4), some (.int x5), some (.int r15), none, none, none, none, none, none]) X dX8_who_46 (by decide) rfl rfl ?_
        refine v_iload X dX8_who_48 rfl ?_
        refine v_if_eq X 56 dX8_who_50 (by decide) (fun c16 => ?_) (fun c16 => ?_)
        · replace h := (if_pos c16).symm.trans h
          refine v_iconst (v := 0) X dX8_who_56 (by decide) ?_
          refine v_istore (lc' := [some (.ref (ad (8, 0, 0))), some (.int x1), some (.int x2), some (.int x3), some (.int x4), some (.int x5), some (.int r15), some (.int (0 : Int32)), none, none, none, none, none]) X dX8_who_57 (by decide) rfl rfl ?_
          refine v_iconst (v := 0) X dX8_who_59 (by decide) ?_
          refine v_istore (lc' := [some (.ref (ad (8, 0, 0))), some (.int x1), some (.int x2), some (.int x3), some (.int x4), some (.int x5), some (.int r15), some (.int (0 : Int32)), some (.int (0 : Int32)), none, none, none, none]) X dX8_who_60 (by decide) rfl rfl ?_
          refine v_ldc X kc_X8_93 dX8_who_62 ?_
          refine v_istore (lc' := [some (.ref (ad (8, 0, 0))), some (.int x1), some (.int x2), some (.int x3), some (.int x4), some (.int x5), some (.int r15), some (.int (0 : Int32)), some (.int (0 : Int32)), some (.int (-1000000 : Int32)), none, none, none]) X dX8_who_64 (by decide) rfl rfl ?_
          refine v_ldc X kc_X8_93 dX8_who_66 ?_
          refine v_istore (lc' := [some (.ref (ad (8, 0, 0))), some (.int x1), some (.int x2), some (.int x3), some (.int x4), some (.int x5), some (.int r15), some (.int (0 : Int32)), some (.int (0 : Int32)), some (.int (-1000000 : Int32)), some (.int (-1000000 : Int32)), none, none]) X dX8_who_68 (by decide) rfl rfl ?_
          refine v_iloadn X dX8_who_70 rfl rfl ?_
          refine v_if_ne X 78 dX8_who_71 (by decide) (fun c17 => ?_) (fun c17 => ?_)
          · replace h := (if_neg c17).symm.trans h
            refine v_iloadn X dX8_who_78 rfl rfl ?_
            refine v_iconst (v := 1) X dX8_who_79 (by decide) ?_
            refine v_icmp_ne X 88 dX8_who_80 (by decide) (fun c18 => ?_) (fun c18 => ?_)
            · replace h := (if_neg c18).symm.trans h
              refine v_bipush (v := 60) X dX8_who_88 (by decide) ?_
              refine v_istore (lc' := [some (.ref (ad (8, 0, 0))), some (.int x1), some (.int x2), some (.int x3), some (.int x4), some (.int x5), some (.int r15), some (.int (0 : Int32)), some (.int (0 : Int32)), some (.int (-1000000 : Int32)), some (.int (-1000000 : Int32)), some (.int (60 : Int32)), none]) X dX8_who_90 (by decide) rfl rfl ?_
              refine v_iloadn X dX8_who_92 rfl rfl ?_
              refine v_iconst (v := 1) X dX8_who_93 (by decide) ?_
              refine v_icmp_ne X 101 dX8_who_94 (by decide) (fun c19 => ?_) (fun c19 => ?_)
              · replace h := (if_neg c19).symm.trans h
                refine v_iconst (v := 1) X dX8_who_101 (by decide) ?_
                refine v_istore (lc' := [some (.ref (ad (8, 0, 0))), some (.int x1), some (.int x2), some (.int x3), some (.int x4), some (.int x5), some (.int r15), some (.int (0 : Int32)), some (.int (0 : Int32)), some (.int (-1000000 : Int32)), some (.int (-1000000 : Int32)), some (.int (60 : Int32)), some (.int (1 : Int32))]) X dX8_who_102 (by decide) rfl rfl ?_
                obtain ⟨x52, x53, x54, x55, x56, g57, q58, h⟩ := bd6_some h
                refine w_X8_who_104 X x1 x2 x3 x4 x5 r15 (60 : Int32) N (0 : Int32) (0 : Int32) (-1000000 : Int32) (-1000000 : Int32) (1 : Int32) g14 x52 x53 x54 x55 x56 g57 q58 ?_
                refine v_iloadn X dX8_who_205 rfl rfl ?_
                refine v_iconst (v := 2) X dX8_who_206 (by decide) ?_
                refine v_icmp_ge X 215 dX8_who_207 (by decide) (fun c59 => ?_) (fun c59 => ?_)
                · replace h := (if_pos c59).symm.trans h
                  refine v_iloadn X dX8_who_215 rfl rfl ?_
                  refine v_iconst (v := 2) X dX8_who_216 (by decide) ?_
                  refine v_icmp_ne X 225 dX8_who_217 (by decide) (fun c60 => ?_) (fun c60 => ?_)
                  · replace h := (if_neg c60).symm.trans h
                    refine v_iloadn X dX8_who_225 rfl rfl ?_
                    refine v_iconst (v := 3) X dX8_who_226 (by decide) ?_
                    refine v_icmp_ne X 235 dX8_who_227 (by decide) (fun c61 => ?_) (fun c61 => ?_)
                    · replace h := (if_neg c61).symm.trans h
                      refine v_iload X dX8_who_235 rfl ?_
                      cases h
                      exact v_iret X dX8_who_237 rfl rfl
                    · replace h := (if_pos c61).symm.trans h
                      refine v_iload X dX8_who_230 rfl ?_
                      refine v_goto X 237 dX8_who_232 (by decide) ?_
                      cases h
                      exact v_iret X dX8_who_237 rfl rfl
                  · replace h := (if_pos c60).symm.trans h
                    refine v_iload X dX8_who_220 rfl ?_
                    refine v_goto X 237 dX8_who_222 (by decide) ?_
                    cases h
                    exact v_iret X dX8_who_237 rfl rfl
                · replace h := (if_neg c59).symm.trans h
                  refine v_iload X dX8_who_210 rfl ?_
                  refine v_goto X 237 dX8_who_212 (by decide) ?_
                  cases h
                  exact v_iret X dX8_who_237 rfl rfl
              · replace h := (if_pos c19).symm.trans h
                refine v_iconst (v := 0) X dX8_who_97 (by decide) ?_
                refine v_goto X 102 dX8_who_98 (by decide) ?_
                refine v_istore (lc' := [some (.ref (ad (8, 0, 0))), some (.int x1), some (.int x2), some (.int x3), some (.int x4), some (.int x5), some (.int r15), some (.int (0 : Int32)), some (.int (0 : Int32)), some (.int (-1000000 : Int32)), some (.int (-1000000 : Int32)), some (.int (60 : Int32)), some (.int (0 : Int32))]) X dX8_who_102 (by decide) rfl rfl ?_
                obtain ⟨x62, x63, x64, x65, x66, g67, q68, h⟩ := bd6_some h
                refine w_X8_who_104 X x1 x2 x3 x4 x5 r15 (60 : Int32) N (0 : Int32) (0 : Int32) (-1000000 : Int32) (-1000000 : Int32) (0 : Int32) g14 x62 x63 x64 x65 x66 g67 q68 ?_
                refine v_iloadn X dX8_who_205 rfl rfl ?_
                refine v_iconst (v := 2) X dX8_who_206 (by decide) ?_
                refine v_icmp_ge X 215 dX8_who_207 (by decide) (fun c69 => ?_) (fun c69 => ?_)
                · replace h := (if_pos c69).symm.trans h
                  refine v_iloadn X dX8_who_215 rfl rfl ?_
                  refine v_iconst (v := 2) X dX8_who_216 (by decide) ?_
                  refine v_icmp_ne X 225 dX8_who_217 (by decide) (fun c70 => ?_) (fun c70 => ?_)
                  · replace h := (if_neg c70).symm.trans h
                    refine v_iloadn X dX8_who_225 rfl rfl ?_
                    refine v_iconst (v := 3) X dX8_who_226 (by decide) ?_
                    refine v_icmp_ne X 235 dX8_who_227 (by decide) (fun c71 => ?_) (fun c71 => ?_)
                    · replace h := (if_neg c71).symm.trans h
                      refine v_iload X dX8_who_235 rfl ?_
                      cases h
                      exact v_iret X dX8_who_237 rfl rfl
                    · replace h := (if_pos c71).symm.trans h
                      refine v_iload X dX8_who_230 rfl ?_
                      refine v_goto X 237 dX8_who_232 (by decide) ?_
                      cases h
                      exact v_iret X dX8_who_237 rfl rfl
                  · replace h := (if_pos c70).symm.trans h
                    refine v_iload X dX8_who_220 rfl ?_
                    refine v_goto X 237 dX8_who_222 (by decide) ?_
                    cases h
                    exact v_iret X dX8_who_237 rfl rfl
                · replace h := (if_neg c69).symm.trans h
                  refine v_iload X dX8_who_210 rfl ?_
                  refine v_goto X 237 dX8_who_212 (by decide) ?_
                  cases h
                  exact v_iret X dX8_who_237 rfl rfl
            · replace h := (if_pos c18).symm.trans h
              refine v_bipush (v := 9) X dX8_who_83 (by decide) ?_
              refine v_goto X 90 dX8_who_85 (by decide) ?_
              refine v_istore (lc' := [some (.ref (ad (8, 0, 0))), some (.int x1), some (.int x2), some (.int x3), some (.int x4), some (.int x5), some (.int r15), some (.int (0 : Int32)), some (.int (0 : Int32)), some (.int (-1000000 : Int32)), some (.int (-1000000 : Int32)), some (.int (9 : Int32)), none]) X dX8_who_90 (by decide) rfl rfl ?_
              refine v_iloadn X dX8_who_92 rfl rfl ?_
              refine v_iconst (v := 1) X dX8_who_93 (by decide) ?_
              refine v_icmp_ne X 101 dX8_who_94 (by decide) (fun c72 => ?_) (fun c72 => ?_)
              · replace h := (if_neg c72).symm.trans h
                refine v_iconst (v := 1) X dX8_who_101 (by decide) ?_
                refine v_istore (lc' := [some (.ref (ad (8, 0, 0))), some (.int x1), some (.int x2), some (.int x3), some (.int x4), some (.int x5), some (.int r15), some (.int (0 : Int32)), some (.int (0 : Int32)), some (.int (-1000000 : Int32)), some (.int (-1000000 : Int32)), some (.int (9 : Int32)), some (.int (1 : Int32))]) X dX8_who_102 (by decide) rfl rfl ?_
                obtain ⟨x73, x74, x75, x76, x77, g78, q79, h⟩ := bd6_some h
                refine w_X8_who_104 X x1 x2 x3 x4 x5 r15 (9 : Int32) N (0 : Int32) (0 : Int32) (-1000000 : Int32) (-1000000 : Int32) (1 : Int32) g14 x73 x74 x75 x76 x77 g78 q79 ?_
                refine v_iloadn X dX8_who_205 rfl rfl ?_
                refine v_iconst (v := 2) X dX8_who_206 (by decide) ?_
                refine v_icmp_ge X 215 dX8_who_207 (by decide) (fun c80 => ?_) (fun c80 => ?_)
                · replace h := (if_pos c80).symm.trans h
                  refine v_iloadn X dX8_who_215 rfl rfl ?_
                  refine v_iconst (v := 2) X dX8_who_216 (by decide) ?_
                  refine v_icmp_ne X 225 dX8_who_217 (by decide) (fun c81 => ?_) (fun c81 => ?_)
                  · replace h := (if_neg c81).symm.trans h
                    refine v_iloadn X dX8_who_225 rfl rfl ?_
                    refine v_iconst (v := 3) X dX8_who_226 (by decide) ?_
                    refine v_icmp_ne X 235 dX8_who_227 (by decide) (fun c82 => ?_) (fun c82 => ?_)
                    · replace h := (if_neg c82).symm.trans h
                      refine v_iload X dX8_who_235 rfl ?_
                      cases h
                      exact v_iret X dX8_who_237 rfl rfl
                    · replace h := (if_pos c82).symm.trans h
                      refine v_iload X dX8_who_230 rfl ?_
                      refine v_goto X 237 dX8_who_232 (by decide) ?_
                      cases h
                      exact v_iret X dX8_who_237 rfl rfl
                  · replace h := (if_pos c81).symm.trans h
                    refine v_iload X dX8_who_220 rfl ?_
                    refine v_goto X 237 dX8_who_222 (by decide) ?_
                    cases h
                    exact v_iret X dX8_who_237 rfl rfl
                · replace h := (if_neg c80).symm.trans h
                  refine v_iload X dX8_who_210 rfl ?_
                  refine v_goto X 237 dX8_who_212 (by decide) ?_
                  cases h
                  exact v_iret X dX8_who_237 rfl rfl
              · replace h := (if_pos c72).symm.trans h
                refine v_iconst (v := 0) X dX8_who_97 (by decide) ?_
                refine v_goto X 102 dX8_who_98 (by decide) ?_
                refine v_istore (lc' := [some (.ref (ad (8, 0, 0))), some (.int x1), some (.int x2), some (.int x3), some (.int x4), some (.int x5), some (.int r15), some (.int (0 : Int32)), some (.int (0 : Int32)), some (.int (-1000000 : Int32)), some (.int (-1000000 : Int32)), some (.int (9 : Int32)), some (.int (0 : Int32))]) X dX8_who_102 (by decide) rfl rfl ?_
                obtain ⟨x83, x84, x85, x86, x87, g88, q89, h⟩ := bd6_some h
                refine w_X8_who_104 X x1 x2 x3 x4 x5 r15 (9 : Int32) N (0 : Int32) (0 : Int32) (-1000000 : Int32) (-1000000 : Int32) (0 : Int32) g14 x83 x84 x85 x86 x87 g88 q89 ?_
                refine v_iloadn X dX8_who_205 rfl rfl ?_
                refine v_iconst (v := 2) X dX8_who_206 (by decide) ?_
                refine v_icmp_ge X 215 dX8_who_207 (by decide) (fun c90 => ?_) (fun c90 => ?_)
                · replace h := (if_pos c90).symm.trans h
                  refine v_iloadn X dX8_who_215 rfl rfl ?_
                  refine v_iconst (v := 2) X dX8_who_216 (by decide) ?_
                  refine v_icmp_ne X 225 dX8_who_217 (by decide) (fun c91 => ?_) (fun c91 => ?_)
                  · replace h := (if_neg c91).symm.trans h
                    refine v_iloadn X dX8_who_225 rfl rfl ?_
                    refine v_iconst (v := 3) X dX8_who_226 (by decide) ?_
                    refine v_icmp_ne X 235 dX8_who_227 (by decide) (fun c92 => ?_) (fun c92 => ?_)
                    · replace h := (if_neg c92).symm.trans h
                      refine v_iload X dX8_who_235 rfl ?_
                      cases h
                      exact v_iret X dX8_who_237 rfl rfl
                    · replace h := (if_pos c92).symm.trans h
                      refine v_iload X dX8_who_230 rfl ?_
                      refine v_goto X 237 dX8_who_232 (by decide) ?_
                      cases h
                      exact v_iret X dX8_who_237 rfl rfl
                  · replace h := (if_pos c91).symm.trans h
                    refine v_iload X dX8_who_220 rfl ?_
                    refine v_goto X 237 dX8_who_222 (by decide) ?_
                    cases h
                    exact v_iret X dX8_who_237 rfl rfl
                · replace h := (if_neg c90).symm.trans h
                  refine v_iload X dX8_who_210 rfl ?_
                  refine v_goto X 237 dX8_who_212 (by decide) ?_
                  cases h
                  exact v_iret X dX8_who_237 rfl rfl
          · replace h := (if_pos c17).symm.trans h
            refine v_iconst (v := 5) X dX8_who_74 (by decide) ?_
            refine v_goto X 90 dX8_who_75 (by decide) ?_
            refine v_istore (lc' := [some (.ref (ad (8, 0, 0))), some (.int x1), some (.int x2), some (.int x3), some (.int x4), some (.int x5), some (.int r15), some (.int (0 : Int32)), some (.int (0 : Int32)), some (.int (-1000000 : Int32)), some (.int (-1000000 : Int32)), some (.int (5 : Int32)), none]) X dX8_who_90 (by decide) rfl rfl ?_
            refine v_iloadn X dX8_who_92 rfl rfl ?_
            refine v_iconst (v := 1) X dX8_who_93 (by decide) ?_
            refine v_icmp_ne X 101 dX8_who_94 (by decide) (fun c93 => ?_) (fun c93 => ?_)
            · replace h := (if_neg c93).symm.trans h
              refine v_iconst (v := 1) X dX8_who_101 (by decide) ?_
              refine v_istore (lc' := [some (.ref (ad (8, 0, 0))), some (.int x1), some (.int x2), some (.int x3), some (.int x4), some (.int x5), some (.int r15), some (.int (0 : Int32)), some (.int (0 : Int32)), some (.int (-1000000 : Int32)), some (.int (-1000000 : Int32)), some (.int (5 : Int32)), some (.int (1 : Int32))]) X dX8_who_102 (by decide) rfl rfl ?_
              obtain ⟨x94, x95, x96, x97, x98, g99, q100, h⟩ := bd6_some h
              refine w_X8_who_104 X x1 x2 x3 x4 x5 r15 (5 : Int32) N (0 : Int32) (0 : Int32) (-1000000 : Int32) (-1000000 : Int32) (1 : Int32) g14 x94 x95 x96 x97 x98 g99 q100 ?_
              refine v_iloadn X dX8_who_205 rfl rfl ?_
              refine v_iconst (v := 2) X dX8_who_206 (by decide) ?_
              refine v_icmp_ge X 215 dX8_who_207 (by decide) (fun c101 => ?_) (fun c101 => ?_)
              · replace h := (if_pos c101).symm.trans h
                refine v_iloadn X dX8_who_215 rfl rfl ?_
                refine v_iconst (v := 2) X dX8_who_216 (by decide) ?_
                refine v_icmp_ne X 225 dX8_who_217 (by decide) (fun c102 => ?_) (fun c102 => ?_)
                · replace h := (if_neg c102).symm.trans h
                  refine v_iloadn X dX8_who_225 rfl rfl ?_
                  refine v_iconst (v := 3) X dX8_who_226 (by decide) ?_
                  refine v_icmp_ne X 235 dX8_who_227 (by decide) (fun c103 => ?_) (fun c103 => ?_)
                  · replace h := (if_neg c103).symm.trans h
                    refine v_iload X dX8_who_235 rfl ?_
                    cases h
                    exact v_iret X dX8_who_237 rfl rfl
                  · replace h := (if_pos c103).symm.trans h
                    refine v_iload X dX8_who_230 rfl ?_
                    refine v_goto X 237 dX8_who_232 (by decide) ?_
                    cases h
                    exact v_iret X dX8_who_237 rfl rfl
                · replace h := (if_pos c102).symm.trans h
                  refine v_iload X dX8_who_220 rfl ?_
                  refine v_goto X 237 dX8_who_222 (by decide) ?_
                  cases h
                  exact v_iret X dX8_who_237 rfl rfl
              · replace h := (if_neg c101).symm.trans h
                refine v_iload X dX8_who_210 rfl ?_
                refine v_goto X 237 dX8_who_212 (by decide) ?_
                cases h
                exact v_iret X dX8_who_237 rfl rfl
            · replace h := (if_pos c93).symm.trans h
              refine v_iconst (v := 0) X dX8_who_97 (by decide) ?_
              refine v_goto X 102 dX8_who_98 (by decide) ?_
              refine v_istore (lc' := [some (.ref (ad (8, 0, 0))), some (.int x1), some (.int x2), some (.int x3), some (.int x4), some (.int x5), some (.int r15), some (.int (0 : Int32)), some (.int (0 : Int32)), some (.int (-1000000 : Int32)), some (.int (-1000000 : Int32)), some (.int (5 : Int32)), some (.int (0 : Int32))]) X dX8_who_102 (by decide) rfl rfl ?_
              obtain ⟨x104, x105, x106, x107, x108, g109, q110, h⟩ := bd6_some h
              refine w_X8_who_104 X x1 x2 x3 x4 x5 r15 (5 : Int32) N (0 : Int32) (0 : Int32) (-1000000 : Int32) (-1000000 : Int32) (0 : Int32) g14 x104 x105 x106 x107 x108 g109 q110 ?_
              refine v_iloadn X dX8_who_205 rfl rfl ?_
              refine v_iconst (v := 2) X dX8_who_206 (by decide) ?_
              refine v_icmp_ge X 215 dX8_who_207 (by decide) (fun c111 => ?_) (fun c111 => ?_)
              · replace h := (if_pos c111).symm.trans h
                refine v_iloadn X dX8_who_215 rfl rfl ?_
                refine v_iconst (v := 2) X dX8_who_216 (by decide) ?_
                refine v_icmp_ne X 225 dX8_who_217 (by decide) (fun c112 => ?_) (fun c112 => ?_)
                · replace h := (if_neg c112).symm.trans h
                  refine v_iloadn X dX8_who_225 rfl rfl ?_
                  refine v_iconst (v := 3) X dX8_who_226 (by decide) ?_
                  refine v_icmp_ne X 235 dX8_who_227 (by decide) (fun c113 => ?_) (fun c113 => ?_)
                  · replace h := (if_neg c113).symm.trans h
                    refine v_iload X dX8_who_235 rfl ?_
                    cases h
                    exact v_iret X dX8_who_237 rfl rfl
                  · replace h := (if_pos c113).symm.trans h
                    refine v_iload X dX8_who_230 rfl ?_
                    refine v_goto X 237 dX8_who_232 (by decide) ?_
                    cases h
                    exact v_iret X dX8_who_237 rfl rfl
                · replace h := (if_pos c112).symm.trans h
                  refine v_iload X dX8_who_220 rfl ?_
                  refine v_goto X 237 dX8_who_222 (by decide) ?_
                  cases h
                  exact v_iret X dX8_who_237 rfl rfl
              · replace h := (if_neg c111).symm.trans h
                refine v_iload X dX8_who_210 rfl ?_
                refine v_goto X 237 dX8_who_212 (by decide) ?_
                cases h
                exact v_iret X dX8_who_237 rfl rfl
        · replace h := (if_neg c16).symm.trans h
          refine v_iload X dX8_who_53 rfl ?_
          cases h
          exact v_iret X dX8_who_55 rfl rfl
      · replace h := (if_pos c12).symm.trans h
        refine v_ldc X kc_X8_70 dX8_who_34 ?_
        cases h
        exact v_iret X dX8_who_36 rfl rfl
def L_X8_winds_68 (N : Nat) (z1 : Int32) (z2 : Int32) (z3 : Int32) (z4 : Int32) (z5 : Int32) (z6 : Int32) : Nat → Int32 → Int32 → GS → Option (Int32 × Int32 × GS)
  | 0, _, _, _ => none
  | n + 1, y7, y8, g => if (10 : Int32) ≤ y8 then some (y7, y8, g) else bd1 (F_X8_layThen N  g) (fun g21 => bd1 (ix ((5 : Int32) + z2) 53) (fun j22 => bd2 (F_X8_isSo N z1 (((40 : Int32) * z3) + z4) z5 (g3 g21 11 7 j22 y8)) (fun r26 g25 => if r26 = 0 then L_X8_winds_68 N z1 z2 z3 z4 z5 z6 n (y7 ||| (0 : Int32)) (y8 + 1) g25 else L_X8_winds_68 N z1 z2 z3 z4 z5 z6 n (y7 ||| ((1 : Int32) <<< (y8 &&& 31))) (y8 + 1) g25)))
def F_X8_winds (N : Nat) (x1 : Int32) (x2 : Int32) (x3 : Int32) (x4 : Int32) (x5 : Int32) (g : GS) : Option (Int32 × GS) := bd2 (F_X8_isPaper N x1 (g3 g 10 0 0 (0 : Int32))) (fun r3 g2 => if r3 = 0 then some ((-1000001 : Int32), g2) else bd1 (ix (1 : Int32) 53) (fun j5 => bd2 (F_X8_in N (x2.toInt64) (0 : Int64) (((g2 11 5 j5) - (1 : Int32)).toInt64) g2) (fun r9 g8 => if r9 = 0 then some ((-1000001 : Int32), g8) else bd2 (F_X8_isMany N x3 x5 g8) (fun r13 g12 => if r13 = 0 then some ((-1000001 : Int32), g12) else bd2 (F_X8_rowFound N x3 x4 x5 g12) (fun r17 g16 => if r17 = 0 then bd3 (L_X8_winds_68 N x1 x2 x3 x4 x5 r17 N (0 : Int32) (0 : Int32) g16) (fun x28 x29 g30 => some (x28, g30)) else some (r17, g16))))))
set_option maxRecDepth 100000 in
set_option maxHeartbeats 4000000 in
theorem w_X8_winds_68 {p : Program} {l : Launch} {e : Env} {s : State} {m : MethodId} {args : Array Value} {below : List Frame} {meth : Method} {c : Code} {D : va_G} {ad : Ky → Nat} {cy : Nat → ClassId} {r : Int32} {gq : GS} {N : Nat} (X : Cx p (rmd 7) s m args meth c RX8 cX8_winds 9 (some .int) D ad cy) (z1 : Int32) (z2 : Int32) (z3 : Int32) (z4 : Int32) (z5 : Int32) (z6 : Int32) : ∀ (n : Nat) (y7 : Int32) (y8 : Int32) (g : GS) (y7' : Int32) (y8' : Int32) (g' : GS), L_X8_winds_68 N z1 z2 z3 z4 z5 z6 n y7 y8 g = some (y7', y8', g') → Vy p l e (rmd 7) s m args below meth c 9 D ad cy (QI D ad cy below args s r gq) 125 [some (.ref (ad (8, 0, 0))), some (.int z1), some (.int z2), some (.int z3), some (.int z4), some (.int z5), some (.int z6), some (.int y7'), some (.int y8')] [] g' → Vy p l e (rmd 7) s m args below meth c 9 D ad cy (QI D ad cy below args s r gq) 68 [some (.ref (ad (8, 0, 0))), some (.int z1), some (.int z2), some (.int z3), some (.int z4), some (.int z5), some (.int z6), some (.int y7), some (.int y8)] [] g := by
  intro n
  induction n with
  | zero => intro y7 y8 g y7' y8' g' h k; cases h
  | succ n ih =>
    intro y7 y8 g y7' y8' g' h k
    rw [L_X8_winds_68] at h
    refine v_iload X dX8_winds_68 rfl ?_
    refine v_bipush (v := 10) X dX8_winds_70 (by decide) ?_
    refine v_icmp_ge X 125 dX8_winds_72 (by decide) (fun c19 => ?_) (fun c19 => ?_)
    · replace h := (if_pos c19).symm.trans h
      cases h
      exact k
    · replace h := (if_neg c19).symm.trans h
      refine v_aloadn X dX8_winds_75 rfl rfl ?_
      obtain ⟨g21, q20, h⟩ := bd1_some h
      refine v_callVV (As := []) (rest := []) X (c_X8_layThen l D ad cy X.2.2.2.2.2.2.2.2.1 N  g g21  q20) mw_X8_layThen ml_X8_232 (by decide) (by decide +kernel) (by decide) rfl rfl rfl rfl (Nat.le_of_ble_eq_true rfl) dX8_winds_76 ?_
      refine v_aloadn X dX8_winds_79 rfl rfl ?_
      refine gf_X8_25 X dX8_winds_80 ?_
      refine v_iconst (v := 5) X dX8_winds_83 (by decide) ?_
      refine v_iloadn X dX8_winds_84 rfl rfl ?_
      refine v_iadd X dX8_winds_85 ?_
      refine v_iload X dX8_winds_86 rfl ?_
      obtain ⟨j22, q23, h⟩ := bd1_some h
      obtain ⟨ej22, lj22⟩ := ix_spec q23
      refine asM X (by decide +kernel) j22 ej22 lj22 dX8_winds_88 ?_
      refine v_iload X dX8_winds_89 rfl ?_
      refine v_aloadn X dX8_winds_91 rfl rfl ?_
      refine v_iloadn X dX8_winds_92 rfl rfl ?_
      refine v_bipush (v := 40) X dX8_winds_93 (by decide) ?_
      refine v_iloadn X dX8_winds_95 rfl rfl ?_
      refine v_imul X dX8_winds_96 ?_
      refine v_iload X dX8_winds_97 rfl ?_
      refine v_iadd X dX8_winds_99 ?_
      refine v_iload X dX8_winds_100 rfl ?_
      obtain ⟨r26, g25, q24, h⟩ := bd2_some h
      refine v_callVI (As := [.int z1, .int (((40 : Int32) * z3) + z4), .int z5]) (rest := [.int y7]) X (c_X8_isSo l D ad cy X.2.2.2.2.2.2.2.2.1 N z1 (((40 : Int32) * z3) + z4) z5 (g3 g21 11 7 j22 y8) r26 g25  q24) mw_X8_isSo ml_X8_258 (by decide) (by decide +kernel) (by decide) rfl rfl rfl rfl (Nat.le_of_ble_eq_true rfl) dX8_winds_102 ?_
      refine v_if_eq X 115 dX8_winds_105 (by decide) (fun c27 => ?_) (fun c27 => ?_)
      · replace h := (if_pos c27).symm.trans h
        refine v_iconst (v := 0) X dX8_winds_115 (by decide) ?_
        refine v_ior X dX8_winds_116 ?_
        refine v_istore (lc' := [some (.ref (ad (8, 0, 0))), some (.int z1), some (.int z2), some (.int z3), some (.int z4), some (.int z5), some (.int z6), some (.int (y7 ||| (0 : Int32))), some (.int y8)]) X dX8_winds_117 (by decide) rfl rfl ?_
        refine v_iinc (v := (y8 + 1)) (lc' := [some (.ref (ad (8, 0, 0))), some (.int z1), some (.int z2), some (.int z3), some (.int z4), some (.int z5), some (.int z6), some (.int (y7 ||| (0 : Int32))), some (.int (y8 + 1))]) X dX8_winds_119 rfl rfl (by decide) rfl rfl ?_
        refine v_goto X 68 dX8_winds_122 (by decide) ?_
        exact ih (y7 ||| (0 : Int32)) (y8 + 1) g25 _ _ _ h k
      · replace h := (if_neg c27).symm.trans h
        refine v_iconst (v := 1) X dX8_winds_108 (by decide) ?_
        refine v_iload X dX8_winds_109 rfl ?_
        refine v_ishl X dX8_winds_111 ?_
        refine v_goto X 116 dX8_winds_112 (by decide) ?_
        refine v_ior X dX8_winds_116 ?_
        refine v_istore (lc' := [some (.ref (ad (8, 0, 0))), some (.int z1), some (.int z2), some (.int z3), some (.int z4), some (.int z5), some (.int z6), some (.int (y7 ||| ((1 : Int32) <<< (y8 &&& 31)))), some (.int y8)]) X dX8_winds_117 (by decide) rfl rfl ?_
        refine v_iinc (v := (y8 + 1)) (lc' := [some (.ref (ad (8, 0, 0))), some (.int z1), some (.int z2), some (.int z3), some (.int z4), some (.int z5), some (.int z6), some (.int (y7 ||| ((1 : Int32) <<< (y8 &&& 31)))), some (.int (y8 + 1))]) X dX8_winds_119 rfl rfl (by decide) rfl rfl ?_
        refine v_goto X 68 dX8_winds_122 (by decide) ?_
        exact ih (y7 ||| ((1 : Int32) <<< (y8 &&& 31))) (y8 + 1) g25 _ _ _ h k
set_option maxRecDepth 100000 in
set_option maxHeartbeats 4000000 in
theorem c_X8_winds (l : Launch) (D : va_G) (ad : Ky → Nat) (cy : Nat → ClassId) (hI : Inj ad) (N : Nat) (x1 : Int32) (x2 : Int32) (x3 : Int32) (x4 : Int32) (x5 : Int32) (g : GS) (r : Int32) (gq : GS) (h : F_X8_winds N x1 x2 x3 x4 x5 g = some (r, gq)) : CtI l D ad cy yX8_winds cX8_winds 9 (some .int) 7 [.ref (ad (8, 0, 0)), .int x1, .int x2, .int x3, .int x4, .int x5] g r gq := by
  refine CtI.of 3 hI (by decide +kernel) rfl (Nat.le_of_ble_eq_true rfl) (fun p e s m args below meth c X => ?_)
  unfold F_X8_winds at h
  show Vy _ _ _ _ _ _ _ _ _ _ _ _ _ _ _ 0 [some (.ref (ad (8, 0, 0))), some (.int x1), some (.int x2), some (.int x3), some (.int x4), some (.int x5), none, none, none] [] g
  refine v_aloadn X dX8_winds_0 rfl rfl ?_
  refine v_iconst (v := 0) X dX8_winds_1 (by decide) ?_
  refine pf_X8_50 X dX8_winds_2 ?_
  refine v_aloadn X dX8_winds_5 rfl rfl ?_
  refine v_iloadn X dX8_winds_6 rfl rfl ?_
  obtain ⟨r3, g2, q1, h⟩ := bd2_some h
  refine v_callVI (As := [.int x1]) (rest := []) X (c_X8_isPaper l D ad cy X.2.2.2.2.2.2.2.2.1 N x1 (g3 g 10 0 0 (0 : Int32)) r3 g2  q1) mw_X8_isPaper ml_X8_208 (by decide) (by decide +kernel) (by decide) rfl rfl rfl rfl (Nat.le_of_ble_eq_true rfl) dX8_winds_7 ?_
  refine v_if_eq X 40 dX8_winds_10 (by decide) (fun c4 => ?_) (fun c4 => ?_)
  · replace h := (if_pos c4).symm.trans h
    refine v_ldc X kc_X8_70 dX8_winds_40 ?_
    cases h
    exact v_iret X dX8_winds_42 rfl rfl
  · replace h := (if_neg c4).symm.trans h
    refine v_iloadn X dX8_winds_13 rfl rfl ?_
    refine v_i2l X dX8_winds_14 ?_
    refine v_lconst (v := 0) X dX8_winds_15 (by decide) ?_
    refine v_aloadn X dX8_winds_16 rfl rfl ?_
    refine gf_X8_19 X dX8_winds_17 ?_
    refine v_iconst (v := 1) X dX8_winds_20 (by decide) ?_
    obtain ⟨j5, q6, h⟩ := bd1_some h
    obtain ⟨ej5, lj5⟩ := ix_spec q6
    refine alM X (by decide +kernel) j5 ej5 lj5 dX8_winds_21 ?_
    refine v_iconst (v := 1) X dX8_winds_22 (by decide) ?_
    refine v_isub X dX8_winds_23 ?_
    refine v_i2l X dX8_winds_24 ?_
    obtain ⟨r9, g8, q7, h⟩ := bd2_some h
    refine v_callSI (As := [.long (x2.toInt64), .long (0 : Int64), .long (((g2 11 5 j5) - (1 : Int32)).toInt64)]) (rest := []) X (c_X8_in l D ad cy X.2.2.2.2.2.2.2.2.1 N (x2.toInt64) (0 : Int64) (((g2 11 5 j5) - (1 : Int32)).toInt64) g2 r9 g8  q7) mw_X8_in ml_X8_60 (by decide) rfl rfl (Nat.le_of_ble_eq_true rfl) dX8_winds_25 ?_
    refine v_if_eq X 40 dX8_winds_28 (by decide) (fun c10 => ?_) (fun c10 => ?_)
    · replace h := (if_pos c10).symm.trans h
      refine v_ldc X kc_X8_70 dX8_winds_40 ?_
      cases h
      exact v_iret X dX8_winds_42 rfl rfl
    · replace h := (if_neg c10).symm.trans h
      refine v_iloadn X dX8_winds_31 rfl rfl ?_
      refine v_iload X dX8_winds_32 rfl ?_
      obtain ⟨r13, g12, q11, h⟩ := bd2_some h
      refine v_callSI (As := [.int x3, .int x5]) (rest := []) X (c_X8_isMany l D ad cy X.2.2.2.2.2.2.2.2.1 N x3 x5 g8 r13 g12  q11) mw_X8_isMany ml_X8_251 (by decide) rfl rfl (Nat.le_of_ble_eq_true rfl) dX8_winds_34 ?_
      refine v_if_ne X 43 dX8_winds_37 (by decide) (fun c14 => ?_) (fun c14 => ?_)
      · replace h := (if_neg c14).symm.trans h
        refine v_aloadn X dX8_winds_43 rfl rfl ?_
        refine v_iloadn X dX8_winds_44 rfl rfl ?_
        refine v_iload X dX8_winds_45 rfl ?_
        refine v_iload X dX8_winds_47 rfl ?_
        obtain ⟨r17, g16, q15, h⟩ := bd2_some h
        refine v_callVI (As := [.int x3, .int x4, .int x5]) (rest := []) X (c_X8_rowFound l D ad cy X.2.2.2.2.2.2.2.2.1 N x3 x4 x5 g12 r17 g16  q15) mw_X8_rowFound ml_X8_254 (by decide) (by decide +kernel) (by decide) rfl rfl rfl rfl (Nat.le_of_ble_eq_true rfl) dX8_winds_49 ?_
        refine v_istore (lc' := [some (.ref (ad (8, 0, 0))), some (.int x1), some (.int x2), some (.int x3), some (.int x4), some (.int x5), some (.int r17), none, none]) X dX8_winds_52 (by decide) rfl rfl ?_
        refine v_iload X dX8_winds_54 rfl ?_
        refine v_if_eq X 62 dX8_winds_56 (by decide) (fun c18 => ?_) (fun c18 => ?_)
        · replace h := (if_pos c18).symm.trans h
          refine v_iconst (v := 0) X dX8_winds_62 (by decide) ?_
          refine v_istore (lc' := [some (.ref (ad (8, 0, 0))), some (.int x1), some (.int x2), some (.int x3), some (.int x4), some (.int x5), some (.int r17), some (.int (0 : Int32)), none]) X dX8_winds_63 (by decide) rfl rfl ?_
          refine v_iconst (v := 0) X dX8_winds_65 (by decide) ?_
          refine v_istore (lc' := [some (.ref (ad (8, 0, 0))), some (.int x1), some (.int x2), some (.int x3), some (.int x4), some (.int x5), some (.int r17), some (.int (0 : Int32)), some (.int (0 : Int32))]) X dX8_winds_66 (by decide) rfl rfl ?_
          obtain ⟨x28, x29, g30, q31, h⟩ := bd3_some h
          refine w_X8_winds_68 X x1 x2 x3 x4 x5 r17 N (0 : Int32) (0 : Int32) g16 x28 x29 g30 q31 ?_
          refine v_iload X dX8_winds_125 rfl ?_
          cases h
          exact v_iret X dX8_winds_127 rfl rfl
        · replace h := (if_neg c18).symm.trans h
          refine v_iload X dX8_winds_59 rfl ?_
          cases h
          exact v_iret X dX8_winds_61 rfl rfl
      · replace h := (if_pos c14).symm.trans h
        refine v_ldc X kc_X8_70 dX8_winds_40 ?_
        cases h
        exact v_iret X dX8_winds_42 rfl rfl
