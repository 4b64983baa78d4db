def F_X8_drop (N : Nat) (x1 : Int32) (g : GS) : Option (Int32 × GS) := bd2 (F_X8_isRow N x1 (g3 g 10 0 0 (0 : Int32))) (fun rv3 gv2 => if rv3 = 0 then some ((-1000001 : Int32), gv2) else bd1 (ix x1 8) (fun jv5 => if 0 ≤ (gv2 11 2 jv5) then some ((gv2 11 3 jv5), (g3 (g3 gv2 10 0 1 (0 : Int32)) 11 2 jv5 (-1 : Int32))) else bd2 (F_X8_finding N (1 : Int32) (g3 gv2 10 0 1 (0 : Int32))) (fun rv10 gv9 => some (rv10, gv9))))
set_option maxRecDepth 100000 in
set_option maxHeartbeats 4000000 in
theorem c_X8_drop (l : Launch) (D : va_G) (ad : Ky → Nat) (cy : Nat → ClassId) (hI : Inj ad) (N : Nat) (x1 : Int32) (g : GS) (r : Int32) (gq : GS) (h : F_X8_drop N x1 g = some (r, gq)) : CtI l D ad cy yX8_drop cX8_drop 2 (some .int) 2 [.ref (ad (8, 0, 0)), .int x1] g r gq := by
  refine CtI.of 0 hI (by decide +kernel) rfl (Nat.le_of_ble_eq_true rfl) (fun p e s m args below meth c X => ?_)
  unfold F_X8_drop at h
  show Vy _ _ _ _ _ _ _ _ _ _ _ _ _ _ _ 0 [some (.ref (ad (8, 0, 0))), some (.int x1)] [] g
  refine v_aloadn X dX8_drop_0 rfl rfl ?_
  refine v_iconst (v := 0) X dX8_drop_1 (by decide) ?_
  refine pf_X8_50 X dX8_drop_2 ?_
  refine v_iloadn X dX8_drop_5 rfl rfl ?_
  obtain ⟨rv3, gv2, qv1, h⟩ := bd2_some h
  refine v_callSI (As := [.int x1]) (rest := []) X (c_X8_isRow l D ad cy X.2.2.2.2.2.2.2.2.1 N x1 (g3 g 10 0 0 (0 : Int32)) rv3 gv2  qv1) mw_X8_isRow ml_X8_64 (by decide) rfl rfl (Nat.le_of_ble_eq_true rfl) dX8_drop_6 ?_
  refine v_if_ne X 15 dX8_drop_9 (by decide) (fun cv4 => ?_) (fun cv4 => ?_)
  · replace h := (if_neg cv4).symm.trans h
    refine v_aloadn X dX8_drop_15 rfl rfl ?_
    refine v_iconst (v := 0) X dX8_drop_16 (by decide) ?_
    refine pf_X8_54 X dX8_drop_17 ?_
    refine v_aloadn X dX8_drop_20 rfl rfl ?_
    refine gf_X8_7 X dX8_drop_21 ?_
    refine v_iloadn X dX8_drop_24 rfl rfl ?_
    obtain ⟨jv5, qv6, h⟩ := bd1_some h
    obtain ⟨ejv5, ljv5⟩ := ix_spec qv6
    refine alM X (by decide +kernel) jv5 ejv5 ljv5 dX8_drop_25 ?_
    refine v_vali (v2 := (gv2 11 2 jv5)) rfl ?_
    refine v_if_ge X 35 dX8_drop_26 (by decide) (fun cv7 => ?_) (fun cv7 => ?_)
    · replace h := (if_pos cv7).symm.trans h
      refine v_aloadn X dX8_drop_35 rfl rfl ?_
      refine gf_X8_7 X dX8_drop_36 ?_
      refine v_iloadn X dX8_drop_39 rfl rfl ?_
      refine v_iconst (v := -1) X dX8_drop_40 (by decide) ?_
      refine asM X (by decide +kernel) jv5 ejv5 ljv5 dX8_drop_41 ?_
      refine v_aloadn X dX8_drop_42 rfl rfl ?_
      refine gf_X8_13 X dX8_drop_43 ?_
      refine v_iloadn X dX8_drop_46 rfl rfl ?_
      refine alM X (by decide +kernel) jv5 ejv5 ljv5 dX8_drop_47 ?_
      refine v_vali (v2 := (gv2 11 3 jv5)) rfl ?_
      obtain ⟨er, eg⟩ := Prod.mk.inj (Option.some.inj h)
      exact v_iret X dX8_drop_48 er eg
    · replace h := (if_neg cv7).symm.trans h
      refine v_aloadn X dX8_drop_29 rfl rfl ?_
      refine v_iconst (v := 1) X dX8_drop_30 (by decide) ?_
      obtain ⟨rv10, gv9, qv8, h⟩ := bd2_some h
      refine v_callVI (As := [.int (1 : Int32)]) (rest := []) X (c_X8_finding l D ad cy X.2.2.2.2.2.2.2.2.1 N (1 : Int32) (g3 gv2 10 0 1 (0 : Int32)) rv10 gv9  qv8) mw_X8_finding ml_X8_71 (by decide) (by decide +kernel) (by decide) rfl rfl rfl rfl (Nat.le_of_ble_eq_true rfl) dX8_drop_31 ?_
      obtain ⟨er, eg⟩ := Prod.mk.inj (Option.some.inj h)
      exact v_iret X dX8_drop_34 er eg
  · replace h := (if_pos cv4).symm.trans h
    refine v_ldc X kc_X8_70 dX8_drop_12 ?_
    obtain ⟨er, eg⟩ := Prod.mk.inj (Option.some.inj h)
    exact v_iret X dX8_drop_14 er eg
def F_X8_failed (N : Nat) (g : GS) : Option (Int32 × GS) := if (g 10 0 17) = 0 then if (g 10 0 15) = (1 : Int32) then if (g 10 0 17) ≤ 0 then if (g 10 0 17) ≤ 0 then some ((0 : Int32), (g3 (g3 g 10 0 12 (0 : Int32)) 10 0 19 (g 10 0 19))) else some ((1 : Int32), (g3 (g3 g 10 0 12 (0 : Int32)) 10 0 19 (g 10 0 19))) else if (g 10 0 17) ≤ 0 then some ((0 : Int32), (g3 (g3 g 10 0 12 (0 : Int32)) 10 0 19 (g 10 0 17))) else some ((1 : Int32), (g3 (g3 g 10 0 12 (0 : Int32)) 10 0 19 (g 10 0 17))) else bd1 (F_X8_bad N (1 : Int32) g) (fun gv10 => if (gv10 10 0 17) ≤ 0 then if (gv10 10 0 17) ≤ 0 then some ((0 : Int32), (g3 (g3 gv10 10 0 12 (0 : Int32)) 10 0 19 (gv10 10 0 19))) else some ((1 : Int32), (g3 (g3 gv10 10 0 12 (0 : Int32)) 10 0 19 (gv10 10 0 19))) else if (gv10 10 0 17) ≤ 0 then some ((0 : Int32), (g3 (g3 gv10 10 0 12 (0 : Int32)) 10 0 19 (gv10 10 0 17))) else some ((1 : Int32), (g3 (g3 gv10 10 0 12 (0 : Int32)) 10 0 19 (gv10 10 0 17)))) else if (g 10 0 17) ≤ 0 then if (g 10 0 17) ≤ 0 then some ((0 : Int32), (g3 (g3 g 10 0 12 (0 : Int32)) 10 0 19 (g 10 0 19))) else some ((1 : Int32), (g3 (g3 g 10 0 12 (0 : Int32)) 10 0 19 (g 10 0 19))) else if (g 10 0 17) ≤ 0 then some ((0 : Int32), (g3 (g3 g 10 0 12 (0 : Int32)) 10 0 19 (g 10 0 17))) else some ((1 : Int32), (g3 (g3 g 10 0 12 (0 : Int32)) 10 0 19 (g 10 0 17)))
set_option maxRecDepth 100000 in
set_option maxHeartbeats 4000000 in
theorem c_X8_failed (l : Launch) (D : va_G) (ad : Ky → Nat) (cy : Nat → ClassId) (hI : Inj ad) (N : Nat) (g : GS) (r : Int32) (gq : GS) (h : F_X8_failed N  g = some (r, gq)) : CtI l D ad cy yX8_failed cX8_failed 1 (some .boolean) 1 [.ref (ad (8, 0, 0))] g r gq := by
  refine CtI.of 0 hI (by decide +kernel) rfl (Nat.le_of_ble_eq_true rfl) (fun p e s m args below meth c X => ?_)
  unfold F_X8_failed at h
  show Vy _ _ _ _ _ _ _ _ _ _ _ _ _ _ _ 0 [some (.ref (ad (8, 0, 0)))] [] g
  refine v_aloadn X dX8_failed_0 rfl rfl ?_
  refine gf_X8_81 X dX8_failed_1 ?_
  refine v_if_ne X 20 dX8_failed_4 (by decide) (fun cv1 => ?_) (fun cv1 => ?_)
  · replace h := (if_neg cv1).symm.trans h
    refine v_aloadn X dX8_failed_20 rfl rfl ?_
    refine v_iconst (v := 0) X dX8_failed_21 (by decide) ?_
    refine pf_X8_77 X dX8_failed_22 ?_
    refine v_aloadn X dX8_failed_25 rfl rfl ?_
    refine v_aloadn X dX8_failed_26 rfl rfl ?_
    refine gf_X8_81 X dX8_failed_27 ?_
    refine v_vali (v2 := (g 10 0 17)) rfl ?_
    refine v_if_le X 40 dX8_failed_30 (by decide) (fun cv2 => ?_) (fun cv2 => ?_)
    · replace h := (if_pos cv2).symm.trans h
      refine v_aloadn X dX8_failed_40 rfl rfl ?_
      refine gf_X8_119 X dX8_failed_41 ?_
      refine v_vali (v2 := (g 10 0 19)) rfl ?_
      refine pf_X8_119 X dX8_failed_44 ?_
      refine v_aloadn X dX8_failed_47 rfl rfl ?_
      refine gf_X8_81 X dX8_failed_48 ?_
      refine v_vali (v2 := (g 10 0 17)) rfl ?_
      refine v_if_le X 58 dX8_failed_51 (by decide) (fun cv3 => ?_) (fun cv3 => ?_)
      · replace h := (if_pos cv3).symm.trans h
        refine v_iconst (v := 0) X dX8_failed_58 (by decide) ?_
        obtain ⟨er, eg⟩ := Prod.mk.inj (Option.some.inj h)
        exact v_zret X dX8_failed_59 rfl er eg
      · replace h := (if_neg cv3).symm.trans h
        refine v_iconst (v := 1) X dX8_failed_54 (by decide) ?_
        refine v_goto X 59 dX8_failed_55 (by decide) ?_
        obtain ⟨er, eg⟩ := Prod.mk.inj (Option.some.inj h)
        exact v_zret X dX8_failed_59 rfl er eg
    · replace h := (if_neg cv2).symm.trans h
      refine v_aloadn X dX8_failed_33 rfl rfl ?_
      refine gf_X8_81 X dX8_failed_34 ?_
      refine v_vali (v2 := (g 10 0 17)) rfl ?_
      refine v_goto X 44 dX8_failed_37 (by decide) ?_
      refine pf_X8_119 X dX8_failed_44 ?_
      refine v_aloadn X dX8_failed_47 rfl rfl ?_
      refine gf_X8_81 X dX8_failed_48 ?_
      refine v_vali (v2 := (g 10 0 17)) rfl ?_
      refine v_if_le X 58 dX8_failed_51 (by decide) (fun cv4 => ?_) (fun cv4 => ?_)
      · replace h := (if_pos cv4).symm.trans h
        refine v_iconst (v := 0) X dX8_failed_58 (by decide) ?_
        obtain ⟨er, eg⟩ := Prod.mk.inj (Option.some.inj h)
        exact v_zret X dX8_failed_59 rfl er eg
      · replace h := (if_neg cv4).symm.trans h
        refine v_iconst (v := 1) X dX8_failed_54 (by decide) ?_
        refine v_goto X 59 dX8_failed_55 (by decide) ?_
        obtain ⟨er, eg⟩ := Prod.mk.inj (Option.some.inj h)
        exact v_zret X dX8_failed_59 rfl er eg
  · replace h := (if_pos cv1).symm.trans h
    refine v_aloadn X dX8_failed_7 rfl rfl ?_
    refine gf_X8_105 X dX8_failed_8 ?_
    refine v_iconst (v := 1) X dX8_failed_11 (by decide) ?_
    refine v_icmp_eq X 20 dX8_failed_12 (by decide) (fun cv5 => ?_) (fun cv5 => ?_)
    · replace h := (if_pos cv5).symm.trans h
      refine v_aloadn X dX8_failed_20 rfl rfl ?_
      refine v_iconst (v := 0) X dX8_failed_21 (by decide) ?_
      refine pf_X8_77 X dX8_failed_22 ?_
      refine v_aloadn X dX8_failed_25 rfl rfl ?_
      refine v_aloadn X dX8_failed_26 rfl rfl ?_
      refine gf_X8_81 X dX8_failed_27 ?_
      refine v_vali (v2 := (g 10 0 17)) rfl ?_
      refine v_if_le X 40 dX8_failed_30 (by decide) (fun cv6 => ?_) (fun cv6 => ?_)
      · replace h := (if_pos cv6).symm.trans h
        refine v_aloadn X dX8_failed_40 rfl rfl ?_
        refine gf_X8_119 X dX8_failed_41 ?_
        refine v_vali (v2 := (g 10 0 19)) rfl ?_
        refine pf_X8_119 X dX8_failed_44 ?_
        refine v_aloadn X dX8_failed_47 rfl rfl ?_
        refine gf_X8_81 X dX8_failed_48 ?_
        refine v_vali (v2 := (g 10 0 17)) rfl ?_
        refine v_if_le X 58 dX8_failed_51 (by decide) (fun cv7 => ?_) (fun cv7 => ?_)
        · replace h := (if_pos cv7).symm.trans h
          refine v_iconst (v := 0) X dX8_failed_58 (by decide) ?_
          obtain ⟨er, eg⟩ := Prod.mk.inj (Option.some.inj h)
          exact v_zret X dX8_failed_59 rfl er eg
        · replace h := (if_neg cv7).symm.trans h
          refine v_iconst (v := 1) X dX8_failed_54 (by decide) ?_
          refine v_goto X 59 dX8_failed_55 (by decide) ?_
          obtain ⟨er, eg⟩ := Prod.mk.inj (Option.some.inj h)
          exact v_zret X dX8_failed_59 rfl er eg
      · replace h := (if_neg cv6).symm.trans h
        refine v_aloadn X dX8_failed_33 rfl rfl ?_
        refine gf_X8_81 X dX8_failed_34 ?_
        refine v_vali (v2 := (g 10 0 17)) rfl ?_
        refine v_goto X 44 dX8_failed_37 (by decide) ?_
        refine pf_X8_119 X dX8_failed_44 ?_
        refine v_aloadn X dX8_failed_47 rfl rfl ?_
        refine gf_X8_81 X dX8_failed_48 ?_
        refine v_vali (v2 := (g 10 0 17)) rfl ?_
        refine v_if_le X 58 dX8_failed_51 (by decide) (fun cv8 => ?_) (fun cv8 => ?_)
        · replace h := (if_pos cv8).symm.trans h
          refine v_iconst (v := 0) X dX8_failed_58 (by decide) ?_
          obtain ⟨er, eg⟩ := Prod.mk.inj (Option.some.inj h)
          exact v_zret X dX8_failed_59 rfl er eg
        · replace h := (if_neg cv8).symm.trans h
          refine v_iconst (v := 1) X dX8_failed_54 (by decide) ?_
          refine v_goto X 59 dX8_failed_55 (by decide) ?_
          obtain ⟨er, eg⟩ := Prod.mk.inj (Option.some.inj h)
          exact v_zret X dX8_failed_59 rfl er eg
    · replace h := (if_neg cv5).symm.trans h
      refine v_aloadn X dX8_failed_15 rfl rfl ?_
      refine v_iconst (v := 1) X dX8_failed_16 (by decide) ?_
      obtain ⟨gv10, qv9, h⟩ := bd1_some h
      refine v_callVV (As := [.int (1 : Int32)]) (rest := []) X (c_X8_bad l D ad cy X.2.2.2.2.2.2.2.2.1 N (1 : Int32) g gv10  qv9) mw_X8_bad ml_X8_108 (by decide) (by decide +kernel) (by decide) rfl rfl rfl rfl (Nat.le_of_ble_eq_true rfl) dX8_failed_17 ?_
      refine v_aloadn X dX8_failed_20 rfl rfl ?_
      refine v_iconst (v := 0) X dX8_failed_21 (by decide) ?_
      refine pf_X8_77 X dX8_failed_22 ?_
      refine v_aloadn X dX8_failed_25 rfl rfl ?_
      refine v_aloadn X dX8_failed_26 rfl rfl ?_
      refine gf_X8_81 X dX8_failed_27 ?_
      refine v_vali (v2 := (gv10 10 0 17)) rfl ?_
      refine v_if_le X 40 dX8_failed_30 (by decide) (fun cv11 => ?_) (fun cv11 => ?_)
      · replace h := (if_pos cv11).symm.trans h
        refine v_aloadn X dX8_failed_40 rfl rfl ?_
        refine gf_X8_119 X dX8_failed_41 ?_
        refine v_vali (v2 := (gv10 10 0 19)) rfl ?_
        refine pf_X8_119 X dX8_failed_44 ?_
        refine v_aloadn X dX8_failed_47 rfl rfl ?_
        refine gf_X8_81 X dX8_failed_48 ?_
        refine v_vali (v2 := (gv10 10 0 17)) rfl ?_
        refine v_if_le X 58 dX8_failed_51 (by decide) (fun cv12 => ?_) (fun cv12 => ?_)
        · replace h := (if_pos cv12).symm.trans h
          refine v_iconst (v := 0) X dX8_failed_58 (by decide) ?_
          obtain ⟨er, eg⟩ := Prod.mk.inj (Option.some.inj h)
          exact v_zret X dX8_failed_59 rfl er eg
        · replace h := (if_neg cv12).symm.trans h
          refine v_iconst (v := 1) X dX8_failed_54 (by decide) ?_
          refine v_goto X 59 dX8_failed_55 (by decide) ?_
          obtain ⟨er, eg⟩ := Prod.mk.inj (Option.some.inj h)
          exact v_zret X dX8_failed_59 rfl er eg
      · replace h := (if_neg cv11).symm.trans h
        refine v_aloadn X dX8_failed_33 rfl rfl ?_
        refine gf_X8_81 X dX8_failed_34 ?_
        refine v_vali (v2 := (gv10 10 0 17)) rfl ?_
        refine v_goto X 44 dX8_failed_37 (by decide) ?_
        refine pf_X8_119 X dX8_failed_44 ?_
        refine v_aloadn X dX8_failed_47 rfl rfl ?_
        refine gf_X8_81 X dX8_failed_48 ?_
        refine v_vali (v2 := (gv10 10 0 17)) rfl ?_
        refine v_if_le X 58 dX8_failed_51 (by decide) (fun cv13 => ?_) (fun cv13 => ?_)
        · replace h := (if_pos cv13).symm.trans h
          refine v_iconst (v := 0) X dX8_failed_58 (by decide) ?_
          obtain ⟨er, eg⟩ := Prod.mk.inj (Option.some.inj h)
          exact v_zret X dX8_failed_59 rfl er eg
        · replace h := (if_neg cv13).symm.trans h
          refine v_iconst (v := 1) X dX8_failed_54 (by decide) ?_
          refine v_goto X 59 dX8_failed_55 (by decide) ?_
          obtain ⟨er, eg⟩ := Prod.mk.inj (Option.some.inj h)
          exact v_zret X dX8_failed_59 rfl er eg
def F_X8_fault (N : Nat) (g : GS) : Option (Int32 × GS) := some ((g 10 0 19), (g3 g 10 0 0 (0 : Int32)))
set_option maxRecDepth 100000 in
set_option maxHeartbeats 4000000 in
theorem c_X8_fault (l : Launch) (D : va_G) (ad : Ky → Nat) (cy : Nat → ClassId) (hI : Inj ad) (N : Nat) (g : GS) (r : Int32) (gq : GS) (h : F_X8_fault N  g = some (r, gq)) : CtI l D ad cy yX8_fault cX8_fault 1 (some .int) 0 [.ref (ad (8, 0, 0))] g r gq := by
  refine CtI.of 0 hI (by decide +kernel) rfl (Nat.le_of_ble_eq_true rfl) (fun p e s m args below meth c X => ?_)
  unfold F_X8_fault at h
  show Vy _ _ _ _ _ _ _ _ _ _ _ _ _ _ _ 0 [some (.ref (ad (8, 0, 0)))] [] g
  refine v_aloadn X dX8_fault_0 rfl rfl ?_
  refine v_iconst (v := 0) X dX8_fault_1 (by decide) ?_
  refine pf_X8_50 X dX8_fault_2 ?_
  refine v_aloadn X dX8_fault_5 rfl rfl ?_
  refine gf_X8_119 X dX8_fault_6 ?_
  refine v_vali (v2 := (g 10 0 19)) rfl ?_
  obtain ⟨er, eg⟩ := Prod.mk.inj (Option.some.inj h)
  exact v_iret X dX8_fault_9 er eg
def F_X8_feed (N : Nat) (x1 : Int32) (g : GS) : Option (Int32 × GS) := bd2 (F_X8_in N (x1.toInt64) (0 : Int64) (255 : Int64) (g3 g 10 0 0 (0 : Int32))) (fun rv3 gv2 => if rv3 = 0 then some ((-1000001 : Int32), gv2) else if (gv2 10 0 12) = (100 : Int32) then some ((-1000003 : Int32), gv2) else bd1 (ix (gv2 10 0 12) 100) (fun jv6 => some (((gv2 10 0 12) + (1 : Int32)), (g3 (g3 gv2 11 11 jv6 x1) 10 0 12 ((gv2 10 0 12) + (1 : Int32))))))
set_option maxRecDepth 100000 in
set_option maxHeartbeats 4000000 in
theorem c_X8_feed (l : Launch) (D : va_G) (ad : Ky → Nat) (cy : Nat → ClassId) (hI : Inj ad) (N : Nat) (x1 : Int32) (g : GS) (r : Int32) (gq : GS) (h : F_X8_feed N x1 g = some (r, gq)) : CtI l D ad cy yX8_feed cX8_feed 2 (some .int) 1 [.ref (ad (8, 0, 0)), .int x1] g r gq := by
  refine CtI.of 0 hI (by decide +kernel) rfl (Nat.le_of_ble_eq_true rfl) (fun p e s m args below meth c X => ?_)
  unfold F_X8_feed at h
  show Vy _ _ _ _ _ _ _ _ _ _ _ _ _ _ _ 0 [some (.ref (ad (8, 0, 0))), some (.int x1)] [] g
  refine v_aloadn X dX8_feed_0 rfl rfl ?_
  refine v_iconst (v := 0) X dX8_feed_1 (by decide) ?_
  refine pf_X8_50 X dX8_feed_2 ?_
  refine v_iloadn X dX8_feed_5 rfl rfl ?_
  refine v_i2l X dX8_feed_6 ?_
  refine v_lconst (v := 0) X dX8_feed_7 (by decide) ?_
  refine v_ldc2 X kl_X8_75 dX8_feed_8 ?_
  obtain ⟨rv3, gv2, qv1, h⟩ := bd2_some h
  refine v_callSI (As := [.long (x1.toInt64), .long (0 : Int64), .long (255 : Int64)]) (rest := []) X (c_X8_in l D ad cy X.2.2.2.2.2.2.2.2.1 N (x1.toInt64) (0 : Int64) (255 : Int64) (g3 g 10 0 0 (0 : Int32)) rv3 gv2  qv1) mw_X8_in ml_X8_60 (by decide) rfl rfl (Nat.le_of_ble_eq_true rfl) dX8_feed_11 ?_
  refine v_if_ne X 20 dX8_feed_14 (by decide) (fun cv4 => ?_) (fun cv4 => ?_)
  · replace h := (if_neg cv4).symm.trans h
    refine v_aloadn X dX8_feed_20 rfl rfl ?_
    refine gf_X8_77 X dX8_feed_21 ?_
    refine v_bipush (v := 100) X dX8_feed_24 (by decide) ?_
    refine v_icmp_ne X 32 dX8_feed_26 (by decide) (fun cv5 => ?_) (fun cv5 => ?_)
    · replace h := (if_neg cv5).symm.trans h
      refine v_aloadn X dX8_feed_32 rfl rfl ?_
      refine gf_X8_34 X dX8_feed_33 ?_
      refine v_aloadn X dX8_feed_36 rfl rfl ?_
      refine gf_X8_77 X dX8_feed_37 ?_
      refine v_iloadn X dX8_feed_40 rfl rfl ?_
      obtain ⟨jv6, qv7, h⟩ := bd1_some h
      obtain ⟨ejv6, ljv6⟩ := ix_spec qv7
      refine asM X (by decide +kernel) jv6 ejv6 ljv6 dX8_feed_41 ?_
      refine v_aloadn X dX8_feed_42 rfl rfl ?_
      refine v_dup X dX8_feed_43 rfl ?_
      refine gf_X8_77 X dX8_feed_44 ?_
      refine v_vali (v2 := (gv2 10 0 12)) rfl ?_
      refine v_iconst (v := 1) X dX8_feed_47 (by decide) ?_
      refine v_iadd X dX8_feed_48 ?_
      refine pf_X8_77 X dX8_feed_49 ?_
      refine v_aloadn X dX8_feed_52 rfl rfl ?_
      refine gf_X8_77 X dX8_feed_53 ?_
      refine v_vali (v2 := ((gv2 10 0 12) + (1 : Int32))) rfl ?_
      obtain ⟨er, eg⟩ := Prod.mk.inj (Option.some.inj h)
      exact v_iret X dX8_feed_56 er eg
    · replace h := (if_pos cv5).symm.trans h
      refine v_ldc X kc_X8_80 dX8_feed_29 ?_
      obtain ⟨er, eg⟩ := Prod.mk.inj (Option.some.inj h)
      exact v_iret X dX8_feed_31 er eg
  · replace h := (if_pos cv4).symm.trans h
    refine v_ldc X kc_X8_70 dX8_feed_17 ?_
    obtain ⟨er, eg⟩ := Prod.mk.inj (Option.some.inj h)
    exact v_iret X dX8_feed_19 er eg
def F_X8_force (N : Nat) (x1 : Int32) (g : GS) : Option (Int32 × GS) := bd2 (F_X8_isThere N  (g3 g 10 0 0 (0 : Int32))) (fun rv3 gv2 => if rv3 = 0 then some ((-1000002 : Int32), gv2) else bd2 (F_X8_in N (x1.toInt64) (0 : Int64) (60 : Int64) gv2) (fun rv7 gv6 => if rv7 = 0 then some ((-1000001 : Int32), gv6) else bd1 (ix (4 : Int32) 53) (fun jv9 => bd2 (F_X8_forceOf N 5 ((gv6 11 5 jv9) + x1) gv6) (fun rv13 gv12 => some (rv13, gv12)))))
set_option maxRecDepth 100000 in
set_option maxHeartbeats 4000000 in
theorem c_X8_force (l : Launch) (D : va_G) (ad : Ky → Nat) (cy : Nat → ClassId) (hI : Inj ad) (N : Nat) (x1 : Int32) (g : GS) (r : Int32) (gq : GS) (h : F_X8_force N x1 g = some (r, gq)) : CtI l D ad cy yX8_force cX8_force 2 (some .int) 1 [.ref (ad (8, 0, 0)), .int x1] g r gq := by
  refine CtI.of 0 hI (by decide +kernel) rfl (Nat.le_of_ble_eq_true rfl) (fun p e s m args below meth c X => ?_)
  unfold F_X8_force at h
  show Vy _ _ _ _ _ _ _ _ _ _ _ _ _ _ _ 0 [some (.ref (ad (8, 0, 0))), some (.int x1)] [] g
  refine v_aloadn X dX8_force_0 rfl rfl ?_
  refine v_iconst (v := 0) X dX8_force_1 (by decide) ?_
  refine pf_X8_50 X dX8_force_2 ?_
  refine v_aloadn X dX8_force_5 rfl rfl ?_
  obtain ⟨rv3, gv2, qv1, h⟩ := bd2_some h
  refine v_callVI (As := []) (rest := []) X (c_X8_isThere l D ad cy X.2.2.2.2.2.2.2.2.1 N  (g3 g 10 0 0 (0 : Int32)) rv3 gv2  qv1) mw_X8_isThere ml_X8_195 (by decide) (by decide +kernel) (by decide) rfl rfl rfl rfl (Nat.le_of_ble_eq_true rfl) dX8_force_6 ?_
  refine v_if_ne X 15 dX8_force_9 (by decide) (fun cv4 => ?_) (fun cv4 => ?_)
  · replace h := (if_neg cv4).symm.trans h
    refine v_iloadn X dX8_force_15 rfl rfl ?_
    refine v_i2l X dX8_force_16 ?_
    refine v_lconst (v := 0) X dX8_force_17 (by decide) ?_
    refine v_ldc2 X kl_X8_225 dX8_force_18 ?_
    obtain ⟨rv7, gv6, qv5, h⟩ := bd2_some h
    refine v_callSI (As := [.long (x1.toInt64), .long (0 : Int64), .long (60 : Int64)]) (rest := []) X (c_X8_in l D ad cy X.2.2.2.2.2.2.2.2.1 N (x1.toInt64) (0 : Int64) (60 : Int64) gv2 rv7 gv6  qv5) mw_X8_in ml_X8_60 (by decide) rfl rfl (Nat.le_of_ble_eq_true rfl) dX8_force_21 ?_
    refine v_if_eq X 45 dX8_force_24 (by decide) (fun cv8 => ?_) (fun cv8 => ?_)
    · replace h := (if_pos cv8).symm.trans h
      refine v_ldc X kc_X8_70 dX8_force_45 ?_
      obtain ⟨er, eg⟩ := Prod.mk.inj (Option.some.inj h)
      exact v_iret X dX8_force_47 er eg
    · replace h := (if_neg cv8).symm.trans h
      refine v_aloadn X dX8_force_27 rfl rfl ?_
      refine gf_X8_19 X dX8_force_28 ?_
      refine v_aloadn X dX8_force_31 rfl rfl ?_
      refine gf_X8_19 X dX8_force_32 ?_
      refine v_iconst (v := 4) X dX8_force_35 (by decide) ?_
      obtain ⟨jv9, qv10, h⟩ := bd1_some h
      obtain ⟨ejv9, ljv9⟩ := ix_spec qv10
      refine alM X (by decide +kernel) jv9 ejv9 ljv9 dX8_force_36 ?_
      refine v_iloadn X dX8_force_37 rfl rfl ?_
      refine v_iadd X dX8_force_38 ?_
      obtain ⟨rv13, gv12, qv11, h⟩ := bd2_some h
      refine v_callSI (As := [.ref (ad (9, 11, 5)), .int ((gv6 11 5 jv9) + x1)]) (rest := []) X (c_X8_forceOf l D ad cy X.2.2.2.2.2.2.2.2.1 N 5 ((gv6 11 5 jv9) + x1) gv6 rv13 gv12 (by decide +kernel) qv11) mw_X8_forceOf ml_X8_180 (by decide) rfl rfl (Nat.le_of_ble_eq_true rfl) dX8_force_39 ?_
      refine v_goto X 47 dX8_force_42 (by decide) ?_
      obtain ⟨er, eg⟩ := Prod.mk.inj (Option.some.inj h)
      exact v_iret X dX8_force_47 er eg
  · replace h := (if_pos cv4).symm.trans h
    refine v_ldc X kc_X8_198 dX8_force_12 ?_
    obtain ⟨er, eg⟩ := Prod.mk.inj (Option.some.inj h)
    exact v_iret X dX8_force_14 er eg
def L_X8_gust_32 (N : Nat) (z1 : Int32) : Nat → Int32 → GS → Option ((Int32 × GS) ⊕ (Int32 × GS))
  | 0, _, _ => none
  | n + 1, y2, g => if (100 : Int32) ≤ y2 then some (.inr (y2, g)) else bd2 (F_X8_riseOf N 5 z1 y2 g) (fun rv12 gv11 => bd2 (F_X8_doesSnap N 5 z1 rv12 gv11) (fun rv15 gv14 => if rv15 = 0 then L_X8_gust_32 N z1 n (y2 + 1) gv14 else some (.inl (y2, gv14))))
def F_X8_gust (N : Nat) (x1 : Int32) (g : GS) : Option (Int32 × GS) := bd2 (F_X8_isPaper N x1 (g3 g 10 0 0 (0 : Int32))) (fun rv3 gv2 => if rv3 = 0 then some ((-1000001 : Int32), gv2) else bd2 (F_X8_isUp N 5 x1 gv2) (fun rv7 gv6 => if rv7 = 0 then some ((-1000002 : Int32), gv6) else bs2 (L_X8_gust_32 N x1 N (0 : Int32) gv6) (fun rv20 gv21 => some (rv20, gv21)) (fun xv17 gv18 => some ((-1000000 : Int32), gv18))))
set_option maxRecDepth 100000 in
set_option maxHeartbeats 4000000 in
theorem w_X8_gust_32 {p : Program} {l : Launch} {e : Env} {s : State} {m : MethodId} {args : Array Value} {below : List Frame} {meth : Method} {c : Code} {D : va_G} {ad : Ky → Nat} {cy : Nat → ClassId} {r : Int32} {gq : GS} {N : Nat} (X : Cx p (rmd 4) s m args meth c RX8 cX8_gust 3 (some .int) D ad cy) (z1 : Int32) : ∀ (n : Nat) (y2 : Int32) (g : GS) (res : _), L_X8_gust_32 N z1 n y2 g = some res → (∀ (r1 : Int32) (g1 : GS), res = .inl (r1, g1) → r1 = r ∧ g1 = gq) → (∀ (y2' : Int32) (g' : GS), res = .inr (y2', g') → Vy p l e (rmd 4) s m args below meth c 3 D ad cy (QI D ad cy below args s r gq) 66 [some (.ref (ad (8, 0, 0))), some (.int z1), some (.int y2')] [] g') → Vy p l e (rmd 4) s m args below meth c 3 D ad cy (QI D ad cy below args s r gq) 32 [some (.ref (ad (8, 0, 0))), some (.int z1), some (.int y2)] [] g := by
  intro n
  induction n with
  | zero => intro y2 g res h kr k; cases h
  | succ n ih =>
    intro y2 g res h kr k
    rw [L_X8_gust_32] at h
    refine v_iloadn X dX8_gust_32 rfl rfl ?_
    refine v_bipush (v := 100) X dX8_gust_33 (by decide) ?_
    refine v_icmp_ge X 66 dX8_gust_35 (by decide) (fun cv9 => ?_) (fun cv9 => ?_)
    · replace h := (if_pos cv9).symm.trans h
      cases h
      exact k _ _ rfl
    · replace h := (if_neg cv9).symm.trans h
      refine v_aloadn X dX8_gust_38 rfl rfl ?_
      refine gf_X8_19 X dX8_gust_39 ?_
      refine v_iloadn X dX8_gust_42 rfl rfl ?_
      refine v_aloadn X dX8_gust_43 rfl rfl ?_
      refine gf_X8_19 X dX8_gust_44 ?_
      refine v_iloadn X dX8_gust_47 rfl rfl ?_
      refine v_iloadn X dX8_gust_48 rfl rfl ?_
      obtain ⟨rv12, gv11, qv10, h⟩ := bd2_some h
      refine v_callSI (As := [.ref (ad (9, 11, 5)), .int z1, .int y2]) (rest := [.int z1, .ref (ad (9, 11, 5))]) X (c_X8_riseOf l D ad cy X.2.2.2.2.2.2.2.2.1 N 5 z1 y2 g rv12 gv11 (by decide +kernel) qv10) mw_X8_riseOf ml_X8_174 (by decide) rfl rfl (Nat.le_of_ble_eq_true rfl) dX8_gust_49 ?_
      obtain ⟨rv15, gv14, qv13, h⟩ := bd2_some h
      refine v_callSI (As := [.ref (ad (9, 11, 5)), .int z1, .int rv12]) (rest := []) X (c_X8_doesSnap l D ad cy X.2.2.2.2.2.2.2.2.1 N 5 z1 rv12 gv11 rv15 gv14 (by decide +kernel) qv13) mw_X8_doesSnap ml_X8_166 (by decide) rfl rfl (Nat.le_of_ble_eq_true rfl) dX8_gust_52 ?_
      refine v_if_eq X 60 dX8_gust_55 (by decide) (fun cv16 => ?_) (fun cv16 => ?_)
      · replace h := (if_pos cv16).symm.trans h
        refine v_iinc (v := (y2 + 1)) (lc' := [some (.ref (ad (8, 0, 0))), some (.int z1), some (.int (y2 + 1))]) X dX8_gust_60 rfl rfl (by decide) rfl rfl ?_
        refine v_goto X 32 dX8_gust_63 (by decide) ?_
        exact ih (y2 + 1) gv14 _ h kr k
      · replace h := (if_neg cv16).symm.trans h
        refine v_iloadn X dX8_gust_58 rfl rfl ?_
        obtain ⟨er, eg⟩ := kr _ _ (Option.some.inj h).symm
        exact v_iret X dX8_gust_59 er eg
set_option maxRecDepth 100000 in
set_option maxHeartbeats 4000000 in
theorem c_X8_gust (l : Launch) (D : va_G) (ad : Ky → Nat) (cy : Nat → ClassId) (hI : Inj ad) (N : Nat) (x1 : Int32) (g : GS) (r : Int32) (gq : GS) (h : F_X8_gust N x1 g = some (r, gq)) : CtI l D ad cy yX8_gust cX8_gust 3 (some .int) 4 [.ref (ad (8, 0, 0)), .int x1] g r gq := by
  refine CtI.of 1 hI (by decide +kernel) rfl (Nat.le_of_ble_eq_true rfl) (fun p e s m args below meth c X => ?_)
  unfold F_X8_gust at h
  show Vy _ _ _ _ _ _ _ _ _ _ _ _ _ _ _ 0 [some (.ref (ad (8, 0, 0))), some (.int x1), none] [] g
  refine v_aloadn X dX8_gust_0 rfl rfl ?_
  refine v_iconst (v := 0) X dX8_gust_1 (by decide) ?_
  refine pf_X8_50 X dX8_gust_2 ?_
  refine v_aloadn X dX8_gust_5 rfl rfl ?_
  refine v_iloadn X dX8_gust_6 rfl rfl ?_
  obtain ⟨rv3, gv2, qv1, h⟩ := bd2_some h
  refine v_callVI (As := [.int x1]) (rest := []) X (c_X8_isPaper l D ad cy X.2.2.2.2.2.2.2.2.1 N x1 (g3 g 10 0 0 (0 : Int32)) rv3 gv2  qv1) mw_X8_isPaper ml_X8_208 (by decide) (by decide +kernel) (by decide) rfl rfl rfl rfl (Nat.le_of_ble_eq_true rfl) dX8_gust_7 ?_
  refine v_if_ne X 16 dX8_gust_10 (by decide) (fun cv4 => ?_) (fun cv4 => ?_)
  · replace h := (if_neg cv4).symm.trans h
    refine v_aloadn X dX8_gust_16 rfl rfl ?_
    refine gf_X8_19 X dX8_gust_17 ?_
    refine v_iloadn X dX8_gust_20 rfl rfl ?_
    obtain ⟨rv7, gv6, qv5, h⟩ := bd2_some h
    refine v_callSI (As := [.ref (ad (9, 11, 5)), .int x1]) (rest := []) X (c_X8_isUp l D ad cy X.2.2.2.2.2.2.2.2.1 N 5 x1 gv2 rv7 gv6 (by decide +kernel) qv5) mw_X8_isUp ml_X8_159 (by decide) rfl rfl (Nat.le_of_ble_eq_true rfl) dX8_gust_21 ?_
    refine v_if_ne X 30 dX8_gust_24 (by decide) (fun cv8 => ?_) (fun cv8 => ?_)
    · replace h := (if_neg cv8).symm.trans h
      refine v_iconst (v := 0) X dX8_gust_30 (by decide) ?_
      refine v_istoren (lc' := [some (.ref (ad (8, 0, 0))), some (.int x1), some (.int (0 : Int32))]) X dX8_gust_31 rfl (by decide) rfl rfl ?_
      obtain ⟨zv22, qv19, h⟩ := bs2_some h
      refine w_X8_gust_32 X x1 N (0 : Int32) gv6 _ qv19 ?_ ?_
      · intro rv20 gv21 e1
        subst e1
        dsimp only at h
        cases h
        exact ⟨rfl, rfl⟩
      · intro xv17 gv18 e1
        subst e1
        dsimp only at h
        refine v_ldc X kc_X8_93 dX8_gust_66 ?_
        obtain ⟨er, eg⟩ := Prod.mk.inj (Option.some.inj h)
        exact v_iret X dX8_gust_68 er eg
    · replace h := (if_pos cv8).symm.trans h
      refine v_ldc X kc_X8_198 dX8_gust_27 ?_
      obtain ⟨er, eg⟩ := Prod.mk.inj (Option.some.inj h)
      exact v_iret X dX8_gust_29 er eg
  · replace h := (if_pos cv4).symm.trans h
    refine v_ldc X kc_X8_70 dX8_gust_13 ?_
    obtain ⟨er, eg⟩ := Prod.mk.inj (Option.some.inj h)
    exact v_iret X dX8_gust_15 er eg
def F_X8_has (N : Nat) (x0 : Int32) (x1 : Int32) (g : GS) : Option (Int32 × GS) := if ((x0 >>> (x1 &&& 31)) &&& (1 : Int32)) = (1 : Int32) then some ((1 : Int32), g) else some ((0 : Int32), g)
set_option maxRecDepth 100000 in
set_option maxHeartbeats 4000000 in
theorem c_X8_has (l : Launch) (D : va_G) (ad : Ky → Nat) (cy : Nat → ClassId) (hI : Inj ad) (N : Nat) (x0 : Int32) (x1 : Int32) (g : GS) (r : Int32) (gq : GS) (h : F_X8_has N x0 x1 g = some (r, gq)) : CtI l D ad cy yX8_has cX8_has 2 (some .boolean) 0 [.int x0, .int x1] g r gq := by
  refine CtI.of 0 hI (by decide +kernel) rfl (Nat.le_of_ble_eq_true rfl) (fun p e s m args below meth c X => ?_)
  unfold F_X8_has at h
  show Vy _ _ _ _ _ _ _ _ _ _ _ _ _ _ _ 0 [some (.int x0), some (.int x1)] [] g
  refine v_iloadn X dX8_has_0 rfl rfl ?_
  refine v_iloadn X dX8_has_1 rfl rfl ?_
  refine v_ishr X dX8_has_2 ?_
  refine v_iconst (v := 1) X dX8_has_3 (by decide) ?_
  refine v_iand X dX8_has_4 ?_
  refine v_iconst (v := 1) X dX8_has_5 (by decide) ?_
  refine v_icmp_ne X 13 dX8_has_6 (by decide) (fun cv1 => ?_) (fun cv1 => ?_)
  · replace h := (if_neg cv1).symm.trans h
    refine v_iconst (v := 0) X dX8_has_13 (by decide) ?_
    obtain ⟨er, eg⟩ := Prod.mk.inj (Option.some.inj h)
    exact v_zret X dX8_has_14 rfl er eg
  · replace h := (if_pos cv1).symm.trans h
    refine v_iconst (v := 1) X dX8_has_9 (by decide) ?_
    refine v_goto X 14 dX8_has_10 (by decide) ?_
    obtain ⟨er, eg⟩ := Prod.mk.inj (Option.some.inj h)
    exact v_zret X dX8_has_14 rfl er eg
def L_X8_hours_49 (N : Nat) (z1 : Int32) : Nat → Int32 → GS → Option (Int32 × GS)
  | 0, _, _ => none
  | n + 1, y2, g => if z1 ≤ y2 then some (y2, g) else bd1 (F_X8_keep N  g) (fun gv14 => bd1 (F_X8_hour N 5 gv14) (fun gv16 => L_X8_hours_49 N z1 n (y2 + 1) gv16))
def F_X8_hours (N : Nat) (x1 : Int32) (g : GS) : Option (Int32 × GS) := bd2 (F_X8_isThere N  (g3 g 10 0 0 (0 : Int32))) (fun rv3 gv2 => if rv3 = 0 then some ((-1000002 : Int32), gv2) else bd2 (F_X8_in N (x1.toInt64) (1 : Int64) (24 : Int64) gv2) (fun rv7 gv6 => if rv7 = 0 then some ((-1000001 : Int32), gv6) else bd1 (ix (4 : Int32) 53) (fun jv9 => if ((gv6 11 5 jv9) + x1) ≤ (999 : Int32) then bd2 (L_X8_hours_49 N x1 N (0 : Int32) gv6) (fun xv17 gv18 => bd2 (F_X8_policies N 5 gv18) (fun rv22 gv21 => some (rv22, gv21))) else some ((-1000003 : Int32), gv6))))
set_option maxRecDepth 100000 in
set_option maxHeartbeats 4000000 in
theorem w_X8_hours_49 {p : Program} {l : Launch} {e : Env} {s : State} {m : MethodId} {args : Array Value} {below : List Frame} {meth : Method} {c : Code} {D : va_G} {ad : Ky → Nat} {cy : Nat → ClassId} {r : Int32} {gq : GS} {N : Nat} (X : Cx p (rmd 6) s m args meth c RX8 cX8_hours 3 (some .int) D ad cy) (z1 : Int32) : ∀ (n : Nat) (y2 : Int32) (g : GS) (y2' : Int32) (g' : GS), L_X8_hours_49 N z1 n y2 g = some (y2', g') → Vy p l e (rmd 6) s m args below meth c 3 D ad cy (QI D ad cy below args s r gq) 72 [some (.ref (ad (8, 0, 0))), some (.int z1), some (.int y2')] [] g' → Vy p l e (rmd 6) s m args below meth c 3 D ad cy (QI D ad cy below args s r gq) 49 [some (.ref (ad (8, 0, 0))), some (.int z1), some (.int y2)] [] g := by
  intro n
  induction n with
  | zero => intro y2 g y2' g' h k; cases h
  | succ n ih =>
    intro y2 g y2' g' h k
    rw [L_X8_hours_49] at h
    refine v_iloadn X dX8_hours_49 rfl rfl ?_
    refine v_iloadn X dX8_hours_50 rfl rfl ?_
    refine v_icmp_ge X 72 dX8_hours_51 (by decide) (fun cv12 => ?_) (fun cv12 => ?_)
    · replace h := (if_pos cv12).symm.trans h
      cases h
      exact k
    · replace h := (if_neg cv12).symm.trans h
      refine v_aloadn X dX8_hours_54 rfl rfl ?_
      obtain ⟨gv14, qv13, h⟩ := bd1_some h
      refine v_callVV (As := []) (rest := []) X (c_X8_keep l D ad cy X.2.2.2.2.2.2.2.2.1 N  g gv14  qv13) mw_X8_keep ml_X8_201 (by decide) (by decide +kernel) (by decide) rfl rfl rfl rfl (Nat.le_of_ble_eq_true rfl) dX8_hours_55 ?_
      refine v_aloadn X dX8_hours_58 rfl rfl ?_
      refine v_aloadn X dX8_hours_59 rfl rfl ?_
      refine gf_X8_19 X dX8_hours_60 ?_
      obtain ⟨gv16, qv15, h⟩ := bd1_some h
      refine v_callVV (As := [.ref (ad (9, 11, 5))]) (rest := []) X (c_X8_hour l D ad cy X.2.2.2.2.2.2.2.2.1 N 5 gv14 gv16 (by decide +kernel) qv15) mw_X8_hour ml_X8_188 (by decide) (by decide +kernel) (by decide) rfl rfl rfl rfl (Nat.le_of_ble_eq_true rfl) dX8_hours_63 ?_
      refine v_iinc (v := (y2 + 1)) (lc' := [some (.ref (ad (8, 0, 0))), some (.int z1), some (.int (y2 + 1))]) X dX8_hours_66 rfl rfl (by decide) rfl rfl ?_
      refine v_goto X 49 dX8_hours_69 (by decide) ?_
      exact ih (y2 + 1) gv16 _ _ h k
set_option maxRecDepth 100000 in
set_option maxHeartbeats 4000000 in
theorem c_X8_hours (l : Launch) (D : va_G) (ad : Ky → Nat) (cy : Nat → ClassId) (hI : Inj ad) (N : Nat) (x1 : Int32) (g : GS) (r : Int32) (gq : GS) (h : F_X8_hours N x1 g = some (r, gq)) : CtI l D ad cy yX8_hours cX8_hours 3 (some .int) 6 [.ref (ad (8, 0, 0)), .int x1] g r gq := by
  refine CtI.of 1 hI (by decide +kernel) rfl (Nat.le_of_ble_eq_true rfl) (fun p e s m args below meth c X => ?_)
  unfold F_X8_hours at h
  show Vy _ _ _ _ _ _ _ _ _ _ _ _ _ _ _ 0 [some (.ref (ad (8, 0, 0))), some (.int x1), none] [] g
  refine v_aloadn X dX8_hours_0 rfl rfl ?_
  refine v_iconst (v := 0) X dX8_hours_1 (by decide) ?_
  refine pf_X8_50 X dX8_hours_2 ?_
  refine v_aloadn X dX8_hours_5 rfl rfl ?_
  obtain ⟨rv3, gv2, qv1, h⟩ := bd2_some h
  refine v_callVI (As := []) (rest := []) X (c_X8_isThere l D ad cy X.2.2.2.2.2.2.2.2.1 N  (g3 g 10 0 0 (0 : Int32)) rv3 gv2  qv1) mw_X8_isThere ml_X8_195 (by decide) (by decide +kernel) (by decide) rfl rfl rfl rfl (Nat.le_of_ble_eq_true rfl) dX8_hours_6 ?_
  refine v_if_ne X 15 dX8_hours_9 (by decide) (fun cv4 => ?_) (fun cv4 => ?_)
  · replace h := (if_neg cv4).symm.trans h
    refine v_iloadn X dX8_hours_15 rfl rfl ?_
    refine v_i2l X dX8_hours_16 ?_
    refine v_lconst (v := 1) X dX8_hours_17 (by decide) ?_
    refine v_ldc2 X kl_X8_199 dX8_hours_18 ?_
    obtain ⟨rv7, gv6, qv5, h⟩ := bd2_some h
    refine v_callSI (As := [.long (x1.toInt64), .long (1 : Int64), .long (24 : Int64)]) (rest := []) X (c_X8_in l D ad cy X.2.2.2.2.2.2.2.2.1 N (x1.toInt64) (1 : Int64) (24 : Int64) gv2 rv7 gv6  qv5) mw_X8_in ml_X8_60 (by decide) rfl rfl (Nat.le_of_ble_eq_true rfl) dX8_hours_21 ?_
    refine v_if_ne X 30 dX8_hours_24 (by decide) (fun cv8 => ?_) (fun cv8 => ?_)
    · replace h := (if_neg cv8).symm.trans h
      refine v_aloadn X dX8_hours_30 rfl rfl ?_
      refine gf_X8_19 X dX8_hours_31 ?_
      refine v_iconst (v := 4) X dX8_hours_34 (by decide) ?_
      obtain ⟨jv9, qv10, h⟩ := bd1_some h
      obtain ⟨ejv9, ljv9⟩ := ix_spec qv10
      refine alM X (by decide +kernel) jv9 ejv9 ljv9 dX8_hours_35 ?_
      refine v_iloadn X dX8_hours_36 rfl rfl ?_
      refine v_iadd X dX8_hours_37 ?_
      refine v_sipush (v := 999) X dX8_hours_38 (by decide) ?_
      refine v_icmp_le X 47 dX8_hours_41 (by decide) (fun cv11 => ?_) (fun cv11 => ?_)
      · replace h := (if_pos cv11).symm.trans h
        refine v_iconst (v := 0) X dX8_hours_47 (by decide) ?_
        refine v_istoren (lc' := [some (.ref (ad (8, 0, 0))), some (.int x1), some (.int (0 : Int32))]) X dX8_hours_48 rfl (by decide) rfl rfl ?_
        obtain ⟨xv17, gv18, qv19, h⟩ := bd2_some h
        refine w_X8_hours_49 X x1 N (0 : Int32) gv6 xv17 gv18 qv19 ?_
        refine v_aloadn X dX8_hours_72 rfl rfl ?_
        refine gf_X8_19 X dX8_hours_73 ?_
        obtain ⟨rv22, gv21, qv20, h⟩ := bd2_some h
        refine v_callSI (As := [.ref (ad (9, 11, 5))]) (rest := []) X (c_X8_policies l D ad cy X.2.2.2.2.2.2.2.2.1 N 5 gv18 rv22 gv21 (by decide +kernel) qv20) mw_X8_policies ml_X8_204 (by decide) rfl rfl (Nat.le_of_ble_eq_true rfl) dX8_hours_76 ?_
        obtain ⟨er, eg⟩ := Prod.mk.inj (Option.some.inj h)
        exact v_iret X dX8_hours_79 er eg
      · replace h := (if_neg cv11).symm.trans h
        refine v_ldc X kc_X8_80 dX8_hours_44 ?_
        obtain ⟨er, eg⟩ := Prod.mk.inj (Option.some.inj h)
        exact v_iret X dX8_hours_46 er eg
    · replace h := (if_pos cv8).symm.trans h
      refine v_ldc X kc_X8_70 dX8_hours_27 ?_
      obtain ⟨er, eg⟩ := Prod.mk.inj (Option.some.inj h)
      exact v_iret X dX8_hours_29 er eg
  · replace h := (if_pos cv4).symm.trans h
    refine v_ldc X kc_X8_198 dX8_hours_12 ?_
    obtain ⟨er, eg⟩ := Prod.mk.inj (Option.some.inj h)
    exact v_iret X dX8_hours_14 er eg
def L_X8_image_30 (N : Nat) (z1 : Int32) : Nat → Int32 → GS → Option (Int32 × GS)
  | 0, _, _ => none
  | n + 1, y2, g => if (53 : Int32) ≤ y2 then some (y2, g) else bd1 (ix y2 53) (fun jv10 => bd1 (ix (((53 : Int32) * z1) + y2) 106) (fun jv12 => L_X8_image_30 N z1 n (y2 + 1) (g3 g 11 22 jv12 (g 11 5 jv10))))
def F_X8_image (N : Nat) (x1 : Int32) (g : GS) : Option (Int32 × GS) := bd2 (F_X8_in N (x1.toInt64) (0 : Int64) (1 : Int64) (g3 g 10 0 0 (0 : Int32))) (fun rv3 gv2 => if rv3 = 0 then some ((-1000001 : Int32), gv2) else bd2 (F_X8_isThere N  gv2) (fun rv7 gv6 => if rv7 = 0 then some ((-1000002 : Int32), gv6) else bd2 (L_X8_image_30 N x1 N (0 : Int32) gv6) (fun xv14 gv15 => bd1 (ix x1 2) (fun jv17 => some ((1 : Int32), (g3 gv15 11 21 jv17 (1 : Int32)))))))
set_option maxRecDepth 100000 in
set_option maxHeartbeats 4000000 in
theorem w_X8_image_30 {p : Program} {l : Launch} {e : Env} {s : State} {m : MethodId} {args : Array Value} {below : List Frame} {meth : Method} {c : Code} {D : va_G} {ad : Ky → Nat} {cy : Nat → ClassId} {r : Int32} {gq : GS} {N : Nat} (X : Cx p (rmd 1) s m args meth c RX8 cX8_image 3 (some .int) D ad cy) (z1 : Int32) : ∀ (n : Nat) (y2 : Int32) (g : GS) (y2' : Int32) (g' : GS), L_X8_image_30 N z1 n y2 g = some (y2', g') → Vy p l e (rmd 1) s m args below meth c 3 D ad cy (QI D ad cy below args s r gq) 59 [some (.ref (ad (8, 0, 0))), some (.int z1), some (.int y2')] [] g' → Vy p l e (rmd 1) s m args below meth c 3 D ad cy (QI D ad cy below args s r gq) 30 [some (.ref (ad (8, 0, 0))), some (.int z1), some (.int y2)] [] g := by
  intro n
  induction n with
  | zero => intro y2 g y2' g' h k; cases h
  | succ n ih =>
    intro y2 g y2' g' h k
    rw [L_X8_image_30] at h
    refine v_iloadn X dX8_image_30 rfl rfl ?_
    refine v_bipush (v := 53) X dX8_image_31 (by decide) ?_
    refine v_icmp_ge X 59 dX8_image_33 (by decide) (fun cv9 => ?_) (fun cv9 => ?_)
    · replace h := (if_pos cv9).symm.trans h
      cases h
      exact k
    · replace h := (if_neg cv9).symm.trans h
      refine v_aloadn X dX8_image_36 rfl rfl ?_
      refine gf_X8_44 X dX8_image_37 ?_
      refine v_bipush (v := 53) X dX8_image_40 (by decide) ?_
      refine v_iloadn X dX8_image_42 rfl rfl ?_
      refine v_imul X dX8_image_43 ?_
      refine v_iloadn X dX8_image_44 rfl rfl ?_
      refine v_iadd X dX8_image_45 ?_
      refine v_aloadn X dX8_image_46 rfl rfl ?_
      refine gf_X8_19 X dX8_image_47 ?_
      refine v_iloadn X dX8_image_50 rfl rfl ?_
      obtain ⟨jv10, qv11, h⟩ := bd1_some h
      obtain ⟨ejv10, ljv10⟩ := ix_spec qv11
      refine alM X (by decide +kernel) jv10 ejv10 ljv10 dX8_image_51 ?_
      obtain ⟨jv12, qv13, h⟩ := bd1_some h
      obtain ⟨ejv12, ljv12⟩ := ix_spec qv13
      refine asM X (by decide +kernel) jv12 ejv12 ljv12 dX8_image_52 ?_
      refine v_iinc (v := (y2 + 1)) (lc' := [some (.ref (ad (8, 0, 0))), some (.int z1), some (.int (y2 + 1))]) X dX8_image_53 rfl rfl (by decide) rfl rfl ?_
      refine v_goto X 30 dX8_image_56 (by decide) ?_
      exact ih (y2 + 1) (g3 g 11 22 jv12 (g 11 5 jv10)) _ _ h k
set_option maxRecDepth 100000 in
set_option maxHeartbeats 4000000 in
theorem c_X8_image (l : Launch) (D : va_G) (ad : Ky → Nat) (cy : Nat → ClassId) (hI : Inj ad) (N : Nat) (x1 : Int32) (g : GS) (r : Int32) (gq : GS) (h : F_X8_image N x1 g = some (r, gq)) : CtI l D ad cy yX8_image cX8_image 3 (some .int) 1 [.ref (ad (8, 0, 0)), .int x1] g r gq := by
  refine CtI.of 1 hI (by decide +kernel) rfl (Nat.le_of_ble_eq_true rfl) (fun p e s m args below meth c X => ?_)
  unfold F_X8_image at h
  show Vy _ _ _ _ _ _ _ _ _ _ _ _ _ _ _ 0 [some (.ref (ad (8, 0, 0))), some (.int x1), none] [] g
  refine v_aloadn X dX8_image_0 rfl rfl ?_
  refine v_iconst (v := 0) X dX8_image_1 (by decide) ?_
  refine pf_X8_50 X dX8_image_2 ?_
  refine v_iloadn X dX8_image_5 rfl rfl ?_
  refine v_i2l X dX8_image_6 ?_
  refine v_lconst (v := 0) X dX8_image_7 (by decide) ?_
  refine v_lconst (v := 1) X dX8_image_8 (by decide) ?_
  obtain ⟨rv3, gv2, qv1, h⟩ := bd2_some h
  refine v_callSI (As := [.long (x1.toInt64), .long (0 : Int64), .long (1 : Int64)]) (rest := []) X (c_X8_in l D ad cy X.2.2.2.2.2.2.2.2.1 N (x1.toInt64) (0 : Int64) (1 : Int64) (g3 g 10 0 0 (0 : Int32)) rv3 gv2  qv1) mw_X8_in ml_X8_60 (by decide) rfl rfl (Nat.le_of_ble_eq_true rfl) dX8_image_9 ?_
  refine v_if_ne X 18 dX8_image_12 (by decide) (fun cv4 => ?_) (fun cv4 => ?_)
  · replace h := (if_neg cv4).symm.trans h
    refine v_aloadn X dX8_image_18 rfl rfl ?_
    obtain ⟨rv7, gv6, qv5, h⟩ := bd2_some h
    refine v_callVI (As := []) (rest := []) X (c_X8_isThere l D ad cy X.2.2.2.2.2.2.2.2.1 N  gv2 rv7 gv6  qv5) mw_X8_isThere ml_X8_195 (by decide) (by decide +kernel) (by decide) rfl rfl rfl rfl (Nat.le_of_ble_eq_true rfl) dX8_image_19 ?_
    refine v_if_ne X 28 dX8_image_22 (by decide) (fun cv8 => ?_) (fun cv8 => ?_)
    · replace h := (if_neg cv8).symm.trans h
      refine v_iconst (v := 0) X dX8_image_28 (by decide) ?_
      refine v_istoren (lc' := [some (.ref (ad (8, 0, 0))), some (.int x1), some (.int (0 : Int32))]) X dX8_image_29 rfl (by decide) rfl rfl ?_
      obtain ⟨xv14, gv15, qv16, h⟩ := bd2_some h
      refine w_X8_image_30 X x1 N (0 : Int32) gv6 xv14 gv15 qv16 ?_
      refine v_aloadn X dX8_image_59 rfl rfl ?_
      refine gf_X8_40 X dX8_image_60 ?_
      refine v_iloadn X dX8_image_63 rfl rfl ?_
      refine v_iconst (v := 1) X dX8_image_64 (by decide) ?_
      obtain ⟨jv17, qv18, h⟩ := bd1_some h
      obtain ⟨ejv17, ljv17⟩ := ix_spec qv18
      refine asZ X jv17 ejv17 ljv17 (by decide) dX8_image_65 ?_
      refine v_iconst (v := 1) X dX8_image_66 (by decide) ?_
      obtain ⟨er, eg⟩ := Prod.mk.inj (Option.some.inj h)
      exact v_iret X dX8_image_67 er eg
    · replace h := (if_pos cv8).symm.trans h
      refine v_ldc X kc_X8_198 dX8_image_25 ?_
      obtain ⟨er, eg⟩ := Prod.mk.inj (Option.some.inj h)
      exact v_iret X dX8_image_27 er eg
  · replace h := (if_pos cv4).symm.trans h
    refine v_ldc X kc_X8_70 dX8_image_15 ?_
    obtain ⟨er, eg⟩ := Prod.mk.inj (Option.some.inj h)
    exact v_iret X dX8_image_17 er eg
def F_X8_isLetter (N : Nat) (x1 : Int32) (g : GS) : Option (Int32 × GS) := if (g 10 0 17) = 0 then if (g 10 0 15) = (2 : Int32) then if (g 10 0 16) = x1 then some ((1 : Int32), g) else some ((0 : Int32), g) else some ((0 : Int32), g) else some ((0 : Int32), g)
set_option maxRecDepth 100000 in
set_option maxHeartbeats 4000000 in
theorem c_X8_isLetter (l : Launch) (D : va_G) (ad : Ky → Nat) (cy : Nat → ClassId) (hI : Inj ad) (N : Nat) (x1 : Int32) (g : GS) (r : Int32) (gq : GS) (h : F_X8_isLetter N x1 g = some (r, gq)) : CtI l D ad cy yX8_isLetter cX8_isLetter 2 (some .boolean) 0 [.ref (ad (8, 0, 0)), .int x1] g r gq := by
  refine CtI.of 0 hI (by decide +kernel) rfl (Nat.le_of_ble_eq_true rfl) (fun p e s m args below meth c X => ?_)
  unfold F_X8_isLetter at h
  show Vy _ _ _ _ _ _ _ _ _ _ _ _ _ _ _ 0 [some (.ref (ad (8, 0, 0))), some (.int x1)] [] g
  refine v_aloadn X dX8_isLetter_0 rfl rfl ?_
  refine gf_X8_81 X dX8_isLetter_1 ?_
  refine v_if_ne X 27 dX8_isLetter_4 (by decide) (fun cv1 => ?_) (fun cv1 => ?_)
  · replace h := (if_neg cv1).symm.trans h
    refine v_iconst (v := 0) X dX8_isLetter_27 (by decide) ?_
    obtain ⟨er, eg⟩ := Prod.mk.inj (Option.some.inj h)
    exact v_zret X dX8_isLetter_28 rfl er eg
  · replace h := (if_pos cv1).symm.trans h
    refine v_aloadn X dX8_isLetter_7 rfl rfl ?_
    refine gf_X8_105 X dX8_isLetter_8 ?_
    refine v_iconst (v := 2) X dX8_isLetter_11 (by decide) ?_
    refine v_icmp_ne X 27 dX8_isLetter_12 (by decide) (fun cv2 => ?_) (fun cv2 => ?_)
    · replace h := (if_neg cv2).symm.trans h
      refine v_iconst (v := 0) X dX8_isLetter_27 (by decide) ?_
      obtain ⟨er, eg⟩ := Prod.mk.inj (Option.some.inj h)
      exact v_zret X dX8_isLetter_28 rfl er eg
    · replace h := (if_pos cv2).symm.trans h
      refine v_aloadn X dX8_isLetter_15 rfl rfl ?_
      refine gf_X8_94 X dX8_isLetter_16 ?_
      refine v_iloadn X dX8_isLetter_19 rfl rfl ?_
      refine v_icmp_ne X 27 dX8_isLetter_20 (by decide) (fun cv3 => ?_) (fun cv3 => ?_)
      · replace h := (if_neg cv3).symm.trans h
        refine v_iconst (v := 0) X dX8_isLetter_27 (by decide) ?_
        obtain ⟨er, eg⟩ := Prod.mk.inj (Option.some.inj h)
        exact v_zret X dX8_isLetter_28 rfl er eg
      · replace h := (if_pos cv3).symm.trans h
        refine v_iconst (v := 1) X dX8_isLetter_23 (by decide) ?_
        refine v_goto X 28 dX8_isLetter_24 (by decide) ?_
        obtain ⟨er, eg⟩ := Prod.mk.inj (Option.some.inj h)
        exact v_zret X dX8_isLetter_28 rfl er eg
def F_X8_isMany (N : Nat) (x0 : Int32) (x1 : Int32) (g : GS) : Option (Int32 × GS) := bd2 (F_X8_isRow N x0 g) (fun rv3 gv2 => if rv3 = 0 then some ((0 : Int32), gv2) else bd2 (F_X8_in N (x1.toInt64) (1 : Int64) (12 : Int64) gv2) (fun rv7 gv6 => if rv7 = 0 then some ((0 : Int32), gv6) else some ((1 : Int32), gv6)))
set_option maxRecDepth 100000 in
set_option maxHeartbeats 4000000 in
theorem c_X8_isMany (l : Launch) (D : va_G) (ad : Ky → Nat) (cy : Nat → ClassId) (hI : Inj ad) (N : Nat) (x0 : Int32) (x1 : Int32) (g : GS) (r : Int32) (gq : GS) (h : F_X8_isMany N x0 x1 g = some (r, gq)) : CtI l D ad cy yX8_isMany cX8_isMany 2 (some .boolean) 2 [.int x0, .int x1] g r gq := by
  refine CtI.of 0 hI (by decide +kernel) rfl (Nat.le_of_ble_eq_true rfl) (fun p e s m args below meth c X => ?_)
  unfold F_X8_isMany at h
  show Vy _ _ _ _ _ _ _ _ _ _ _ _ _ _ _ 0 [some (.int x0), some (.int x1)] [] g
  refine v_iloadn X dX8_isMany_0 rfl rfl ?_
  obtain ⟨rv3, gv2, qv1, h⟩ := bd2_some h
  refine v_callSI (As := [.int x0]) (rest := []) X (c_X8_isRow l D ad cy X.2.2.2.2.2.2.2.2.1 N x0 g rv3 gv2  qv1) mw_X8_isRow ml_X8_64 (by decide) rfl rfl (Nat.le_of_ble_eq_true rfl) dX8_isMany_1 ?_
  refine v_if_eq X 23 dX8_isMany_4 (by decide) (fun cv4 => ?_) (fun cv4 => ?_)
  · replace h := (if_pos cv4).symm.trans h
    refine v_iconst (v := 0) X dX8_isMany_23 (by decide) ?_
    obtain ⟨er, eg⟩ := Prod.mk.inj (Option.some.inj h)
    exact v_zret X dX8_isMany_24 rfl er eg
  · replace h := (if_neg cv4).symm.trans h
    refine v_iloadn X dX8_isMany_7 rfl rfl ?_
    refine v_i2l X dX8_isMany_8 ?_
    refine v_lconst (v := 1) X dX8_isMany_9 (by decide) ?_
    refine v_ldc2 X kl_X8_249 dX8_isMany_10 ?_
    obtain ⟨rv7, gv6, qv5, h⟩ := bd2_some h
    refine v_callSI (As := [.long (x1.toInt64), .long (1 : Int64), .long (12 : Int64)]) (rest := []) X (c_X8_in l D ad cy X.2.2.2.2.2.2.2.2.1 N (x1.toInt64) (1 : Int64) (12 : Int64) gv2 rv7 gv6  qv5) mw_X8_in ml_X8_60 (by decide) rfl rfl (Nat.le_of_ble_eq_true rfl) dX8_isMany_13 ?_
    refine v_if_eq X 23 dX8_isMany_16 (by decide) (fun cv8 => ?_) (fun cv8 => ?_)
    · replace h := (if_pos cv8).symm.trans h
      refine v_iconst (v := 0) X dX8_isMany_23 (by decide) ?_
      obtain ⟨er, eg⟩ := Prod.mk.inj (Option.some.inj h)
      exact v_zret X dX8_isMany_24 rfl er eg
    · replace h := (if_neg cv8).symm.trans h
      refine v_iconst (v := 1) X dX8_isMany_19 (by decide) ?_
      refine v_goto X 24 dX8_isMany_20 (by decide) ?_
      obtain ⟨er, eg⟩ := Prod.mk.inj (Option.some.inj h)
      exact v_zret X dX8_isMany_24 rfl er eg
def L_X8_isSo_6 (N : Nat) (z1 : Int32) (z2 : Int32) (z3 : Int32) : Nat → Int32 → Int32 → GS → Option (Int32 × Int32 × GS)
  | 0, _, _, _ => none
  | n + 1, y4, y5, g => if z3 ≤ y5 then some (y4, y5, g) else bd1 (F_X8_hour N 7 g) (fun gv3 => if y4 = 0 then L_X8_isSo_6 N z1 z2 z3 n (0 : Int32) (y5 + 1) gv3 else bd2 (F_X8_of N 7 z1 (4 : Int32) gv3) (fun rv7 gv6 => bd1 (ix (z2 + y5) 320) (fun jv8 => if rv7 = (gv6 11 4 jv8) then L_X8_isSo_6 N z1 z2 z3 n (1 : Int32) (y5 + 1) gv6 else L_X8_isSo_6 N z1 z2 z3 n (0 : Int32) (y5 + 1) gv6)))
def F_X8_isSo (N : Nat) (x1 : Int32) (x2 : Int32) (x3 : Int32) (g : GS) : Option (Int32 × GS) := bd3 (L_X8_isSo_6 N x1 x2 x3 N (1 : Int32) (0 : Int32) g) (fun xv11 xv12 gv13 => if xv11 = 0 ∨ xv11 = 1 then some (xv11, gv13) else none)
set_option maxRecDepth 100000 in
set_option maxHeartbeats 4000000 in
theorem w_X8_isSo_6 {p : Program} {l : Launch} {e : Env} {s : State} {m : MethodId} {args : Array Value} {below : List Frame} {meth : Method} {c : Code} {D : va_G} {ad : Ky → Nat} {cy : Nat → ClassId} {r : Int32} {gq : GS} {N : Nat} (X : Cx p (rmd 6) s m args meth c RX8 cX8_isSo 6 (some .boolean) D ad cy) (z1 : Int32) (z2 : Int32) (z3 : Int32) : ∀ (n : Nat) (y4 : Int32) (y5 : Int32) (g : GS) (y4' : Int32) (y5' : Int32) (g' : GS), L_X8_isSo_6 N z1 z2 z3 n y4 y5 g = some (y4', y5', g') → Vy p l e (rmd 6) s m args below meth c 6 D ad cy (QI D ad cy below args s r gq) 59 [some (.ref (ad (8, 0, 0))), some (.int z1), some (.int z2), some (.int z3), some (.int y4'), some (.int y5')] [] g' → Vy p l e (rmd 6) s m args below meth c 6 D ad cy (QI D ad cy below args s r gq) 6 [some (.ref (ad (8, 0, 0))), some (.int z1), some (.int z2), some (.int z3), some (.int y4), some (.int y5)] [] g := by
  intro n
  induction n with
  | zero => intro y4 y5 g y4' y5' g' h k; cases h
  | succ n ih =>
    intro y4 y5 g y4' y5' g' h k
    rw [L_X8_isSo_6] at h
    refine v_iload X dX8_isSo_6 rfl ?_
    refine v_iloadn X dX8_isSo_8 rfl rfl ?_
    refine v_icmp_ge X 59 dX8_isSo_9 (by decide) (fun cv1 => ?_) (fun cv1 => ?_)
    · replace h := (if_pos cv1).symm.trans h
      cases h
      exact k
    · replace h := (if_neg cv1).symm.trans h
      refine v_aloadn X dX8_isSo_12 rfl rfl ?_
      refine v_aloadn X dX8_isSo_13 rfl rfl ?_
      refine gf_X8_25 X dX8_isSo_14 ?_
      obtain ⟨gv3, qv2, h⟩ := bd1_some h
      refine v_callVV (As := [.ref (ad (9, 11, 7))]) (rest := []) X (c_X8_hour l D ad cy X.2.2.2.2.2.2.2.2.1 N 7 g gv3 (by decide +kernel) qv2) mw_X8_hour ml_X8_188 (by decide) (by decide +kernel) (by decide) rfl rfl rfl rfl (Nat.le_of_ble_eq_true rfl) dX8_isSo_17 ?_
      refine v_iload X dX8_isSo_20 rfl ?_
      refine v_if_eq X 50 dX8_isSo_22 (by decide) (fun cv4 => ?_) (fun cv4 => ?_)
      · replace h := (if_pos cv4).symm.trans h
        refine v_iconst (v := 0) X dX8_isSo_50 (by decide) ?_
        refine v_istore (lc' := [some (.ref (ad (8, 0, 0))), some (.int z1), some (.int z2), some (.int z3), some (.int (0 : Int32)), some (.int y5)]) X dX8_isSo_51 (by decide) rfl rfl ?_
        refine v_iinc (v := (y5 + 1)) (lc' := [some (.ref (ad (8, 0, 0))), some (.int z1), some (.int z2), some (.int z3), some (.int (0 : Int32)), some (.int (y5 + 1))]) X dX8_isSo_53 rfl rfl (by decide) rfl rfl ?_
        refine v_goto X 6 dX8_isSo_56 (by decide) ?_
        exact ih (0 : Int32) (y5 + 1) gv3 _ _ _ h k
      · replace h := (if_neg cv4).symm.trans h
        refine v_aloadn X dX8_isSo_25 rfl rfl ?_
        refine gf_X8_25 X dX8_isSo_26 ?_
        refine v_iloadn X dX8_isSo_29 rfl rfl ?_
        refine v_iconst (v := 4) X dX8_isSo_30 (by decide) ?_
        obtain ⟨rv7, gv6, qv5, h⟩ := bd2_some h
        refine v_callSI (As := [.ref (ad (9, 11, 7)), .int z1, .int (4 : Int32)]) (rest := []) X (c_X8_of l D ad cy X.2.2.2.2.2.2.2.2.1 N 7 z1 (4 : Int32) gv3 rv7 gv6 (by decide +kernel) qv5) mw_X8_of ml_X8_155 (by decide) rfl rfl (Nat.le_of_ble_eq_true rfl) dX8_isSo_31 ?_
        refine v_aloadn X dX8_isSo_34 rfl rfl ?_
        refine gf_X8_16 X dX8_isSo_35 ?_
        refine v_iloadn X dX8_isSo_38 rfl rfl ?_
        refine v_iload X dX8_isSo_39 rfl ?_
        refine v_iadd X dX8_isSo_41 ?_
        obtain ⟨jv8, qv9, h⟩ := bd1_some h
        obtain ⟨ejv8, ljv8⟩ := ix_spec qv9
        refine alM X (by decide +kernel) jv8 ejv8 ljv8 dX8_isSo_42 ?_
        refine v_icmp_ne X 50 dX8_isSo_43 (by decide) (fun cv10 => ?_) (fun cv10 => ?_)
        · replace h := (if_neg cv10).symm.trans h
          refine v_iconst (v := 0) X dX8_isSo_50 (by decide) ?_
          refine v_istore (lc' := [some (.ref (ad (8, 0, 0))), some (.int z1), some (.int z2), some (.int z3), some (.int (0 : Int32)), some (.int y5)]) X dX8_isSo_51 (by decide) rfl rfl ?_
          refine v_iinc (v := (y5 + 1)) (lc' := [some (.ref (ad (8, 0, 0))), some (.int z1), some (.int z2), some (.int z3), some (.int (0 : Int32)), some (.int (y5 + 1))]) X dX8_isSo_53 rfl rfl (by decide) rfl rfl ?_
          refine v_goto X 6 dX8_isSo_56 (by decide) ?_
          exact ih (0 : Int32) (y5 + 1) gv6 _ _ _ h k
        · replace h := (if_pos cv10).symm.trans h
          refine v_iconst (v := 1) X dX8_isSo_46 (by decide) ?_
          refine v_goto X 51 dX8_isSo_47 (by decide) ?_
          refine v_istore (lc' := [some (.ref (ad (8, 0, 0))), some (.int z1), some (.int z2), some (.int z3), some (.int (1 : Int32)), some (.int y5)]) X dX8_isSo_51 (by decide) rfl rfl ?_
          refine v_iinc (v := (y5 + 1)) (lc' := [some (.ref (ad (8, 0, 0))), some (.int z1), some (.int z2), some (.int z3), some (.int (1 : Int32)), some (.int (y5 + 1))]) X dX8_isSo_53 rfl rfl (by decide) rfl rfl ?_
          refine v_goto X 6 dX8_isSo_56 (by decide) ?_
          exact ih (1 : Int32) (y5 + 1) gv6 _ _ _ h k
set_option maxRecDepth 100000 in
set_option maxHeartbeats 4000000 in
theorem c_X8_isSo (l : Launch) (D : va_G) (ad : Ky → Nat) (cy : Nat → ClassId) (hI : Inj ad) (N : Nat) (x1 : Int32) (x2 : Int32) (x3 : Int32) (g : GS) (r : Int32) (gq : GS) (h : F_X8_isSo N x1 x2 x3 g = some (r, gq)) : CtI l D ad cy yX8_isSo cX8_isSo 6 (some .boolean) 6 [.ref (ad (8, 0, 0)), .int x1, .int x2, .int x3] g r gq := by
  refine CtI.of 2 hI (by decide +kernel) rfl (Nat.le_of_ble_eq_true rfl) (fun p e s m args below meth c X => ?_)
  unfold F_X8_isSo at h
  show Vy _ _ _ _ _ _ _ _ _ _ _ _ _ _ _ 0 [some (.ref (ad (8, 0, 0))), some (.int x1), some (.int x2), some (.int x3), none, none] [] g
  refine v_iconst (v := 1) X dX8_isSo_0 (by decide) ?_
  refine v_istore (lc' := [some (.ref (ad (8, 0, 0))), some (.int x1), some (.int x2), some (.int x3), some (.int (1 : Int32)), none]) X dX8_isSo_1 (by decide) rfl rfl ?_
  refine v_iconst (v := 0) X dX8_isSo_3 (by decide) ?_
  refine v_istore (lc' := [some (.ref (ad (8, 0, 0))), some (.int x1), some (.int x2), some (.int x3), some (.int (1 : Int32)), some (.int (0 : Int32))]) X dX8_isSo_4 (by decide) rfl rfl ?_
  obtain ⟨xv11, xv12, gv13, qv14, h⟩ := bd3_some h
  refine w_X8_isSo_6 X x1 x2 x3 N (1 : Int32) (0 : Int32) g xv11 xv12 gv13 qv14 ?_
  refine v_iload X dX8_isSo_59 rfl ?_
  by_cases cv15 : xv11 = 0 ∨ xv11 = 1
  · replace h := (if_pos cv15).symm.trans h
    obtain ⟨er, eg⟩ := Prod.mk.inj (Option.some.inj h)
    exact v_zret X dX8_isSo_61 (nb cv15) er eg
  · replace h := (if_neg cv15).symm.trans h
    cases h
def F_X8_kindBy (N : Nat) (x0 : Int32) (g : GS) : Option (Int32 × GS) := if x0 = (98 : Int32) then some ((1 : Int32), g) else if x0 = (102 : Int32) then some ((2 : Int32), g) else if x0 = (116 : Int32) then some ((3 : Int32), g) else if x0 = (108 : Int32) then some ((4 : Int32), g) else if x0 = (99 : Int32) then some ((5 : Int32), g) else some ((-1000000 : Int32), g)
set_option maxRecDepth 100000 in
set_option maxHeartbeats 4000000 in
theorem c_X8_kindBy (l : Launch) (D : va_G) (ad : Ky → Nat) (cy : Nat → ClassId) (hI : Inj ad) (N : Nat) (x0 : Int32) (g : GS) (r : Int32) (gq : GS) (h : F_X8_kindBy N x0 g = some (r, gq)) : CtI l D ad cy yX8_kindBy cX8_kindBy 1 (some .int) 0 [.int x0] g r gq := by
  refine CtI.of 0 hI (by decide +kernel) rfl (Nat.le_of_ble_eq_true rfl) (fun p e s m args below meth c X => ?_)
  unfold F_X8_kindBy at h
  show Vy _ _ _ _ _ _ _ _ _ _ _ _ _ _ _ 0 [some (.int x0)] [] g
  refine v_iloadn X dX8_kindBy_0 rfl rfl ?_
  refine v_bipush (v := 98) X dX8_kindBy_1 (by decide) ?_
  refine v_icmp_ne X 10 dX8_kindBy_3 (by decide) (fun cv1 => ?_) (fun cv1 => ?_)
  · replace h := (if_neg cv1).symm.trans h
    refine v_iloadn X dX8_kindBy_10 rfl rfl ?_
    refine v_bipush (v := 102) X dX8_kindBy_11 (by decide) ?_
    refine v_icmp_ne X 20 dX8_kindBy_13 (by decide) (fun cv2 => ?_) (fun cv2 => ?_)
    · replace h := (if_neg cv2).symm.trans h
      refine v_iloadn X dX8_kindBy_20 rfl rfl ?_
      refine v_bipush (v := 116) X dX8_kindBy_21 (by decide) ?_
      refine v_icmp_ne X 30 dX8_kindBy_23 (by decide) (fun cv3 => ?_) (fun cv3 => ?_)
      · replace h := (if_neg cv3).symm.trans h
        refine v_iloadn X dX8_kindBy_30 rfl rfl ?_
        refine v_bipush (v := 108) X dX8_kindBy_31 (by decide) ?_
        refine v_icmp_ne X 40 dX8_kindBy_33 (by decide) (fun cv4 => ?_) (fun cv4 => ?_)
        · replace h := (if_neg cv4).symm.trans h
          refine v_iloadn X dX8_kindBy_40 rfl rfl ?_
          refine v_bipush (v := 99) X dX8_kindBy_41 (by decide) ?_
          refine v_icmp_ne X 50 dX8_kindBy_43 (by decide) (fun cv5 => ?_) (fun cv5 => ?_)
          · replace h := (if_neg cv5).symm.trans h
            refine v_ldc X kc_X8_93 dX8_kindBy_50 ?_
            obtain ⟨er, eg⟩ := Prod.mk.inj (Option.some.inj h)
            exact v_iret X dX8_kindBy_52 er eg
          · replace h := (if_pos cv5).symm.trans h
            refine v_iconst (v := 5) X dX8_kindBy_46 (by decide) ?_
            refine v_goto X 52 dX8_kindBy_47 (by decide) ?_
            obtain ⟨er, eg⟩ := Prod.mk.inj (Option.some.inj h)
            exact v_iret X dX8_kindBy_52 er eg
        · replace h := (if_pos cv4).symm.trans h
          refine v_iconst (v := 4) X dX8_kindBy_36 (by decide) ?_
          refine v_goto X 52 dX8_kindBy_37 (by decide) ?_
          obtain ⟨er, eg⟩ := Prod.mk.inj (Option.some.inj h)
          exact v_iret X dX8_kindBy_52 er eg
      · replace h := (if_pos cv3).symm.trans h
        refine v_iconst (v := 3) X dX8_kindBy_26 (by decide) ?_
        refine v_goto X 52 dX8_kindBy_27 (by decide) ?_
        obtain ⟨er, eg⟩ := Prod.mk.inj (Option.some.inj h)
        exact v_iret X dX8_kindBy_52 er eg
    · replace h := (if_pos cv2).symm.trans h
      refine v_iconst (v := 2) X dX8_kindBy_16 (by decide) ?_
      refine v_goto X 52 dX8_kindBy_17 (by decide) ?_
      obtain ⟨er, eg⟩ := Prod.mk.inj (Option.some.inj h)
      exact v_iret X dX8_kindBy_52 er eg
  · replace h := (if_pos cv1).symm.trans h
    refine v_iconst (v := 1) X dX8_kindBy_6 (by decide) ?_
    refine v_goto X 52 dX8_kindBy_7 (by decide) ?_
    obtain ⟨er, eg⟩ := Prod.mk.inj (Option.some.inj h)
    exact v_iret X dX8_kindBy_52 er eg
def F_X8_isSort (N : Nat) (g : GS) : Option (Int32 × GS) := if (g 10 0 17) = 0 then if (g 10 0 15) = (2 : Int32) then bd2 (F_X8_kindBy N (g 10 0 16) g) (fun rv5 gv4 => if rv5 = (-1000000 : Int32) then some ((0 : Int32), gv4) else some ((1 : Int32), gv4)) else some ((0 : Int32), g) else some ((0 : Int32), g)
set_option maxRecDepth 100000 in
set_option maxHeartbeats 4000000 in
theorem c_X8_isSort (l : Launch) (D : va_G) (ad : Ky → Nat) (cy : Nat → ClassId) (hI : Inj ad) (N : Nat) (g : GS) (r : Int32) (gq : GS) (h : F_X8_isSort N  g = some (r, gq)) : CtI l D ad cy yX8_isSort cX8_isSort 1 (some .boolean) 1 [.ref (ad (8, 0, 0))] g r gq := by
  refine CtI.of 0 hI (by decide +kernel) rfl (Nat.le_of_ble_eq_true rfl) (fun p e s m args below meth c X => ?_)
  unfold F_X8_isSort at h
  show Vy _ _ _ _ _ _ _ _ _ _ _ _ _ _ _ 0 [some (.ref (ad (8, 0, 0)))] [] g
  refine v_aloadn X dX8_isSort_0 rfl rfl ?_
  refine gf_X8_81 X dX8_isSort_1 ?_
  refine v_if_ne X 31 dX8_isSort_4 (by decide) (fun cv1 => ?_) (fun cv1 => ?_)
  · replace h := (if_neg cv1).symm.trans h
    refine v_iconst (v := 0) X dX8_isSort_31 (by decide) ?_
    obtain ⟨er, eg⟩ := Prod.mk.inj (Option.some.inj h)
    exact v_zret X dX8_isSort_32 rfl er eg
  · replace h := (if_pos cv1).symm.trans h
    refine v_aloadn X dX8_isSort_7 rfl rfl ?_
    refine gf_X8_105 X dX8_isSort_8 ?_
    refine v_iconst (v := 2) X dX8_isSort_11 (by decide) ?_
    refine v_icmp_ne X 31 dX8_isSort_12 (by decide) (fun cv2 => ?_) (fun cv2 => ?_)
    · replace h := (if_neg cv2).symm.trans h
      refine v_iconst (v := 0) X dX8_isSort_31 (by decide) ?_
      obtain ⟨er, eg⟩ := Prod.mk.inj (Option.some.inj h)
      exact v_zret X dX8_isSort_32 rfl er eg
    · replace h := (if_pos cv2).symm.trans h
      refine v_aloadn X dX8_isSort_15 rfl rfl ?_
      refine gf_X8_94 X dX8_isSort_16 ?_
      obtain ⟨rv5, gv4, qv3, h⟩ := bd2_some h
      refine v_callSI (As := [.int (g 10 0 16)]) (rest := []) X (c_X8_kindBy l D ad cy X.2.2.2.2.2.2.2.2.1 N (g 10 0 16) g rv5 gv4  qv3) mw_X8_kindBy ml_X8_122 (by decide) rfl rfl (Nat.le_of_ble_eq_true rfl) dX8_isSort_19 ?_
      refine v_ldc X kc_X8_93 dX8_isSort_22 ?_
      refine v_icmp_eq X 31 dX8_isSort_24 (by decide) (fun cv6 => ?_) (fun cv6 => ?_)
      · replace h := (if_pos cv6).symm.trans h
        refine v_iconst (v := 0) X dX8_isSort_31 (by decide) ?_
        obtain ⟨er, eg⟩ := Prod.mk.inj (Option.some.inj h)
        exact v_zret X dX8_isSort_32 rfl er eg
      · replace h := (if_neg cv6).symm.trans h
        refine v_iconst (v := 1) X dX8_isSort_27 (by decide) ?_
        refine v_goto X 32 dX8_isSort_28 (by decide) ?_
        obtain ⟨er, eg⟩ := Prod.mk.inj (Option.some.inj h)
        exact v_zret X dX8_isSort_32 rfl er eg
def F_X8_kind (N : Nat) (x1 : Int32) (g : GS) : Option (Int32 × GS) := bd2 (F_X8_isPaper N x1 (g3 g 10 0 0 (0 : Int32))) (fun rv3 gv2 => if rv3 = 0 then some ((-1000001 : Int32), gv2) else bd2 (F_X8_of N 5 x1 (0 : Int32) gv2) (fun rv7 gv6 => some (rv7, gv6)))
set_option maxRecDepth 100000 in
set_option maxHeartbeats 4000000 in
theorem c_X8_kind (l : Launch) (D : va_G) (ad : Ky → Nat) (cy : Nat → ClassId) (hI : Inj ad) (N : Nat) (x1 : Int32) (g : GS) (r : Int32) (gq : GS) (h : F_X8_kind N x1 g = some (r, gq)) : CtI l D ad cy yX8_kind cX8_kind 2 (some .int) 2 [.ref (ad (8, 0, 0)), .int x1] g r gq := by
  refine CtI.of 0 hI (by decide +kernel) rfl (Nat.le_of_ble_eq_true rfl) (fun p e s m args below meth c X => ?_)
  unfold F_X8_kind at h
  show Vy _ _ _ _ _ _ _ _ _ _ _ _ _ _ _ 0 [some (.ref (ad (8, 0, 0))), some (.int x1)] [] g
  refine v_aloadn X dX8_kind_0 rfl rfl ?_
  refine v_iconst (v := 0) X dX8_kind_1 (by decide) ?_
  refine pf_X8_50 X dX8_kind_2 ?_
  refine v_aloadn X dX8_kind_5 rfl rfl ?_
  refine v_iloadn X dX8_kind_6 rfl rfl ?_
  obtain ⟨rv3, gv2, qv1, h⟩ := bd2_some h
  refine v_callVI (As := [.int x1]) (rest := []) X (c_X8_isPaper l D ad cy X.2.2.2.2.2.2.2.2.1 N x1 (g3 g 10 0 0 (0 : Int32)) rv3 gv2  qv1) mw_X8_isPaper ml_X8_208 (by decide) (by decide +kernel) (by decide) rfl rfl rfl rfl (Nat.le_of_ble_eq_true rfl) dX8_kind_7 ?_
  refine v_if_eq X 25 dX8_kind_10 (by decide) (fun cv4 => ?_) (fun cv4 => ?_)
  · replace h := (if_pos cv4).symm.trans h
    refine v_ldc X kc_X8_70 dX8_kind_25 ?_
    obtain ⟨er, eg⟩ := Prod.mk.inj (Option.some.inj h)
    exact v_iret X dX8_kind_27 er eg
  · replace h := (if_neg cv4).symm.trans h
    refine v_aloadn X dX8_kind_13 rfl rfl ?_
    refine gf_X8_19 X dX8_kind_14 ?_
    refine v_iloadn X dX8_kind_17 rfl rfl ?_
    refine v_iconst (v := 0) X dX8_kind_18 (by decide) ?_
    obtain ⟨rv7, gv6, qv5, h⟩ := bd2_some h
    refine v_callSI (As := [.ref (ad (9, 11, 5)), .int x1, .int (0 : Int32)]) (rest := []) X (c_X8_of l D ad cy X.2.2.2.2.2.2.2.2.1 N 5 x1 (0 : Int32) gv2 rv7 gv6 (by decide +kernel) qv5) mw_X8_of ml_X8_155 (by decide) rfl rfl (Nat.le_of_ble_eq_true rfl) dX8_kind_19 ?_
    refine v_goto X 27 dX8_kind_22 (by decide) ?_
    obtain ⟨er, eg⟩ := Prod.mk.inj (Option.some.inj h)
    exact v_iret X dX8_kind_27 er eg
def F_X8_let (N : Nat) (x1 : Int32) (x2 : Int32) (g : GS) : Option (Int32 × GS) := bd2 (F_X8_isPaper N x1 (g3 g 10 0 0 (0 : Int32))) (fun rv3 gv2 => if rv3 = 0 then some ((-1000001 : Int32), gv2) else bd2 (F_X8_in N (x2.toInt64) (-40 : Int64) (40 : Int64) gv2) (fun rv7 gv6 => if rv7 = 0 then some ((-1000001 : Int32), gv6) else if x2 = 0 then some ((-1000001 : Int32), gv6) else bd2 (F_X8_isUp N 5 x1 gv6) (fun rv12 gv11 => if rv12 = 0 then some ((-1000002 : Int32), gv11) else bd2 (F_X8_of N 5 x1 (5 : Int32) gv11) (fun rv16 gv15 => bd2 (F_X8_in N ((rv16 + x2).toInt64) (1 : Int64) (40 : Int64) gv15) (fun rv19 gv18 => if rv19 = 0 then some ((-1000002 : Int32), gv18) else bd1 (F_X8_keep N  gv18) (fun gv22 => bd2 (F_X8_of N 5 x1 (5 : Int32) gv22) (fun rv25 gv24 => bd1 (F_X8_letsOut N 5 x1 (rv25 + x2) gv24) (fun gv27 => bd2 (F_X8_of N 5 x1 (5 : Int32) gv27) (fun rv30 gv29 => some (rv30, gv29))))))))))
set_option maxRecDepth 100000 in
set_option maxHeartbeats 4000000 in
theorem c_X8_let (l : Launch) (D : va_G) (ad : Ky → Nat) (cy : Nat → ClassId) (hI : Inj ad) (N : Nat) (x1 : Int32) (x2 : Int32) (g : GS) (r : Int32) (gq : GS) (h : F_X8_let N x1 x2 g = some (r, gq)) : CtI l D ad cy yX8_let cX8_let 3 (some .int) 2 [.ref (ad (8, 0, 0)), .int x1, .int x2] g r gq := by
  refine CtI.of 0 hI (by decide +kernel) rfl (Nat.le_of_ble_eq_true rfl) (fun p e s m args below meth c X => ?_)
  unfold F_X8_let at h
  show Vy _ _ _ _ _ _ _ _ _ _ _ _ _ _ _ 0 [some (.ref (ad (8, 0, 0))), some (.int x1), some (.int x2)] [] g
  refine v_aloadn X dX8_let_0 rfl rfl ?_
  refine v_iconst (v := 0) X dX8_let_1 (by decide) ?_
  refine pf_X8_50 X dX8_let_2 ?_
  refine v_aloadn X dX8_let_5 rfl rfl ?_
  refine v_iloadn X dX8_let_6 rfl rfl ?_
  obtain ⟨rv3, gv2, qv1, h⟩ := bd2_some h
  refine v_callVI (As := [.int x1]) (rest := []) X (c_X8_isPaper l D ad cy X.2.2.2.2.2.2.2.2.1 N x1 (g3 g 10 0 0 (0 : Int32)) rv3 gv2  qv1) mw_X8_isPaper ml_X8_208 (by decide) (by decide +kernel) (by decide) rfl rfl rfl rfl (Nat.le_of_ble_eq_true rfl) dX8_let_7 ?_
  refine v_if_eq X 31 dX8_let_10 (by decide) (fun cv4 => ?_) (fun cv4 => ?_)
  · replace h := (if_pos cv4).symm.trans h
    refine v_ldc X kc_X8_70 dX8_let_31 ?_
    obtain ⟨er, eg⟩ := Prod.mk.inj (Option.some.inj h)
    exact v_iret X dX8_let_33 er eg
  · replace h := (if_neg cv4).symm.trans h
    refine v_iloadn X dX8_let_13 rfl rfl ?_
    refine v_i2l X dX8_let_14 ?_
    refine v_ldc2 X kl_X8_220 dX8_let_15 ?_
    refine v_ldc2 X kl_X8_211 dX8_let_18 ?_
    obtain ⟨rv7, gv6, qv5, h⟩ := bd2_some h
    refine v_callSI (As := [.long (x2.toInt64), .long (-40 : Int64), .long (40 : Int64)]) (rest := []) X (c_X8_in l D ad cy X.2.2.2.2.2.2.2.2.1 N (x2.toInt64) (-40 : Int64) (40 : Int64) gv2 rv7 gv6  qv5) mw_X8_in ml_X8_60 (by decide) rfl rfl (Nat.le_of_ble_eq_true rfl) dX8_let_21 ?_
    refine v_if_eq X 31 dX8_let_24 (by decide) (fun cv8 => ?_) (fun cv8 => ?_)
    · replace h := (if_pos cv8).symm.trans h
      refine v_ldc X kc_X8_70 dX8_let_31 ?_
      obtain ⟨er, eg⟩ := Prod.mk.inj (Option.some.inj h)
      exact v_iret X dX8_let_33 er eg
    · replace h := (if_neg cv8).symm.trans h
      refine v_iloadn X dX8_let_27 rfl rfl ?_
      refine v_if_ne X 34 dX8_let_28 (by decide) (fun cv9 => ?_) (fun cv9 => ?_)
      · replace h := (if_neg cv9).symm.trans h
        refine v_aloadn X dX8_let_34 rfl rfl ?_
        refine gf_X8_19 X dX8_let_35 ?_
        refine v_iloadn X dX8_let_38 rfl rfl ?_
        obtain ⟨rv12, gv11, qv10, h⟩ := bd2_some h
        refine v_callSI (As := [.ref (ad (9, 11, 5)), .int x1]) (rest := []) X (c_X8_isUp l D ad cy X.2.2.2.2.2.2.2.2.1 N 5 x1 gv6 rv12 gv11 (by decide +kernel) qv10) mw_X8_isUp ml_X8_159 (by decide) rfl rfl (Nat.le_of_ble_eq_true rfl) dX8_let_39 ?_
        refine v_if_eq X 67 dX8_let_42 (by decide) (fun cv13 => ?_) (fun cv13 => ?_)
        · replace h := (if_pos cv13).symm.trans h
          refine v_ldc X kc_X8_198 dX8_let_67 ?_
          obtain ⟨er, eg⟩ := Prod.mk.inj (Option.some.inj h)
          exact v_iret X dX8_let_69 er eg
        · replace h := (if_neg cv13).symm.trans h
          refine v_aloadn X dX8_let_45 rfl rfl ?_
          refine gf_X8_19 X dX8_let_46 ?_
          refine v_iloadn X dX8_let_49 rfl rfl ?_
          refine v_iconst (v := 5) X dX8_let_50 (by decide) ?_
          obtain ⟨rv16, gv15, qv14, h⟩ := bd2_some h
          refine v_callSI (As := [.ref (ad (9, 11, 5)), .int x1, .int (5 : Int32)]) (rest := []) X (c_X8_of l D ad cy X.2.2.2.2.2.2.2.2.1 N 5 x1 (5 : Int32) gv11 rv16 gv15 (by decide +kernel) qv14) mw_X8_of ml_X8_155 (by decide) rfl rfl (Nat.le_of_ble_eq_true rfl) dX8_let_51 ?_
          refine v_iloadn X dX8_let_54 rfl rfl ?_
          refine v_iadd X dX8_let_55 ?_
          refine v_i2l X dX8_let_56 ?_
          refine v_lconst (v := 1) X dX8_let_57 (by decide) ?_
          refine v_ldc2 X kl_X8_211 dX8_let_58 ?_
          obtain ⟨rv19, gv18, qv17, h⟩ := bd2_some h
          refine v_callSI (As := [.long ((rv16 + x2).toInt64), .long (1 : Int64), .long (40 : Int64)]) (rest := []) X (c_X8_in l D ad cy X.2.2.2.2.2.2.2.2.1 N ((rv16 + x2).toInt64) (1 : Int64) (40 : Int64) gv15 rv19 gv18  qv17) mw_X8_in ml_X8_60 (by decide) rfl rfl (Nat.le_of_ble_eq_true rfl) dX8_let_61 ?_
          refine v_if_ne X 70 dX8_let_64 (by decide) (fun cv20 => ?_) (fun cv20 => ?_)
          · replace h := (if_neg cv20).symm.trans h
            refine v_aloadn X dX8_let_70 rfl rfl ?_
            obtain ⟨gv22, qv21, h⟩ := bd1_some h
            refine v_callVV (As := []) (rest := []) X (c_X8_keep l D ad cy X.2.2.2.2.2.2.2.2.1 N  gv18 gv22  qv21) mw_X8_keep ml_X8_201 (by decide) (by decide +kernel) (by decide) rfl rfl rfl rfl (Nat.le_of_ble_eq_true rfl) dX8_let_71 ?_
            refine v_aloadn X dX8_let_74 rfl rfl ?_
            refine gf_X8_19 X dX8_let_75 ?_
            refine v_iloadn X dX8_let_78 rfl rfl ?_
            refine v_aloadn X dX8_let_79 rfl rfl ?_
            refine gf_X8_19 X dX8_let_80 ?_
            refine v_iloadn X dX8_let_83 rfl rfl ?_
            refine v_iconst (v := 5) X dX8_let_84 (by decide) ?_
            obtain ⟨rv25, gv24, qv23, h⟩ := bd2_some h
            refine v_callSI (As := [.ref (ad (9, 11, 5)), .int x1, .int (5 : Int32)]) (rest := [.int x1, .ref (ad (9, 11, 5))]) X (c_X8_of l D ad cy X.2.2.2.2.2.2.2.2.1 N 5 x1 (5 : Int32) gv22 rv25 gv24 (by decide +kernel) qv23) mw_X8_of ml_X8_155 (by decide) rfl rfl (Nat.le_of_ble_eq_true rfl) dX8_let_85 ?_
            refine v_iloadn X dX8_let_88 rfl rfl ?_
            refine v_iadd X dX8_let_89 ?_
            obtain ⟨gv27, qv26, h⟩ := bd1_some h
            refine v_callSV (As := [.ref (ad (9, 11, 5)), .int x1, .int (rv25 + x2)]) (rest := []) X (c_X8_letsOut l D ad cy X.2.2.2.2.2.2.2.2.1 N 5 x1 (rv25 + x2) gv24 gv27 (by decide +kernel) qv26) mw_X8_letsOut ml_X8_222 (by decide) rfl rfl (Nat.le_of_ble_eq_true rfl) dX8_let_90 ?_
            refine v_aloadn X dX8_let_93 rfl rfl ?_
            refine gf_X8_19 X dX8_let_94 ?_
            refine v_iloadn X dX8_let_97 rfl rfl ?_
            refine v_iconst (v := 5) X dX8_let_98 (by decide) ?_
            obtain ⟨rv30, gv29, qv28, h⟩ := bd2_some h
            refine v_callSI (As := [.ref (ad (9, 11, 5)), .int x1, .int (5 : Int32)]) (rest := []) X (c_X8_of l D ad cy X.2.2.2.2.2.2.2.2.1 N 5 x1 (5 : Int32) gv27 rv30 gv29 (by decide +kernel) qv28) mw_X8_of ml_X8_155 (by decide) rfl rfl (Nat.le_of_ble_eq_true rfl) dX8_let_99 ?_
            obtain ⟨er, eg⟩ := Prod.mk.inj (Option.some.inj h)
            exact v_iret X dX8_let_102 er eg
          · replace h := (if_pos cv20).symm.trans h
            refine v_ldc X kc_X8_198 dX8_let_67 ?_
            obtain ⟨er, eg⟩ := Prod.mk.inj (Option.some.inj h)
            exact v_iret X dX8_let_69 er eg
      · replace h := (if_pos cv9).symm.trans h
        refine v_ldc X kc_X8_70 dX8_let_31 ?_
        obtain ⟨er, eg⟩ := Prod.mk.inj (Option.some.inj h)
        exact v_iret X dX8_let_33 er eg
def L_X8_lets_79 (N : Nat) (z1 : Int32) (z2 : Int32) (z3 : Int32) (z4 : Int32) (z5 : Int32) (z6 : Int32) (z7 : Int32) : Nat → Int32 → GS → Option (Int32 × GS)
  | 0, _, _ => none
  | n + 1, y8, g => if z2 ≤ y8 then some (y8, g) else bd2 (F_X8_isUp N 7 z1 g) (fun rv20 gv19 => if rv20 = 0 then bd1 (F_X8_hour N 7 gv19) (fun gv23 => L_X8_lets_79 N z1 z2 z3 z4 z5 z6 z7 n (y8 + 1) gv23) else bd2 (F_X8_of N 7 z1 (5 : Int32) gv19) (fun rv26 gv25 => bd1 (ix ((z7 >>> (((2 : Int32) * ((z2 - (1 : Int32)) - y8)) &&& 31)) &&& (3 : Int32)) 4) (fun jv27 => if (rv26 + (gv25 11 20 jv27)) ≤ (40 : Int32) then if (1 : Int32) ≤ (rv26 + (gv25 11 20 jv27)) then bd1 (F_X8_letsOut N 7 z1 (rv26 + (gv25 11 20 jv27)) gv25) (fun gv32 => bd1 (F_X8_hour N 7 gv32) (fun gv34 => L_X8_lets_79 N z1 z2 z3 z4 z5 z6 z7 n (y8 + 1) gv34)) else bd1 (F_X8_letsOut N 7 z1 (1 : Int32) gv25) (fun gv36 => bd1 (F_X8_hour N 7 gv36) (fun gv38 => L_X8_lets_79 N z1 z2 z3 z4 z5 z6 z7 n (y8 + 1) gv38)) else bd1 (F_X8_letsOut N 7 z1 (40 : Int32) gv25) (fun gv40 => bd1 (F_X8_hour N 7 gv40) (fun gv42 => L_X8_lets_79 N z1 z2 z3 z4 z5 z6 z7 n (y8 + 1) gv42)))))
def L_X8_lets_65 (N : Nat) (z1 : Int32) (z2 : Int32) (z3 : Int32) (z4 : Int32) : Nat → Int32 → Int32 → Int32 → GS → Option (Int32 × Int32 × Int32 × GS)
  | 0, _, _, _, _ => none
  | n + 1, y5, y6, y7, g => if z4 ≤ y7 then some (y5, y6, y7, g) else bd1 (F_X8_layThen N  g) (fun gv16 => bd2 (L_X8_lets_79 N z1 z2 z3 z4 y5 y6 y7 N (0 : Int32) gv16) (fun xv43 gv44 => bd2 (F_X8_isUp N 7 z1 gv44) (fun rv48 gv47 => if rv48 = 0 then L_X8_lets_65 N z1 z2 z3 z4 n y5 y6 (y7 + 1) gv47 else bd2 (F_X8_of N 7 z1 (4 : Int32) gv47) (fun rv52 gv51 => if rv52 ≤ y6 then L_X8_lets_65 N z1 z2 z3 z4 n y5 y6 (y7 + 1) gv51 else bd2 (F_X8_of N 7 z1 (4 : Int32) gv51) (fun rv56 gv55 => L_X8_lets_65 N z1 z2 z3 z4 n y7 rv56 (y7 + 1) gv55)))))
def F_X8_lets (N : Nat) (x1 : Int32) (x2 : Int32) (x3 : Int32) (g : GS) : Option (Int32 × GS) := bd2 (F_X8_isPaper N x1 (g3 g 10 0 0 (0 : Int32))) (fun rv3 gv2 => if rv3 = 0 then some ((-1000001 : Int32), gv2) else bd2 (F_X8_in N (x2.toInt64) (1 : Int64) (4 : Int64) gv2) (fun rv7 gv6 => if rv7 = 0 then some ((-1000001 : Int32), gv6) else if (-1 : Int32) ≤ x3 then bd2 (F_X8_isUp N 5 x1 gv6) (fun rv12 gv11 => if rv12 = 0 then some ((-1000002 : Int32), gv11) else bd4 (L_X8_lets_65 N x1 x2 x3 ((1 : Int32) <<< (((2 : Int32) * x2) &&& 31)) N (-1000000 : Int32) (-1000000 : Int32) (0 : Int32) gv11) (fun xv57 xv58 xv59 gv60 => if xv57 = (-1000000 : Int32) then some (xv58, gv60) else if x3 = (-1 : Int32) then some (xv58, gv60) else if x2 ≤ x3 then some ((-1000000 : Int32), gv60) else some (((xv57 >>> (((2 : Int32) * ((x2 - (1 : Int32)) - x3)) &&& 31)) &&& (3 : Int32)), gv60))) else some ((-1000001 : Int32), gv6)))
set_option maxRecDepth 100000 in
set_option maxHeartbeats 4000000 in
theorem w_X8_lets_79 {p : Program} {l : Launch} {e : Env} {s : State} {m : MethodId} {args : Array Value} {below : List Frame} {meth : Method} {c : Code} {D : va_G} {ad : Ky → Nat} {cy : Nat → ClassId} {r : Int32} {gq : GS} {N : Nat} (X : Cx p (rmd 6) s m args meth c RX8 cX8_lets 10 (some .int) D ad cy) (z1 : Int32) (z2 : Int32) (z3 : Int32) (z4 : Int32) (z5 : Int32) (z6 : Int32) (z7 : Int32) : ∀ (n : Nat) (y8 : Int32) (g : GS) (y8' : Int32) (g' : GS), L_X8_lets_79 N z1 z2 z3 z4 z5 z6 z7 n y8 g = some (y8', g') → Vy p l e (rmd 6) s m args below meth c 10 D ad cy (QI D ad cy below args s r gq) 172 [some (.ref (ad (8, 0, 0))), some (.int z1), some (.int z2), some (.int z3), some (.int z4), some (.int z5), some (.int z6), some (.int z7), some (.int y8'), none] [] g' → Vy p l e (rmd 6) s m args below meth c 10 D ad cy (QI D ad cy below args s r gq) 79 [some (.ref (ad (8, 0, 0))), some (.int z1), some (.int z2), some (.int z3), some (.int z4), some (.int z5), some (.int z6), some (.int z7), some (.int y8), none] [] g := by
  intro n
  induction n with
  | zero => intro y8 g y8' g' h k; cases h
  | succ n ih =>
    intro y8 g y8' g' h k
    rw [L_X8_lets_79] at h
    refine v_iload X dX8_lets_79 rfl ?_
    refine v_iloadn X dX8_lets_81 rfl rfl ?_
    refine v_icmp_ge X 172 dX8_lets_82 (by decide) (fun cv17 => ?_) (fun cv17 => ?_)
    · replace h := (if_pos cv17).symm.trans h
      cases h
      exact k
    · replace h := (if_neg cv17).symm.trans h
      refine v_aloadn X dX8_lets_85 rfl rfl ?_
      refine gf_X8_25 X dX8_lets_86 ?_
      refine v_iloadn X dX8_lets_89 rfl rfl ?_
      obtain ⟨rv20, gv19, qv18, h⟩ := bd2_some h
      refine v_callSI (As := [.ref (ad (9, 11, 7)), .int z1]) (rest := []) X (c_X8_isUp l D ad cy X.2.2.2.2.2.2.2.2.1 N 7 z1 g rv20 gv19 (by decide +kernel) qv18) mw_X8_isUp ml_X8_159 (by decide) rfl rfl (Nat.le_of_ble_eq_true rfl) dX8_lets_90 ?_
      refine v_if_eq X 158 dX8_lets_93 (by decide) (fun cv21 => ?_) (fun cv21 => ?_)
      · replace h := (if_pos cv21).symm.trans h
        refine v_aloadn X dX8_lets_158 rfl rfl ?_
        refine v_aloadn X dX8_lets_159 rfl rfl ?_
        refine gf_X8_25 X dX8_lets_160 ?_
        obtain ⟨gv23, qv22, h⟩ := bd1_some h
        refine v_callVV (As := [.ref (ad (9, 11, 7))]) (rest := []) X (c_X8_hour l D ad cy X.2.2.2.2.2.2.2.2.1 N 7 gv19 gv23 (by decide +kernel) qv22) mw_X8_hour ml_X8_188 (by decide) (by decide +kernel) (by decide) rfl rfl rfl rfl (Nat.le_of_ble_eq_true rfl) dX8_lets_163 ?_
        refine v_iinc (v := (y8 + 1)) (lc' := [some (.ref (ad (8, 0, 0))), some (.int z1), some (.int z2), some (.int z3), some (.int z4), some (.int z5), some (.int z6), some (.int z7), some (.int (y8 + 1)), none]) X dX8_lets_166 rfl rfl (by decide) rfl rfl ?_
        refine v_goto X 79 dX8_lets_169 (by decide) ?_
        exact ih (y8 + 1) gv23 _ _ h k
      · replace h := (if_neg cv21).symm.trans h
        refine v_aloadn X dX8_lets_96 rfl rfl ?_
        refine gf_X8_25 X dX8_lets_97 ?_
        refine v_iloadn X dX8_lets_100 rfl rfl ?_
        refine v_iconst (v := 5) X dX8_lets_101 (by decide) ?_
        obtain ⟨rv26, gv25, qv24, h⟩ := bd2_some h
        refine v_callSI (As := [.ref (ad (9, 11, 7)), .int z1, .int (5 : Int32)]) (rest := []) X (c_X8_of l D ad cy X.2.2.2.2.2.2.2.2.1 N 7 z1 (5 : Int32) gv19 rv26 gv25 (by decide +kernel) qv24) mw_X8_of ml_X8_155 (by decide) rfl rfl (Nat.le_of_ble_eq_true rfl) dX8_lets_102 ?_
        refine v_aloadn X dX8_lets_105 rfl rfl ?_
        refine gf_X8_37 X dX8_lets_106 ?_
        refine v_iload X dX8_lets_109 rfl ?_
        refine v_iconst (v := 2) X dX8_lets_111 (by decide) ?_
        refine v_iloadn X dX8_lets_112 rfl rfl ?_
        refine v_iconst (v := 1) X dX8_lets_113 (by decide) ?_
        refine v_isub X dX8_lets_114 ?_
        refine v_iload X dX8_lets_115 rfl ?_
        refine v_isub X dX8_lets_117 ?_
        refine v_imul X dX8_lets_118 ?_
        refine v_ishr X dX8_lets_119 ?_
        refine v_iconst (v := 3) X dX8_lets_120 (by decide) ?_
        refine v_iand X dX8_lets_121 ?_
        obtain ⟨jv27, qv28, h⟩ := bd1_some h
        obtain ⟨ejv27, ljv27⟩ := ix_spec qv28
        refine alM X (by decide +kernel) jv27 ejv27 ljv27 dX8_lets_122 ?_
        refine v_iadd X dX8_lets_123 ?_
        refine v_istore (lc' := [some (.ref (ad (8, 0, 0))), some (.int z1), some (.int z2), some (.int z3), some (.int z4), some (.int z5), some (.int z6), some (.int z7), some (.int y8), some (.int (rv26 + (gv25 11 20 jv27)))]) X dX8_lets_124 (by decide) rfl rfl ?_
        refine v_aloadn X dX8_lets_126 rfl rfl ?_
        refine gf_X8_25 X dX8_lets_127 ?_
        refine v_iloadn X dX8_lets_130 rfl rfl ?_
        refine v_iload X dX8_lets_131 rfl ?_
        refine v_bipush (v := 40) X dX8_lets_133 (by decide) ?_
        refine v_icmp_le X 143 dX8_lets_135 (by decide) (fun cv29 => ?_) (fun cv29 => ?_)
        · replace h := (if_pos cv29).symm.trans h
          refine v_iload X dX8_lets_143 rfl ?_
          refine v_iconst (v := 1) X dX8_lets_145 (by decide) ?_
          refine v_icmp_ge X 153 dX8_lets_146 (by decide) (fun cv30 => ?_) (fun cv30 => ?_)
          · replace h := (if_pos cv30).symm.trans h
            refine v_iload X dX8_lets_153 rfl ?_
            obtain ⟨gv32, qv31, h⟩ := bd1_some h
            refine v_callSV (As := [.ref (ad (9, 11, 7)), .int z1, .int (rv26 + (gv25 11 20 jv27))]) (rest := []) X (c_X8_letsOut l D ad cy X.2.2.2.2.2.2.2.2.1 N 7 z1 (rv26 + (gv25 11 20 jv27)) gv25 gv32 (by decide +kernel) qv31) mw_X8_letsOut ml_X8_222 (by decide) rfl rfl (Nat.le_of_ble_eq_true rfl) dX8_lets_155 ?_
            refine v_aloadn X dX8_lets_158 rfl rfl ?_
            refine v_aloadn X dX8_lets_159 rfl rfl ?_
            refine gf_X8_25 X dX8_lets_160 ?_
            obtain ⟨gv34, qv33, h⟩ := bd1_some h
            refine v_callVV (As := [.ref (ad (9, 11, 7))]) (rest := []) X (c_X8_hour l D ad cy X.2.2.2.2.2.2.2.2.1 N 7 gv32 gv34 (by decide +kernel) qv33) mw_X8_hour ml_X8_188 (by decide) (by decide +kernel) (by decide) rfl rfl rfl rfl (Nat.le_of_ble_eq_true rfl) dX8_lets_163 ?_
            refine v_iinc (v := (y8 + 1)) (lc' := [some (.ref (ad (8, 0, 0))), some (.int z1), some (.int z2), some (.int z3), some (.int z4), some (.int z5), some (.int z6), some (.int z7), some (.int (y8 + 1)), some (.int (rv26 + (gv25 11 20 jv27)))]) X dX8_lets_166 rfl rfl (by decide) rfl rfl ?_
            refine v_goto X 79 dX8_lets_169 (by decide) ?_
            refine v_weak (lc2 := [some (.ref (ad (8, 0, 0))), some (.int z1), some (.int z2), some (.int z3), some (.int z4), some (.int z5), some (.int z6), some (.int z7), some (.int (y8 + 1)), none]) ⟨rfl, rfl, rfl, rfl, rfl, rfl, rfl, rfl, rfl, trivial⟩ ?_
            exact ih (y8 + 1) gv34 _ _ h k
          · replace h := (if_neg cv30).symm.trans h
            refine v_iconst (v := 1) X dX8_lets_149 (by decide) ?_
            refine v_goto X 155 dX8_lets_150 (by decide) ?_
            obtain ⟨gv36, qv35, h⟩ := bd1_some h
            refine v_callSV (As := [.ref (ad (9, 11, 7)), .int z1, .int (1 : Int32)]) (rest := []) X (c_X8_letsOut l D ad cy X.2.2.2.2.2.2.2.2.1 N 7 z1 (1 : Int32) gv25 gv36 (by decide +kernel) qv35) mw_X8_letsOut ml_X8_222 (by decide) rfl rfl (Nat.le_of_ble_eq_true rfl) dX8_lets_155 ?_
            refine v_aloadn X dX8_lets_158 rfl rfl ?_
            refine v_aloadn X dX8_lets_159 rfl rfl ?_
            refine gf_X8_25 X dX8_lets_160 ?_
            obtain ⟨gv38, qv37, h⟩ := bd1_some h
            refine v_callVV (As := [.ref (ad (9, 11, 7))]) (rest := []) X (c_X8_hour l D ad cy X.2.2.2.2.2.2.2.2.1 N 7 gv36 gv38 (by decide +kernel) qv37) mw_X8_hour ml_X8_188 (by decide) (by decide +kernel) (by decide) rfl rfl rfl rfl (Nat.le_of_ble_eq_true rfl) dX8_lets_163 ?_
            refine v_iinc (v := (y8 + 1)) (lc' := [some (.ref (ad (8, 0, 0))), some (.int z1), some (.int z2), some (.int z3), some (.int z4), some (.int z5), some (.int z6), some (.int z7), some (.int (y8 + 1)), some (.int (rv26 + (gv25 11 20 jv27)))]) X dX8_lets_166 rfl rfl (by decide) rfl rfl ?_
            refine v_goto X 79 dX8_lets_169 (by decide) ?_
            refine v_weak (lc2 := [some (.ref (ad (8, 0, 0))), some (.int z1), some (.int z2), some (.int z3), some (.int z4), some (.int z5), some (.int z6), some (.int z7), some (.int (y8 + 1)), none]) ⟨rfl, rfl, rfl, rfl, rfl, rfl, rfl, rfl, rfl, trivial⟩ ?_
            exact ih (y8 + 1) gv38 _ _ h k
        · replace h := (if_neg cv29).symm.trans h
          refine v_bipush (v := 40) X dX8_lets_138 (by decide) ?_
          refine v_goto X 155 dX8_lets_140 (by decide) ?_
          obtain ⟨gv40, qv39, h⟩ := bd1_some h
          refine v_callSV (As := [.ref (ad (9, 11, 7)), .int z1, .int (40 : Int32)]) (rest := []) X (c_X8_letsOut l D ad cy X.2.2.2.2.2.2.2.2.1 N 7 z1 (40 : Int32) gv25 gv40 (by decide +kernel) qv39) mw_X8_letsOut ml_X8_222 (by decide) rfl rfl (Nat.le_of_ble_eq_true rfl) dX8_lets_155 ?_
          refine v_aloadn X dX8_lets_158 rfl rfl ?_
          refine v_aloadn X dX8_lets_159 rfl rfl ?_
          refine gf_X8_25 X dX8_lets_160 ?_
          obtain ⟨gv42, qv41, h⟩ := bd1_some h
          refine v_callVV (As := [.ref (ad (9, 11, 7))]) (rest := []) X (c_X8_hour l D ad cy X.2.2.2.2.2.2.2.2.1 N 7 gv40 gv42 (by decide +kernel) qv41) mw_X8_hour ml_X8_188 (by decide) (by decide +kernel) (by decide) rfl rfl rfl rfl (Nat.le_of_ble_eq_true rfl) dX8_lets_163 ?_
          refine v_iinc (v := (y8 + 1)) (lc' := [some (.ref (ad (8, 0, 0))), some (.int z1), some (.int z2), some (.int z3), some (.int z4), some (.int z5), some (.int z6), some (.int z7), some (.int (y8 + 1)), some (.int (rv26 + (gv25 11 20 jv27)))]) X dX8_lets_166 rfl rfl (by decide) rfl rfl ?_
          refine v_goto X 79 dX8_lets_169 (by decide) ?_
          refine v_weak (lc2 := [some (.ref (ad (8, 0, 0))), some (.int z1), some (.int z2), some (.int z3), some (.int z4), some (.int z5), some (.int z6), some (.int z7), some (.int (y8 + 1)), none]) ⟨rfl, rfl, rfl, rfl, rfl, rfl, rfl, rfl, rfl, trivial⟩ ?_
          exact ih (y8 + 1) gv42 _ _ h k
set_option maxRecDepth 100000 in
set_option maxHeartbeats 4000000 in
theorem w_X8_lets_65 {p : Program} {l : Launch} {e : Env} {s : State} {m : MethodId} {args : Array Value} {below : List Frame} {meth : Method} {c : Code} {D : va_G} {ad : Ky → Nat} {cy : Nat → ClassId} {r : Int32} {gq : GS} {N : Nat} (X : Cx p (rmd 6) s m args meth c RX8 cX8_lets 10 (some .int) D ad cy) (z1 : Int32) (z2 : Int32) (z3 : Int32) (z4 : Int32) : ∀ (n : Nat) (y5 : Int32) (y6 : Int32) (y7 : Int32) (g : GS) (y5' : Int32) (y6' : Int32) (y7' : Int32) (g' : GS), L_X8_lets_65 N z1 z2 z3 z4 n y5 y6 y7 g = some (y5', y6', y7', g') → Vy p l e (rmd 6) s m args below meth c 10 D ad cy (QI D ad cy below args s r gq) 218 [some (.ref (ad (8, 0, 0))), some (.int z1), some (.int z2), some (.int z3), some (.int z4), some (.int y5'), some (.int y6'), some (.int y7'), none, none] [] g' → Vy p l e (rmd 6) s m args below meth c 10 D ad cy (QI D ad cy below args s r gq) 65 [some (.ref (ad (8, 0, 0))), some (.int z1), some (.int z2), some (.int z3), some (.int z4), some (.int y5), some (.int y6), some (.int y7), none, none] [] g := by
  intro n
  induction n with
  | zero => intro y5 y6 y7 g y5' y6' y7' g' h k; cases h
  | succ n ih =>
    intro y5 y6 y7 g y5' y6' y7' g' h k
    rw [L_X8_lets_65] at h
    refine v_iload X dX8_lets_65 rfl ?_
    refine v_iload X dX8_lets_67 rfl ?_
    refine v_icmp_ge X 218 dX8_lets_69 (by decide) (fun cv14 => ?_) (fun cv14 => ?_)
    · replace h := (if_pos cv14).symm.trans h
      cases h
      exact k
    · replace h := (if_neg cv14).symm.trans h
      refine v_aloadn X dX8_lets_72 rfl rfl ?_
      obtain ⟨gv16, qv15, h⟩ := bd1_some h
      refine v_callVV (As := []) (rest := []) X (c_X8_layThen l D ad cy X.2.2.2.2.2.2.2.2.1 N  g gv16  qv15) mw_X8_layThen ml_X8_232 (by decide) (by decide +kernel) (by decide) rfl rfl rfl rfl (Nat.le_of_ble_eq_true rfl) dX8_lets_73 ?_
      refine v_iconst (v := 0) X dX8_lets_76 (by decide) ?_
      refine v_istore (lc' := [some (.ref (ad (8, 0, 0))), some (.int z1), some (.int z2), some (.int z3), some (.int z4), some (.int y5), some (.int y6), some (.int y7), some (.int (0 : Int32)), none]) X dX8_lets_77 (by decide) rfl rfl ?_
      obtain ⟨xv43, gv44, qv45, h⟩ := bd2_some h
      refine w_X8_lets_79 X z1 z2 z3 z4 y5 y6 y7 N (0 : Int32) gv16 xv43 gv44 qv45 ?_
      refine v_aloadn X dX8_lets_172 rfl rfl ?_
      refine gf_X8_25 X dX8_lets_173 ?_
      refine v_iloadn X dX8_lets_176 rfl rfl ?_
      obtain ⟨rv48, gv47, qv46, h⟩ := bd2_some h
      refine v_callSI (As := [.ref (ad (9, 11, 7)), .int z1]) (rest := []) X (c_X8_isUp l D ad cy X.2.2.2.2.2.2.2.2.1 N 7 z1 gv44 rv48 gv47 (by decide +kernel) qv46) mw_X8_isUp ml_X8_159 (by decide) rfl rfl (Nat.le_of_ble_eq_true rfl) dX8_lets_177 ?_
      refine v_if_eq X 212 dX8_lets_180 (by decide) (fun cv49 => ?_) (fun cv49 => ?_)
      · replace h := (if_pos cv49).symm.trans h
        refine v_iinc (v := (y7 + 1)) (lc' := [some (.ref (ad (8, 0, 0))), some (.int z1), some (.int z2), some (.int z3), some (.int z4), some (.int y5), some (.int y6), some (.int (y7 + 1)), some (.int xv43), none]) X dX8_lets_212 rfl rfl (by decide) rfl rfl ?_
        refine v_goto X 65 dX8_lets_215 (by decide) ?_
        refine v_weak (lc2 := [some (.ref (ad (8, 0, 0))), some (.int z1), some (.int z2), some (.int z3), some (.int z4), some (.int y5), some (.int y6), some (.int (y7 + 1)), none, none]) ⟨rfl, rfl, rfl, rfl, rfl, rfl, rfl, rfl, trivial⟩ ?_
        exact ih y5 y6 (y7 + 1) gv47 _ _ _ _ h k
      · replace h := (if_neg cv49).symm.trans h
        refine v_aloadn X dX8_lets_183 rfl rfl ?_
        refine gf_X8_25 X dX8_lets_184 ?_
        refine v_iloadn X dX8_lets_187 rfl rfl ?_
        refine v_iconst (v := 4) X dX8_lets_188 (by decide) ?_
        obtain ⟨rv52, gv51, qv50, h⟩ := bd2_some h
        refine v_callSI (As := [.ref (ad (9, 11, 7)), .int z1, .int (4 : Int32)]) (rest := []) X (c_X8_of l D ad cy X.2.2.2.2.2.2.2.2.1 N 7 z1 (4 : Int32) gv47 rv52 gv51 (by decide +kernel) qv50) mw_X8_of ml_X8_155 (by decide) rfl rfl (Nat.le_of_ble_eq_true rfl) dX8_lets_189 ?_
        refine v_iload X dX8_lets_192 rfl ?_
        refine v_icmp_le X 212 dX8_lets_194 (by decide) (fun cv53 => ?_) (fun cv53 => ?_)
        · replace h := (if_pos cv53).symm.trans h
          refine v_iinc (v := (y7 + 1)) (lc' := [some (.ref (ad (8, 0, 0))), some (.int z1), some (.int z2), some (.int z3), some (.int z4), some (.int y5), some (.int y6), some (.int (y7 + 1)), some (.int xv43), none]) X dX8_lets_212 rfl rfl (by decide) rfl rfl ?_
          refine v_goto X 65 dX8_lets_215 (by decide) ?_
          refine v_weak (lc2 := [some (.ref (ad (8, 0, 0))), some (.int z1), some (.int z2), some (.int z3), some (.int z4), some (.int y5), some (.int y6), some (.int (y7 + 1)), none, none]) ⟨rfl, rfl, rfl, rfl, rfl, rfl, rfl, rfl, trivial⟩ ?_
          exact ih y5 y6 (y7 + 1) gv51 _ _ _ _ h k
        · replace h := (if_neg cv53).symm.trans h
          refine v_aloadn X dX8_lets_197 rfl rfl ?_
          refine gf_X8_25 X dX8_lets_198 ?_
          refine v_iloadn X dX8_lets_201 rfl rfl ?_
          refine v_iconst (v := 4) X dX8_lets_202 (by decide) ?_
          obtain ⟨rv56, gv55, qv54, h⟩ := bd2_some h
          refine v_callSI (As := [.ref (ad (9, 11, 7)), .int z1, .int (4 : Int32)]) (rest := []) X (c_X8_of l D ad cy X.2.2.2.2.2.2.2.2.1 N 7 z1 (4 : Int32) gv51 rv56 gv55 (by decide +kernel) qv54) mw_X8_of ml_X8_155 (by decide) rfl rfl (Nat.le_of_ble_eq_true rfl) dX8_lets_203 ?_
          refine v_istore (lc' := [some (.ref (ad (8, 0, 0))), some (.int z1), some (.int z2), some (.int z3), some (.int z4), some (.int y5), some (.int rv56), some (.int y7), some (.int xv43), none]) X dX8_lets_206 (by decide) rfl rfl ?_
          refine v_iload X dX8_lets_208 rfl ?_
          refine v_istore (lc' := [some (.ref (ad (8, 0, 0))), some (.int z1), some (.int z2), some (.int z3), some (.int z4), some (.int y7), some (.int rv56), some (.int y7), some (.int xv43), none]) X dX8_lets_210 (by decide) rfl rfl ?_
          refine v_iinc (v := (y7 + 1)) (lc' := [some (.ref (ad (8, 0, 0))), some (.int z1), some (.int z2), some (.int z3), some (.int z4), some (.int y7), some (.int rv56), some (.int (y7 + 1)), some (.int xv43), none]) X dX8_lets_212 rfl rfl (by decide) rfl rfl ?_
          refine v_goto X 65 dX8_lets_215 (by decide) ?_
          refine v_weak (lc2 := [some (.ref (ad (8, 0, 0))), some (.int z1), some (.int z2), some (.int z3), some (.int z4), some (.int y7), some (.int rv56), some (.int (y7 + 1)), none, none]) ⟨rfl, rfl, rfl, rfl, rfl, rfl, rfl, rfl, trivial⟩ ?_
          exact ih y7 rv56 (y7 + 1) gv55 _ _ _ _ h k
set_option maxRecDepth 100000 in
set_option maxHeartbeats 4000000 in
theorem c_X8_lets (l : Launch) (D : va_G) (ad : Ky → Nat) (cy : Nat → ClassId) (hI : Inj ad) (N : Nat) (x1 : Int32) (x2 : Int32) (x3 : Int32) (g : GS) (r : Int32) (gq : GS) (h : F_X8_lets N x1 x2 x3 g = some (r, gq)) : CtI l D ad cy yX8_lets cX8_lets 10 (some .int) 6 [.ref (ad (8, 0, 0)), .int x1, .int x2, .int x3] g r gq := by
  refine CtI.of 6 hI (by decide +kernel) rfl (Nat.le_of_ble_eq_true rfl) (fun p e s m args below meth c X => ?_)
  unfold F_X8_lets at h
  show Vy _ _ _ _ _ _ _ _ _ _ _ _ _ _ _ 0 [some (.ref (ad (8, 0, 0))), some (.int x1), some (.int x2), some (.int x3), none, none, none, none, none, none] [] g
  refine v_aloadn X dX8_lets_0 rfl rfl ?_
  refine v_iconst (v := 0) X dX8_lets_1 (by decide) ?_
  refine pf_X8_50 X dX8_lets_2 ?_
  refine v_aloadn X dX8_lets_5 rfl rfl ?_
  refine v_iloadn X dX8_lets_6 rfl rfl ?_
  obtain ⟨rv3, gv2, qv1, h⟩ := bd2_some h
  refine v_callVI (As := [.int x1]) (rest := []) X (c_X8_isPaper l D ad cy X.2.2.2.2.2.2.2.2.1 N x1 (g3 g 10 0 0 (0 : Int32)) rv3 gv2  qv1) mw_X8_isPaper ml_X8_208 (by decide) (by decide +kernel) (by decide) rfl rfl rfl rfl (Nat.le_of_ble_eq_true rfl) dX8_lets_7 ?_
  refine v_if_eq X 30 dX8_lets_10 (by decide) (fun cv4 => ?_) (fun cv4 => ?_)
  · replace h := (if_pos cv4).symm.trans h
    refine v_ldc X kc_X8_70 dX8_lets_30 ?_
    obtain ⟨er, eg⟩ := Prod.mk.inj (Option.some.inj h)
    exact v_iret X dX8_lets_32 er eg
  · replace h := (if_neg cv4).symm.trans h
    refine v_iloadn X dX8_lets_13 rfl rfl ?_
    refine v_i2l X dX8_lets_14 ?_
    refine v_lconst (v := 1) X dX8_lets_15 (by decide) ?_
    refine v_ldc2 X kl_X8_247 dX8_lets_16 ?_
    obtain ⟨rv7, gv6, qv5, h⟩ := bd2_some h
    refine v_callSI (As := [.long (x2.toInt64), .long (1 : Int64), .long (4 : Int64)]) (rest := []) X (c_X8_in l D ad cy X.2.2.2.2.2.2.2.2.1 N (x2.toInt64) (1 : Int64) (4 : Int64) gv2 rv7 gv6  qv5) mw_X8_in ml_X8_60 (by decide) rfl rfl (Nat.le_of_ble_eq_true rfl) dX8_lets_19 ?_
    refine v_if_eq X 30 dX8_lets_22 (by decide) (fun cv8 => ?_) (fun cv8 => ?_)
    · replace h := (if_pos cv8).symm.trans h
      refine v_ldc X kc_X8_70 dX8_lets_30 ?_
      obtain ⟨er, eg⟩ := Prod.mk.inj (Option.some.inj h)
      exact v_iret X dX8_lets_32 er eg
    · replace h := (if_neg cv8).symm.trans h
      refine v_iloadn X dX8_lets_25 rfl rfl ?_
      refine v_iconst (v := -1) X dX8_lets_26 (by decide) ?_
      refine v_icmp_ge X 33 dX8_lets_27 (by decide) (fun cv9 => ?_) (fun cv9 => ?_)
      · replace h := (if_pos cv9).symm.trans h
        refine v_aloadn X dX8_lets_33 rfl rfl ?_
        refine gf_X8_19 X dX8_lets_34 ?_
        refine v_iloadn X dX8_lets_37 rfl rfl ?_
        obtain ⟨rv12, gv11, qv10, h⟩ := bd2_some h
        refine v_callSI (As := [.ref (ad (9, 11, 5)), .int x1]) (rest := []) X (c_X8_isUp l D ad cy X.2.2.2.2.2.2.2.2.1 N 5 x1 gv6 rv12 gv11 (by decide +kernel) qv10) mw_X8_isUp ml_X8_159 (by decide) rfl rfl (Nat.le_of_ble_eq_true rfl) dX8_lets_38 ?_
        refine v_if_ne X 47 dX8_lets_41 (by decide) (fun cv13 => ?_) (fun cv13 => ?_)
        · replace h := (if_neg cv13).symm.trans h
          refine v_iconst (v := 1) X dX8_lets_47 (by decide) ?_
          refine v_iconst (v := 2) X dX8_lets_48 (by decide) ?_
          refine v_iloadn X dX8_lets_49 rfl rfl ?_
          refine v_imul X dX8_lets_50 ?_
          refine v_ishl X dX8_lets_51 ?_
          refine v_istore (lc' := [some (.ref (ad (8, 0, 0))), some (.int x1), some (.int x2), some (.int x3), some (.int ((1 : Int32) <<< (((2 : Int32) * x2) &&& 31))), none, none, none, none, none]) X dX8_lets_52 (by decide) rfl rfl ?_
          refine v_ldc X kc_X8_93 dX8_lets_54 ?_
          refine v_istore (lc' := [some (.ref (ad (8, 0, 0))), some (.int x1), some (.int x2), some (.int x3), some (.int ((1 : Int32) <<< (((2 : Int32) * x2) &&& 31))), some (.int (-1000000 : Int32)), none, none, none, none]) X dX8_lets_56 (by decide) rfl rfl ?_
          refine v_ldc X kc_X8_93 dX8_lets_58 ?_
          refine v_istore (lc' := [some (.ref (ad (8, 0, 0))), some (.int x1), some (.int x2), some (.int x3), some (.int ((1 : Int32) <<< (((2 : Int32) * x2) &&& 31))), some (.int (-1000000 : Int32)), some (.int (-1000000 : Int32)), none, none, none]) X dX8_lets_60 (by decide) rfl rfl ?_
          refine v_iconst (v := 0) X dX8_lets_62 (by decide) ?_
          refine v_istore (lc' := [some (.ref (ad (8, 0, 0))), some (.int x1), some (.int x2), some (.int x3), some (.int ((1 : Int32) <<< (((2 : Int32) * x2) &&& 31))), some (.int (-1000000 : Int32)), some (.int (-1000000 : Int32)), some (.int (0 : Int32)), none, none]) X dX8_lets_63 (by decide) rfl rfl ?_
          obtain ⟨xv57, xv58, xv59, gv60, qv61, h⟩ := bd4_some h
          refine w_X8_lets_65 X x1 x2 x3 ((1 : Int32) <<< (((2 : Int32) * x2) &&& 31)) N (-1000000 : Int32) (-1000000 : Int32) (0 : Int32) gv11 xv57 xv58 xv59 gv60 qv61 ?_
          refine v_iload X dX8_lets_218 rfl ?_
          refine v_ldc X kc_X8_93 dX8_lets_220 ?_
          refine v_icmp_eq X 230 dX8_lets_222 (by decide) (fun cv62 => ?_) (fun cv62 => ?_)
          · replace h := (if_pos cv62).symm.trans h
            refine v_iload X dX8_lets_230 rfl ?_
            refine v_goto X 257 dX8_lets_232 (by decide) ?_
            obtain ⟨er, eg⟩ := Prod.mk.inj (Option.some.inj h)
            exact v_iret X dX8_lets_257 er eg
          · replace h := (if_neg cv62).symm.trans h
            refine v_iloadn X dX8_lets_225 rfl rfl ?_
            refine v_iconst (v := -1) X dX8_lets_226 (by decide) ?_
            refine v_icmp_ne X 235 dX8_lets_227 (by decide) (fun cv63 => ?_) (fun cv63 => ?_)
            · replace h := (if_neg cv63).symm.trans h
              refine v_iloadn X dX8_lets_235 rfl rfl ?_
              refine v_iloadn X dX8_lets_236 rfl rfl ?_
              refine v_icmp_ge X 255 dX8_lets_237 (by decide) (fun cv64 => ?_) (fun cv64 => ?_)
              · replace h := (if_pos cv64).symm.trans h
                refine v_ldc X kc_X8_93 dX8_lets_255 ?_
                obtain ⟨er, eg⟩ := Prod.mk.inj (Option.some.inj h)
                exact v_iret X dX8_lets_257 er eg
              · replace h := (if_neg cv64).symm.trans h
                refine v_iload X dX8_lets_240 rfl ?_
                refine v_iconst (v := 2) X dX8_lets_242 (by decide) ?_
                refine v_iloadn X dX8_lets_243 rfl rfl ?_
                refine v_iconst (v := 1) X dX8_lets_244 (by decide) ?_
                refine v_isub X dX8_lets_245 ?_
                refine v_iloadn X dX8_lets_246 rfl rfl ?_
                refine v_isub X dX8_lets_247 ?_
                refine v_imul X dX8_lets_248 ?_
                refine v_ishr X dX8_lets_249 ?_
                refine v_iconst (v := 3) X dX8_lets_250 (by decide) ?_
                refine v_iand X dX8_lets_251 ?_
                refine v_goto X 257 dX8_lets_252 (by decide) ?_
                obtain ⟨er, eg⟩ := Prod.mk.inj (Option.some.inj h)
                exact v_iret X dX8_lets_257 er eg
            · replace h := (if_pos cv63).symm.trans h
              refine v_iload X dX8_lets_230 rfl ?_
              refine v_goto X 257 dX8_lets_232 (by decide) ?_
              obtain ⟨er, eg⟩ := Prod.mk.inj (Option.some.inj h)
              exact v_iret X dX8_lets_257 er eg
        · replace h := (if_pos cv13).symm.trans h
          refine v_ldc X kc_X8_198 dX8_lets_44 ?_
          obtain ⟨er, eg⟩ := Prod.mk.inj (Option.some.inj h)
          exact v_iret X dX8_lets_46 er eg
      · replace h := (if_neg cv9).symm.trans h
        refine v_ldc X kc_X8_70 dX8_lets_30 ?_
        obtain ⟨er, eg⟩ := Prod.mk.inj (Option.some.inj h)
        exact v_iret X dX8_lets_32 er eg
def L_X8_light_31 (N : Nat) (z1 : Int32) (z2 : Int32) : Nat → Int32 → GS → Option ((Int32 × GS) ⊕ (Int32 × GS))
  | 0, _, _ => none
  | n + 1, y3, g => if y3 ≤ 0 then some (.inr (y3, g)) else bd1 (F_X8_layThen N  g) (fun gv11 => bd1 (F_X8_be N 7 z1 (2 : Int32) y3 gv11) (fun gv13 => bd1 (F_X8_hoursOf N 7 z2 gv13) (fun gv15 => bd2 (F_X8_isPolicy N 7 z1 gv15) (fun rv18 gv17 => if rv18 = 0 then L_X8_light_31 N z1 z2 n (y3 + (-1)) gv17 else some (.inl (y3, gv17))))))
def F_X8_light (N : Nat) (x1 : Int32) (x2 : Int32) (g : GS) : Option (Int32 × GS) := bd2 (F_X8_isPaper N x1 (g3 g 10 0 0 (0 : Int32))) (fun rv3 gv2 => if rv3 = 0 then some ((-1000001 : Int32), gv2) else bd2 (F_X8_in N (x2.toInt64) (1 : Int64) (30 : Int64) gv2) (fun rv7 gv6 => if rv7 = 0 then some ((-1000001 : Int32), gv6) else bs2 (L_X8_light_31 N x1 x2 N (60 : Int32) gv6) (fun rv23 gv24 => some (rv23, gv24)) (fun xv20 gv21 => some ((-1000000 : Int32), gv21))))
set_option maxRecDepth 100000 in
set_option maxHeartbeats 4000000 in
theorem w_X8_light_31 {p : Program} {l : Launch} {e : Env} {s : State} {m : MethodId} {args : Array Value} {below : List Frame} {meth : Method} {c : Code} {D : va_G} {ad : Ky → Nat} {cy : Nat → ClassId} {r : Int32} {gq : GS} {N : Nat} (X : Cx p (rmd 7) s m args meth c RX8 cX8_light 4 (some .int) D ad cy) (z1 : Int32) (z2 : Int32) : ∀ (n : Nat) (y3 : Int32) (g : GS) (res : _), L_X8_light_31 N z1 z2 n y3 g = some res → (∀ (r1 : Int32) (g1 : GS), res = .inl (r1, g1) → r1 = r ∧ g1 = gq) → (∀ (y3' : Int32) (g' : GS), res = .inr (y3', g') → Vy p l e (rmd 7) s m args below meth c 4 D ad cy (QI D ad cy below args s r gq) 77 [some (.ref (ad (8, 0, 0))), some (.int z1), some (.int z2), some (.int y3')] [] g') → Vy p l e (rmd 7) s m args below meth c 4 D ad cy (QI D ad cy below args s r gq) 31 [some (.ref (ad (8, 0, 0))), some (.int z1), some (.int z2), some (.int y3)] [] g := by
  intro n
  induction n with
  | zero => intro y3 g res h kr k; cases h
  | succ n ih =>
    intro y3 g res h kr k
    rw [L_X8_light_31] at h
    refine v_iloadn X dX8_light_31 rfl rfl ?_
    refine v_if_le X 77 dX8_light_32 (by decide) (fun cv9 => ?_) (fun cv9 => ?_)
    · replace h := (if_pos cv9).symm.trans h
      cases h
      exact k _ _ rfl
    · replace h := (if_neg cv9).symm.trans h
      refine v_aloadn X dX8_light_35 rfl rfl ?_
      obtain ⟨gv11, qv10, h⟩ := bd1_some h
      refine v_callVV (As := []) (rest := []) X (c_X8_layThen l D ad cy X.2.2.2.2.2.2.2.2.1 N  g gv11  qv10) mw_X8_layThen ml_X8_232 (by decide) (by decide +kernel) (by decide) rfl rfl rfl rfl (Nat.le_of_ble_eq_true rfl) dX8_light_36 ?_
      refine v_aloadn X dX8_light_39 rfl rfl ?_
      refine gf_X8_25 X dX8_light_40 ?_
      refine v_iloadn X dX8_light_43 rfl rfl ?_
      refine v_iconst (v := 2) X dX8_light_44 (by decide) ?_
      refine v_iloadn X dX8_light_45 rfl rfl ?_
      obtain ⟨gv13, qv12, h⟩ := bd1_some h
      refine v_callSV (As := [.ref (ad (9, 11, 7)), .int z1, .int (2 : Int32), .int y3]) (rest := []) X (c_X8_be l D ad cy X.2.2.2.2.2.2.2.2.1 N 7 z1 (2 : Int32) y3 gv11 gv13 (by decide +kernel) qv12) mw_X8_be ml_X8_170 (by decide) rfl rfl (Nat.le_of_ble_eq_true rfl) dX8_light_46 ?_
      refine v_aloadn X dX8_light_49 rfl rfl ?_
      refine v_aloadn X dX8_light_50 rfl rfl ?_
      refine gf_X8_25 X dX8_light_51 ?_
      refine v_iloadn X dX8_light_54 rfl rfl ?_
      obtain ⟨gv15, qv14, h⟩ := bd1_some h
      refine v_callVV (As := [.ref (ad (9, 11, 7)), .int z2]) (rest := []) X (c_X8_hoursOf l D ad cy X.2.2.2.2.2.2.2.2.1 N 7 z2 gv13 gv15 (by decide +kernel) qv14) mw_X8_hoursOf ml_X8_235 (by decide) (by decide +kernel) (by decide) rfl rfl rfl rfl (Nat.le_of_ble_eq_true rfl) dX8_light_55 ?_
      refine v_aloadn X dX8_light_58 rfl rfl ?_
      refine gf_X8_25 X dX8_light_59 ?_
      refine v_iloadn X dX8_light_62 rfl rfl ?_
      obtain ⟨rv18, gv17, qv16, h⟩ := bd2_some h
      refine v_callSI (As := [.ref (ad (9, 11, 7)), .int z1]) (rest := []) X (c_X8_isPolicy l D ad cy X.2.2.2.2.2.2.2.2.1 N 7 z1 gv15 rv18 gv17 (by decide +kernel) qv16) mw_X8_isPolicy ml_X8_192 (by decide) rfl rfl (Nat.le_of_ble_eq_true rfl) dX8_light_63 ?_
      refine v_if_eq X 71 dX8_light_66 (by decide) (fun cv19 => ?_) (fun cv19 => ?_)
      · replace h := (if_pos cv19).symm.trans h
        refine v_iinc (v := (y3 + (-1))) (lc' := [some (.ref (ad (8, 0, 0))), some (.int z1), some (.int z2), some (.int (y3 + (-1)))]) X dX8_light_71 rfl rfl (by decide) rfl rfl ?_
        refine v_goto X 31 dX8_light_74 (by decide) ?_
        exact ih (y3 + (-1)) gv17 _ h kr k
      · replace h := (if_neg cv19).symm.trans h
        refine v_iloadn X dX8_light_69 rfl rfl ?_
        obtain ⟨er, eg⟩ := kr _ _ (Option.some.inj h).symm
        exact v_iret X dX8_light_70 er eg
set_option maxRecDepth 100000 in
set_option maxHeartbeats 4000000 in
theorem c_X8_light (l : Launch) (D : va_G) (ad : Ky → Nat) (cy : Nat → ClassId) (hI : Inj ad) (N : Nat) (x1 : Int32) (x2 : Int32) (g : GS) (r : Int32) (gq : GS) (h : F_X8_light N x1 x2 g = some (r, gq)) : CtI l D ad cy yX8_light cX8_light 4 (some .int) 7 [.ref (ad (8, 0, 0)), .int x1, .int x2] g r gq := by
  refine CtI.of 1 hI (by decide +kernel) rfl (Nat.le_of_ble_eq_true rfl) (fun p e s m args below meth c X => ?_)
  unfold F_X8_light at h
  show Vy _ _ _ _ _ _ _ _ _ _ _ _ _ _ _ 0 [some (.ref (ad (8, 0, 0))), some (.int x1), some (.int x2), none] [] g
  refine v_aloadn X dX8_light_0 rfl rfl ?_
  refine v_iconst (v := 0) X dX8_light_1 (by decide) ?_
  refine pf_X8_50 X dX8_light_2 ?_
  refine v_aloadn X dX8_light_5 rfl rfl ?_
  refine v_iloadn X dX8_light_6 rfl rfl ?_
  obtain ⟨rv3, gv2, qv1, h⟩ := bd2_some h
  refine v_callVI (As := [.int x1]) (rest := []) X (c_X8_isPaper l D ad cy X.2.2.2.2.2.2.2.2.1 N x1 (g3 g 10 0 0 (0 : Int32)) rv3 gv2  qv1) mw_X8_isPaper ml_X8_208 (by decide) (by decide +kernel) (by decide) rfl rfl rfl rfl (Nat.le_of_ble_eq_true rfl) dX8_light_7 ?_
  refine v_if_eq X 25 dX8_light_10 (by decide) (fun cv4 => ?_) (fun cv4 => ?_)
  · replace h := (if_pos cv4).symm.trans h
    refine v_ldc X kc_X8_70 dX8_light_25 ?_
    obtain ⟨er, eg⟩ := Prod.mk.inj (Option.some.inj h)
    exact v_iret X dX8_light_27 er eg
  · replace h := (if_neg cv4).symm.trans h
    refine v_iloadn X dX8_light_13 rfl rfl ?_
    refine v_i2l X dX8_light_14 ?_
    refine v_lconst (v := 1) X dX8_light_15 (by decide) ?_
    refine v_ldc2 X kl_X8_238 dX8_light_16 ?_
    obtain ⟨rv7, gv6, qv5, h⟩ := bd2_some h
    refine v_callSI (As := [.long (x2.toInt64), .long (1 : Int64), .long (30 : Int64)]) (rest := []) X (c_X8_in l D ad cy X.2.2.2.2.2.2.2.2.1 N (x2.toInt64) (1 : Int64) (30 : Int64) gv2 rv7 gv6  qv5) mw_X8_in ml_X8_60 (by decide) rfl rfl (Nat.le_of_ble_eq_true rfl) dX8_light_19 ?_
    refine v_if_ne X 28 dX8_light_22 (by decide) (fun cv8 => ?_) (fun cv8 => ?_)
    · replace h := (if_neg cv8).symm.trans h
      refine v_bipush (v := 60) X dX8_light_28 (by decide) ?_
      refine v_istoren (lc' := [some (.ref (ad (8, 0, 0))), some (.int x1), some (.int x2), some (.int (60 : Int32))]) X dX8_light_30 rfl (by decide) rfl rfl ?_
      obtain ⟨zv25, qv22, h⟩ := bs2_some h
      refine w_X8_light_31 X x1 x2 N (60 : Int32) gv6 _ qv22 ?_ ?_
      · intro rv23 gv24 e1
        subst e1
        dsimp only at h
        cases h
        exact ⟨rfl, rfl⟩
      · intro xv20 gv21 e1
        subst e1
        dsimp only at h
        refine v_ldc X kc_X8_93 dX8_light_77 ?_
        obtain ⟨er, eg⟩ := Prod.mk.inj (Option.some.inj h)
        exact v_iret X dX8_light_79 er eg
    · replace h := (if_pos cv8).symm.trans h
      refine v_ldc X kc_X8_70 dX8_light_25 ?_
      obtain ⟨er, eg⟩ := Prod.mk.inj (Option.some.inj h)
      exact v_iret X dX8_light_27 er eg
def F_X8_must (N : Nat) (x1 : Int32) (g : GS) : Option GS := if x1 = 0 then bd1 (F_X8_bad N (1 : Int32) g) (fun gv6 => if (gv6 10 0 17) = 0 then bd1 (F_X8_nextToken N  gv6) (fun gv9 => some gv9) else some gv6) else if (g 10 0 17) = 0 then bd1 (F_X8_nextToken N  g) (fun gv4 => some gv4) else some g
set_option maxRecDepth 100000 in
set_option maxHeartbeats 4000000 in
theorem c_X8_must (l : Launch) (D : va_G) (ad : Ky → Nat) (cy : Nat → ClassId) (hI : Inj ad) (N : Nat) (x1 : Int32) (g : GS) (gq : GS) (h : F_X8_must N x1 g = some gq) : CtV l D ad cy yX8_must cX8_must 2 2 [.ref (ad (8, 0, 0)), .int x1] g gq := by
  refine CtV.of 0 hI (by decide +kernel) rfl (Nat.le_of_ble_eq_true rfl) (fun p e s m args below meth c X => ?_)
  unfold F_X8_must at h
  show Vy _ _ _ _ _ _ _ _ _ _ _ _ _ _ _ 0 [some (.ref (ad (8, 0, 0))), some (.int x1)] [] g
  refine v_iloadn X dX8_must_0 rfl rfl ?_
  refine v_if_ne X 9 dX8_must_1 (by decide) (fun cv1 => ?_) (fun cv1 => ?_)
  · replace h := (if_neg cv1).symm.trans h
    refine v_aloadn X dX8_must_9 rfl rfl ?_
    refine gf_X8_81 X dX8_must_10 ?_
    refine v_if_ne X 20 dX8_must_13 (by decide) (fun cv2 => ?_) (fun cv2 => ?_)
    · replace h := (if_neg cv2).symm.trans h
      exact v_vret X dX8_must_20 (Option.some.inj h)
    · replace h := (if_pos cv2).symm.trans h
      refine v_aloadn X dX8_must_16 rfl rfl ?_
      obtain ⟨gv4, qv3, h⟩ := bd1_some h
      refine v_callVV (As := []) (rest := []) X (c_X8_nextToken l D ad cy X.2.2.2.2.2.2.2.2.1 N  g gv4  qv3) mw_X8_nextToken ml_X8_112 (by decide) (by decide +kernel) (by decide) rfl rfl rfl rfl (Nat.le_of_ble_eq_true rfl) dX8_must_17 ?_
      exact v_vret X dX8_must_20 (Option.some.inj h)
  · replace h := (if_pos cv1).symm.trans h
    refine v_aloadn X dX8_must_4 rfl rfl ?_
    refine v_iconst (v := 1) X dX8_must_5 (by decide) ?_
    obtain ⟨gv6, qv5, h⟩ := bd1_some h
    refine v_callVV (As := [.int (1 : Int32)]) (rest := []) X (c_X8_bad l D ad cy X.2.2.2.2.2.2.2.2.1 N (1 : Int32) g gv6  qv5) mw_X8_bad ml_X8_108 (by decide) (by decide +kernel) (by decide) rfl rfl rfl rfl (Nat.le_of_ble_eq_true rfl) dX8_must_6 ?_
    refine v_aloadn X dX8_must_9 rfl rfl ?_
    refine gf_X8_81 X dX8_must_10 ?_
    refine v_if_ne X 20 dX8_must_13 (by decide) (fun cv7 => ?_) (fun cv7 => ?_)
    · replace h := (if_neg cv7).symm.trans h
      exact v_vret X dX8_must_20 (Option.some.inj h)
    · replace h := (if_pos cv7).symm.trans h
      refine v_aloadn X dX8_must_16 rfl rfl ?_
      obtain ⟨gv9, qv8, h⟩ := bd1_some h
      refine v_callVV (As := []) (rest := []) X (c_X8_nextToken l D ad cy X.2.2.2.2.2.2.2.2.1 N  gv6 gv9  qv8) mw_X8_nextToken ml_X8_112 (by decide) (by decide +kernel) (by decide) rfl rfl rfl rfl (Nat.le_of_ble_eq_true rfl) dX8_must_17 ?_
      exact v_vret X dX8_must_20 (Option.some.inj h)
def F_X8_mustSign (N : Nat) (x1 : Int32) (g : GS) : Option GS := if (g 10 0 15) = (4 : Int32) then if (g 10 0 16) = x1 then bd1 (F_X8_must N (1 : Int32) g) (fun gv8 => some gv8) else bd1 (F_X8_must N (0 : Int32) g) (fun gv6 => some gv6) else bd1 (F_X8_must N (0 : Int32) g) (fun gv3 => some gv3)
set_option maxRecDepth 100000 in
set_option maxHeartbeats 4000000 in
theorem c_X8_mustSign (l : Launch) (D : va_G) (ad : Ky → Nat) (cy : Nat → ClassId) (hI : Inj ad) (N : Nat) (x1 : Int32) (g : GS) (gq : GS) (h : F_X8_mustSign N x1 g = some gq) : CtV l D ad cy yX8_mustSign cX8_mustSign 2 3 [.ref (ad (8, 0, 0)), .int x1] g gq := by
  refine CtV.of 0 hI (by decide +kernel) rfl (Nat.le_of_ble_eq_true rfl) (fun p e s m args below meth c X => ?_)
  unfold F_X8_mustSign at h
  show Vy _ _ _ _ _ _ _ _ _ _ _ _ _ _ _ 0 [some (.ref (ad (8, 0, 0))), some (.int x1)] [] g
  refine v_aloadn X dX8_mustSign_0 rfl rfl ?_
  refine v_aloadn X dX8_mustSign_1 rfl rfl ?_
  refine gf_X8_105 X dX8_mustSign_2 ?_
  refine v_iconst (v := 4) X dX8_mustSign_5 (by decide) ?_
  refine v_icmp_ne X 21 dX8_mustSign_6 (by decide) (fun cv1 => ?_) (fun cv1 => ?_)
  · replace h := (if_neg cv1).symm.trans h
    refine v_iconst (v := 0) X dX8_mustSign_21 (by decide) ?_
    obtain ⟨gv3, qv2, h⟩ := bd1_some h
    refine v_callVV (As := [.int (0 : Int32)]) (rest := []) X (c_X8_must l D ad cy X.2.2.2.2.2.2.2.2.1 N (0 : Int32) g gv3  qv2) mw_X8_must ml_X8_115 (by decide) (by decide +kernel) (by decide) rfl rfl rfl rfl (Nat.le_of_ble_eq_true rfl) dX8_mustSign_22 ?_
    exact v_vret X dX8_mustSign_25 (Option.some.inj h)
  · replace h := (if_pos cv1).symm.trans h
    refine v_aloadn X dX8_mustSign_9 rfl rfl ?_
    refine gf_X8_94 X dX8_mustSign_10 ?_
    refine v_iloadn X dX8_mustSign_13 rfl rfl ?_
    refine v_icmp_ne X 21 dX8_mustSign_14 (by decide) (fun cv4 => ?_) (fun cv4 => ?_)
    · replace h := (if_neg cv4).symm.trans h
      refine v_iconst (v := 0) X dX8_mustSign_21 (by decide) ?_
      obtain ⟨gv6, qv5, h⟩ := bd1_some h
      refine v_callVV (As := [.int (0 : Int32)]) (rest := []) X (c_X8_must l D ad cy X.2.2.2.2.2.2.2.2.1 N (0 : Int32) g gv6  qv5) mw_X8_must ml_X8_115 (by decide) (by decide +kernel) (by decide) rfl rfl rfl rfl (Nat.le_of_ble_eq_true rfl) dX8_mustSign_22 ?_
      exact v_vret X dX8_mustSign_25 (Option.some.inj h)
    · replace h := (if_pos cv4).symm.trans h
      refine v_iconst (v := 1) X dX8_mustSign_17 (by decide) ?_
      refine v_goto X 22 dX8_mustSign_18 (by decide) ?_
      obtain ⟨gv8, qv7, h⟩ := bd1_some h
      refine v_callVV (As := [.int (1 : Int32)]) (rest := []) X (c_X8_must l D ad cy X.2.2.2.2.2.2.2.2.1 N (1 : Int32) g gv8  qv7) mw_X8_must ml_X8_115 (by decide) (by decide +kernel) (by decide) rfl rfl rfl rfl (Nat.le_of_ble_eq_true rfl) dX8_mustSign_22 ?_
      exact v_vret X dX8_mustSign_25 (Option.some.inj h)
def F_X8_number (N : Nat) (x1 : Int32) (x2 : Int32) (g : GS) : Option (Int32 × GS) := if (g 10 0 17) = 0 then if (g 10 0 15) = (3 : Int32) then if (g 10 0 17) = 0 then bd2 (F_X8_in N ((g 10 0 16).toInt64) (x1.toInt64) (x2.toInt64) g) (fun rv33 gv32 => if rv33 = 0 then bd1 (F_X8_bad N (2 : Int32) gv32) (fun gv41 => if (gv41 10 0 17) = 0 then bd1 (F_X8_must N (1 : Int32) gv41) (fun gv46 => some ((gv41 10 0 16), gv46)) else bd1 (F_X8_must N (1 : Int32) gv41) (fun gv44 => some (x1, gv44))) else if (gv32 10 0 17) = 0 then bd1 (F_X8_must N (1 : Int32) gv32) (fun gv39 => some ((gv32 10 0 16), gv39)) else bd1 (F_X8_must N (1 : Int32) gv32) (fun gv37 => some (x1, gv37))) else if (g 10 0 17) = 0 then bd1 (F_X8_must N (1 : Int32) g) (fun gv30 => some ((g 10 0 16), gv30)) else bd1 (F_X8_must N (1 : Int32) g) (fun gv28 => some (x1, gv28)) else bd1 (F_X8_bad N (1 : Int32) g) (fun gv48 => if (gv48 10 0 17) = 0 then bd2 (F_X8_in N ((gv48 10 0 16).toInt64) (x1.toInt64) (x2.toInt64) gv48) (fun rv57 gv56 => if rv57 = 0 then bd1 (F_X8_bad N (2 : Int32) gv56) (fun gv65 => if (gv65 10 0 17) = 0 then bd1 (F_X8_must N (1 : Int32) gv65) (fun gv70 => some ((gv65 10 0 16), gv70)) else bd1 (F_X8_must N (1 : Int32) gv65) (fun gv68 => some (x1, gv68))) else if (gv56 10 0 17) = 0 then bd1 (F_X8_must N (1 : Int32) gv56) (fun gv63 => some ((gv56 10 0 16), gv63)) else bd1 (F_X8_must N (1 : Int32) gv56) (fun gv61 => some (x1, gv61))) else if (gv48 10 0 17) = 0 then bd1 (F_X8_must N (1 : Int32) gv48) (fun gv54 => some ((gv48 10 0 16), gv54)) else bd1 (F_X8_must N (1 : Int32) gv48) (fun gv52 => some (x1, gv52))) else if (g 10 0 17) = 0 then bd2 (F_X8_in N ((g 10 0 16).toInt64) (x1.toInt64) (x2.toInt64) g) (fun rv10 gv9 => if rv10 = 0 then bd1 (F_X8_bad N (2 : Int32) gv9) (fun gv18 => if (gv18 10 0 17) = 0 then bd1 (F_X8_must N (1 : Int32) gv18) (fun gv23 => some ((gv18 10 0 16), gv23)) else bd1 (F_X8_must N (1 : Int32) gv18) (fun gv21 => some (x1, gv21))) else if (gv9 10 0 17) = 0 then bd1 (F_X8_must N (1 : Int32) gv9) (fun gv16 => some ((gv9 10 0 16), gv16)) else bd1 (F_X8_must N (1 : Int32) gv9) (fun gv14 => some (x1, gv14))) else if (g 10 0 17) = 0 then bd1 (F_X8_must N (1 : Int32) g) (fun gv7 => some ((g 10 0 16), gv7)) else bd1 (F_X8_must N (1 : Int32) g) (fun gv5 => some (x1, gv5))
set_option maxRecDepth 100000 in
set_option maxHeartbeats 4000000 in
theorem c_X8_number (l : Launch) (D : va_G) (ad : Ky → Nat) (cy : Nat → ClassId) (hI : Inj ad) (N : Nat) (x1 : Int32) (x2 : Int32) (g : GS) (r : Int32) (gq : GS) (h : F_X8_number N x1 x2 g = some (r, gq)) : CtI l D ad cy yX8_number cX8_number 4 (some .int) 3 [.ref (ad (8, 0, 0)), .int x1, .int x2] g r gq := by
  refine CtI.of 1 hI (by decide +kernel) rfl (Nat.le_of_ble_eq_true rfl) (fun p e s m args below meth c X => ?_)
  unfold F_X8_number at h
  show Vy _ _ _ _ _ _ _ _ _ _ _ _ _ _ _ 0 [some (.ref (ad (8, 0, 0))), some (.int x1), some (.int x2), none] [] g
  refine v_aloadn X dX8_number_0 rfl rfl ?_
  refine gf_X8_81 X dX8_number_1 ?_
  refine v_if_ne X 20 dX8_number_4 (by decide) (fun cv1 => ?_) (fun cv1 => ?_)
  · replace h := (if_neg cv1).symm.trans h
    refine v_aloadn X dX8_number_20 rfl rfl ?_
    refine gf_X8_81 X dX8_number_21 ?_
    refine v_if_ne X 47 dX8_number_24 (by decide) (fun cv2 => ?_) (fun cv2 => ?_)
    · replace h := (if_neg cv2).symm.trans h
      refine v_aloadn X dX8_number_47 rfl rfl ?_
      refine gf_X8_81 X dX8_number_48 ?_
      refine v_if_ne X 61 dX8_number_51 (by decide) (fun cv3 => ?_) (fun cv3 => ?_)
      · replace h := (if_neg cv3).symm.trans h
        refine v_iloadn X dX8_number_61 rfl rfl ?_
        refine v_istoren (lc' := [some (.ref (ad (8, 0, 0))), some (.int x1), some (.int x2), some (.int x1)]) X dX8_number_62 rfl (by decide) rfl rfl ?_
        refine v_aloadn X dX8_number_63 rfl rfl ?_
        refine v_iconst (v := 1) X dX8_number_64 (by decide) ?_
        obtain ⟨gv5, qv4, h⟩ := bd1_some h
        refine v_callVV (As := [.int (1 : Int32)]) (rest := []) X (c_X8_must l D ad cy X.2.2.2.2.2.2.2.2.1 N (1 : Int32) g gv5  qv4) mw_X8_must ml_X8_115 (by decide) (by decide +kernel) (by decide) rfl rfl rfl rfl (Nat.le_of_ble_eq_true rfl) dX8_number_65 ?_
        refine v_iloadn X dX8_number_68 rfl rfl ?_
        obtain ⟨er, eg⟩ := Prod.mk.inj (Option.some.inj h)
        exact v_iret X dX8_number_69 er eg
      · replace h := (if_pos cv3).symm.trans h
        refine v_aloadn X dX8_number_54 rfl rfl ?_
        refine gf_X8_94 X dX8_number_55 ?_
        refine v_goto X 62 dX8_number_58 (by decide) ?_
        refine v_istoren (lc' := [some (.ref (ad (8, 0, 0))), some (.int x1), some (.int x2), some (.int (g 10 0 16))]) X dX8_number_62 rfl (by decide) rfl rfl ?_
        refine v_aloadn X dX8_number_63 rfl rfl ?_
        refine v_iconst (v := 1) X dX8_number_64 (by decide) ?_
        obtain ⟨gv7, qv6, h⟩ := bd1_some h
        refine v_callVV (As := [.int (1 : Int32)]) (rest := []) X (c_X8_must l D ad cy X.2.2.2.2.2.2.2.2.1 N (1 : Int32) g gv7  qv6) mw_X8_must ml_X8_115 (by decide) (by decide +kernel) (by decide) rfl rfl rfl rfl (Nat.le_of_ble_eq_true rfl) dX8_number_65 ?_
        refine v_iloadn X dX8_number_68 rfl rfl ?_
        obtain ⟨er, eg⟩ := Prod.mk.inj (Option.some.inj h)
        exact v_iret X dX8_number_69 er eg
    · replace h := (if_pos cv2).symm.trans h
      refine v_aloadn X dX8_number_27 rfl rfl ?_
      refine gf_X8_94 X dX8_number_28 ?_
      refine v_i2l X dX8_number_31 ?_
      refine v_iloadn X dX8_number_32 rfl rfl ?_
      refine v_i2l X dX8_number_33 ?_
      refine v_iloadn X dX8_number_34 rfl rfl ?_
      refine v_i2l X dX8_number_35 ?_
      obtain ⟨rv10, gv9, qv8, h⟩ := bd2_some h
      refine v_callSI (As := [.long ((g 10 0 16).toInt64), .long (x1.toInt64), .long (x2.toInt64)]) (rest := []) X (c_X8_in l D ad cy X.2.2.2.2.2.2.2.2.1 N ((g 10 0 16).toInt64) (x1.toInt64) (x2.toInt64) g rv10 gv9  qv8) mw_X8_in ml_X8_60 (by decide) rfl rfl (Nat.le_of_ble_eq_true rfl) dX8_number_36 ?_
      refine v_if_ne X 47 dX8_number_39 (by decide) (fun cv11 => ?_) (fun cv11 => ?_)
      · replace h := (if_neg cv11).symm.trans h
        refine v_aloadn X dX8_number_47 rfl rfl ?_
        refine gf_X8_81 X dX8_number_48 ?_
        refine v_if_ne X 61 dX8_number_51 (by decide) (fun cv12 => ?_) (fun cv12 => ?_)
        · replace h := (if_neg cv12).symm.trans h
          refine v_iloadn X dX8_number_61 rfl rfl ?_
          refine v_istoren (lc' := [some (.ref (ad (8, 0, 0))), some (.int x1), some (.int x2), some (.int x1)]) X dX8_number_62 rfl (by decide) rfl rfl ?_
          refine v_aloadn X dX8_number_63 rfl rfl ?_
          refine v_iconst (v := 1) X dX8_number_64 (by decide) ?_
          obtain ⟨gv14, qv13, h⟩ := bd1_some h
          refine v_callVV (As := [.int (1 : Int32)]) (rest := []) X (c_X8_must l D ad cy X.2.2.2.2.2.2.2.2.1 N (1 : Int32) gv9 gv14  qv13) mw_X8_must ml_X8_115 (by decide) (by decide +kernel) (by decide) rfl rfl rfl rfl (Nat.le_of_ble_eq_true rfl) dX8_number_65 ?_
          refine v_iloadn X dX8_number_68 rfl rfl ?_
          obtain ⟨er, eg⟩ := Prod.mk.inj (Option.some.inj h)
          exact v_iret X dX8_number_69 er eg
        · replace h := (if_pos cv12).symm.trans h
          refine v_aloadn X dX8_number_54 rfl rfl ?_
          refine gf_X8_94 X dX8_number_55 ?_
          refine v_goto X 62 dX8_number_58 (by decide) ?_
          refine v_istoren (lc' := [some (.ref (ad (8, 0, 0))), some (.int x1), some (.int x2), some (.int (gv9 10 0 16))]) X dX8_number_62 rfl (by decide) rfl rfl ?_
          refine v_aloadn X dX8_number_63 rfl rfl ?_
          refine v_iconst (v := 1) X dX8_number_64 (by decide) ?_
          obtain ⟨gv16, qv15, h⟩ := bd1_some h
          refine v_callVV (As := [.int (1 : Int32)]) (rest := []) X (c_X8_must l D ad cy X.2.2.2.2.2.2.2.2.1 N (1 : Int32) gv9 gv16  qv15) mw_X8_must ml_X8_115 (by decide) (by decide +kernel) (by decide) rfl rfl rfl rfl (Nat.le_of_ble_eq_true rfl) dX8_number_65 ?_
          refine v_iloadn X dX8_number_68 rfl rfl ?_
          obtain ⟨er, eg⟩ := Prod.mk.inj (Option.some.inj h)
          exact v_iret X dX8_number_69 er eg
      · replace h := (if_pos cv11).symm.trans h
        refine v_aloadn X dX8_number_42 rfl rfl ?_
        refine v_iconst (v := 2) X dX8_number_43 (by decide) ?_
        obtain ⟨gv18, qv17, h⟩ := bd1_some h
        refine v_callVV (As := [.int (2 : Int32)]) (rest := []) X (c_X8_bad l D ad cy X.2.2.2.2.2.2.2.2.1 N (2 : Int32) gv9 gv18  qv17) mw_X8_bad ml_X8_108 (by decide) (by decide +kernel) (by decide) rfl rfl rfl rfl (Nat.le_of_ble_eq_true rfl) dX8_number_44 ?_
        refine v_aloadn X dX8_number_47 rfl rfl ?_
        refine gf_X8_81 X dX8_number_48 ?_
        refine v_if_ne X 61 dX8_number_51 (by decide) (fun cv19 => ?_) (fun cv19 => ?_)
        · replace h := (if_neg cv19).symm.trans h
          refine v_iloadn X dX8_number_61 rfl rfl ?_
          refine v_istoren (lc' := [some (.ref (ad (8, 0, 0))), some (.int x1), some (.int x2), some (.int x1)]) X dX8_number_62 rfl (by decide) rfl rfl ?_
          refine v_aloadn X dX8_number_63 rfl rfl ?_
          refine v_iconst (v := 1) X dX8_number_64 (by decide) ?_
          obtain ⟨gv21, qv20, h⟩ := bd1_some h
          refine v_callVV (As := [.int (1 : Int32)]) (rest := []) X (c_X8_must l D ad cy X.2.2.2.2.2.2.2.2.1 N (1 : Int32) gv18 gv21  qv20) mw_X8_must ml_X8_115 (by decide) (by decide +kernel) (by decide) rfl rfl rfl rfl (Nat.le_of_ble_eq_true rfl) dX8_number_65 ?_
          refine v_iloadn X dX8_number_68 rfl rfl ?_
          obtain ⟨er, eg⟩ := Prod.mk.inj (Option.some.inj h)
          exact v_iret X dX8_number_69 er eg
        · replace h := (if_pos cv19).symm.trans h
          refine v_aloadn X dX8_number_54 rfl rfl ?_
          refine gf_X8_94 X dX8_number_55 ?_
          refine v_goto X 62 dX8_number_58 (by decide) ?_
          refine v_istoren (lc' := [some (.ref (ad (8, 0, 0))), some (.int x1), some (.int x2), some (.int (gv18 10 0 16))]) X dX8_number_62 rfl (by decide) rfl rfl ?_
          refine v_aloadn X dX8_number_63 rfl rfl ?_
          refine v_iconst (v := 1) X dX8_number_64 (by decide) ?_
          obtain ⟨gv23, qv22, h⟩ := bd1_some h
          refine v_callVV (As := [.int (1 : Int32)]) (rest := []) X (c_X8_must l D ad cy X.2.2.2.2.2.2.2.2.1 N (1 : Int32) gv18 gv23  qv22) mw_X8_must ml_X8_115 (by decide) (by decide +kernel) (by decide) rfl rfl rfl rfl (Nat.le_of_ble_eq_true rfl) dX8_number_65 ?_
          refine v_iloadn X dX8_number_68 rfl rfl ?_
          obtain ⟨er, eg⟩ := Prod.mk.inj (Option.some.inj h)
          exact v_iret X dX8_number_69 er eg
  · replace h := (if_pos cv1).symm.trans h
    refine v_aloadn X dX8_number_7 rfl rfl ?_
    refine gf_X8_105 X dX8_number_8 ?_
    refine v_iconst (v := 3) X dX8_number_11 (by decide) ?_
    refine v_icmp_eq X 20 dX8_number_12 (by decide) (fun cv24 => ?_) (fun cv24 => ?_)
    · replace h := (if_pos cv24).symm.trans h
      refine v_aloadn X dX8_number_20 rfl rfl ?_
      refine gf_X8_81 X dX8_number_21 ?_
      refine v_if_ne X 47 dX8_number_24 (by decide) (fun cv25 => ?_) (fun cv25 => ?_)
      · replace h := (if_neg cv25).symm.trans h
        refine v_aloadn X dX8_number_47 rfl rfl ?_
        refine gf_X8_81 X dX8_number_48 ?_
        refine v_if_ne X 61 dX8_number_51 (by decide) (fun cv26 => ?_) (fun cv26 => ?_)
        · replace h := (if_neg cv26).symm.trans h
          refine v_iloadn X dX8_number_61 rfl rfl ?_
          refine v_istoren (lc' := [some (.ref (ad (8, 0, 0))), some (.int x1), some (.int x2), some (.int x1)]) X dX8_number_62 rfl (by decide) rfl rfl ?_
          refine v_aloadn X dX8_number_63 rfl rfl ?_
          refine v_iconst (v := 1) X dX8_number_64 (by decide) ?_
          obtain ⟨gv28, qv27, h⟩ := bd1_some h
          refine v_callVV (As := [.int (1 : Int32)]) (rest := []) X (c_X8_must l D ad cy X.2.2.2.2.2.2.2.2.1 N (1 : Int32) g gv28  qv27) mw_X8_must ml_X8_115 (by decide) (by decide +kernel) (by decide) rfl rfl rfl rfl (Nat.le_of_ble_eq_true rfl) dX8_number_65 ?_
          refine v_iloadn X dX8_number_68 rfl rfl ?_
          obtain ⟨er, eg⟩ := Prod.mk.inj (Option.some.inj h)
          exact v_iret X dX8_number_69 er eg
        · replace h := (if_pos cv26).symm.trans h
          refine v_aloadn X dX8_number_54 rfl rfl ?_
          refine gf_X8_94 X dX8_number_55 ?_
          refine v_goto X 62 dX8_number_58 (by decide) ?_
          refine v_istoren (lc' := [some (.ref (ad (8, 0, 0))), some (.int x1), some (.int x2), some (.int (g 10 0 16))]) X dX8_number_62 rfl (by decide) rfl rfl ?_
          refine v_aloadn X dX8_number_63 rfl rfl ?_
          refine v_iconst (v := 1) X dX8_number_64 (by decide) ?_
          obtain ⟨gv30, qv29, h⟩ := bd1_some h
          refine v_callVV (As := [.int (1 : Int32)]) (rest := []) X (c_X8_must l D ad cy X.2.2.2.2.2.2.2.2.1 N (1 : Int32) g gv30  qv29) mw_X8_must ml_X8_115 (by decide) (by decide +kernel) (by decide) rfl rfl rfl rfl (Nat.le_of_ble_eq_true rfl) dX8_number_65 ?_
          refine v_iloadn X dX8_number_68 rfl rfl ?_
          obtain ⟨er, eg⟩ := Prod.mk.inj (Option.some.inj h)
          exact v_iret X dX8_number_69 er eg
      · replace h := (if_pos cv25).symm.trans h
        refine v_aloadn X dX8_number_27 rfl rfl ?_
        refine gf_X8_94 X dX8_number_28 ?_
        refine v_i2l X dX8_number_31 ?_
        refine v_iloadn X dX8_number_32 rfl rfl ?_
        refine v_i2l X dX8_number_33 ?_
        refine v_iloadn X dX8_number_34 rfl rfl ?_
        refine v_i2l X dX8_number_35 ?_
        obtain ⟨rv33, gv32, qv31, h⟩ := bd2_some h
        refine v_callSI (As := [.long ((g 10 0 16).toInt64), .long (x1.toInt64), .long (x2.toInt64)]) (rest := []) X (c_X8_in l D ad cy X.2.2.2.2.2.2.2.2.1 N ((g 10 0 16).toInt64) (x1.toInt64) (x2.toInt64) g rv33 gv32  qv31) mw_X8_in ml_X8_60 (by decide) rfl rfl (Nat.le_of_ble_eq_true rfl) dX8_number_36 ?_
        refine v_if_ne X 47 dX8_number_39 (by decide) (fun cv34 => ?_) (fun cv34 => ?_)
        · replace h := (if_neg cv34).symm.trans h
          refine v_aloadn X dX8_number_47 rfl rfl ?_
          refine gf_X8_81 X dX8_number_48 ?_
          refine v_if_ne X 61 dX8_number_51 (by decide) (fun cv35 => ?_) (fun cv35 => ?_)
          · replace h := (if_neg cv35).symm.trans h
            refine v_iloadn X dX8_number_61 rfl rfl ?_
            refine v_istoren (lc' := [some (.ref (ad (8, 0, 0))), some (.int x1), some (.int x2), some (.int x1)]) X dX8_number_62 rfl (by decide) rfl rfl ?_
            refine v_aloadn X dX8_number_63 rfl rfl ?_
            refine v_iconst (v := 1) X dX8_number_64 (by decide) ?_
            obtain ⟨gv37, qv36, h⟩ := bd1_some h
            refine v_callVV (As := [.int (1 : Int32)]) (rest := []) X (c_X8_must l D ad cy X.2.2.2.2.2.2.2.2.1 N (1 : Int32) gv32 gv37  qv36) mw_X8_must ml_X8_115 (by decide) (by decide +kernel) (by decide) rfl rfl rfl rfl (Nat.le_of_ble_eq_true rfl) dX8_number_65 ?_
            refine v_iloadn X dX8_number_68 rfl rfl ?_
            obtain ⟨er, eg⟩ := Prod.mk.inj (Option.some.inj h)
            exact v_iret X dX8_number_69 er eg
          · replace h := (if_pos cv35).symm.trans h
            refine v_aloadn X dX8_number_54 rfl rfl ?_
            refine gf_X8_94 X dX8_number_55 ?_
            refine v_goto X 62 dX8_number_58 (by decide) ?_
            refine v_istoren (lc' := [some (.ref (ad (8, 0, 0))), some (.int x1), some (.int x2), some (.int (gv32 10 0 16))]) X dX8_number_62 rfl (by decide) rfl rfl ?_
            refine v_aloadn X dX8_number_63 rfl rfl ?_
            refine v_iconst (v := 1) X dX8_number_64 (by decide) ?_
            obtain ⟨gv39, qv38, h⟩ := bd1_some h
            refine v_callVV (As := [.int (1 : Int32)]) (rest := []) X (c_X8_must l D ad cy X.2.2.2.2.2.2.2.2.1 N (1 : Int32) gv32 gv39  qv38) mw_X8_must ml_X8_115 (by decide) (by decide +kernel) (by decide) rfl rfl rfl rfl (Nat.le_of_ble_eq_true rfl) dX8_number_65 ?_
            refine v_iloadn X dX8_number_68 rfl rfl ?_
            obtain ⟨er, eg⟩ := Prod.mk.inj (Option.some.inj h)
            exact v_iret X dX8_number_69 er eg
        · replace h := (if_pos cv34).symm.trans h
          refine v_aloadn X dX8_number_42 rfl rfl ?_
          refine v_iconst (v := 2) X dX8_number_43 (by decide) ?_
          obtain ⟨gv41, qv40, h⟩ := bd1_some h
          refine v_callVV (As := [.int (2 : Int32)]) (rest := []) X (c_X8_bad l D ad cy X.2.2.2.2.2.2.2.2.1 N (2 : Int32) gv32 gv41  qv40) mw_X8_bad ml_X8_108 (by decide) (by decide +kernel) (by decide) rfl rfl rfl rfl (Nat.le_of_ble_eq_true rfl) dX8_number_44 ?_
          refine v_aloadn X dX8_number_47 rfl rfl ?_
          refine gf_X8_81 X dX8_number_48 ?_
          refine v_if_ne X 61 dX8_number_51 (by decide) (fun cv42 => ?_) (fun cv42 => ?_)
          · replace h := (if_neg cv42).symm.trans h
            refine v_iloadn X dX8_number_61 rfl rfl ?_
            refine v_istoren (lc' := [some (.ref (ad (8, 0, 0))), some (.int x1), some (.int x2), some (.int x1)]) X dX8_number_62 rfl (by decide) rfl rfl ?_
            refine v_aloadn X dX8_number_63 rfl rfl ?_
            refine v_iconst (v := 1) X dX8_number_64 (by decide) ?_
            obtain ⟨gv44, qv43, h⟩ := bd1_some h
            refine v_callVV (As := [.int (1 : Int32)]) (rest := []) X (c_X8_must l D ad cy X.2.2.2.2.2.2.2.2.1 N (1 : Int32) gv41 gv44  qv43) mw_X8_must ml_X8_115 (by decide) (by decide +kernel) (by decide) rfl rfl rfl rfl (Nat.le_of_ble_eq_true rfl) dX8_number_65 ?_
            refine v_iloadn X dX8_number_68 rfl rfl ?_
            obtain ⟨er, eg⟩ := Prod.mk.inj (Option.some.inj h)
            exact v_iret X dX8_number_69 er eg
          · replace h := (if_pos cv42).symm.trans h
            refine v_aloadn X dX8_number_54 rfl rfl ?_
            refine gf_X8_94 X dX8_number_55 ?_
            refine v_goto X 62 dX8_number_58 (by decide) ?_
            refine v_istoren (lc' := [some (.ref (ad (8, 0, 0))), some (.int x1), some (.int x2), some (.int (gv41 10 0 16))]) X dX8_number_62 rfl (by decide) rfl rfl ?_
            refine v_aloadn X dX8_number_63 rfl rfl ?_
            refine v_iconst (v := 1) X dX8_number_64 (by decide) ?_
            obtain ⟨gv46, qv45, h⟩ := bd1_some h
            refine v_callVV (As := [.int (1 : Int32)]) (rest := []) X (c_X8_must l D ad cy X.2.2.2.2.2.2.2.2.1 N (1 : Int32) gv41 gv46  qv45) mw_X8_must ml_X8_115 (by decide) (by decide +kernel) (by decide) rfl rfl rfl rfl (Nat.le_of_ble_eq_true rfl) dX8_number_65 ?_
            refine v_iloadn X dX8_number_68 rfl rfl ?_
            obtain ⟨er, eg⟩ := Prod.mk.inj (Option.some.inj h)
            exact v_iret X dX8_number_69 er eg
    · replace h := (if_neg cv24).symm.trans h
      refine v_aloadn X dX8_number_15 rfl rfl ?_
      refine v_iconst (v := 1) X dX8_number_16 (by decide) ?_
      obtain ⟨gv48, qv47, h⟩ := bd1_some h
      refine v_callVV (As := [.int (1 : Int32)]) (rest := []) X (c_X8_bad l D ad cy X.2.2.2.2.2.2.2.2.1 N (1 : Int32) g gv48  qv47) mw_X8_bad ml_X8_108 (by decide) (by decide +kernel) (by decide) rfl rfl rfl rfl (Nat.le_of_ble_eq_true rfl) dX8_number_17 ?_
      refine v_aloadn X dX8_number_20 rfl rfl ?_
      refine gf_X8_81 X dX8_number_21 ?_
      refine v_if_ne X 47 dX8_number_24 (by decide) (fun cv49 => ?_) (fun cv49 => ?_)
      · replace h := (if_neg cv49).symm.trans h
        refine v_aloadn X dX8_number_47 rfl rfl ?_
        refine gf_X8_81 X dX8_number_48 ?_
        refine v_if_ne X 61 dX8_number_51 (by decide) (fun cv50 => ?_) (fun cv50 => ?_)
        · replace h := (if_neg cv50).symm.trans h
          refine v_iloadn X dX8_number_61 rfl rfl ?_
          refine v_istoren (lc' := [some (.ref (ad (8, 0, 0))), some (.int x1), some (.int x2), some (.int x1)]) X dX8_number_62 rfl (by decide) rfl rfl ?_
          refine v_aloadn X dX8_number_63 rfl rfl ?_
          refine v_iconst (v := 1) X dX8_number_64 (by decide) ?_
          obtain ⟨gv52, qv51, h⟩ := bd1_some h
          refine v_callVV (As := [.int (1 : Int32)]) (rest := []) X (c_X8_must l D ad cy X.2.2.2.2.2.2.2.2.1 N (1 : Int32) gv48 gv52  qv51) mw_X8_must ml_X8_115 (by decide) (by decide +kernel) (by decide) rfl rfl rfl rfl (Nat.le_of_ble_eq_true rfl) dX8_number_65 ?_
          refine v_iloadn X dX8_number_68 rfl rfl ?_
          obtain ⟨er, eg⟩ := Prod.mk.inj (Option.some.inj h)
          exact v_iret X dX8_number_69 er eg
        · replace h := (if_pos cv50).symm.trans h
          refine v_aloadn X dX8_number_54 rfl rfl ?_
          refine gf_X8_94 X dX8_number_55 ?_
          refine v_goto X 62 dX8_number_58 (by decide) ?_
          refine v_istoren (lc' := [some (.ref (ad (8, 0, 0))), some (.int x1), some (.int x2), some (.int (gv48 10 0 16))]) X dX8_number_62 rfl (by decide) rfl rfl ?_
          refine v_aloadn X dX8_number_63 rfl rfl ?_
          refine v_iconst (v := 1) X dX8_number_64 (by decide) ?_
          obtain ⟨gv54, qv53, h⟩ := bd1_some h
          refine v_callVV (As := [.int (1 : Int32)]) (rest := []) X (c_X8_must l D ad cy X.2.2.2.2.2.2.2.2.1 N (1 : Int32) gv48 gv54  qv53) mw_X8_must ml_X8_115 (by decide) (by decide +kernel) (by decide) rfl rfl rfl rfl (Nat.le_of_ble_eq_true rfl) dX8_number_65 ?_
          refine v_iloadn X dX8_number_68 rfl rfl ?_
          obtain ⟨er, eg⟩ := Prod.mk.inj (Option.some.inj h)
          exact v_iret X dX8_number_69 er eg
      · replace h := (if_pos cv49).symm.trans h
        refine v_aloadn X dX8_number_27 rfl rfl ?_
        refine gf_X8_94 X dX8_number_28 ?_
        refine v_i2l X dX8_number_31 ?_
        refine v_iloadn X dX8_number_32 rfl rfl ?_
        refine v_i2l X dX8_number_33 ?_
        refine v_iloadn X dX8_number_34 rfl rfl ?_
        refine v_i2l X dX8_number_35 ?_
        obtain ⟨rv57, gv56, qv55, h⟩ := bd2_some h
        refine v_callSI (As := [.long ((gv48 10 0 16).toInt64), .long (x1.toInt64), .long (x2.toInt64)]) (rest := []) X (c_X8_in l D ad cy X.2.2.2.2.2.2.2.2.1 N ((gv48 10 0 16).toInt64) (x1.toInt64) (x2.toInt64) gv48 rv57 gv56  qv55) mw_X8_in ml_X8_60 (by decide) rfl rfl (Nat.le_of_ble_eq_true rfl) dX8_number_36 ?_
        refine v_if_ne X 47 dX8_number_39 (by decide) (fun cv58 => ?_) (fun cv58 => ?_)
        · replace h := (if_neg cv58).symm.trans h
          refine v_aloadn X dX8_number_47 rfl rfl ?_
          refine gf_X8_81 X dX8_number_48 ?_
          refine v_if_ne X 61 dX8_number_51 (by decide) (fun cv59 => ?_) (fun cv59 => ?_)
          · replace h := (if_neg cv59).symm.trans h
            refine v_iloadn X dX8_number_61 rfl rfl ?_
            refine v_istoren (lc' := [some (.ref (ad (8, 0, 0))), some (.int x1), some (.int x2), some (.int x1)]) X dX8_number_62 rfl (by decide) rfl rfl ?_
            refine v_aloadn X dX8_number_63 rfl rfl ?_
            refine v_iconst (v := 1) X dX8_number_64 (by decide) ?_
            obtain ⟨gv61, qv60, h⟩ := bd1_some h
            refine v_callVV (As := [.int (1 : Int32)]) (rest := []) X (c_X8_must l D ad cy X.2.2.2.2.2.2.2.2.1 N (1 : Int32) gv56 gv61  qv60) mw_X8_must ml_X8_115 (by decide) (by decide +kernel) (by decide) rfl rfl rfl rfl (Nat.le_of_ble_eq_true rfl) dX8_number_65 ?_
            refine v_iloadn X dX8_number_68 rfl rfl ?_
            obtain ⟨er, eg⟩ := Prod.mk.inj (Option.some.inj h)
            exact v_iret X dX8_number_69 er eg
          · replace h := (if_pos cv59).symm.trans h
            refine v_aloadn X dX8_number_54 rfl rfl ?_
            refine gf_X8_94 X dX8_number_55 ?_
            refine v_goto X 62 dX8_number_58 (by decide) ?_
            refine v_istoren (lc' := [some (.ref (ad (8, 0, 0))), some (.int x1), some (.int x2), some (.int (gv56 10 0 16))]) X dX8_number_62 rfl (by decide) rfl rfl ?_
            refine v_aloadn X dX8_number_63 rfl rfl ?_
            refine v_iconst (v := 1) X dX8_number_64 (by decide) ?_
            obtain ⟨gv63, qv62, h⟩ := bd1_some h
            refine v_callVV (As := [.int (1 : Int32)]) (rest := []) X (c_X8_must l D ad cy X.2.2.2.2.2.2.2.2.1 N (1 : Int32) gv56 gv63  qv62) mw_X8_must ml_X8_115 (by decide) (by decide +kernel) (by decide) rfl rfl rfl rfl (Nat.le_of_ble_eq_true rfl) dX8_number_65 ?_
            refine v_iloadn X dX8_number_68 rfl rfl ?_
            obtain ⟨er, eg⟩ := Prod.mk.inj (Option.some.inj h)
            exact v_iret X dX8_number_69 er eg
        · replace h := (if_pos cv58).symm.trans h
          refine v_aloadn X dX8_number_42 rfl rfl ?_
          refine v_iconst (v := 2) X dX8_number_43 (by decide) ?_
          obtain ⟨gv65, qv64, h⟩ := bd1_some h
          refine v_callVV (As := [.int (2 : Int32)]) (rest := []) X (c_X8_bad l D ad cy X.2.2.2.2.2.2.2.2.1 N (2 : Int32) gv56 gv65  qv64) mw_X8_bad ml_X8_108 (by decide) (by decide +kernel) (by decide) rfl rfl rfl rfl (Nat.le_of_ble_eq_true rfl) dX8_number_44 ?_
          refine v_aloadn X dX8_number_47 rfl rfl ?_
          refine gf_X8_81 X dX8_number_48 ?_
          refine v_if_ne X 61 dX8_number_51 (by decide) (fun cv66 => ?_) (fun cv66 => ?_)
          · replace h := (if_neg cv66).symm.trans h
            refine v_iloadn X dX8_number_61 rfl rfl ?_
            refine v_istoren (lc' := [some (.ref (ad (8, 0, 0))), some (.int x1), some (.int x2), some (.int x1)]) X dX8_number_62 rfl (by decide) rfl rfl ?_
            refine v_aloadn X dX8_number_63 rfl rfl ?_
            refine v_iconst (v := 1) X dX8_number_64 (by decide) ?_
            obtain ⟨gv68, qv67, h⟩ := bd1_some h
            refine v_callVV (As := [.int (1 : Int32)]) (rest := []) X (c_X8_must l D ad cy X.2.2.2.2.2.2.2.2.1 N (1 : Int32) gv65 gv68  qv67) mw_X8_must ml_X8_115 (by decide) (by decide +kernel) (by decide) rfl rfl rfl rfl (Nat.le_of_ble_eq_true rfl) dX8_number_65 ?_
            refine v_iloadn X dX8_number_68 rfl rfl ?_
            obtain ⟨er, eg⟩ := Prod.mk.inj (Option.some.inj h)
            exact v_iret X dX8_number_69 er eg
          · replace h := (if_pos cv66).symm.trans h
            refine v_aloadn X dX8_number_54 rfl rfl ?_
            refine gf_X8_94 X dX8_number_55 ?_
            refine v_goto X 62 dX8_number_58 (by decide) ?_
            refine v_istoren (lc' := [some (.ref (ad (8, 0, 0))), some (.int x1), some (.int x2), some (.int (gv65 10 0 16))]) X dX8_number_62 rfl (by decide) rfl rfl ?_
            refine v_aloadn X dX8_number_63 rfl rfl ?_
            refine v_iconst (v := 1) X dX8_number_64 (by decide) ?_
            obtain ⟨gv70, qv69, h⟩ := bd1_some h
            refine v_callVV (As := [.int (1 : Int32)]) (rest := []) X (c_X8_must l D ad cy X.2.2.2.2.2.2.2.2.1 N (1 : Int32) gv65 gv70  qv69) mw_X8_must ml_X8_115 (by decide) (by decide +kernel) (by decide) rfl rfl rfl rfl (Nat.le_of_ble_eq_true rfl) dX8_number_65 ?_
            refine v_iloadn X dX8_number_68 rfl rfl ?_
            obtain ⟨er, eg⟩ := Prod.mk.inj (Option.some.inj h)
            exact v_iret X dX8_number_69 er eg
def F_X8_paper (N : Nat) (x1 : Int32) (x2 : Int32) (g : GS) : Option (Int32 × GS) := bd2 (F_X8_isPaper N x1 (g3 g 10 0 0 (0 : Int32))) (fun rv3 gv2 => if rv3 = 0 then some ((-1000001 : Int32), gv2) else if x2 = 0 then bd2 (F_X8_of N 5 x1 (1 : Int32) gv2) (fun rv8 gv7 => some (rv8, gv7)) else if x2 = 1 then bd2 (F_X8_of N 5 x1 (2 : Int32) gv2) (fun rv12 gv11 => some (rv12, gv11)) else if x2 = 2 then bd2 (F_X8_of N 5 x1 (3 : Int32) gv2) (fun rv16 gv15 => some (rv16, gv15)) else if x2 = 3 then bd2 (F_X8_of N 5 x1 (4 : Int32) gv2) (fun rv20 gv19 => some (rv20, gv19)) else if x2 = 4 then bd2 (F_X8_of N 5 x1 (5 : Int32) gv2) (fun rv24 gv23 => some (rv24, gv23)) else if x2 = 5 then bd2 (F_X8_cellOf N 5 x1 gv2) (fun rv28 gv27 => some (rv28, gv27)) else if x2 = 6 then bd2 (F_X8_isPolicy N 5 x1 gv2) (fun rv32 gv31 => if rv32 = 0 then some ((0 : Int32), gv31) else some ((1 : Int32), gv31)) else some ((-1000001 : Int32), gv2))
set_option maxRecDepth 100000 in
set_option maxHeartbeats 4000000 in
theorem c_X8_paper (l : Launch) (D : va_G) (ad : Ky → Nat) (cy : Nat → ClassId) (hI : Inj ad) (N : Nat) (x1 : Int32) (x2 : Int32) (g : GS) (r : Int32) (gq : GS) (h : F_X8_paper N x1 x2 g = some (r, gq)) : CtI l D ad cy yX8_paper cX8_paper 3 (some .int) 3 [.ref (ad (8, 0, 0)), .int x1, .int x2] g r gq := by
  refine CtI.of 0 hI (by decide +kernel) rfl (Nat.le_of_ble_eq_true rfl) (fun p e s m args below meth c X => ?_)
  unfold F_X8_paper at h
  show Vy _ _ _ _ _ _ _ _ _ _ _ _ _ _ _ 0 [some (.ref (ad (8, 0, 0))), some (.int x1), some (.int x2)] [] g
  refine v_aloadn X dX8_paper_0 rfl rfl ?_
  refine v_iconst (v := 0) X dX8_paper_1 (by decide) ?_
  refine pf_X8_50 X dX8_paper_2 ?_
  refine v_aloadn X dX8_paper_5 rfl rfl ?_
  refine v_iloadn X dX8_paper_6 rfl rfl ?_
  obtain ⟨rv3, gv2, qv1, h⟩ := bd2_some h
  refine v_callVI (As := [.int x1]) (rest := []) X (c_X8_isPaper l D ad cy X.2.2.2.2.2.2.2.2.1 N x1 (g3 g 10 0 0 (0 : Int32)) rv3 gv2  qv1) mw_X8_isPaper ml_X8_208 (by decide) (by decide +kernel) (by decide) rfl rfl rfl rfl (Nat.le_of_ble_eq_true rfl) dX8_paper_7 ?_
  refine v_if_ne X 16 dX8_paper_10 (by decide) (fun cv4 => ?_) (fun cv4 => ?_)
  · replace h := (if_neg cv4).symm.trans h
    refine v_iloadn X dX8_paper_16 rfl rfl ?_
    by_cases cv5 : x2 = 0
    · replace h := (if_pos cv5).symm.trans h
      refine v_tableIn X 60 dX8_paper_17 (by rw [cv5]; decide) (by rw [cv5]; decide) (by rw [cv5]; rfl) (by decide) ?_
      refine v_aloadn X dX8_paper_60 rfl rfl ?_
      refine gf_X8_19 X dX8_paper_61 ?_
      refine v_iloadn X dX8_paper_64 rfl rfl ?_
      refine v_iconst (v := 1) X dX8_paper_65 (by decide) ?_
      obtain ⟨rv8, gv7, qv6, h⟩ := bd2_some h
      refine v_callSI (As := [.ref (ad (9, 11, 5)), .int x1, .int (1 : Int32)]) (rest := []) X (c_X8_of l D ad cy X.2.2.2.2.2.2.2.2.1 N 5 x1 (1 : Int32) gv2 rv8 gv7 (by decide +kernel) qv6) mw_X8_of ml_X8_155 (by decide) rfl rfl (Nat.le_of_ble_eq_true rfl) dX8_paper_66 ?_
      obtain ⟨er, eg⟩ := Prod.mk.inj (Option.some.inj h)
      exact v_iret X dX8_paper_69 er eg
    replace h := (if_neg cv5).symm.trans h
    by_cases cv9 : x2 = 1
    · replace h := (if_pos cv9).symm.trans h
      refine v_tableIn X 70 dX8_paper_17 (by rw [cv9]; decide) (by rw [cv9]; decide) (by rw [cv9]; rfl) (by decide) ?_
      refine v_aloadn X dX8_paper_70 rfl rfl ?_
      refine gf_X8_19 X dX8_paper_71 ?_
      refine v_iloadn X dX8_paper_74 rfl rfl ?_
      refine v_iconst (v := 2) X dX8_paper_75 (by decide) ?_
      obtain ⟨rv12, gv11, qv10, h⟩ := bd2_some h
      refine v_callSI (As := [.ref (ad (9, 11, 5)), .int x1, .int (2 : Int32)]) (rest := []) X (c_X8_of l D ad cy X.2.2.2.2.2.2.2.2.1 N 5 x1 (2 : Int32) gv2 rv12 gv11 (by decide +kernel) qv10) mw_X8_of ml_X8_155 (by decide) rfl rfl (Nat.le_of_ble_eq_true rfl) dX8_paper_76 ?_
      obtain ⟨er, eg⟩ := Prod.mk.inj (Option.some.inj h)
      exact v_iret X dX8_paper_79 er eg
    replace h := (if_neg cv9).symm.trans h
    by_cases cv13 : x2 = 2
    · replace h := (if_pos cv13).symm.trans h
      refine v_tableIn X 80 dX8_paper_17 (by rw [cv13]; decide) (by rw [cv13]; decide) (by rw [cv13]; rfl) (by decide) ?_
      refine v_aloadn X dX8_paper_80 rfl rfl ?_
      refine gf_X8_19 X dX8_paper_81 ?_
      refine v_iloadn X dX8_paper_84 rfl rfl ?_
      refine v_iconst (v := 3) X dX8_paper_85 (by decide) ?_
      obtain ⟨rv16, gv15, qv14, h⟩ := bd2_some h
      refine v_callSI (As := [.ref (ad (9, 11, 5)), .int x1, .int (3 : Int32)]) (rest := []) X (c_X8_of l D ad cy X.2.2.2.2.2.2.2.2.1 N 5 x1 (3 : Int32) gv2 rv16 gv15 (by decide +kernel) qv14) mw_X8_of ml_X8_155 (by decide) rfl rfl (Nat.le_of_ble_eq_true rfl) dX8_paper_86 ?_
      obtain ⟨er, eg⟩ := Prod.mk.inj (Option.some.inj h)
      exact v_iret X dX8_paper_89 er eg
    replace h := (if_neg cv13).symm.trans h
    by_cases cv17 : x2 = 3
    · replace h := (if_pos cv17).symm.trans h
      refine v_tableIn X 90 dX8_paper_17 (by rw [cv17]; decide) (by rw [cv17]; decide) (by rw [cv17]; rfl) (by decide) ?_
      refine v_aloadn X dX8_paper_90 rfl rfl ?_
      refine gf_X8_19 X dX8_paper_91 ?_
      refine v_iloadn X dX8_paper_94 rfl rfl ?_
      refine v_iconst (v := 4) X dX8_paper_95 (by decide) ?_
      obtain ⟨rv20, gv19, qv18, h⟩ := bd2_some h
      refine v_callSI (As := [.ref (ad (9, 11, 5)), .int x1, .int (4 : Int32)]) (rest := []) X (c_X8_of l D ad cy X.2.2.2.2.2.2.2.2.1 N 5 x1 (4 : Int32) gv2 rv20 gv19 (by decide +kernel) qv18) mw_X8_of ml_X8_155 (by decide) rfl rfl (Nat.le_of_ble_eq_true rfl) dX8_paper_96 ?_
      obtain ⟨er, eg⟩ := Prod.mk.inj (Option.some.inj h)
      exact v_iret X dX8_paper_99 er eg
    replace h := (if_neg cv17).symm.trans h
    by_cases cv21 : x2 = 4
    · replace h := (if_pos cv21).symm.trans h
      refine v_tableIn X 100 dX8_paper_17 (by rw [cv21]; decide) (by rw [cv21]; decide) (by rw [cv21]; rfl) (by decide) ?_
      refine v_aloadn X dX8_paper_100 rfl rfl ?_
      refine gf_X8_19 X dX8_paper_101 ?_
      refine v_iloadn X dX8_paper_104 rfl rfl ?_
      refine v_iconst (v := 5) X dX8_paper_105 (by decide) ?_
      obtain ⟨rv24, gv23, qv22, h⟩ := bd2_some h
      refine v_callSI (As := [.ref (ad (9, 11, 5)), .int x1, .int (5 : Int32)]) (rest := []) X (c_X8_of l D ad cy X.2.2.2.2.2.2.2.2.1 N 5 x1 (5 : Int32) gv2 rv24 gv23 (by decide +kernel) qv22) mw_X8_of ml_X8_155 (by decide) rfl rfl (Nat.le_of_ble_eq_true rfl) dX8_paper_106 ?_
      obtain ⟨er, eg⟩ := Prod.mk.inj (Option.some.inj h)
      exact v_iret X dX8_paper_109 er eg
    replace h := (if_neg cv21).symm.trans h
    by_cases cv25 : x2 = 5
    · replace h := (if_pos cv25).symm.trans h
      refine v_tableIn X 110 dX8_paper_17 (by rw [cv25]; decide) (by rw [cv25]; decide) (by rw [cv25]; rfl) (by decide) ?_
      refine v_aloadn X dX8_paper_110 rfl rfl ?_
      refine gf_X8_19 X dX8_paper_111 ?_
      refine v_iloadn X dX8_paper_114 rfl rfl ?_
      obtain ⟨rv28, gv27, qv26, h⟩ := bd2_some h
      refine v_callSI (As := [.ref (ad (9, 11, 5)), .int x1]) (rest := []) X (c_X8_cellOf l D ad cy X.2.2.2.2.2.2.2.2.1 N 5 x1 gv2 rv28 gv27 (by decide +kernel) qv26) mw_X8_cellOf ml_X8_229 (by decide) rfl rfl (Nat.le_of_ble_eq_true rfl) dX8_paper_115 ?_
      obtain ⟨er, eg⟩ := Prod.mk.inj (Option.some.inj h)
      exact v_iret X dX8_paper_118 er eg
    replace h := (if_neg cv25).symm.trans h
    by_cases cv29 : x2 = 6
    · replace h := (if_pos cv29).symm.trans h
      refine v_tableIn X 119 dX8_paper_17 (by rw [cv29]; decide) (by rw [cv29]; decide) (by rw [cv29]; rfl) (by decide) ?_
      refine v_aloadn X dX8_paper_119 rfl rfl ?_
      refine gf_X8_19 X dX8_paper_120 ?_
      refine v_iloadn X dX8_paper_123 rfl rfl ?_
      obtain ⟨rv32, gv31, qv30, h⟩ := bd2_some h
      refine v_callSI (As := [.ref (ad (9, 11, 5)), .int x1]) (rest := []) X (c_X8_isPolicy l D ad cy X.2.2.2.2.2.2.2.2.1 N 5 x1 gv2 rv32 gv31 (by decide +kernel) qv30) mw_X8_isPolicy ml_X8_192 (by decide) rfl rfl (Nat.le_of_ble_eq_true rfl) dX8_paper_124 ?_
      refine v_if_eq X 134 dX8_paper_127 (by decide) (fun cv33 => ?_) (fun cv33 => ?_)
      · replace h := (if_pos cv33).symm.trans h
        refine v_iconst (v := 0) X dX8_paper_134 (by decide) ?_
        obtain ⟨er, eg⟩ := Prod.mk.inj (Option.some.inj h)
        exact v_iret X dX8_paper_135 er eg
      · replace h := (if_neg cv33).symm.trans h
        refine v_iconst (v := 1) X dX8_paper_130 (by decide) ?_
        refine v_goto X 135 dX8_paper_131 (by decide) ?_
        obtain ⟨er, eg⟩ := Prod.mk.inj (Option.some.inj h)
        exact v_iret X dX8_paper_135 er eg
    replace h := (if_neg cv29).symm.trans h
    have tv34 := tab_ne (k := 0) (n := 0) cv5 (by decide)
    have tv35 := tab_ne (k := 1) (n := 1) cv9 (by decide)
    have tv36 := tab_ne (k := 2) (n := 2) cv13 (by decide)
    have tv37 := tab_ne (k := 3) (n := 3) cv17 (by decide)
    have tv38 := tab_ne (k := 4) (n := 4) cv21 (by decide)
    have tv39 := tab_ne (k := 5) (n := 5) cv25 (by decide)
    have tv40 := tab_ne (k := 6) (n := 6) cv29 (by decide)
    refine v_tableOut X 136 dX8_paper_17 (by omega) (by decide) ?_
    refine v_ldc X kc_X8_70 dX8_paper_136 ?_
    obtain ⟨er, eg⟩ := Prod.mk.inj (Option.some.inj h)
    exact v_iret X dX8_paper_138 er eg
  · replace h := (if_pos cv4).symm.trans h
    refine v_ldc X kc_X8_70 dX8_paper_13 ?_
    obtain ⟨er, eg⟩ := Prod.mk.inj (Option.some.inj h)
    exact v_iret X dX8_paper_15 er eg
def F_X8_policy (N : Nat) (x1 : Int32) (g : GS) : Option (Int32 × GS) := bd2 (F_X8_isThere N  (g3 g 10 0 0 (0 : Int32))) (fun rv3 gv2 => if rv3 = 0 then some ((-1000002 : Int32), gv2) else bd2 (F_X8_in N (x1.toInt64) (0 : Int64) (60 : Int64) gv2) (fun rv7 gv6 => if rv7 = 0 then some ((-1000001 : Int32), gv6) else bd1 (F_X8_layThen N  gv6) (fun gv10 => bd1 (F_X8_hoursOf N 7 x1 gv10) (fun gv12 => bd2 (F_X8_policies N 7 gv12) (fun rv15 gv14 => some (rv15, gv14))))))
set_option maxRecDepth 100000 in
set_option maxHeartbeats 4000000 in
theorem c_X8_policy (l : Launch) (D : va_G) (ad : Ky → Nat) (cy : Nat → ClassId) (hI : Inj ad) (N : Nat) (x1 : Int32) (g : GS) (r : Int32) (gq : GS) (h : F_X8_policy N x1 g = some (r, gq)) : CtI l D ad cy yX8_policy cX8_policy 2 (some .int) 7 [.ref (ad (8, 0, 0)), .int x1] g r gq := by
  refine CtI.of 0 hI (by decide +kernel) rfl (Nat.le_of_ble_eq_true rfl) (fun p e s m args below meth c X => ?_)
  unfold F_X8_policy at h
  show Vy _ _ _ _ _ _ _ _ _ _ _ _ _ _ _ 0 [some (.ref (ad (8, 0, 0))), some (.int x1)] [] g
  refine v_aloadn X dX8_policy_0 rfl rfl ?_
  refine v_iconst (v := 0) X dX8_policy_1 (by decide) ?_
  refine pf_X8_50 X dX8_policy_2 ?_
  refine v_aloadn X dX8_policy_5 rfl rfl ?_
  obtain ⟨rv3, gv2, qv1, h⟩ := bd2_some h
  refine v_callVI (As := []) (rest := []) X (c_X8_isThere l D ad cy X.2.2.2.2.2.2.2.2.1 N  (g3 g 10 0 0 (0 : Int32)) rv3 gv2  qv1) mw_X8_isThere ml_X8_195 (by decide) (by decide +kernel) (by decide) rfl rfl rfl rfl (Nat.le_of_ble_eq_true rfl) dX8_policy_6 ?_
  refine v_if_ne X 15 dX8_policy_9 (by decide) (fun cv4 => ?_) (fun cv4 => ?_)
  · replace h := (if_neg cv4).symm.trans h
    refine v_iloadn X dX8_policy_15 rfl rfl ?_
    refine v_i2l X dX8_policy_16 ?_
    refine v_lconst (v := 0) X dX8_policy_17 (by decide) ?_
    refine v_ldc2 X kl_X8_225 dX8_policy_18 ?_
    obtain ⟨rv7, gv6, qv5, h⟩ := bd2_some h
    refine v_callSI (As := [.long (x1.toInt64), .long (0 : Int64), .long (60 : Int64)]) (rest := []) X (c_X8_in l D ad cy X.2.2.2.2.2.2.2.2.1 N (x1.toInt64) (0 : Int64) (60 : Int64) gv2 rv7 gv6  qv5) mw_X8_in ml_X8_60 (by decide) rfl rfl (Nat.le_of_ble_eq_true rfl) dX8_policy_21 ?_
    refine v_if_ne X 30 dX8_policy_24 (by decide) (fun cv8 => ?_) (fun cv8 => ?_)
    · replace h := (if_neg cv8).symm.trans h
      refine v_aloadn X dX8_policy_30 rfl rfl ?_
      obtain ⟨gv10, qv9, h⟩ := bd1_some h
      refine v_callVV (As := []) (rest := []) X (c_X8_layThen l D ad cy X.2.2.2.2.2.2.2.2.1 N  gv6 gv10  qv9) mw_X8_layThen ml_X8_232 (by decide) (by decide +kernel) (by decide) rfl rfl rfl rfl (Nat.le_of_ble_eq_true rfl) dX8_policy_31 ?_
      refine v_aloadn X dX8_policy_34 rfl rfl ?_
      refine v_aloadn X dX8_policy_35 rfl rfl ?_
      refine gf_X8_25 X dX8_policy_36 ?_
      refine v_iloadn X dX8_policy_39 rfl rfl ?_
      obtain ⟨gv12, qv11, h⟩ := bd1_some h
      refine v_callVV (As := [.ref (ad (9, 11, 7)), .int x1]) (rest := []) X (c_X8_hoursOf l D ad cy X.2.2.2.2.2.2.2.2.1 N 7 x1 gv10 gv12 (by decide +kernel) qv11) mw_X8_hoursOf ml_X8_235 (by decide) (by decide +kernel) (by decide) rfl rfl rfl rfl (Nat.le_of_ble_eq_true rfl) dX8_policy_40 ?_
      refine v_aloadn X dX8_policy_43 rfl rfl ?_
      refine gf_X8_25 X dX8_policy_44 ?_
      obtain ⟨rv15, gv14, qv13, h⟩ := bd2_some h
      refine v_callSI (As := [.ref (ad (9, 11, 7))]) (rest := []) X (c_X8_policies l D ad cy X.2.2.2.2.2.2.2.2.1 N 7 gv12 rv15 gv14 (by decide +kernel) qv13) mw_X8_policies ml_X8_204 (by decide) rfl rfl (Nat.le_of_ble_eq_true rfl) dX8_policy_47 ?_
      obtain ⟨er, eg⟩ := Prod.mk.inj (Option.some.inj h)
      exact v_iret X dX8_policy_50 er eg
    · replace h := (if_pos cv8).symm.trans h
      refine v_ldc X kc_X8_70 dX8_policy_27 ?_
      obtain ⟨er, eg⟩ := Prod.mk.inj (Option.some.inj h)
      exact v_iret X dX8_policy_29 er eg
  · replace h := (if_pos cv4).symm.trans h
    refine v_ldc X kc_X8_198 dX8_policy_12 ?_
    obtain ⟨er, eg⟩ := Prod.mk.inj (Option.some.inj h)
    exact v_iret X dX8_policy_14 er eg
def F_X8_pull (N : Nat) (x1 : Int32) (g : GS) : Option (Int32 × GS) := bd2 (F_X8_isPaper N x1 (g3 g 10 0 0 (0 : Int32))) (fun rv3 gv2 => if rv3 = 0 then some ((-1000001 : Int32), gv2) else bd2 (F_X8_isUp N 5 x1 gv2) (fun rv7 gv6 => if rv7 = 0 then some ((-1000002 : Int32), gv6) else bd1 (ix (4 : Int32) 53) (fun jv9 => bd2 (F_X8_forceOf N 5 (gv6 11 5 jv9) gv6) (fun rv13 gv12 => bd2 (F_X8_riseOf N 5 x1 rv13 gv12) (fun rv16 gv15 => some (rv16, gv15))))))
set_option maxRecDepth 100000 in
set_option maxHeartbeats 4000000 in
theorem c_X8_pull (l : Launch) (D : va_G) (ad : Ky → Nat) (cy : Nat → ClassId) (hI : Inj ad) (N : Nat) (x1 : Int32) (g : GS) (r : Int32) (gq : GS) (h : F_X8_pull N x1 g = some (r, gq)) : CtI l D ad cy yX8_pull cX8_pull 2 (some .int) 4 [.ref (ad (8, 0, 0)), .int x1] g r gq := by
  refine CtI.of 0 hI (by decide +kernel) rfl (Nat.le_of_ble_eq_true rfl) (fun p e s m args below meth c X => ?_)
  unfold F_X8_pull at h
  show Vy _ _ _ _ _ _ _ _ _ _ _ _ _ _ _ 0 [some (.ref (ad (8, 0, 0))), some (.int x1)] [] g
  refine v_aloadn X dX8_pull_0 rfl rfl ?_
  refine v_iconst (v := 0) X dX8_pull_1 (by decide) ?_
  refine pf_X8_50 X dX8_pull_2 ?_
  refine v_aloadn X dX8_pull_5 rfl rfl ?_
  refine v_iloadn X dX8_pull_6 rfl rfl ?_
  obtain ⟨rv3, gv2, qv1, h⟩ := bd2_some h
  refine v_callVI (As := [.int x1]) (rest := []) X (c_X8_isPaper l D ad cy X.2.2.2.2.2.2.2.2.1 N x1 (g3 g 10 0 0 (0 : Int32)) rv3 gv2  qv1) mw_X8_isPaper ml_X8_208 (by decide) (by decide +kernel) (by decide) rfl rfl rfl rfl (Nat.le_of_ble_eq_true rfl) dX8_pull_7 ?_
  refine v_if_ne X 16 dX8_pull_10 (by decide) (fun cv4 => ?_) (fun cv4 => ?_)
  · replace h := (if_neg cv4).symm.trans h
    refine v_aloadn X dX8_pull_16 rfl rfl ?_
    refine gf_X8_19 X dX8_pull_17 ?_
    refine v_iloadn X dX8_pull_20 rfl rfl ?_
    obtain ⟨rv7, gv6, qv5, h⟩ := bd2_some h
    refine v_callSI (As := [.ref (ad (9, 11, 5)), .int x1]) (rest := []) X (c_X8_isUp l D ad cy X.2.2.2.2.2.2.2.2.1 N 5 x1 gv2 rv7 gv6 (by decide +kernel) qv5) mw_X8_isUp ml_X8_159 (by decide) rfl rfl (Nat.le_of_ble_eq_true rfl) dX8_pull_21 ?_
    refine v_if_eq X 51 dX8_pull_24 (by decide) (fun cv8 => ?_) (fun cv8 => ?_)
    · replace h := (if_pos cv8).symm.trans h
      refine v_ldc X kc_X8_198 dX8_pull_51 ?_
      obtain ⟨er, eg⟩ := Prod.mk.inj (Option.some.inj h)
      exact v_iret X dX8_pull_53 er eg
    · replace h := (if_neg cv8).symm.trans h
      refine v_aloadn X dX8_pull_27 rfl rfl ?_
      refine gf_X8_19 X dX8_pull_28 ?_
      refine v_iloadn X dX8_pull_31 rfl rfl ?_
      refine v_aloadn X dX8_pull_32 rfl rfl ?_
      refine gf_X8_19 X dX8_pull_33 ?_
      refine v_aloadn X dX8_pull_36 rfl rfl ?_
      refine gf_X8_19 X dX8_pull_37 ?_
      refine v_iconst (v := 4) X dX8_pull_40 (by decide) ?_
      obtain ⟨jv9, qv10, h⟩ := bd1_some h
      obtain ⟨ejv9, ljv9⟩ := ix_spec qv10
      refine alM X (by decide +kernel) jv9 ejv9 ljv9 dX8_pull_41 ?_
      obtain ⟨rv13, gv12, qv11, h⟩ := bd2_some h
      refine v_callSI (As := [.ref (ad (9, 11, 5)), .int (gv6 11 5 jv9)]) (rest := [.int x1, .ref (ad (9, 11, 5))]) X (c_X8_forceOf l D ad cy X.2.2.2.2.2.2.2.2.1 N 5 (gv6 11 5 jv9) gv6 rv13 gv12 (by decide +kernel) qv11) mw_X8_forceOf ml_X8_180 (by decide) rfl rfl (Nat.le_of_ble_eq_true rfl) dX8_pull_42 ?_
      obtain ⟨rv16, gv15, qv14, h⟩ := bd2_some h
      refine v_callSI (As := [.ref (ad (9, 11, 5)), .int x1, .int rv13]) (rest := []) X (c_X8_riseOf l D ad cy X.2.2.2.2.2.2.2.2.1 N 5 x1 rv13 gv12 rv16 gv15 (by decide +kernel) qv14) mw_X8_riseOf ml_X8_174 (by decide) rfl rfl (Nat.le_of_ble_eq_true rfl) dX8_pull_45 ?_
      refine v_goto X 53 dX8_pull_48 (by decide) ?_
      obtain ⟨er, eg⟩ := Prod.mk.inj (Option.some.inj h)
      exact v_iret X dX8_pull_53 er eg
  · replace h := (if_pos cv4).symm.trans h
    refine v_ldc X kc_X8_70 dX8_pull_13 ?_
    obtain ⟨er, eg⟩ := Prod.mk.inj (Option.some.inj h)
    exact v_iret X dX8_pull_15 er eg
def L_X8_quarrels_53 (N : Nat) (z1 : Int32) (z4 : Int32) : Nat → Int32 → Int32 → Int32 → GS → Option (Int32 × Int32 × Int32 × GS)
  | 0, _, _, _, _ => none
  | n + 1, y2, y3, y5, g => bd1 (ix (0 : Int32) 53) (fun jv12 => if (g 11 5 jv12) ≤ y5 then some (y2, y3, y5, g) else bd2 (F_X8_cellOf N 5 z4 g) (fun rv17 gv16 => if rv17 = (-1000000 : Int32) then L_X8_quarrels_53 N z1 z4 n y2 y3 (y5 + 1) gv16 else bd2 (F_X8_cellOf N 5 z4 gv16) (fun rv21 gv20 => bd2 (F_X8_cellOf N 5 y5 gv20) (fun rv24 gv23 => if rv21 = rv24 then if y2 = 0 then L_X8_quarrels_53 N z1 z4 n (y2 + 1) (((10 : Int32) * z4) + y5) (y5 + 1) gv23 else L_X8_quarrels_53 N z1 z4 n (y2 + 1) y3 (y5 + 1) gv23 else L_X8_quarrels_53 N z1 z4 n y2 y3 (y5 + 1) gv23))))
def L_X8_quarrels_36 (N : Nat) (z1 : Int32) : Nat → Int32 → Int32 → Int32 → GS → Option (Int32 × Int32 × Int32 × GS)
  | 0, _, _, _, _ => none
  | n + 1, y2, y3, y4, g => bd1 (ix (0 : Int32) 53) (fun jv9 => if (g 11 5 jv9) ≤ y4 then some (y2, y3, y4, g) else bd4 (L_X8_quarrels_53 N z1 y4 N y2 y3 (y4 + (1 : Int32)) g) (fun xv27 xv28 xv29 gv30 => L_X8_quarrels_36 N z1 n xv27 xv28 (y4 + 1) gv30))
def F_X8_quarrels (N : Nat) (x1 : Int32) (g : GS) : Option (Int32 × GS) := bd2 (F_X8_isThere N  (g3 g 10 0 0 (0 : Int32))) (fun rv3 gv2 => if rv3 = 0 then some ((-1000002 : Int32), gv2) else bd2 (F_X8_in N (x1.toInt64) (0 : Int64) (1 : Int64) gv2) (fun rv7 gv6 => if rv7 = 0 then some ((-1000001 : Int32), gv6) else bd4 (L_X8_quarrels_36 N x1 N (0 : Int32) (-1000000 : Int32) (0 : Int32) gv6) (fun xv32 xv33 xv34 gv35 => if x1 = 0 then some (xv32, gv35) else some (xv33, gv35))))
set_option maxRecDepth 100000 in
set_option maxHeartbeats 4000000 in
theorem w_X8_quarrels_53 {p : Program} {l : Launch} {e : Env} {s : State} {m : MethodId} {args : Array Value} {below : List Frame} {meth : Method} {c : Code} {D : va_G} {ad : Ky → Nat} {cy : Nat → ClassId} {r : Int32} {gq : GS} {N : Nat} (X : Cx p (rmd 2) s m args meth c RX8 cX8_quarrels 6 (some .int) D ad cy) (z1 : Int32) (z4 : Int32) : ∀ (n : Nat) (y2 : Int32) (y3 : Int32) (y5 : Int32) (g : GS) (y2' : Int32) (y3' : Int32) (y5' : Int32) (g' : GS), L_X8_quarrels_53 N z1 z4 n y2 y3 y5 g = some (y2', y3', y5', g') → Vy p l e (rmd 2) s m args below meth c 6 D ad cy (QI D ad cy below args s r gq) 125 [some (.ref (ad (8, 0, 0))), some (.int z1), some (.int y2'), some (.int y3'), some (.int z4), some (.int y5')] [] g' → Vy p l e (rmd 2) s m args below meth c 6 D ad cy (QI D ad cy below args s r gq) 53 [some (.ref (ad (8, 0, 0))), some (.int z1), some (.int y2), some (.int y3), some (.int z4), some (.int y5)] [] g := by
  intro n
  induction n with
  | zero => intro y2 y3 y5 g y2' y3' y5' g' h k; cases h
  | succ n ih =>
    intro y2 y3 y5 g y2' y3' y5' g' h k
    rw [L_X8_quarrels_53] at h
    refine v_iload X dX8_quarrels_53 rfl ?_
    refine v_aloadn X dX8_quarrels_55 rfl rfl ?_
    refine gf_X8_19 X dX8_quarrels_56 ?_
    refine v_iconst (v := 0) X dX8_quarrels_59 (by decide) ?_
    obtain ⟨jv12, qv13, h⟩ := bd1_some h
    obtain ⟨ejv12, ljv12⟩ := ix_spec qv13
    refine alM X (by decide +kernel) jv12 ejv12 ljv12 dX8_quarrels_60 ?_
    refine v_icmp_ge X 125 dX8_quarrels_61 (by decide) (fun cv14 => ?_) (fun cv14 => ?_)
    · replace h := (if_pos cv14).symm.trans h
      cases h
      exact k
    · replace h := (if_neg cv14).symm.trans h
      refine v_aloadn X dX8_quarrels_64 rfl rfl ?_
      refine gf_X8_19 X dX8_quarrels_65 ?_
      refine v_iload X dX8_quarrels_68 rfl ?_
      obtain ⟨rv17, gv16, qv15, h⟩ := bd2_some h
      refine v_callSI (As := [.ref (ad (9, 11, 5)), .int z4]) (rest := []) X (c_X8_cellOf l D ad cy X.2.2.2.2.2.2.2.2.1 N 5 z4 g rv17 gv16 (by decide +kernel) qv15) mw_X8_cellOf ml_X8_229 (by decide) rfl rfl (Nat.le_of_ble_eq_true rfl) dX8_quarrels_70 ?_
      refine v_ldc X kc_X8_93 dX8_quarrels_73 ?_
      refine v_icmp_eq X 119 dX8_quarrels_75 (by decide) (fun cv18 => ?_) (fun cv18 => ?_)
      · replace h := (if_pos cv18).symm.trans h
        refine v_iinc (v := (y5 + 1)) (lc' := [some (.ref (ad (8, 0, 0))), some (.int z1), some (.int y2), some (.int y3), some (.int z4), some (.int (y5 + 1))]) X dX8_quarrels_119 rfl rfl (by decide) rfl rfl ?_
        refine v_goto X 53 dX8_quarrels_122 (by decide) ?_
        exact ih y2 y3 (y5 + 1) gv16 _ _ _ _ h k
      · replace h := (if_neg cv18).symm.trans h
        refine v_aloadn X dX8_quarrels_78 rfl rfl ?_
        refine gf_X8_19 X dX8_quarrels_79 ?_
        refine v_iload X dX8_quarrels_82 rfl ?_
        obtain ⟨rv21, gv20, qv19, h⟩ := bd2_some h
        refine v_callSI (As := [.ref (ad (9, 11, 5)), .int z4]) (rest := []) X (c_X8_cellOf l D ad cy X.2.2.2.2.2.2.2.2.1 N 5 z4 gv16 rv21 gv20 (by decide +kernel) qv19) mw_X8_cellOf ml_X8_229 (by decide) rfl rfl (Nat.le_of_ble_eq_true rfl) dX8_quarrels_84 ?_
        refine v_aloadn X dX8_quarrels_87 rfl rfl ?_
        refine gf_X8_19 X dX8_quarrels_88 ?_
        refine v_iload X dX8_quarrels_91 rfl ?_
        obtain ⟨rv24, gv23, qv22, h⟩ := bd2_some h
        refine v_callSI (As := [.ref (ad (9, 11, 5)), .int y5]) (rest := [.int rv21]) X (c_X8_cellOf l D ad cy X.2.2.2.2.2.2.2.2.1 N 5 y5 gv20 rv24 gv23 (by decide +kernel) qv22) mw_X8_cellOf ml_X8_229 (by decide) rfl rfl (Nat.le_of_ble_eq_true rfl) dX8_quarrels_93 ?_
        refine v_icmp_ne X 119 dX8_quarrels_96 (by decide) (fun cv25 => ?_) (fun cv25 => ?_)
        · replace h := (if_neg cv25).symm.trans h
          refine v_iinc (v := (y5 + 1)) (lc' := [some (.ref (ad (8, 0, 0))), some (.int z1), some (.int y2), some (.int y3), some (.int z4), some (.int (y5 + 1))]) X dX8_quarrels_119 rfl rfl (by decide) rfl rfl ?_
          refine v_goto X 53 dX8_quarrels_122 (by decide) ?_
          exact ih y2 y3 (y5 + 1) gv23 _ _ _ _ h k
        · replace h := (if_pos cv25).symm.trans h
          refine v_iloadn X dX8_quarrels_99 rfl rfl ?_
          refine v_if_ne X 114 dX8_quarrels_100 (by decide) (fun cv26 => ?_) (fun cv26 => ?_)
          · replace h := (if_neg cv26).symm.trans h
            refine v_iloadn X dX8_quarrels_114 rfl rfl ?_
            refine v_istoren (lc' := [some (.ref (ad (8, 0, 0))), some (.int z1), some (.int y2), some (.int y3), some (.int z4), some (.int y5)]) X dX8_quarrels_115 rfl (by decide) rfl rfl ?_
            refine v_iinc (v := (y2 + 1)) (lc' := [some (.ref (ad (8, 0, 0))), some (.int z1), some (.int (y2 + 1)), some (.int y3), some (.int z4), some (.int y5)]) X dX8_quarrels_116 rfl rfl (by decide) rfl rfl ?_
            refine v_iinc (v := (y5 + 1)) (lc' := [some (.ref (ad (8, 0, 0))), some (.int z1), some (.int (y2 + 1)), some (.int y3), some (.int z4), some (.int (y5 + 1))]) X dX8_quarrels_119 rfl rfl (by decide) rfl rfl ?_
            refine v_goto X 53 dX8_quarrels_122 (by decide) ?_
            exact ih (y2 + 1) y3 (y5 + 1) gv23 _ _ _ _ h k
          · replace h := (if_pos cv26).symm.trans h
            refine v_bipush (v := 10) X dX8_quarrels_103 (by decide) ?_
            refine v_iload X dX8_quarrels_105 rfl ?_
            refine v_imul X dX8_quarrels_107 ?_
            refine v_iload X dX8_quarrels_108 rfl ?_
            refine v_iadd X dX8_quarrels_110 ?_
            refine v_goto X 115 dX8_quarrels_111 (by decide) ?_
            refine v_istoren (lc' := [some (.ref (ad (8, 0, 0))), some (.int z1), some (.int y2), some (.int (((10 : Int32) * z4) + y5)), some (.int z4), some (.int y5)]) X dX8_quarrels_115 rfl (by decide) rfl rfl ?_
            refine v_iinc (v := (y2 + 1)) (lc' := [some (.ref (ad (8, 0, 0))), some (.int z1), some (.int (y2 + 1)), some (.int (((10 : Int32) * z4) + y5)), some (.int z4), some (.int y5)]) X dX8_quarrels_116 rfl rfl (by decide) rfl rfl ?_
            refine v_iinc (v := (y5 + 1)) (lc' := [some (.ref (ad (8, 0, 0))), some (.int z1), some (.int (y2 + 1)), some (.int (((10 : Int32) * z4) + y5)), some (.int z4), some (.int (y5 + 1))]) X dX8_quarrels_119 rfl rfl (by decide) rfl rfl ?_
            refine v_goto X 53 dX8_quarrels_122 (by decide) ?_
            exact ih (y2 + 1) (((10 : Int32) * z4) + y5) (y5 + 1) gv23 _ _ _ _ h k
set_option maxRecDepth 100000 in
set_option maxHeartbeats 4000000 in
theorem w_X8_quarrels_36 {p : Program} {l : Launch} {e : Env} {s : State} {m : MethodId} {args : Array Value} {below : List Frame} {meth : Method} {c : Code} {D : va_G} {ad : Ky → Nat} {cy : Nat → ClassId} {r : Int32} {gq : GS} {N : Nat} (X : Cx p (rmd 2) s m args meth c RX8 cX8_quarrels 6 (some .int) D ad cy) (z1 : Int32) : ∀ (n : Nat) (y2 : Int32) (y3 : Int32) (y4 : Int32) (g : GS) (y2' : Int32) (y3' : Int32) (y4' : Int32) (g' : GS), L_X8_quarrels_36 N z1 n y2 y3 y4 g = some (y2', y3', y4', g') → Vy p l e (rmd 2) s m args below meth c 6 D ad cy (QI D ad cy below args s r gq) 131 [some (.ref (ad (8, 0, 0))), some (.int z1), some (.int y2'), some (.int y3'), some (.int y4'), none] [] g' → Vy p l e (rmd 2) s m args below meth c 6 D ad cy (QI D ad cy below args s r gq) 36 [some (.ref (ad (8, 0, 0))), some (.int z1), some (.int y2), some (.int y3), some (.int y4), none] [] g := by
  intro n
  induction n with
  | zero => intro y2 y3 y4 g y2' y3' y4' g' h k; cases h
  | succ n ih =>
    intro y2 y3 y4 g y2' y3' y4' g' h k
    rw [L_X8_quarrels_36] at h
    refine v_iload X dX8_quarrels_36 rfl ?_
    refine v_aloadn X dX8_quarrels_38 rfl rfl ?_
    refine gf_X8_19 X dX8_quarrels_39 ?_
    refine v_iconst (v := 0) X dX8_quarrels_42 (by decide) ?_
    obtain ⟨jv9, qv10, h⟩ := bd1_some h
    obtain ⟨ejv9, ljv9⟩ := ix_spec qv10
    refine alM X (by decide +kernel) jv9 ejv9 ljv9 dX8_quarrels_43 ?_
    refine v_icmp_ge X 131 dX8_quarrels_44 (by decide) (fun cv11 => ?_) (fun cv11 => ?_)
    · replace h := (if_pos cv11).symm.trans h
      cases h
      exact k
    · replace h := (if_neg cv11).symm.trans h
      refine v_iload X dX8_quarrels_47 rfl ?_
      refine v_iconst (v := 1) X dX8_quarrels_49 (by decide) ?_
      refine v_iadd X dX8_quarrels_50 ?_
      refine v_istore (lc' := [some (.ref (ad (8, 0, 0))), some (.int z1), some (.int y2), some (.int y3), some (.int y4), some (.int (y4 + (1 : Int32)))]) X dX8_quarrels_51 (by decide) rfl rfl ?_
      obtain ⟨xv27, xv28, xv29, gv30, qv31, h⟩ := bd4_some h
      refine w_X8_quarrels_53 X z1 y4 N y2 y3 (y4 + (1 : Int32)) g xv27 xv28 xv29 gv30 qv31 ?_
      refine v_iinc (v := (y4 + 1)) (lc' := [some (.ref (ad (8, 0, 0))), some (.int z1), some (.int xv27), some (.int xv28), some (.int (y4 + 1)), some (.int xv29)]) X dX8_quarrels_125 rfl rfl (by decide) rfl rfl ?_
      refine v_goto X 36 dX8_quarrels_128 (by decide) ?_
      refine v_weak (lc2 := [some (.ref (ad (8, 0, 0))), some (.int z1), some (.int xv27), some (.int xv28), some (.int (y4 + 1)), none]) ⟨rfl, rfl, rfl, rfl, rfl, trivial⟩ ?_
      exact ih xv27 xv28 (y4 + 1) gv30 _ _ _ _ h k
set_option maxRecDepth 100000 in
set_option maxHeartbeats 4000000 in
theorem c_X8_quarrels (l : Launch) (D : va_G) (ad : Ky → Nat) (cy : Nat → ClassId) (hI : Inj ad) (N : Nat) (x1 : Int32) (g : GS) (r : Int32) (gq : GS) (h : F_X8_quarrels N x1 g = some (r, gq)) : CtI l D ad cy yX8_quarrels cX8_quarrels 6 (some .int) 2 [.ref (ad (8, 0, 0)), .int x1] g r gq := by
  refine CtI.of 4 hI (by decide +kernel) rfl (Nat.le_of_ble_eq_true rfl) (fun p e s m args below meth c X => ?_)
  unfold F_X8_quarrels at h
  show Vy _ _ _ _ _ _ _ _ _ _ _ _ _ _ _ 0 [some (.ref (ad (8, 0, 0))), some (.int x1), none, none, none, none] [] g
  refine v_aloadn X dX8_quarrels_0 rfl rfl ?_
  refine v_iconst (v := 0) X dX8_quarrels_1 (by decide) ?_
  refine pf_X8_50 X dX8_quarrels_2 ?_
  refine v_aloadn X dX8_quarrels_5 rfl rfl ?_
  obtain ⟨rv3, gv2, qv1, h⟩ := bd2_some h
  refine v_callVI (As := []) (rest := []) X (c_X8_isThere l D ad cy X.2.2.2.2.2.2.2.2.1 N  (g3 g 10 0 0 (0 : Int32)) rv3 gv2  qv1) mw_X8_isThere ml_X8_195 (by decide) (by decide +kernel) (by decide) rfl rfl rfl rfl (Nat.le_of_ble_eq_true rfl) dX8_quarrels_6 ?_
  refine v_if_ne X 15 dX8_quarrels_9 (by decide) (fun cv4 => ?_) (fun cv4 => ?_)
  · replace h := (if_neg cv4).symm.trans h
    refine v_iloadn X dX8_quarrels_15 rfl rfl ?_
    refine v_i2l X dX8_quarrels_16 ?_
    refine v_lconst (v := 0) X dX8_quarrels_17 (by decide) ?_
    refine v_lconst (v := 1) X dX8_quarrels_18 (by decide) ?_
    obtain ⟨rv7, gv6, qv5, h⟩ := bd2_some h
    refine v_callSI (As := [.long (x1.toInt64), .long (0 : Int64), .long (1 : Int64)]) (rest := []) X (c_X8_in l D ad cy X.2.2.2.2.2.2.2.2.1 N (x1.toInt64) (0 : Int64) (1 : Int64) gv2 rv7 gv6  qv5) mw_X8_in ml_X8_60 (by decide) rfl rfl (Nat.le_of_ble_eq_true rfl) dX8_quarrels_19 ?_
    refine v_if_ne X 28 dX8_quarrels_22 (by decide) (fun cv8 => ?_) (fun cv8 => ?_)
    · replace h := (if_neg cv8).symm.trans h
      refine v_iconst (v := 0) X dX8_quarrels_28 (by decide) ?_
      refine v_istoren (lc' := [some (.ref (ad (8, 0, 0))), some (.int x1), some (.int (0 : Int32)), none, none, none]) X dX8_quarrels_29 rfl (by decide) rfl rfl ?_
      refine v_ldc X kc_X8_93 dX8_quarrels_30 ?_
      refine v_istoren (lc' := [some (.ref (ad (8, 0, 0))), some (.int x1), some (.int (0 : Int32)), some (.int (-1000000 : Int32)), none, none]) X dX8_quarrels_32 rfl (by decide) rfl rfl ?_
      refine v_iconst (v := 0) X dX8_quarrels_33 (by decide) ?_
      refine v_istore (lc' := [some (.ref (ad (8, 0, 0))), some (.int x1), some (.int (0 : Int32)), some (.int (-1000000 : Int32)), some (.int (0 : Int32)), none]) X dX8_quarrels_34 (by decide) rfl rfl ?_
      obtain ⟨xv32, xv33, xv34, gv35, qv36, h⟩ := bd4_some h
      refine w_X8_quarrels_36 X x1 N (0 : Int32) (-1000000 : Int32) (0 : Int32) gv6 xv32 xv33 xv34 gv35 qv36 ?_
      refine v_iloadn X dX8_quarrels_131 rfl rfl ?_
      refine v_if_ne X 139 dX8_quarrels_132 (by decide) (fun cv37 => ?_) (fun cv37 => ?_)
      · replace h := (if_neg cv37).symm.trans h
        refine v_iloadn X dX8_quarrels_139 rfl rfl ?_
        obtain ⟨er, eg⟩ := Prod.mk.inj (Option.some.inj h)
        exact v_iret X dX8_quarrels_140 er eg
      · replace h := (if_pos cv37).symm.trans h
        refine v_iloadn X dX8_quarrels_135 rfl rfl ?_
        refine v_goto X 140 dX8_quarrels_136 (by decide) ?_
        obtain ⟨er, eg⟩ := Prod.mk.inj (Option.some.inj h)
        exact v_iret X dX8_quarrels_140 er eg
    · replace h := (if_pos cv8).symm.trans h
      refine v_ldc X kc_X8_70 dX8_quarrels_25 ?_
      obtain ⟨er, eg⟩ := Prod.mk.inj (Option.some.inj h)
      exact v_iret X dX8_quarrels_27 er eg
  · replace h := (if_pos cv4).symm.trans h
    refine v_ldc X kc_X8_198 dX8_quarrels_12 ?_
    obtain ⟨er, eg⟩ := Prod.mk.inj (Option.some.inj h)
    exact v_iret X dX8_quarrels_14 er eg
def F_X8_readPaper (N : Nat) (g : GS) : Option GS := bd2 (F_X8_kindBy N (g 10 0 16) g) (fun rv3 gv2 => bd1 (ix (0 : Int32) 53) (fun jv4 => if (gv2 11 6 jv4) = (6 : Int32) then bd1 (F_X8_bad N (3 : Int32) gv2) (fun gv27 => bd1 (F_X8_must N (1 : Int32) gv27) (fun gv29 => bd2 (F_X8_number N (0 : Int32) (9 : Int32) gv29) (fun rv32 gv31 => bd1 (F_X8_mustSign N (44 : Int32) gv31) (fun gv34 => bd2 (F_X8_number N (1 : Int32) (60 : Int32) gv34) (fun rv37 gv36 => bd1 (F_X8_mustSign N (59 : Int32) gv36) (fun gv39 => if (gv39 10 0 17) = 0 then bd1 (ix ((11 : Int32) + ((7 : Int32) * (gv39 11 6 jv4))) 53) (fun jv41 => bd1 (ix (((11 : Int32) + ((7 : Int32) * (gv39 11 6 jv4))) + (1 : Int32)) 53) (fun jv43 => bd1 (ix (((11 : Int32) + ((7 : Int32) * (gv39 11 6 jv4))) + (2 : Int32)) 53) (fun jv45 => some (g3 (g3 (g3 (g3 gv39 11 6 jv41 rv3) 11 6 jv43 rv32) 11 6 jv45 rv37) 11 6 jv4 (((g3 (g3 (g3 gv39 11 6 jv41 rv3) 11 6 jv43 rv32) 11 6 jv45 rv37) 11 6 jv4) + (1 : Int32)))))) else some gv39)))))) else bd1 (F_X8_must N (1 : Int32) gv2) (fun gv8 => bd2 (F_X8_number N (0 : Int32) (9 : Int32) gv8) (fun rv11 gv10 => bd1 (F_X8_mustSign N (44 : Int32) gv10) (fun gv13 => bd2 (F_X8_number N (1 : Int32) (60 : Int32) gv13) (fun rv16 gv15 => bd1 (F_X8_mustSign N (59 : Int32) gv15) (fun gv18 => if (gv18 10 0 17) = 0 then bd1 (ix ((11 : Int32) + ((7 : Int32) * (gv18 11 6 jv4))) 53) (fun jv20 => bd1 (ix (((11 : Int32) + ((7 : Int32) * (gv18 11 6 jv4))) + (1 : Int32)) 53) (fun jv22 => bd1 (ix (((11 : Int32) + ((7 : Int32) * (gv18 11 6 jv4))) + (2 : Int32)) 53) (fun jv24 => some (g3 (g3 (g3 (g3 gv18 11 6 jv20 rv3) 11 6 jv22 rv11) 11 6 jv24 rv16) 11 6 jv4 (((g3 (g3 (g3 gv18 11 6 jv20 rv3) 11 6 jv22 rv11) 11 6 jv24 rv16) 11 6 jv4) + (1 : Int32)))))) else some gv18)))))))
set_option maxRecDepth 100000 in
set_option maxHeartbeats 4000000 in
theorem c_X8_readPaper (l : Launch) (D : va_G) (ad : Ky → Nat) (cy : Nat → ClassId) (hI : Inj ad) (N : Nat) (g : GS) (gq : GS) (h : F_X8_readPaper N  g = some gq) : CtV l D ad cy yX8_readPaper cX8_readPaper 5 4 [.ref (ad (8, 0, 0))] g gq := by
  refine CtV.of 4 hI (by decide +kernel) rfl (Nat.le_of_ble_eq_true rfl) (fun p e s m args below meth c X => ?_)
  unfold F_X8_readPaper at h
  show Vy _ _ _ _ _ _ _ _ _ _ _ _ _ _ _ 0 [some (.ref (ad (8, 0, 0))), none, none, none, none] [] g
  refine v_aloadn X dX8_readPaper_0 rfl rfl ?_
  refine gf_X8_94 X dX8_readPaper_1 ?_
  obtain ⟨rv3, gv2, qv1, h⟩ := bd2_some h
  refine v_callSI (As := [.int (g 10 0 16)]) (rest := []) X (c_X8_kindBy l D ad cy X.2.2.2.2.2.2.2.2.1 N (g 10 0 16) g rv3 gv2  qv1) mw_X8_kindBy ml_X8_122 (by decide) rfl rfl (Nat.le_of_ble_eq_true rfl) dX8_readPaper_4 ?_
  refine v_istoren (lc' := [some (.ref (ad (8, 0, 0))), some (.int rv3), none, none, none]) X dX8_readPaper_7 rfl (by decide) rfl rfl ?_
  refine v_aloadn X dX8_readPaper_8 rfl rfl ?_
  refine gf_X8_22 X dX8_readPaper_9 ?_
  refine v_iconst (v := 0) X dX8_readPaper_12 (by decide) ?_
  obtain ⟨jv4, qv5, h⟩ := bd1_some h
  obtain ⟨ejv4, ljv4⟩ := ix_spec qv5
  refine alM X (by decide +kernel) jv4 ejv4 ljv4 dX8_readPaper_13 ?_
  refine v_bipush (v := 6) X dX8_readPaper_14 (by decide) ?_
  refine v_icmp_ne X 24 dX8_readPaper_16 (by decide) (fun cv6 => ?_) (fun cv6 => ?_)
  · replace h := (if_neg cv6).symm.trans h
    refine v_aloadn X dX8_readPaper_24 rfl rfl ?_
    refine v_iconst (v := 1) X dX8_readPaper_25 (by decide) ?_
    obtain ⟨gv8, qv7, h⟩ := bd1_some h
    refine v_callVV (As := [.int (1 : Int32)]) (rest := []) X (c_X8_must l D ad cy X.2.2.2.2.2.2.2.2.1 N (1 : Int32) gv2 gv8  qv7) mw_X8_must ml_X8_115 (by decide) (by decide +kernel) (by decide) rfl rfl rfl rfl (Nat.le_of_ble_eq_true rfl) dX8_readPaper_26 ?_
    refine v_aloadn X dX8_readPaper_29 rfl rfl ?_
    refine v_iconst (v := 0) X dX8_readPaper_30 (by decide) ?_
    refine v_bipush (v := 9) X dX8_readPaper_31 (by decide) ?_
    obtain ⟨rv11, gv10, qv9, h⟩ := bd2_some h
    refine v_callVI (As := [.int (0 : Int32), .int (9 : Int32)]) (rest := []) X (c_X8_number l D ad cy X.2.2.2.2.2.2.2.2.1 N (0 : Int32) (9 : Int32) gv8 rv11 gv10  qv9) mw_X8_number ml_X8_128 (by decide) (by decide +kernel) (by decide) rfl rfl rfl rfl (Nat.le_of_ble_eq_true rfl) dX8_readPaper_33 ?_
    refine v_istoren (lc' := [some (.ref (ad (8, 0, 0))), some (.int rv3), some (.int rv11), none, none]) X dX8_readPaper_36 rfl (by decide) rfl rfl ?_
    refine v_aloadn X dX8_readPaper_37 rfl rfl ?_
    refine v_bipush (v := 44) X dX8_readPaper_38 (by decide) ?_
    obtain ⟨gv13, qv12, h⟩ := bd1_some h
    refine v_callVV (As := [.int (44 : Int32)]) (rest := []) X (c_X8_mustSign l D ad cy X.2.2.2.2.2.2.2.2.1 N (44 : Int32) gv10 gv13  qv12) mw_X8_mustSign ml_X8_132 (by decide) (by decide +kernel) (by decide) rfl rfl rfl rfl (Nat.le_of_ble_eq_true rfl) dX8_readPaper_40 ?_
    refine v_aloadn X dX8_readPaper_43 rfl rfl ?_
    refine v_iconst (v := 1) X dX8_readPaper_44 (by decide) ?_
    refine v_bipush (v := 60) X dX8_readPaper_45 (by decide) ?_
    obtain ⟨rv16, gv15, qv14, h⟩ := bd2_some h
    refine v_callVI (As := [.int (1 : Int32), .int (60 : Int32)]) (rest := []) X (c_X8_number l D ad cy X.2.2.2.2.2.2.2.2.1 N (1 : Int32) (60 : Int32) gv13 rv16 gv15  qv14) mw_X8_number ml_X8_128 (by decide) (by decide +kernel) (by decide) rfl rfl rfl rfl (Nat.le_of_ble_eq_true rfl) dX8_readPaper_47 ?_
    refine v_istoren (lc' := [some (.ref (ad (8, 0, 0))), some (.int rv3), some (.int rv11), some (.int rv16), none]) X dX8_readPaper_50 rfl (by decide) rfl rfl ?_
    refine v_aloadn X dX8_readPaper_51 rfl rfl ?_
    refine v_bipush (v := 59) X dX8_readPaper_52 (by decide) ?_
    obtain ⟨gv18, qv17, h⟩ := bd1_some h
    refine v_callVV (As := [.int (59 : Int32)]) (rest := []) X (c_X8_mustSign l D ad cy X.2.2.2.2.2.2.2.2.1 N (59 : Int32) gv15 gv18  qv17) mw_X8_mustSign ml_X8_132 (by decide) (by decide +kernel) (by decide) rfl rfl rfl rfl (Nat.le_of_ble_eq_true rfl) dX8_readPaper_54 ?_
    refine v_aloadn X dX8_readPaper_57 rfl rfl ?_
    refine gf_X8_81 X dX8_readPaper_58 ?_
    refine v_if_ne X 116 dX8_readPaper_61 (by decide) (fun cv19 => ?_) (fun cv19 => ?_)
    · replace h := (if_neg cv19).symm.trans h
      exact v_vret X dX8_readPaper_116 (Option.some.inj h)
    · replace h := (if_pos cv19).symm.trans h
      refine v_bipush (v := 11) X dX8_readPaper_64 (by decide) ?_
      refine v_bipush (v := 7) X dX8_readPaper_66 (by decide) ?_
      refine v_aloadn X dX8_readPaper_68 rfl rfl ?_
      refine gf_X8_22 X dX8_readPaper_69 ?_
      refine v_iconst (v := 0) X dX8_readPaper_72 (by decide) ?_
      refine alM X (by decide +kernel) jv4 ejv4 ljv4 dX8_readPaper_73 ?_
      refine v_imul X dX8_readPaper_74 ?_
      refine v_iadd X dX8_readPaper_75 ?_
      refine v_istore (lc' := [some (.ref (ad (8, 0, 0))), some (.int rv3), some (.int rv11), some (.int rv16), some (.int ((11 : Int32) + ((7 : Int32) * (gv18 11 6 jv4))))]) X dX8_readPaper_76 (by decide) rfl rfl ?_
      refine v_aloadn X dX8_readPaper_78 rfl rfl ?_
      refine gf_X8_22 X dX8_readPaper_79 ?_
      refine v_iload X dX8_readPaper_82 rfl ?_
      refine v_iloadn X dX8_readPaper_84 rfl rfl ?_
      obtain ⟨jv20, qv21, h⟩ := bd1_some h
      obtain ⟨ejv20, ljv20⟩ := ix_spec qv21
      refine asM X (by decide +kernel) jv20 ejv20 ljv20 dX8_readPaper_85 ?_
      refine v_aloadn X dX8_readPaper_86 rfl rfl ?_
      refine gf_X8_22 X dX8_readPaper_87 ?_
      refine v_iload X dX8_readPaper_90 rfl ?_
      refine v_iconst (v := 1) X dX8_readPaper_92 (by decide) ?_
      refine v_iadd X dX8_readPaper_93 ?_
      refine v_iloadn X dX8_readPaper_94 rfl rfl ?_
      obtain ⟨jv22, qv23, h⟩ := bd1_some h
      obtain ⟨ejv22, ljv22⟩ := ix_spec qv23
      refine asM X (by decide +kernel) jv22 ejv22 ljv22 dX8_readPaper_95 ?_
      refine v_aloadn X dX8_readPaper_96 rfl rfl ?_
      refine gf_X8_22 X dX8_readPaper_97 ?_
      refine v_iload X dX8_readPaper_100 rfl ?_
      refine v_iconst (v := 2) X dX8_readPaper_102 (by decide) ?_
      refine v_iadd X dX8_readPaper_103 ?_
      refine v_iloadn X dX8_readPaper_104 rfl rfl ?_
      obtain ⟨jv24, qv25, h⟩ := bd1_some h
      obtain ⟨ejv24, ljv24⟩ := ix_spec qv25
      refine asM X (by decide +kernel) jv24 ejv24 ljv24 dX8_readPaper_105 ?_
      refine v_aloadn X dX8_readPaper_106 rfl rfl ?_
      refine gf_X8_22 X dX8_readPaper_107 ?_
      refine v_iconst (v := 0) X dX8_readPaper_110 (by decide) ?_
      refine v_dup2 X dX8_readPaper_111 rfl rfl ?_
      refine alM X (by decide +kernel) jv4 ejv4 ljv4 dX8_readPaper_112 ?_
      refine v_iconst (v := 1) X dX8_readPaper_113 (by decide) ?_
      refine v_iadd X dX8_readPaper_114 ?_
      refine asM X (by decide +kernel) jv4 ejv4 ljv4 dX8_readPaper_115 ?_
      exact v_vret X dX8_readPaper_116 (Option.some.inj h)
  · replace h := (if_pos cv6).symm.trans h
    refine v_aloadn X dX8_readPaper_19 rfl rfl ?_
    refine v_iconst (v := 3) X dX8_readPaper_20 (by decide) ?_
    obtain ⟨gv27, qv26, h⟩ := bd1_some h
    refine v_callVV (As := [.int (3 : Int32)]) (rest := []) X (c_X8_bad l D ad cy X.2.2.2.2.2.2.2.2.1 N (3 : Int32) gv2 gv27  qv26) mw_X8_bad ml_X8_108 (by decide) (by decide +kernel) (by decide) rfl rfl rfl rfl (Nat.le_of_ble_eq_true rfl) dX8_readPaper_21 ?_
    refine v_aloadn X dX8_readPaper_24 rfl rfl ?_
    refine v_iconst (v := 1) X dX8_readPaper_25 (by decide) ?_
    obtain ⟨gv29, qv28, h⟩ := bd1_some h
    refine v_callVV (As := [.int (1 : Int32)]) (rest := []) X (c_X8_must l D ad cy X.2.2.2.2.2.2.2.2.1 N (1 : Int32) gv27 gv29  qv28) mw_X8_must ml_X8_115 (by decide) (by decide +kernel) (by decide) rfl rfl rfl rfl (Nat.le_of_ble_eq_true rfl) dX8_readPaper_26 ?_
    refine v_aloadn X dX8_readPaper_29 rfl rfl ?_
    refine v_iconst (v := 0) X dX8_readPaper_30 (by decide) ?_
    refine v_bipush (v := 9) X dX8_readPaper_31 (by decide) ?_
    obtain ⟨rv32, gv31, qv30, h⟩ := bd2_some h
    refine v_callVI (As := [.int (0 : Int32), .int (9 : Int32)]) (rest := []) X (c_X8_number l D ad cy X.2.2.2.2.2.2.2.2.1 N (0 : Int32) (9 : Int32) gv29 rv32 gv31  qv30) mw_X8_number ml_X8_128 (by decide) (by decide +kernel) (by decide) rfl rfl rfl rfl (Nat.le_of_ble_eq_true rfl) dX8_readPaper_33 ?_
    refine v_istoren (lc' := [some (.ref (ad (8, 0, 0))), some (.int rv3), some (.int rv32), none, none]) X dX8_readPaper_36 rfl (by decide) rfl rfl ?_
    refine v_aloadn X dX8_readPaper_37 rfl rfl ?_
    refine v_bipush (v := 44) X dX8_readPaper_38 (by decide) ?_
    obtain ⟨gv34, qv33, h⟩ := bd1_some h
    refine v_callVV (As := [.int (44 : Int32)]) (rest := []) X (c_X8_mustSign l D ad cy X.2.2.2.2.2.2.2.2.1 N (44 : Int32) gv31 gv34  qv33) mw_X8_mustSign ml_X8_132 (by decide) (by decide +kernel) (by decide) rfl rfl rfl rfl (Nat.le_of_ble_eq_true rfl) dX8_readPaper_40 ?_
    refine v_aloadn X dX8_readPaper_43 rfl rfl ?_
    refine v_iconst (v := 1) X dX8_readPaper_44 (by decide) ?_
    refine v_bipush (v := 60) X dX8_readPaper_45 (by decide) ?_
    obtain ⟨rv37, gv36, qv35, h⟩ := bd2_some h
    refine v_callVI (As := [.int (1 : Int32), .int (60 : Int32)]) (rest := []) X (c_X8_number l D ad cy X.2.2.2.2.2.2.2.2.1 N (1 : Int32) (60 : Int32) gv34 rv37 gv36  qv35) mw_X8_number ml_X8_128 (by decide) (by decide +kernel) (by decide) rfl rfl rfl rfl (Nat.le_of_ble_eq_true rfl) dX8_readPaper_47 ?_
    refine v_istoren (lc' := [some (.ref (ad (8, 0, 0))), some (.int rv3), some (.int rv32), some (.int rv37), none]) X dX8_readPaper_50 rfl (by decide) rfl rfl ?_
    refine v_aloadn X dX8_readPaper_51 rfl rfl ?_
    refine v_bipush (v := 59) X dX8_readPaper_52 (by decide) ?_
    obtain ⟨gv39, qv38, h⟩ := bd1_some h
    refine v_callVV (As := [.int (59 : Int32)]) (rest := []) X (c_X8_mustSign l D ad cy X.2.2.2.2.2.2.2.2.1 N (59 : Int32) gv36 gv39  qv38) mw_X8_mustSign ml_X8_132 (by decide) (by decide +kernel) (by decide) rfl rfl rfl rfl (Nat.le_of_ble_eq_true rfl) dX8_readPaper_54 ?_
    refine v_aloadn X dX8_readPaper_57 rfl rfl ?_
    refine gf_X8_81 X dX8_readPaper_58 ?_
    refine v_if_ne X 116 dX8_readPaper_61 (by decide) (fun cv40 => ?_) (fun cv40 => ?_)
    · replace h := (if_neg cv40).symm.trans h
      exact v_vret X dX8_readPaper_116 (Option.some.inj h)
    · replace h := (if_pos cv40).symm.trans h
      refine v_bipush (v := 11) X dX8_readPaper_64 (by decide) ?_
      refine v_bipush (v := 7) X dX8_readPaper_66 (by decide) ?_
      refine v_aloadn X dX8_readPaper_68 rfl rfl ?_
      refine gf_X8_22 X dX8_readPaper_69 ?_
      refine v_iconst (v := 0) X dX8_readPaper_72 (by decide) ?_
      refine alM X (by decide +kernel) jv4 ejv4 ljv4 dX8_readPaper_73 ?_
      refine v_imul X dX8_readPaper_74 ?_
      refine v_iadd X dX8_readPaper_75 ?_
      refine v_istore (lc' := [some (.ref (ad (8, 0, 0))), some (.int rv3), some (.int rv32), some (.int rv37), some (.int ((11 : Int32) + ((7 : Int32) * (gv39 11 6 jv4))))]) X dX8_readPaper_76 (by decide) rfl rfl ?_
      refine v_aloadn X dX8_readPaper_78 rfl rfl ?_
      refine gf_X8_22 X dX8_readPaper_79 ?_
      refine v_iload X dX8_readPaper_82 rfl ?_
      refine v_iloadn X dX8_readPaper_84 rfl rfl ?_
      obtain ⟨jv41, qv42, h⟩ := bd1_some h
      obtain ⟨ejv41, ljv41⟩ := ix_spec qv42
      refine asM X (by decide +kernel) jv41 ejv41 ljv41 dX8_readPaper_85 ?_
      refine v_aloadn X dX8_readPaper_86 rfl rfl ?_
      refine gf_X8_22 X dX8_readPaper_87 ?_
      refine v_iload X dX8_readPaper_90 rfl ?_
      refine v_iconst (v := 1) X dX8_readPaper_92 (by decide) ?_
      refine v_iadd X dX8_readPaper_93 ?_
      refine v_iloadn X dX8_readPaper_94 rfl rfl ?_
      obtain ⟨jv43, qv44, h⟩ := bd1_some h
      obtain ⟨ejv43, ljv43⟩ := ix_spec qv44
      refine asM X (by decide +kernel) jv43 ejv43 ljv43 dX8_readPaper_95 ?_
      refine v_aloadn X dX8_readPaper_96 rfl rfl ?_
      refine gf_X8_22 X dX8_readPaper_97 ?_
      refine v_iload X dX8_readPaper_100 rfl ?_
      refine v_iconst (v := 2) X dX8_readPaper_102 (by decide) ?_
      refine v_iadd X dX8_readPaper_103 ?_
      refine v_iloadn X dX8_readPaper_104 rfl rfl ?_
      obtain ⟨jv45, qv46, h⟩ := bd1_some h
      obtain ⟨ejv45, ljv45⟩ := ix_spec qv46
      refine asM X (by decide +kernel) jv45 ejv45 ljv45 dX8_readPaper_105 ?_
      refine v_aloadn X dX8_readPaper_106 rfl rfl ?_
      refine gf_X8_22 X dX8_readPaper_107 ?_
      refine v_iconst (v := 0) X dX8_readPaper_110 (by decide) ?_
      refine v_dup2 X dX8_readPaper_111 rfl rfl ?_
      refine alM X (by decide +kernel) jv4 ejv4 ljv4 dX8_readPaper_112 ?_
      refine v_iconst (v := 1) X dX8_readPaper_113 (by decide) ?_
      refine v_iadd X dX8_readPaper_114 ?_
      refine asM X (by decide +kernel) jv4 ejv4 ljv4 dX8_readPaper_115 ?_
      exact v_vret X dX8_readPaper_116 (Option.some.inj h)
def F_X8_readWind (N : Nat) (g : GS) : Option GS := bd1 (ix (1 : Int32) 53) (fun jv1 => if (g 11 6 jv1) = (6 : Int32) then bd1 (F_X8_bad N (3 : Int32) g) (fun gv18 => bd2 (F_X8_isLetter N (119 : Int32) gv18) (fun rv21 gv20 => bd1 (F_X8_must N rv21 gv20) (fun gv23 => bd2 (F_X8_number N (0 : Int32) (9 : Int32) gv23) (fun rv26 gv25 => bd1 (F_X8_mustSign N (59 : Int32) gv25) (fun gv28 => if (gv28 10 0 17) = 0 then bd1 (ix ((5 : Int32) + (gv28 11 6 jv1)) 53) (fun jv30 => some (g3 (g3 gv28 11 6 jv30 rv26) 11 6 jv1 (((g3 gv28 11 6 jv30 rv26) 11 6 jv1) + (1 : Int32)))) else some gv28))))) else bd2 (F_X8_isLetter N (119 : Int32) g) (fun rv6 gv5 => bd1 (F_X8_must N rv6 gv5) (fun gv8 => bd2 (F_X8_number N (0 : Int32) (9 : Int32) gv8) (fun rv11 gv10 => bd1 (F_X8_mustSign N (59 : Int32) gv10) (fun gv13 => if (gv13 10 0 17) = 0 then bd1 (ix ((5 : Int32) + (gv13 11 6 jv1)) 53) (fun jv15 => some (g3 (g3 gv13 11 6 jv15 rv11) 11 6 jv1 (((g3 gv13 11 6 jv15 rv11) 11 6 jv1) + (1 : Int32)))) else some gv13)))))
set_option maxRecDepth 100000 in
set_option maxHeartbeats 4000000 in
theorem c_X8_readWind (l : Launch) (D : va_G) (ad : Ky → Nat) (cy : Nat → ClassId) (hI : Inj ad) (N : Nat) (g : GS) (gq : GS) (h : F_X8_readWind N  g = some gq) : CtV l D ad cy yX8_readWind cX8_readWind 2 4 [.ref (ad (8, 0, 0))] g gq := by
  refine CtV.of 1 hI (by decide +kernel) rfl (Nat.le_of_ble_eq_true rfl) (fun p e s m args below meth c X => ?_)
  unfold F_X8_readWind at h
  show Vy _ _ _ _ _ _ _ _ _ _ _ _ _ _ _ 0 [some (.ref (ad (8, 0, 0))), none] [] g
  refine v_aloadn X dX8_readWind_0 rfl rfl ?_
  refine gf_X8_22 X dX8_readWind_1 ?_
  refine v_iconst (v := 1) X dX8_readWind_4 (by decide) ?_
  obtain ⟨jv1, qv2, h⟩ := bd1_some h
  obtain ⟨ejv1, ljv1⟩ := ix_spec qv2
  refine alM X (by decide +kernel) jv1 ejv1 ljv1 dX8_readWind_5 ?_
  refine v_bipush (v := 6) X dX8_readWind_6 (by decide) ?_
  refine v_icmp_ne X 16 dX8_readWind_8 (by decide) (fun cv3 => ?_) (fun cv3 => ?_)
  · replace h := (if_neg cv3).symm.trans h
    refine v_aloadn X dX8_readWind_16 rfl rfl ?_
    refine v_aloadn X dX8_readWind_17 rfl rfl ?_
    refine v_bipush (v := 119) X dX8_readWind_18 (by decide) ?_
    obtain ⟨rv6, gv5, qv4, h⟩ := bd2_some h
    refine v_callVI (As := [.int (119 : Int32)]) (rest := [.ref (ad (8, 0, 0))]) X (c_X8_isLetter l D ad cy X.2.2.2.2.2.2.2.2.1 N (119 : Int32) g rv6 gv5  qv4) mw_X8_isLetter ml_X8_125 (by decide) (by decide +kernel) (by decide) rfl rfl rfl rfl (Nat.le_of_ble_eq_true rfl) dX8_readWind_20 ?_
    obtain ⟨gv8, qv7, h⟩ := bd1_some h
    refine v_callVV (As := [.int rv6]) (rest := []) X (c_X8_must l D ad cy X.2.2.2.2.2.2.2.2.1 N rv6 gv5 gv8  qv7) mw_X8_must ml_X8_115 (by decide) (by decide +kernel) (by decide) rfl rfl rfl rfl (Nat.le_of_ble_eq_true rfl) dX8_readWind_23 ?_
    refine v_aloadn X dX8_readWind_26 rfl rfl ?_
    refine v_iconst (v := 0) X dX8_readWind_27 (by decide) ?_
    refine v_bipush (v := 9) X dX8_readWind_28 (by decide) ?_
    obtain ⟨rv11, gv10, qv9, h⟩ := bd2_some h
    refine v_callVI (As := [.int (0 : Int32), .int (9 : Int32)]) (rest := []) X (c_X8_number l D ad cy X.2.2.2.2.2.2.2.2.1 N (0 : Int32) (9 : Int32) gv8 rv11 gv10  qv9) mw_X8_number ml_X8_128 (by decide) (by decide +kernel) (by decide) rfl rfl rfl rfl (Nat.le_of_ble_eq_true rfl) dX8_readWind_30 ?_
    refine v_istoren (lc' := [some (.ref (ad (8, 0, 0))), some (.int rv11)]) X dX8_readWind_33 rfl (by decide) rfl rfl ?_
    refine v_aloadn X dX8_readWind_34 rfl rfl ?_
    refine v_bipush (v := 59) X dX8_readWind_35 (by decide) ?_
    obtain ⟨gv13, qv12, h⟩ := bd1_some h
    refine v_callVV (As := [.int (59 : Int32)]) (rest := []) X (c_X8_mustSign l D ad cy X.2.2.2.2.2.2.2.2.1 N (59 : Int32) gv10 gv13  qv12) mw_X8_mustSign ml_X8_132 (by decide) (by decide +kernel) (by decide) rfl rfl rfl rfl (Nat.le_of_ble_eq_true rfl) dX8_readWind_37 ?_
    refine v_aloadn X dX8_readWind_40 rfl rfl ?_
    refine gf_X8_81 X dX8_readWind_41 ?_
    refine v_if_ne X 71 dX8_readWind_44 (by decide) (fun cv14 => ?_) (fun cv14 => ?_)
    · replace h := (if_neg cv14).symm.trans h
      exact v_vret X dX8_readWind_71 (Option.some.inj h)
    · replace h := (if_pos cv14).symm.trans h
      refine v_aloadn X dX8_readWind_47 rfl rfl ?_
      refine gf_X8_22 X dX8_readWind_48 ?_
      refine v_iconst (v := 5) X dX8_readWind_51 (by decide) ?_
      refine v_aloadn X dX8_readWind_52 rfl rfl ?_
      refine gf_X8_22 X dX8_readWind_53 ?_
      refine v_iconst (v := 1) X dX8_readWind_56 (by decide) ?_
      refine alM X (by decide +kernel) jv1 ejv1 ljv1 dX8_readWind_57 ?_
      refine v_iadd X dX8_readWind_58 ?_
      refine v_iloadn X dX8_readWind_59 rfl rfl ?_
      obtain ⟨jv15, qv16, h⟩ := bd1_some h
      obtain ⟨ejv15, ljv15⟩ := ix_spec qv16
      refine asM X (by decide +kernel) jv15 ejv15 ljv15 dX8_readWind_60 ?_
      refine v_aloadn X dX8_readWind_61 rfl rfl ?_
      refine gf_X8_22 X dX8_readWind_62 ?_
      refine v_iconst (v := 1) X dX8_readWind_65 (by decide) ?_
      refine v_dup2 X dX8_readWind_66 rfl rfl ?_
      refine alM X (by decide +kernel) jv1 ejv1 ljv1 dX8_readWind_67 ?_
      refine v_iconst (v := 1) X dX8_readWind_68 (by decide) ?_
      refine v_iadd X dX8_readWind_69 ?_
      refine asM X (by decide +kernel) jv1 ejv1 ljv1 dX8_readWind_70 ?_
      exact v_vret X dX8_readWind_71 (Option.some.inj h)
  · replace h := (if_pos cv3).symm.trans h
    refine v_aloadn X dX8_readWind_11 rfl rfl ?_
    refine v_iconst (v := 3) X dX8_readWind_12 (by decide) ?_
    obtain ⟨gv18, qv17, h⟩ := bd1_some h
    refine v_callVV (As := [.int (3 : Int32)]) (rest := []) X (c_X8_bad l D ad cy X.2.2.2.2.2.2.2.2.1 N (3 : Int32) g gv18  qv17) mw_X8_bad ml_X8_108 (by decide) (by decide +kernel) (by decide) rfl rfl rfl rfl (Nat.le_of_ble_eq_true rfl) dX8_readWind_13 ?_
    refine v_aloadn X dX8_readWind_16 rfl rfl ?_
    refine v_aloadn X dX8_readWind_17 rfl rfl ?_
    refine v_bipush (v := 119) X dX8_readWind_18 (by decide) ?_
    obtain ⟨rv21, gv20, qv19, h⟩ := bd2_some h
    refine v_callVI (As := [.int (119 : Int32)]) (rest := [.ref (ad (8, 0, 0))]) X (c_X8_isLetter l D ad cy X.2.2.2.2.2.2.2.2.1 N (119 : Int32) gv18 rv21 gv20  qv19) mw_X8_isLetter ml_X8_125 (by decide) (by decide +kernel) (by decide) rfl rfl rfl rfl (Nat.le_of_ble_eq_true rfl) dX8_readWind_20 ?_
    obtain ⟨gv23, qv22, h⟩ := bd1_some h
    refine v_callVV (As := [.int rv21]) (rest := []) X (c_X8_must l D ad cy X.2.2.2.2.2.2.2.2.1 N rv21 gv20 gv23  qv22) mw_X8_must ml_X8_115 (by decide) (by decide +kernel) (by decide) rfl rfl rfl rfl (Nat.le_of_ble_eq_true rfl) dX8_readWind_23 ?_
    refine v_aloadn X dX8_readWind_26 rfl rfl ?_
    refine v_iconst (v := 0) X dX8_readWind_27 (by decide) ?_
    refine v_bipush (v := 9) X dX8_readWind_28 (by decide) ?_
    obtain ⟨rv26, gv25, qv24, h⟩ := bd2_some h
    refine v_callVI (As := [.int (0 : Int32), .int (9 : Int32)]) (rest := []) X (c_X8_number l D ad cy X.2.2.2.2.2.2.2.2.1 N (0 : Int32) (9 : Int32) gv23 rv26 gv25  qv24) mw_X8_number ml_X8_128 (by decide) (by decide +kernel) (by decide) rfl rfl rfl rfl (Nat.le_of_ble_eq_true rfl) dX8_readWind_30 ?_
    refine v_istoren (lc' := [some (.ref (ad (8, 0, 0))), some (.int rv26)]) X dX8_readWind_33 rfl (by decide) rfl rfl ?_
    refine v_aloadn X dX8_readWind_34 rfl rfl ?_
    refine v_bipush (v := 59) X dX8_readWind_35 (by decide) ?_
    obtain ⟨gv28, qv27, h⟩ := bd1_some h
    refine v_callVV (As := [.int (59 : Int32)]) (rest := []) X (c_X8_mustSign l D ad cy X.2.2.2.2.2.2.2.2.1 N (59 : Int32) gv25 gv28  qv27) mw_X8_mustSign ml_X8_132 (by decide) (by decide +kernel) (by decide) rfl rfl rfl rfl (Nat.le_of_ble_eq_true rfl) dX8_readWind_37 ?_
    refine v_aloadn X dX8_readWind_40 rfl rfl ?_
    refine gf_X8_81 X dX8_readWind_41 ?_
    refine v_if_ne X 71 dX8_readWind_44 (by decide) (fun cv29 => ?_) (fun cv29 => ?_)
    · replace h := (if_neg cv29).symm.trans h
      exact v_vret X dX8_readWind_71 (Option.some.inj h)
    · replace h := (if_pos cv29).symm.trans h
      refine v_aloadn X dX8_readWind_47 rfl rfl ?_
      refine gf_X8_22 X dX8_readWind_48 ?_
      refine v_iconst (v := 5) X dX8_readWind_51 (by decide) ?_
      refine v_aloadn X dX8_readWind_52 rfl rfl ?_
      refine gf_X8_22 X dX8_readWind_53 ?_
      refine v_iconst (v := 1) X dX8_readWind_56 (by decide) ?_
      refine alM X (by decide +kernel) jv1 ejv1 ljv1 dX8_readWind_57 ?_
      refine v_iadd X dX8_readWind_58 ?_
      refine v_iloadn X dX8_readWind_59 rfl rfl ?_
      obtain ⟨jv30, qv31, h⟩ := bd1_some h
      obtain ⟨ejv30, ljv30⟩ := ix_spec qv31
      refine asM X (by decide +kernel) jv30 ejv30 ljv30 dX8_readWind_60 ?_
      refine v_aloadn X dX8_readWind_61 rfl rfl ?_
      refine gf_X8_22 X dX8_readWind_62 ?_
      refine v_iconst (v := 1) X dX8_readWind_65 (by decide) ?_
      refine v_dup2 X dX8_readWind_66 rfl rfl ?_
      refine alM X (by decide +kernel) jv1 ejv1 ljv1 dX8_readWind_67 ?_
      refine v_iconst (v := 1) X dX8_readWind_68 (by decide) ?_
      refine v_iadd X dX8_readWind_69 ?_
      refine asM X (by decide +kernel) jv1 ejv1 ljv1 dX8_readWind_70 ?_
      exact v_vret X dX8_readWind_71 (Option.some.inj h)
def L_X8_restore_32 (N : Nat) (z1 : Int32) : Nat → Int32 → GS → Option (Int32 × GS)
  | 0, _, _ => none
  | n + 1, y2, g => if (53 : Int32) ≤ y2 then some (y2, g) else bd1 (ix (((53 : Int32) * z1) + y2) 106) (fun jv9 => bd1 (ix y2 53) (fun jv11 => L_X8_restore_32 N z1 n (y2 + 1) (g3 g 11 5 jv11 (g 11 22 jv9))))
def F_X8_restore (N : Nat) (x1 : Int32) (g : GS) : Option (Int32 × GS) := bd2 (F_X8_in N (x1.toInt64) (0 : Int64) (1 : Int64) (g3 g 10 0 0 (0 : Int32))) (fun rv3 gv2 => if rv3 = 0 then some ((-1000001 : Int32), gv2) else bd1 (ix x1 2) (fun jv5 => if (gv2 11 21 jv5) = 0 then some ((-1000002 : Int32), gv2) else bd2 (L_X8_restore_32 N x1 N (0 : Int32) gv2) (fun xv13 gv14 => some ((1 : Int32), (g3 gv14 10 0 10 (0 : Int32))))))
set_option maxRecDepth 100000 in
set_option maxHeartbeats 4000000 in
theorem w_X8_restore_32 {p : Program} {l : Launch} {e : Env} {s : State} {m : MethodId} {args : Array Value} {below : List Frame} {meth : Method} {c : Code} {D : va_G} {ad : Ky → Nat} {cy : Nat → ClassId} {r : Int32} {gq : GS} {N : Nat} (X : Cx p (rmd 1) s m args meth c RX8 cX8_restore 3 (some .int) D ad cy) (z1 : Int32) : ∀ (n : Nat) (y2 : Int32) (g : GS) (y2' : Int32) (g' : GS), L_X8_restore_32 N z1 n y2 g = some (y2', g') → Vy p l e (rmd 1) s m args below meth c 3 D ad cy (QI D ad cy below args s r gq) 61 [some (.ref (ad (8, 0, 0))), some (.int z1), some (.int y2')] [] g' → Vy p l e (rmd 1) s m args below meth c 3 D ad cy (QI D ad cy below args s r gq) 32 [some (.ref (ad (8, 0, 0))), some (.int z1), some (.int y2)] [] g := by
  intro n
  induction n with
  | zero => intro y2 g y2' g' h k; cases h
  | succ n ih =>
    intro y2 g y2' g' h k
    rw [L_X8_restore_32] at h
    refine v_iloadn X dX8_restore_32 rfl rfl ?_
    refine v_bipush (v := 53) X dX8_restore_33 (by decide) ?_
    refine v_icmp_ge X 61 dX8_restore_35 (by decide) (fun cv8 => ?_) (fun cv8 => ?_)
    · replace h := (if_pos cv8).symm.trans h
      cases h
      exact k
    · replace h := (if_neg cv8).symm.trans h
      refine v_aloadn X dX8_restore_38 rfl rfl ?_
      refine gf_X8_19 X dX8_restore_39 ?_
      refine v_iloadn X dX8_restore_42 rfl rfl ?_
      refine v_aloadn X dX8_restore_43 rfl rfl ?_
      refine gf_X8_44 X dX8_restore_44 ?_
      refine v_bipush (v := 53) X dX8_restore_47 (by decide) ?_
      refine v_iloadn X dX8_restore_49 rfl rfl ?_
      refine v_imul X dX8_restore_50 ?_
      refine v_iloadn X dX8_restore_51 rfl rfl ?_
      refine v_iadd X dX8_restore_52 ?_
      obtain ⟨jv9, qv10, h⟩ := bd1_some h
      obtain ⟨ejv9, ljv9⟩ := ix_spec qv10
      refine alM X (by decide +kernel) jv9 ejv9 ljv9 dX8_restore_53 ?_
      obtain ⟨jv11, qv12, h⟩ := bd1_some h
      obtain ⟨ejv11, ljv11⟩ := ix_spec qv12
      refine asM X (by decide +kernel) jv11 ejv11 ljv11 dX8_restore_54 ?_
      refine v_iinc (v := (y2 + 1)) (lc' := [some (.ref (ad (8, 0, 0))), some (.int z1), some (.int (y2 + 1))]) X dX8_restore_55 rfl rfl (by decide) rfl rfl ?_
      refine v_goto X 32 dX8_restore_58 (by decide) ?_
      exact ih (y2 + 1) (g3 g 11 5 jv11 (g 11 22 jv9)) _ _ h k
set_option maxRecDepth 100000 in
set_option maxHeartbeats 4000000 in
theorem c_X8_restore (l : Launch) (D : va_G) (ad : Ky → Nat) (cy : Nat → ClassId) (hI : Inj ad) (N : Nat) (x1 : Int32) (g : GS) (r : Int32) (gq : GS) (h : F_X8_restore N x1 g = some (r, gq)) : CtI l D ad cy yX8_restore cX8_restore 3 (some .int) 1 [.ref (ad (8, 0, 0)), .int x1] g r gq := by
  refine CtI.of 1 hI (by decide +kernel) rfl (Nat.le_of_ble_eq_true rfl) (fun p e s m args below meth c X => ?_)
  unfold F_X8_restore at h
  show Vy _ _ _ _ _ _ _ _ _ _ _ _ _ _ _ 0 [some (.ref (ad (8, 0, 0))), some (.int x1), none] [] g
  refine v_aloadn X dX8_restore_0 rfl rfl ?_
  refine v_iconst (v := 0) X dX8_restore_1 (by decide) ?_
  refine pf_X8_50 X dX8_restore_2 ?_
  refine v_iloadn X dX8_restore_5 rfl rfl ?_
  refine v_i2l X dX8_restore_6 ?_
  refine v_lconst (v := 0) X dX8_restore_7 (by decide) ?_
  refine v_lconst (v := 1) X dX8_restore_8 (by decide) ?_
  obtain ⟨rv3, gv2, qv1, h⟩ := bd2_some h
  refine v_callSI (As := [.long (x1.toInt64), .long (0 : Int64), .long (1 : Int64)]) (rest := []) X (c_X8_in l D ad cy X.2.2.2.2.2.2.2.2.1 N (x1.toInt64) (0 : Int64) (1 : Int64) (g3 g 10 0 0 (0 : Int32)) rv3 gv2  qv1) mw_X8_in ml_X8_60 (by decide) rfl rfl (Nat.le_of_ble_eq_true rfl) dX8_restore_9 ?_
  refine v_if_ne X 18 dX8_restore_12 (by decide) (fun cv4 => ?_) (fun cv4 => ?_)
  · replace h := (if_neg cv4).symm.trans h
    refine v_aloadn X dX8_restore_18 rfl rfl ?_
    refine gf_X8_40 X dX8_restore_19 ?_
    refine v_iloadn X dX8_restore_22 rfl rfl ?_
    obtain ⟨jv5, qv6, h⟩ := bd1_some h
    obtain ⟨ejv5, ljv5⟩ := ix_spec qv6
    refine alZ X jv5 ejv5 ljv5 dX8_restore_23 ?_
    refine v_if_ne X 30 dX8_restore_24 (by decide) (fun cv7 => ?_) (fun cv7 => ?_)
    · replace h := (if_neg cv7).symm.trans h
      refine v_iconst (v := 0) X dX8_restore_30 (by decide) ?_
      refine v_istoren (lc' := [some (.ref (ad (8, 0, 0))), some (.int x1), some (.int (0 : Int32))]) X dX8_restore_31 rfl (by decide) rfl rfl ?_
      obtain ⟨xv13, gv14, qv15, h⟩ := bd2_some h
      refine w_X8_restore_32 X x1 N (0 : Int32) gv2 xv13 gv14 qv15 ?_
      refine v_aloadn X dX8_restore_61 rfl rfl ?_
      refine v_iconst (v := 0) X dX8_restore_62 (by decide) ?_
      refine pf_X8_152 X dX8_restore_63 ?_
      refine v_iconst (v := 1) X dX8_restore_66 (by decide) ?_
      obtain ⟨er, eg⟩ := Prod.mk.inj (Option.some.inj h)
      exact v_iret X dX8_restore_67 er eg
    · replace h := (if_pos cv7).symm.trans h
      refine v_ldc X kc_X8_198 dX8_restore_27 ?_
      obtain ⟨er, eg⟩ := Prod.mk.inj (Option.some.inj h)
      exact v_iret X dX8_restore_29 er eg
  · replace h := (if_pos cv4).symm.trans h
    refine v_ldc X kc_X8_70 dX8_restore_15 ?_
    obtain ⟨er, eg⟩ := Prod.mk.inj (Option.some.inj h)
    exact v_iret X dX8_restore_17 er eg
def L_X8_roof_11 (N : Nat) : Nat → Int32 → GS → Option (Int32 × GS)
  | 0, _, _ => none
  | n + 1, y1, g => if (53 : Int32) ≤ y1 then some (y1, g) else bd1 (ix y1 53) (fun jv4 => L_X8_roof_11 N n (y1 + 1) (g3 g 11 6 jv4 (0 : Int32)))
def L_X8_roof_78 (N : Nat) (z1 : Int32) : Nat → GS → Option (GS)
  | 0, _ => none
  | n + 1, g => bd2 (F_X8_isLetter N (119 : Int32) g) (fun rv30 gv29 => if rv30 = 0 then some (gv29) else bd1 (F_X8_readWind N  gv29) (fun gv33 => L_X8_roof_78 N z1 n  gv33))
def L_X8_roof_106 (N : Nat) (z1 : Int32) : Nat → GS → Option (GS)
  | 0, _ => none
  | n + 1, g => bd2 (F_X8_isSort N  g) (fun rv42 gv41 => if rv42 = 0 then some (gv41) else bd1 (F_X8_readPaper N  gv41) (fun gv45 => L_X8_roof_106 N z1 n  gv45))
def L_X8_roof_142 (N : Nat) : Nat → Int32 → GS → Option (Int32 × GS)
  | 0, _, _ => none
  | n + 1, y1, g => if (53 : Int32) ≤ y1 then some (y1, g) else bd1 (ix y1 53) (fun jv53 => L_X8_roof_142 N n (y1 + 1) (g3 g 11 5 jv53 (g 11 6 jv53)))
def F_X8_roof (N : Nat) (g : GS) : Option (Int32 × GS) := bd1 (F_X8_begin N  (g3 g 10 0 0 (0 : Int32))) (fun gv2 => bd2 (L_X8_roof_11 N N (0 : Int32) gv2) (fun xv6 gv7 => bd2 (F_X8_isLetter N (114 : Int32) gv7) (fun rv11 gv10 => bd1 (F_X8_must N rv11 gv10) (fun gv13 => bd2 (F_X8_number N (1 : Int32) (40 : Int32) gv13) (fun rv16 gv15 => bd1 (ix (2 : Int32) 53) (fun jv17 => bd1 (F_X8_mustSign N (44 : Int32) (g3 gv15 11 6 jv17 rv16)) (fun gv20 => bd2 (F_X8_number N (1 : Int32) (99 : Int32) gv20) (fun rv23 gv22 => bd1 (ix (3 : Int32) 53) (fun jv24 => bd1 (F_X8_mustSign N (59 : Int32) (g3 gv22 11 6 jv24 rv23)) (fun gv27 => bd1 (L_X8_roof_78 N xv6 N  gv27) (fun gv34 => bd2 (F_X8_isSort N  gv34) (fun rv38 gv37 => if rv38 = 0 then bd1 (F_X8_bad N (1 : Int32) gv37) (fun gv61 => bd1 (L_X8_roof_106 N xv6 N  gv61) (fun gv62 => bd2 (F_X8_failed N  gv62) (fun rv66 gv65 => if rv66 = 0 then bd2 (L_X8_roof_142 N N (0 : Int32) (g3 gv65 10 0 10 (0 : Int32))) (fun xv68 gv69 => bd1 (ix (0 : Int32) 53) (fun jv71 => some ((gv69 11 5 jv71), gv69))) else some (((-1000100 : Int32) - (gv65 10 0 18)), gv65)))) else bd1 (L_X8_roof_106 N xv6 N  gv37) (fun gv46 => bd2 (F_X8_failed N  gv46) (fun rv50 gv49 => if rv50 = 0 then bd2 (L_X8_roof_142 N N (0 : Int32) (g3 gv49 10 0 10 (0 : Int32))) (fun xv55 gv56 => bd1 (ix (0 : Int32) 53) (fun jv58 => some ((gv56 11 5 jv58), gv56))) else some (((-1000100 : Int32) - (gv49 10 0 18)), gv49)))))))))))))))
set_option maxRecDepth 100000 in
set_option maxHeartbeats 4000000 in
theorem w_X8_roof_11 {p : Program} {l : Launch} {e : Env} {s : State} {m : MethodId} {args : Array Value} {below : List Frame} {meth : Method} {c : Code} {D : va_G} {ad : Ky → Nat} {cy : Nat → ClassId} {r : Int32} {gq : GS} {N : Nat} (X : Cx p (rmd 5) s m args meth c RX8 cX8_roof 2 (some .int) D ad cy) : ∀ (n : Nat) (y1 : Int32) (g : GS) (y1' : Int32) (g' : GS), L_X8_roof_11 N n y1 g = some (y1', g') → Vy p l e (rmd 5) s m args below meth c 2 D ad cy (QI D ad cy below args s r gq) 30 [some (.ref (ad (8, 0, 0))), some (.int y1')] [] g' → Vy p l e (rmd 5) s m args below meth c 2 D ad cy (QI D ad cy below args s r gq) 11 [some (.ref (ad (8, 0, 0))), some (.int y1)] [] g := by
  intro n
  induction n with
  | zero => intro y1 g y1' g' h k; cases h
  | succ n ih =>
    intro y1 g y1' g' h k
    rw [L_X8_roof_11] at h
    refine v_iloadn X dX8_roof_11 rfl rfl ?_
    refine v_bipush (v := 53) X dX8_roof_12 (by decide) ?_
    refine v_icmp_ge X 30 dX8_roof_14 (by decide) (fun cv3 => ?_) (fun cv3 => ?_)
    · replace h := (if_pos cv3).symm.trans h
      cases h
      exact k
    · replace h := (if_neg cv3).symm.trans h
      refine v_aloadn X dX8_roof_17 rfl rfl ?_
      refine gf_X8_22 X dX8_roof_18 ?_
      refine v_iloadn X dX8_roof_21 rfl rfl ?_
      refine v_iconst (v := 0) X dX8_roof_22 (by decide) ?_
      obtain ⟨jv4, qv5, h⟩ := bd1_some h
      obtain ⟨ejv4, ljv4⟩ := ix_spec qv5
      refine asM X (by decide +kernel) jv4 ejv4 ljv4 dX8_roof_23 ?_
      refine v_iinc (v := (y1 + 1)) (lc' := [some (.ref (ad (8, 0, 0))), some (.int (y1 + 1))]) X dX8_roof_24 rfl rfl (by decide) rfl rfl ?_
      refine v_goto X 11 dX8_roof_27 (by decide) ?_
      exact ih (y1 + 1) (g3 g 11 6 jv4 (0 : Int32)) _ _ h k
set_option maxRecDepth 100000 in
set_option maxHeartbeats 4000000 in
theorem w_X8_roof_78 {p : Program} {l : Launch} {e : Env} {s : State} {m : MethodId} {args : Array Value} {below : List Frame} {meth : Method} {c : Code} {D : va_G} {ad : Ky → Nat} {cy : Nat → ClassId} {r : Int32} {gq : GS} {N : Nat} (X : Cx p (rmd 5) s m args meth c RX8 cX8_roof 2 (some .int) D ad cy) (z1 : Int32) : ∀ (n : Nat)  (g : GS)  (g' : GS), L_X8_roof_78 N z1 n  g = some (g') → Vy p l e (rmd 5) s m args below meth c 2 D ad cy (QI D ad cy below args s r gq) 94 [some (.ref (ad (8, 0, 0))), some (.int z1)] [] g' → Vy p l e (rmd 5) s m args below meth c 2 D ad cy (QI D ad cy below args s r gq) 78 [some (.ref (ad (8, 0, 0))), some (.int z1)] [] g := by
  intro n
  induction n with
  | zero => intro g g' h k; cases h
  | succ n ih =>
    intro g g' h k
    rw [L_X8_roof_78] at h
    refine v_aloadn X dX8_roof_78 rfl rfl ?_
    refine v_bipush (v := 119) X dX8_roof_79 (by decide) ?_
    obtain ⟨rv30, gv29, qv28, h⟩ := bd2_some h
    refine v_callVI (As := [.int (119 : Int32)]) (rest := []) X (c_X8_isLetter l D ad cy X.2.2.2.2.2.2.2.2.1 N (119 : Int32) g rv30 gv29  qv28) mw_X8_isLetter ml_X8_125 (by decide) (by decide +kernel) (by decide) rfl rfl rfl rfl (Nat.le_of_ble_eq_true rfl) dX8_roof_81 ?_
    refine v_if_eq X 94 dX8_roof_84 (by decide) (fun cv31 => ?_) (fun cv31 => ?_)
    · replace h := (if_pos cv31).symm.trans h
      cases h
      exact k
    · replace h := (if_neg cv31).symm.trans h
      refine v_aloadn X dX8_roof_87 rfl rfl ?_
      obtain ⟨gv33, qv32, h⟩ := bd1_some h
      refine v_callVV (As := []) (rest := []) X (c_X8_readWind l D ad cy X.2.2.2.2.2.2.2.2.1 N  gv29 gv33  qv32) mw_X8_readWind ml_X8_138 (by decide) (by decide +kernel) (by decide) rfl rfl rfl rfl (Nat.le_of_ble_eq_true rfl) dX8_roof_88 ?_
      refine v_goto X 78 dX8_roof_91 (by decide) ?_
      exact ih  gv33 _ h k
set_option maxRecDepth 100000 in
set_option maxHeartbeats 4000000 in
theorem w_X8_roof_106 {p : Program} {l : Launch} {e : Env} {s : State} {m : MethodId} {args : Array Value} {below : List Frame} {meth : Method} {c : Code} {D : va_G} {ad : Ky → Nat} {cy : Nat → ClassId} {r : Int32} {gq : GS} {N : Nat} (X : Cx p (rmd 5) s m args meth c RX8 cX8_roof 2 (some .int) D ad cy) (z1 : Int32) : ∀ (n : Nat)  (g : GS)  (g' : GS), L_X8_roof_106 N z1 n  g = some (g') → Vy p l e (rmd 5) s m args below meth c 2 D ad cy (QI D ad cy below args s r gq) 120 [some (.ref (ad (8, 0, 0))), some (.int z1)] [] g' → Vy p l e (rmd 5) s m args below meth c 2 D ad cy (QI D ad cy below args s r gq) 106 [some (.ref (ad (8, 0, 0))), some (.int z1)] [] g := by
  intro n
  induction n with
  | zero => intro g g' h k; cases h
  | succ n ih =>
    intro g g' h k
    rw [L_X8_roof_106] at h
    refine v_aloadn X dX8_roof_106 rfl rfl ?_
    obtain ⟨rv42, gv41, qv40, h⟩ := bd2_some h
    refine v_callVI (As := []) (rest := []) X (c_X8_isSort l D ad cy X.2.2.2.2.2.2.2.2.1 N  g rv42 gv41  qv40) mw_X8_isSort ml_X8_141 (by decide) (by decide +kernel) (by decide) rfl rfl rfl rfl (Nat.le_of_ble_eq_true rfl) dX8_roof_107 ?_
    refine v_if_eq X 120 dX8_roof_110 (by decide) (fun cv43 => ?_) (fun cv43 => ?_)
    · replace h := (if_pos cv43).symm.trans h
      cases h
      exact k
    · replace h := (if_neg cv43).symm.trans h
      refine v_aloadn X dX8_roof_113 rfl rfl ?_
      obtain ⟨gv45, qv44, h⟩ := bd1_some h
      refine v_callVV (As := []) (rest := []) X (c_X8_readPaper l D ad cy X.2.2.2.2.2.2.2.2.1 N  gv41 gv45  qv44) mw_X8_readPaper ml_X8_145 (by decide) (by decide +kernel) (by decide) rfl rfl rfl rfl (Nat.le_of_ble_eq_true rfl) dX8_roof_114 ?_
      refine v_goto X 106 dX8_roof_117 (by decide) ?_
      exact ih  gv45 _ h k
set_option maxRecDepth 100000 in
set_option maxHeartbeats 4000000 in
theorem w_X8_roof_142 {p : Program} {l : Launch} {e : Env} {s : State} {m : MethodId} {args : Array Value} {below : List Frame} {meth : Method} {c : Code} {D : va_G} {ad : Ky → Nat} {cy : Nat → ClassId} {r : Int32} {gq : GS} {N : Nat} (X : Cx p (rmd 5) s m args meth c RX8 cX8_roof 2 (some .int) D ad cy) : ∀ (n : Nat) (y1 : Int32) (g : GS) (y1' : Int32) (g' : GS), L_X8_roof_142 N n y1 g = some (y1', g') → Vy p l e (rmd 5) s m args below meth c 2 D ad cy (QI D ad cy below args s r gq) 166 [some (.ref (ad (8, 0, 0))), some (.int y1')] [] g' → Vy p l e (rmd 5) s m args below meth c 2 D ad cy (QI D ad cy below args s r gq) 142 [some (.ref (ad (8, 0, 0))), some (.int y1)] [] g := by
  intro n
  induction n with
  | zero => intro y1 g y1' g' h k; cases h
  | succ n ih =>
    intro y1 g y1' g' h k
    rw [L_X8_roof_142] at h
    refine v_iloadn X dX8_roof_142 rfl rfl ?_
    refine v_bipush (v := 53) X dX8_roof_143 (by decide) ?_
    refine v_icmp_ge X 166 dX8_roof_145 (by decide) (fun cv52 => ?_) (fun cv52 => ?_)
    · replace h := (if_pos cv52).symm.trans h
      cases h
      exact k
    · replace h := (if_neg cv52).symm.trans h
      refine v_aloadn X dX8_roof_148 rfl rfl ?_
      refine gf_X8_19 X dX8_roof_149 ?_
      refine v_iloadn X dX8_roof_152 rfl rfl ?_
      refine v_aloadn X dX8_roof_153 rfl rfl ?_
      refine gf_X8_22 X dX8_roof_154 ?_
      refine v_iloadn X dX8_roof_157 rfl rfl ?_
      obtain ⟨jv53, qv54, h⟩ := bd1_some h
      obtain ⟨ejv53, ljv53⟩ := ix_spec qv54
      refine alM X (by decide +kernel) jv53 ejv53 ljv53 dX8_roof_158 ?_
      refine asM X (by decide +kernel) jv53 ejv53 ljv53 dX8_roof_159 ?_
      refine v_iinc (v := (y1 + 1)) (lc' := [some (.ref (ad (8, 0, 0))), some (.int (y1 + 1))]) X dX8_roof_160 rfl rfl (by decide) rfl rfl ?_
      refine v_goto X 142 dX8_roof_163 (by decide) ?_
      exact ih (y1 + 1) (g3 g 11 5 jv53 (g 11 6 jv53)) _ _ h k
set_option maxRecDepth 100000 in
set_option maxHeartbeats 4000000 in
theorem c_X8_roof (l : Launch) (D : va_G) (ad : Ky → Nat) (cy : Nat → ClassId) (hI : Inj ad) (N : Nat) (g : GS) (r : Int32) (gq : GS) (h : F_X8_roof N  g = some (r, gq)) : CtI l D ad cy yX8_roof cX8_roof 2 (some .int) 5 [.ref (ad (8, 0, 0))] g r gq := by
  refine CtI.of 1 hI (by decide +kernel) rfl (Nat.le_of_ble_eq_true rfl) (fun p e s m args below meth c X => ?_)
  unfold F_X8_roof at h
  show Vy _ _ _ _ _ _ _ _ _ _ _ _ _ _ _ 0 [some (.ref (ad (8, 0, 0))), none] [] g
  refine v_aloadn X dX8_roof_0 rfl rfl ?_
  refine v_iconst (v := 0) X dX8_roof_1 (by decide) ?_
  refine pf_X8_50 X dX8_roof_2 ?_
  refine v_aloadn X dX8_roof_5 rfl rfl ?_
  obtain ⟨gv2, qv1, h⟩ := bd1_some h
  refine v_callVV (As := []) (rest := []) X (c_X8_begin l D ad cy X.2.2.2.2.2.2.2.2.1 N  (g3 g 10 0 0 (0 : Int32)) gv2  qv1) mw_X8_begin ml_X8_135 (by decide) (by decide +kernel) (by decide) rfl rfl rfl rfl (Nat.le_of_ble_eq_true rfl) dX8_roof_6 ?_
  refine v_iconst (v := 0) X dX8_roof_9 (by decide) ?_
  refine v_istoren (lc' := [some (.ref (ad (8, 0, 0))), some (.int (0 : Int32))]) X dX8_roof_10 rfl (by decide) rfl rfl ?_
  obtain ⟨xv6, gv7, qv8, h⟩ := bd2_some h
  refine w_X8_roof_11 X  N (0 : Int32) gv2 xv6 gv7 qv8 ?_
  refine v_aloadn X dX8_roof_30 rfl rfl ?_
  refine v_aloadn X dX8_roof_31 rfl rfl ?_
  refine v_bipush (v := 114) X dX8_roof_32 (by decide) ?_
  obtain ⟨rv11, gv10, qv9, h⟩ := bd2_some h
  refine v_callVI (As := [.int (114 : Int32)]) (rest := [.ref (ad (8, 0, 0))]) X (c_X8_isLetter l D ad cy X.2.2.2.2.2.2.2.2.1 N (114 : Int32) gv7 rv11 gv10  qv9) mw_X8_isLetter ml_X8_125 (by decide) (by decide +kernel) (by decide) rfl rfl rfl rfl (Nat.le_of_ble_eq_true rfl) dX8_roof_34 ?_
  obtain ⟨gv13, qv12, h⟩ := bd1_some h
  refine v_callVV (As := [.int rv11]) (rest := []) X (c_X8_must l D ad cy X.2.2.2.2.2.2.2.2.1 N rv11 gv10 gv13  qv12) mw_X8_must ml_X8_115 (by decide) (by decide +kernel) (by decide) rfl rfl rfl rfl (Nat.le_of_ble_eq_true rfl) dX8_roof_37 ?_
  refine v_aloadn X dX8_roof_40 rfl rfl ?_
  refine gf_X8_22 X dX8_roof_41 ?_
  refine v_iconst (v := 2) X dX8_roof_44 (by decide) ?_
  refine v_aloadn X dX8_roof_45 rfl rfl ?_
  refine v_iconst (v := 1) X dX8_roof_46 (by decide) ?_
  refine v_bipush (v := 40) X dX8_roof_47 (by decide) ?_
  obtain ⟨rv16, gv15, qv14, h⟩ := bd2_some h
  refine v_callVI (As := [.int (1 : Int32), .int (40 : Int32)]) (rest := [.int (2 : Int32), .ref (ad (9, 11, 6))]) X (c_X8_number l D ad cy X.2.2.2.2.2.2.2.2.1 N (1 : Int32) (40 : Int32) gv13 rv16 gv15  qv14) mw_X8_number ml_X8_128 (by decide) (by decide +kernel) (by decide) rfl rfl rfl rfl (Nat.le_of_ble_eq_true rfl) dX8_roof_49 ?_
  obtain ⟨jv17, qv18, h⟩ := bd1_some h
  obtain ⟨ejv17, ljv17⟩ := ix_spec qv18
  refine asM X (by decide +kernel) jv17 ejv17 ljv17 dX8_roof_52 ?_
  refine v_aloadn X dX8_roof_53 rfl rfl ?_
  refine v_bipush (v := 44) X dX8_roof_54 (by decide) ?_
  obtain ⟨gv20, qv19, h⟩ := bd1_some h
  refine v_callVV (As := [.int (44 : Int32)]) (rest := []) X (c_X8_mustSign l D ad cy X.2.2.2.2.2.2.2.2.1 N (44 : Int32) (g3 gv15 11 6 jv17 rv16) gv20  qv19) mw_X8_mustSign ml_X8_132 (by decide) (by decide +kernel) (by decide) rfl rfl rfl rfl (Nat.le_of_ble_eq_true rfl) dX8_roof_56 ?_
  refine v_aloadn X dX8_roof_59 rfl rfl ?_
  refine gf_X8_22 X dX8_roof_60 ?_
  refine v_iconst (v := 3) X dX8_roof_63 (by decide) ?_
  refine v_aloadn X dX8_roof_64 rfl rfl ?_
  refine v_iconst (v := 1) X dX8_roof_65 (by decide) ?_
  refine v_bipush (v := 99) X dX8_roof_66 (by decide) ?_
  obtain ⟨rv23, gv22, qv21, h⟩ := bd2_some h
  refine v_callVI (As := [.int (1 : Int32), .int (99 : Int32)]) (rest := [.int (3 : Int32), .ref (ad (9, 11, 6))]) X (c_X8_number l D ad cy X.2.2.2.2.2.2.2.2.1 N (1 : Int32) (99 : Int32) gv20 rv23 gv22  qv21) mw_X8_number ml_X8_128 (by decide) (by decide +kernel) (by decide) rfl rfl rfl rfl (Nat.le_of_ble_eq_true rfl) dX8_roof_68 ?_
  obtain ⟨jv24, qv25, h⟩ := bd1_some h
  obtain ⟨ejv24, ljv24⟩ := ix_spec qv25
  refine asM X (by decide +kernel) jv24 ejv24 ljv24 dX8_roof_71 ?_
  refine v_aloadn X dX8_roof_72 rfl rfl ?_
  refine v_bipush (v := 59) X dX8_roof_73 (by decide) ?_
  obtain ⟨gv27, qv26, h⟩ := bd1_some h
  refine v_callVV (As := [.int (59 : Int32)]) (rest := []) X (c_X8_mustSign l D ad cy X.2.2.2.2.2.2.2.2.1 N (59 : Int32) (g3 gv22 11 6 jv24 rv23) gv27  qv26) mw_X8_mustSign ml_X8_132 (by decide) (by decide +kernel) (by decide) rfl rfl rfl rfl (Nat.le_of_ble_eq_true rfl) dX8_roof_75 ?_
  obtain ⟨gv34, qv35, h⟩ := bd1_some h
  refine w_X8_roof_78 X xv6 N  gv27 gv34 qv35 ?_
  refine v_aloadn X dX8_roof_94 rfl rfl ?_
  obtain ⟨rv38, gv37, qv36, h⟩ := bd2_some h
  refine v_callVI (As := []) (rest := []) X (c_X8_isSort l D ad cy X.2.2.2.2.2.2.2.2.1 N  gv34 rv38 gv37  qv36) mw_X8_isSort ml_X8_141 (by decide) (by decide +kernel) (by decide) rfl rfl rfl rfl (Nat.le_of_ble_eq_true rfl) dX8_roof_95 ?_
  refine v_if_ne X 106 dX8_roof_98 (by decide) (fun cv39 => ?_) (fun cv39 => ?_)
  · replace h := (if_neg cv39).symm.trans h
    obtain ⟨gv46, qv47, h⟩ := bd1_some h
    refine w_X8_roof_106 X xv6 N  gv37 gv46 qv47 ?_
    refine v_aloadn X dX8_roof_120 rfl rfl ?_
    obtain ⟨rv50, gv49, qv48, h⟩ := bd2_some h
    refine v_callVI (As := []) (rest := []) X (c_X8_failed l D ad cy X.2.2.2.2.2.2.2.2.1 N  gv46 rv50 gv49  qv48) mw_X8_failed ml_X8_148 (by decide) (by decide +kernel) (by decide) rfl rfl rfl rfl (Nat.le_of_ble_eq_true rfl) dX8_roof_121 ?_
    refine v_if_eq X 135 dX8_roof_124 (by decide) (fun cv51 => ?_) (fun cv51 => ?_)
    · replace h := (if_pos cv51).symm.trans h
      refine v_aloadn X dX8_roof_135 rfl rfl ?_
      refine v_iconst (v := 0) X dX8_roof_136 (by decide) ?_
      refine pf_X8_152 X dX8_roof_137 ?_
      refine v_iconst (v := 0) X dX8_roof_140 (by decide) ?_
      refine v_istoren (lc' := [some (.ref (ad (8, 0, 0))), some (.int (0 : Int32))]) X dX8_roof_141 rfl (by decide) rfl rfl ?_
      obtain ⟨xv55, gv56, qv57, h⟩ := bd2_some h
      refine w_X8_roof_142 X  N (0 : Int32) (g3 gv49 10 0 10 (0 : Int32)) xv55 gv56 qv57 ?_
      refine v_aloadn X dX8_roof_166 rfl rfl ?_
      refine gf_X8_19 X dX8_roof_167 ?_
      refine v_iconst (v := 0) X dX8_roof_170 (by decide) ?_
      obtain ⟨jv58, qv59, h⟩ := bd1_some h
      obtain ⟨ejv58, ljv58⟩ := ix_spec qv59
      refine alM X (by decide +kernel) jv58 ejv58 ljv58 dX8_roof_171 ?_
      obtain ⟨er, eg⟩ := Prod.mk.inj (Option.some.inj h)
      exact v_iret X dX8_roof_172 er eg
    · replace h := (if_neg cv51).symm.trans h
      refine v_ldc X kc_X8_151 dX8_roof_127 ?_
      refine v_aloadn X dX8_roof_129 rfl rfl ?_
      refine gf_X8_87 X dX8_roof_130 ?_
      refine v_isub X dX8_roof_133 ?_
      obtain ⟨er, eg⟩ := Prod.mk.inj (Option.some.inj h)
      exact v_iret X dX8_roof_134 er eg
  · replace h := (if_pos cv39).symm.trans h
    refine v_aloadn X dX8_roof_101 rfl rfl ?_
    refine v_iconst (v := 1) X dX8_roof_102 (by decide) ?_
    obtain ⟨gv61, qv60, h⟩ := bd1_some h
    refine v_callVV (As := [.int (1 : Int32)]) (rest := []) X (c_X8_bad l D ad cy X.2.2.2.2.2.2.2.2.1 N (1 : Int32) gv37 gv61  qv60) mw_X8_bad ml_X8_108 (by decide) (by decide +kernel) (by decide) rfl rfl rfl rfl (Nat.le_of_ble_eq_true rfl) dX8_roof_103 ?_
    obtain ⟨gv62, qv63, h⟩ := bd1_some h
    refine w_X8_roof_106 X xv6 N  gv61 gv62 qv63 ?_
    refine v_aloadn X dX8_roof_120 rfl rfl ?_
    obtain ⟨rv66, gv65, qv64, h⟩ := bd2_some h
    refine v_callVI (As := []) (rest := []) X (c_X8_failed l D ad cy X.2.2.2.2.2.2.2.2.1 N  gv62 rv66 gv65  qv64) mw_X8_failed ml_X8_148 (by decide) (by decide +kernel) (by decide) rfl rfl rfl rfl (Nat.le_of_ble_eq_true rfl) dX8_roof_121 ?_
    refine v_if_eq X 135 dX8_roof_124 (by decide) (fun cv67 => ?_) (fun cv67 => ?_)
    · replace h := (if_pos cv67).symm.trans h
      refine v_aloadn X dX8_roof_135 rfl rfl ?_
      refine v_iconst (v := 0) X dX8_roof_136 (by decide) ?_
      refine pf_X8_152 X dX8_roof_137 ?_
      refine v_iconst (v := 0) X dX8_roof_140 (by decide) ?_
      refine v_istoren (lc' := [some (.ref (ad (8, 0, 0))), some (.int (0 : Int32))]) X dX8_roof_141 rfl (by decide) rfl rfl ?_
      obtain ⟨xv68, gv69, qv70, h⟩ := bd2_some h
      refine w_X8_roof_142 X  N (0 : Int32) (g3 gv65 10 0 10 (0 : Int32)) xv68 gv69 qv70 ?_
      refine v_aloadn X dX8_roof_166 rfl rfl ?_
      refine gf_X8_19 X dX8_roof_167 ?_
      refine v_iconst (v := 0) X dX8_roof_170 (by decide) ?_
      obtain ⟨jv71, qv72, h⟩ := bd1_some h
      obtain ⟨ejv71, ljv71⟩ := ix_spec qv72
      refine alM X (by decide +kernel) jv71 ejv71 ljv71 dX8_roof_171 ?_
      obtain ⟨er, eg⟩ := Prod.mk.inj (Option.some.inj h)
      exact v_iret X dX8_roof_172 er eg
    · replace h := (if_neg cv67).symm.trans h
      refine v_ldc X kc_X8_151 dX8_roof_127 ?_
      refine v_aloadn X dX8_roof_129 rfl rfl ?_
      refine gf_X8_87 X dX8_roof_130 ?_
      refine v_isub X dX8_roof_133 ?_
      obtain ⟨er, eg⟩ := Prod.mk.inj (Option.some.inj h)
      exact v_iret X dX8_roof_134 er eg
def L_X8_row_65 (N : Nat) (z1 : Int32) (z2 : Int32) (z3 : Int32) : Nat → Int32 → GS → Option (Int32 × GS)
  | 0, _, _ => none
  | n + 1, y4, g => if (40 : Int32) ≤ y4 then some (y4, g) else bd1 (ix (((40 : Int32) * z1) + y4) 320) (fun jv14 => L_X8_row_65 N z1 z2 z3 n (y4 + 1) (g3 g 11 4 jv14 (0 : Int32)))
def F_X8_row (N : Nat) (x1 : Int32) (x2 : Int32) (x3 : Int32) (g : GS) : Option (Int32 × GS) := bd2 (F_X8_isRow N x1 (g3 g 10 0 0 (0 : Int32))) (fun rv3 gv2 => if rv3 = 0 then some ((-1000001 : Int32), gv2) else bd2 (F_X8_in N (x2.toInt64) (0 : Int64) (2 : Int64) gv2) (fun rv7 gv6 => if rv7 = 0 then some ((-1000001 : Int32), gv6) else if x3 ≤ (40 : Int32) then if 0 ≤ x3 then bd1 (ix x1 8) (fun jv11 => bd2 (L_X8_row_65 N x1 x2 x3 N (0 : Int32) (g3 (g3 (g3 gv6 10 0 1 (0 : Int32)) 11 2 jv11 x2) 11 3 jv11 x3)) (fun xv16 gv17 => some (x3, gv17))) else bd2 (F_X8_finding N (4 : Int32) (g3 gv6 10 0 1 (0 : Int32))) (fun rv21 gv20 => some (rv21, gv20)) else some ((-1000001 : Int32), gv6)))
set_option maxRecDepth 100000 in
set_option maxHeartbeats 4000000 in
theorem w_X8_row_65 {p : Program} {l : Launch} {e : Env} {s : State} {m : MethodId} {args : Array Value} {below : List Frame} {meth : Method} {c : Code} {D : va_G} {ad : Ky → Nat} {cy : Nat → ClassId} {r : Int32} {gq : GS} {N : Nat} (X : Cx p (rmd 2) s m args meth c RX8 cX8_row 5 (some .int) D ad cy) (z1 : Int32) (z2 : Int32) (z3 : Int32) : ∀ (n : Nat) (y4 : Int32) (g : GS) (y4' : Int32) (g' : GS), L_X8_row_65 N z1 z2 z3 n y4 g = some (y4', g') → Vy p l e (rmd 2) s m args below meth c 5 D ad cy (QI D ad cy below args s r gq) 91 [some (.ref (ad (8, 0, 0))), some (.int z1), some (.int z2), some (.int z3), some (.int y4')] [] g' → Vy p l e (rmd 2) s m args below meth c 5 D ad cy (QI D ad cy below args s r gq) 65 [some (.ref (ad (8, 0, 0))), some (.int z1), some (.int z2), some (.int z3), some (.int y4)] [] g := by
  intro n
  induction n with
  | zero => intro y4 g y4' g' h k; cases h
  | succ n ih =>
    intro y4 g y4' g' h k
    rw [L_X8_row_65] at h
    refine v_iload X dX8_row_65 rfl ?_
    refine v_bipush (v := 40) X dX8_row_67 (by decide) ?_
    refine v_icmp_ge X 91 dX8_row_69 (by decide) (fun cv13 => ?_) (fun cv13 => ?_)
    · replace h := (if_pos cv13).symm.trans h
      cases h
      exact k
    · replace h := (if_neg cv13).symm.trans h
      refine v_aloadn X dX8_row_72 rfl rfl ?_
      refine gf_X8_16 X dX8_row_73 ?_
      refine v_bipush (v := 40) X dX8_row_76 (by decide) ?_
      refine v_iloadn X dX8_row_78 rfl rfl ?_
      refine v_imul X dX8_row_79 ?_
      refine v_iload X dX8_row_80 rfl ?_
      refine v_iadd X dX8_row_82 ?_
      refine v_iconst (v := 0) X dX8_row_83 (by decide) ?_
      obtain ⟨jv14, qv15, h⟩ := bd1_some h
      obtain ⟨ejv14, ljv14⟩ := ix_spec qv15
      refine asM X (by decide +kernel) jv14 ejv14 ljv14 dX8_row_84 ?_
      refine v_iinc (v := (y4 + 1)) (lc' := [some (.ref (ad (8, 0, 0))), some (.int z1), some (.int z2), some (.int z3), some (.int (y4 + 1))]) X dX8_row_85 rfl rfl (by decide) rfl rfl ?_
      refine v_goto X 65 dX8_row_88 (by decide) ?_
      exact ih (y4 + 1) (g3 g 11 4 jv14 (0 : Int32)) _ _ h k
set_option maxRecDepth 100000 in
set_option maxHeartbeats 4000000 in
theorem c_X8_row (l : Launch) (D : va_G) (ad : Ky → Nat) (cy : Nat → ClassId) (hI : Inj ad) (N : Nat) (x1 : Int32) (x2 : Int32) (x3 : Int32) (g : GS) (r : Int32) (gq : GS) (h : F_X8_row N x1 x2 x3 g = some (r, gq)) : CtI l D ad cy yX8_row cX8_row 5 (some .int) 2 [.ref (ad (8, 0, 0)), .int x1, .int x2, .int x3] g r gq := by
  refine CtI.of 1 hI (by decide +kernel) rfl (Nat.le_of_ble_eq_true rfl) (fun p e s m args below meth c X => ?_)
  unfold F_X8_row at h
  show Vy _ _ _ _ _ _ _ _ _ _ _ _ _ _ _ 0 [some (.ref (ad (8, 0, 0))), some (.int x1), some (.int x2), some (.int x3), none] [] g
  refine v_aloadn X dX8_row_0 rfl rfl ?_
  refine v_iconst (v := 0) X dX8_row_1 (by decide) ?_
  refine pf_X8_50 X dX8_row_2 ?_
  refine v_iloadn X dX8_row_5 rfl rfl ?_
  obtain ⟨rv3, gv2, qv1, h⟩ := bd2_some h
  refine v_callSI (As := [.int x1]) (rest := []) X (c_X8_isRow l D ad cy X.2.2.2.2.2.2.2.2.1 N x1 (g3 g 10 0 0 (0 : Int32)) rv3 gv2  qv1) mw_X8_isRow ml_X8_64 (by decide) rfl rfl (Nat.le_of_ble_eq_true rfl) dX8_row_6 ?_
  refine v_if_eq X 30 dX8_row_9 (by decide) (fun cv4 => ?_) (fun cv4 => ?_)
  · replace h := (if_pos cv4).symm.trans h
    refine v_ldc X kc_X8_70 dX8_row_30 ?_
    obtain ⟨er, eg⟩ := Prod.mk.inj (Option.some.inj h)
    exact v_iret X dX8_row_32 er eg
  · replace h := (if_neg cv4).symm.trans h
    refine v_iloadn X dX8_row_12 rfl rfl ?_
    refine v_i2l X dX8_row_13 ?_
    refine v_lconst (v := 0) X dX8_row_14 (by decide) ?_
    refine v_ldc2 X kl_X8_68 dX8_row_15 ?_
    obtain ⟨rv7, gv6, qv5, h⟩ := bd2_some h
    refine v_callSI (As := [.long (x2.toInt64), .long (0 : Int64), .long (2 : Int64)]) (rest := []) X (c_X8_in l D ad cy X.2.2.2.2.2.2.2.2.1 N (x2.toInt64) (0 : Int64) (2 : Int64) gv2 rv7 gv6  qv5) mw_X8_in ml_X8_60 (by decide) rfl rfl (Nat.le_of_ble_eq_true rfl) dX8_row_18 ?_
    refine v_if_eq X 30 dX8_row_21 (by decide) (fun cv8 => ?_) (fun cv8 => ?_)
    · replace h := (if_pos cv8).symm.trans h
      refine v_ldc X kc_X8_70 dX8_row_30 ?_
      obtain ⟨er, eg⟩ := Prod.mk.inj (Option.some.inj h)
      exact v_iret X dX8_row_32 er eg
    · replace h := (if_neg cv8).symm.trans h
      refine v_iloadn X dX8_row_24 rfl rfl ?_
      refine v_bipush (v := 40) X dX8_row_25 (by decide) ?_
      refine v_icmp_le X 33 dX8_row_27 (by decide) (fun cv9 => ?_) (fun cv9 => ?_)
      · replace h := (if_pos cv9).symm.trans h
        refine v_aloadn X dX8_row_33 rfl rfl ?_
        refine v_iconst (v := 0) X dX8_row_34 (by decide) ?_
        refine pf_X8_54 X dX8_row_35 ?_
        refine v_iloadn X dX8_row_38 rfl rfl ?_
        refine v_if_ge X 48 dX8_row_39 (by decide) (fun cv10 => ?_) (fun cv10 => ?_)
        · replace h := (if_pos cv10).symm.trans h
          refine v_aloadn X dX8_row_48 rfl rfl ?_
          refine gf_X8_7 X dX8_row_49 ?_
          refine v_iloadn X dX8_row_52 rfl rfl ?_
          refine v_iloadn X dX8_row_53 rfl rfl ?_
          obtain ⟨jv11, qv12, h⟩ := bd1_some h
          obtain ⟨ejv11, ljv11⟩ := ix_spec qv12
          refine asM X (by decide +kernel) jv11 ejv11 ljv11 dX8_row_54 ?_
          refine v_aloadn X dX8_row_55 rfl rfl ?_
          refine gf_X8_13 X dX8_row_56 ?_
          refine v_iloadn X dX8_row_59 rfl rfl ?_
          refine v_iloadn X dX8_row_60 rfl rfl ?_
          refine asM X (by decide +kernel) jv11 ejv11 ljv11 dX8_row_61 ?_
          refine v_iconst (v := 0) X dX8_row_62 (by decide) ?_
          refine v_istore (lc' := [some (.ref (ad (8, 0, 0))), some (.int x1), some (.int x2), some (.int x3), some (.int (0 : Int32))]) X dX8_row_63 (by decide) rfl rfl ?_
          obtain ⟨xv16, gv17, qv18, h⟩ := bd2_some h
          refine w_X8_row_65 X x1 x2 x3 N (0 : Int32) (g3 (g3 (g3 gv6 10 0 1 (0 : Int32)) 11 2 jv11 x2) 11 3 jv11 x3) xv16 gv17 qv18 ?_
          refine v_iloadn X dX8_row_91 rfl rfl ?_
          obtain ⟨er, eg⟩ := Prod.mk.inj (Option.some.inj h)
          exact v_iret X dX8_row_92 er eg
        · replace h := (if_neg cv10).symm.trans h
          refine v_aloadn X dX8_row_42 rfl rfl ?_
          refine v_iconst (v := 4) X dX8_row_43 (by decide) ?_
          obtain ⟨rv21, gv20, qv19, h⟩ := bd2_some h
          refine v_callVI (As := [.int (4 : Int32)]) (rest := []) X (c_X8_finding l D ad cy X.2.2.2.2.2.2.2.2.1 N (4 : Int32) (g3 gv6 10 0 1 (0 : Int32)) rv21 gv20  qv19) mw_X8_finding ml_X8_71 (by decide) (by decide +kernel) (by decide) rfl rfl rfl rfl (Nat.le_of_ble_eq_true rfl) dX8_row_44 ?_
          obtain ⟨er, eg⟩ := Prod.mk.inj (Option.some.inj h)
          exact v_iret X dX8_row_47 er eg
      · replace h := (if_neg cv9).symm.trans h
        refine v_ldc X kc_X8_70 dX8_row_30 ?_
        obtain ⟨er, eg⟩ := Prod.mk.inj (Option.some.inj h)
        exact v_iret X dX8_row_32 er eg
def F_X8_rowFound (N : Nat) (x1 : Int32) (x2 : Int32) (x3 : Int32) (g : GS) : Option (Int32 × GS) := bd1 (ix x1 8) (fun jv1 => if 0 ≤ (g 11 2 jv1) then if x2 < 0 then bd2 (F_X8_finding N (2 : Int32) g) (fun rv7 gv6 => some (rv7, gv6)) else if (lg_cmp ((x2.toInt64) + (x3.toInt64)) ((g 11 3 jv1).toInt64)) ≤ 0 then some ((0 : Int32), (g3 g 10 0 1 (0 : Int32))) else bd2 (F_X8_finding N (2 : Int32) g) (fun rv11 gv10 => some (rv11, gv10)) else bd2 (F_X8_finding N (1 : Int32) g) (fun rv14 gv13 => some (rv14, gv13)))
set_option maxRecDepth 100000 in
set_option maxHeartbeats 4000000 in
theorem c_X8_rowFound (l : Launch) (D : va_G) (ad : Ky → Nat) (cy : Nat → ClassId) (hI : Inj ad) (N : Nat) (x1 : Int32) (x2 : Int32) (x3 : Int32) (g : GS) (r : Int32) (gq : GS) (h : F_X8_rowFound N x1 x2 x3 g = some (r, gq)) : CtI l D ad cy yX8_rowFound cX8_rowFound 4 (some .int) 1 [.ref (ad (8, 0, 0)), .int x1, .int x2, .int x3] g r gq := by
  refine CtI.of 0 hI (by decide +kernel) rfl (Nat.le_of_ble_eq_true rfl) (fun p e s m args below meth c X => ?_)
  unfold F_X8_rowFound at h
  show Vy _ _ _ _ _ _ _ _ _ _ _ _ _ _ _ 0 [some (.ref (ad (8, 0, 0))), some (.int x1), some (.int x2), some (.int x3)] [] g
  refine v_aloadn X dX8_rowFound_0 rfl rfl ?_
  refine gf_X8_7 X dX8_rowFound_1 ?_
  refine v_iloadn X dX8_rowFound_4 rfl rfl ?_
  obtain ⟨jv1, qv2, h⟩ := bd1_some h
  obtain ⟨ejv1, ljv1⟩ := ix_spec qv2
  refine alM X (by decide +kernel) jv1 ejv1 ljv1 dX8_rowFound_5 ?_
  refine v_if_ge X 15 dX8_rowFound_6 (by decide) (fun cv3 => ?_) (fun cv3 => ?_)
  · replace h := (if_pos cv3).symm.trans h
    refine v_iloadn X dX8_rowFound_15 rfl rfl ?_
    refine v_if_lt X 35 dX8_rowFound_16 (by decide) (fun cv4 => ?_) (fun cv4 => ?_)
    · replace h := (if_pos cv4).symm.trans h
      refine v_aloadn X dX8_rowFound_35 rfl rfl ?_
      refine v_iconst (v := 2) X dX8_rowFound_36 (by decide) ?_
      obtain ⟨rv7, gv6, qv5, h⟩ := bd2_some h
      refine v_callVI (As := [.int (2 : Int32)]) (rest := []) X (c_X8_finding l D ad cy X.2.2.2.2.2.2.2.2.1 N (2 : Int32) g rv7 gv6  qv5) mw_X8_finding ml_X8_71 (by decide) (by decide +kernel) (by decide) rfl rfl rfl rfl (Nat.le_of_ble_eq_true rfl) dX8_rowFound_37 ?_
      obtain ⟨er, eg⟩ := Prod.mk.inj (Option.some.inj h)
      exact v_iret X dX8_rowFound_40 er eg
    · replace h := (if_neg cv4).symm.trans h
      refine v_iloadn X dX8_rowFound_19 rfl rfl ?_
      refine v_i2l X dX8_rowFound_20 ?_
      refine v_iloadn X dX8_rowFound_21 rfl rfl ?_
      refine v_i2l X dX8_rowFound_22 ?_
      refine v_ladd X dX8_rowFound_23 ?_
      refine v_aloadn X dX8_rowFound_24 rfl rfl ?_
      refine gf_X8_13 X dX8_rowFound_25 ?_
      refine v_iloadn X dX8_rowFound_28 rfl rfl ?_
      refine alM X (by decide +kernel) jv1 ejv1 ljv1 dX8_rowFound_29 ?_
      refine v_i2l X dX8_rowFound_30 ?_
      refine v_lcmp X dX8_rowFound_31 ?_
      refine v_if_le X 41 dX8_rowFound_32 (by decide) (fun cv8 => ?_) (fun cv8 => ?_)
      · replace h := (if_pos cv8).symm.trans h
        refine v_aloadn X dX8_rowFound_41 rfl rfl ?_
        refine v_iconst (v := 0) X dX8_rowFound_42 (by decide) ?_
        refine pf_X8_54 X dX8_rowFound_43 ?_
        refine v_iconst (v := 0) X dX8_rowFound_46 (by decide) ?_
        obtain ⟨er, eg⟩ := Prod.mk.inj (Option.some.inj h)
        exact v_iret X dX8_rowFound_47 er eg
      · replace h := (if_neg cv8).symm.trans h
        refine v_aloadn X dX8_rowFound_35 rfl rfl ?_
        refine v_iconst (v := 2) X dX8_rowFound_36 (by decide) ?_
        obtain ⟨rv11, gv10, qv9, h⟩ := bd2_some h
        refine v_callVI (As := [.int (2 : Int32)]) (rest := []) X (c_X8_finding l D ad cy X.2.2.2.2.2.2.2.2.1 N (2 : Int32) g rv11 gv10  qv9) mw_X8_finding ml_X8_71 (by decide) (by decide +kernel) (by decide) rfl rfl rfl rfl (Nat.le_of_ble_eq_true rfl) dX8_rowFound_37 ?_
        obtain ⟨er, eg⟩ := Prod.mk.inj (Option.some.inj h)
        exact v_iret X dX8_rowFound_40 er eg
  · replace h := (if_neg cv3).symm.trans h
    refine v_aloadn X dX8_rowFound_9 rfl rfl ?_
    refine v_iconst (v := 1) X dX8_rowFound_10 (by decide) ?_
    obtain ⟨rv14, gv13, qv12, h⟩ := bd2_some h
    refine v_callVI (As := [.int (1 : Int32)]) (rest := []) X (c_X8_finding l D ad cy X.2.2.2.2.2.2.2.2.1 N (1 : Int32) g rv14 gv13  qv12) mw_X8_finding ml_X8_71 (by decide) (by decide +kernel) (by decide) rfl rfl rfl rfl (Nat.le_of_ble_eq_true rfl) dX8_rowFound_11 ?_
    obtain ⟨er, eg⟩ := Prod.mk.inj (Option.some.inj h)
    exact v_iret X dX8_rowFound_14 er eg
def F_X8_send (N : Nat) (x1 : Int32) (x2 : Int32) (g : GS) : Option (Int32 × GS) := bd2 (F_X8_isPaper N x1 (g3 g 10 0 0 (0 : Int32))) (fun rv3 gv2 => if rv3 = 0 then some ((-1000001 : Int32), gv2) else bd2 (F_X8_in N (x2.toInt64) (1 : Int64) (40 : Int64) gv2) (fun rv7 gv6 => if rv7 = 0 then some ((-1000001 : Int32), gv6) else bd2 (F_X8_of N 5 x1 (3 : Int32) gv6) (fun rv11 gv10 => if rv11 = 0 then bd1 (F_X8_keep N  gv10) (fun gv14 => bd1 (F_X8_goesUp N 5 x1 x2 gv14) (fun gv16 => bd2 (F_X8_those N 5 (1 : Int32) gv16) (fun rv19 gv18 => some (rv19, gv18)))) else some ((-1000002 : Int32), gv10))))
set_option maxRecDepth 100000 in
set_option maxHeartbeats 4000000 in
theorem c_X8_send (l : Launch) (D : va_G) (ad : Ky → Nat) (cy : Nat → ClassId) (hI : Inj ad) (N : Nat) (x1 : Int32) (x2 : Int32) (g : GS) (r : Int32) (gq : GS) (h : F_X8_send N x1 x2 g = some (r, gq)) : CtI l D ad cy yX8_send cX8_send 3 (some .int) 2 [.ref (ad (8, 0, 0)), .int x1, .int x2] g r gq := by
  refine CtI.of 0 hI (by decide +kernel) rfl (Nat.le_of_ble_eq_true rfl) (fun p e s m args below meth c X => ?_)
  unfold F_X8_send at h
  show Vy _ _ _ _ _ _ _ _ _ _ _ _ _ _ _ 0 [some (.ref (ad (8, 0, 0))), some (.int x1), some (.int x2)] [] g
  refine v_aloadn X dX8_send_0 rfl rfl ?_
  refine v_iconst (v := 0) X dX8_send_1 (by decide) ?_
  refine pf_X8_50 X dX8_send_2 ?_
  refine v_aloadn X dX8_send_5 rfl rfl ?_
  refine v_iloadn X dX8_send_6 rfl rfl ?_
  obtain ⟨rv3, gv2, qv1, h⟩ := bd2_some h
  refine v_callVI (As := [.int x1]) (rest := []) X (c_X8_isPaper l D ad cy X.2.2.2.2.2.2.2.2.1 N x1 (g3 g 10 0 0 (0 : Int32)) rv3 gv2  qv1) mw_X8_isPaper ml_X8_208 (by decide) (by decide +kernel) (by decide) rfl rfl rfl rfl (Nat.le_of_ble_eq_true rfl) dX8_send_7 ?_
  refine v_if_eq X 25 dX8_send_10 (by decide) (fun cv4 => ?_) (fun cv4 => ?_)
  · replace h := (if_pos cv4).symm.trans h
    refine v_ldc X kc_X8_70 dX8_send_25 ?_
    obtain ⟨er, eg⟩ := Prod.mk.inj (Option.some.inj h)
    exact v_iret X dX8_send_27 er eg
  · replace h := (if_neg cv4).symm.trans h
    refine v_iloadn X dX8_send_13 rfl rfl ?_
    refine v_i2l X dX8_send_14 ?_
    refine v_lconst (v := 1) X dX8_send_15 (by decide) ?_
    refine v_ldc2 X kl_X8_211 dX8_send_16 ?_
    obtain ⟨rv7, gv6, qv5, h⟩ := bd2_some h
    refine v_callSI (As := [.long (x2.toInt64), .long (1 : Int64), .long (40 : Int64)]) (rest := []) X (c_X8_in l D ad cy X.2.2.2.2.2.2.2.2.1 N (x2.toInt64) (1 : Int64) (40 : Int64) gv2 rv7 gv6  qv5) mw_X8_in ml_X8_60 (by decide) rfl rfl (Nat.le_of_ble_eq_true rfl) dX8_send_19 ?_
    refine v_if_ne X 28 dX8_send_22 (by decide) (fun cv8 => ?_) (fun cv8 => ?_)
    · replace h := (if_neg cv8).symm.trans h
      refine v_aloadn X dX8_send_28 rfl rfl ?_
      refine gf_X8_19 X dX8_send_29 ?_
      refine v_iloadn X dX8_send_32 rfl rfl ?_
      refine v_iconst (v := 3) X dX8_send_33 (by decide) ?_
      obtain ⟨rv11, gv10, qv9, h⟩ := bd2_some h
      refine v_callSI (As := [.ref (ad (9, 11, 5)), .int x1, .int (3 : Int32)]) (rest := []) X (c_X8_of l D ad cy X.2.2.2.2.2.2.2.2.1 N 5 x1 (3 : Int32) gv6 rv11 gv10 (by decide +kernel) qv9) mw_X8_of ml_X8_155 (by decide) rfl rfl (Nat.le_of_ble_eq_true rfl) dX8_send_34 ?_
      refine v_if_eq X 43 dX8_send_37 (by decide) (fun cv12 => ?_) (fun cv12 => ?_)
      · replace h := (if_pos cv12).symm.trans h
        refine v_aloadn X dX8_send_43 rfl rfl ?_
        obtain ⟨gv14, qv13, h⟩ := bd1_some h
        refine v_callVV (As := []) (rest := []) X (c_X8_keep l D ad cy X.2.2.2.2.2.2.2.2.1 N  gv10 gv14  qv13) mw_X8_keep ml_X8_201 (by decide) (by decide +kernel) (by decide) rfl rfl rfl rfl (Nat.le_of_ble_eq_true rfl) dX8_send_44 ?_
        refine v_aloadn X dX8_send_47 rfl rfl ?_
        refine gf_X8_19 X dX8_send_48 ?_
        refine v_iloadn X dX8_send_51 rfl rfl ?_
        refine v_iloadn X dX8_send_52 rfl rfl ?_
        obtain ⟨gv16, qv15, h⟩ := bd1_some h
        refine v_callSV (As := [.ref (ad (9, 11, 5)), .int x1, .int x2]) (rest := []) X (c_X8_goesUp l D ad cy X.2.2.2.2.2.2.2.2.1 N 5 x1 x2 gv14 gv16 (by decide +kernel) qv15) mw_X8_goesUp ml_X8_213 (by decide) rfl rfl (Nat.le_of_ble_eq_true rfl) dX8_send_53 ?_
        refine v_aloadn X dX8_send_56 rfl rfl ?_
        refine gf_X8_19 X dX8_send_57 ?_
        refine v_iconst (v := 1) X dX8_send_60 (by decide) ?_
        obtain ⟨rv19, gv18, qv17, h⟩ := bd2_some h
        refine v_callSI (As := [.ref (ad (9, 11, 5)), .int (1 : Int32)]) (rest := []) X (c_X8_those l D ad cy X.2.2.2.2.2.2.2.2.1 N 5 (1 : Int32) gv16 rv19 gv18 (by decide +kernel) qv17) mw_X8_those ml_X8_217 (by decide) rfl rfl (Nat.le_of_ble_eq_true rfl) dX8_send_61 ?_
        obtain ⟨er, eg⟩ := Prod.mk.inj (Option.some.inj h)
        exact v_iret X dX8_send_64 er eg
      · replace h := (if_neg cv12).symm.trans h
        refine v_ldc X kc_X8_198 dX8_send_40 ?_
        obtain ⟨er, eg⟩ := Prod.mk.inj (Option.some.inj h)
        exact v_iret X dX8_send_42 er eg
    · replace h := (if_pos cv8).symm.trans h
      refine v_ldc X kc_X8_70 dX8_send_25 ?_
      obtain ⟨er, eg⟩ := Prod.mk.inj (Option.some.inj h)
      exact v_iret X dX8_send_27 er eg
def L_X8_sends_97 (N : Nat) (z1 : Int32) (z2 : Int32) (z3 : Int32) (z4 : Int32) (z5 : Int32) (z6 : Int32) : Nat → Int32 → GS → Option (Int32 × GS)
  | 0, _, _ => none
  | n + 1, y7, g => bd1 (ix (0 : Int32) 53) (fun jv26 => if (g 11 5 jv26) ≤ y7 then some (y7, g) else bd2 (F_X8_has N z6 y7 g) (fun rv31 gv30 => if rv31 = 0 then L_X8_sends_97 N z1 z2 z3 z4 z5 z6 n (y7 + 1) gv30 else bd1 (F_X8_goesUp N 7 y7 z2 gv30) (fun gv34 => L_X8_sends_97 N z1 z2 z3 z4 z5 z6 n (y7 + 1) gv34)))
def L_X8_sends_61 (N : Nat) (z1 : Int32) (z2 : Int32) (z3 : Int32) : Nat → Int32 → Int32 → Int32 → GS → Option (Int32 × Int32 × Int32 × GS)
  | 0, _, _, _, _ => none
  | n + 1, y4, y5, y6, g => bd1 (ix (0 : Int32) 53) (fun jv17 => if ((1 : Int32) <<< ((g 11 5 jv17) &&& 31)) ≤ y6 then some (y4, y5, y6, g) else bd2 (F_X8_those N 5 (0 : Int32) g) (fun rv22 gv21 => if (y6 &&& (rv22 ^^^ (-1 : Int32))) = 0 then bd1 (F_X8_layThen N  gv21) (fun gv25 => bd2 (L_X8_sends_97 N z1 z2 z3 y4 y5 y6 N (0 : Int32) gv25) (fun xv35 gv36 => bd1 (F_X8_hoursOf N 7 z1 gv36) (fun gv39 => bd2 (F_X8_policies N 7 gv39) (fun rv42 gv41 => bd2 (F_X8_bits N rv42 gv41) (fun rv45 gv44 => if y5 < rv45 then L_X8_sends_61 N z1 z2 z3 n y6 rv45 (y6 + 1) gv44 else if rv45 = y5 then bd2 (F_X8_bits N y6 gv44) (fun rv50 gv49 => bd2 (F_X8_bits N y4 gv49) (fun rv53 gv52 => if rv53 ≤ rv50 then L_X8_sends_61 N z1 z2 z3 n y4 y5 (y6 + 1) gv52 else L_X8_sends_61 N z1 z2 z3 n y6 rv45 (y6 + 1) gv52)) else L_X8_sends_61 N z1 z2 z3 n y4 y5 (y6 + 1) gv44))))) else L_X8_sends_61 N z1 z2 z3 n y4 y5 (y6 + 1) gv21))
def F_X8_sends (N : Nat) (x1 : Int32) (x2 : Int32) (x3 : Int32) (g : GS) : Option (Int32 × GS) := bd2 (F_X8_isThere N  (g3 g 10 0 0 (0 : Int32))) (fun rv3 gv2 => if rv3 = 0 then some ((-1000002 : Int32), gv2) else bd2 (F_X8_in N (x1.toInt64) (1 : Int64) (30 : Int64) gv2) (fun rv7 gv6 => if rv7 = 0 then some ((-1000001 : Int32), gv6) else bd2 (F_X8_in N (x2.toInt64) (1 : Int64) (40 : Int64) gv6) (fun rv11 gv10 => if rv11 = 0 then some ((-1000001 : Int32), gv10) else bd2 (F_X8_in N (x3.toInt64) (0 : Int64) (1 : Int64) gv10) (fun rv15 gv14 => if rv15 = 0 then some ((-1000001 : Int32), gv14) else bd4 (L_X8_sends_61 N x1 x2 x3 N (0 : Int32) (-1 : Int32) (0 : Int32) gv14) (fun xv55 xv56 xv57 gv58 => if x3 = 0 then some (xv55, gv58) else some (xv56, gv58))))))
set_option maxRecDepth 100000 in
set_option maxHeartbeats 4000000 in
theorem w_X8_sends_97 {p : Program} {l : Launch} {e : Env} {s : State} {m : MethodId} {args : Array Value} {below : List Frame} {meth : Method} {c : Code} {D : va_G} {ad : Ky → Nat} {cy : Nat → ClassId} {r : Int32} {gq : GS} {N : Nat} (X : Cx p (rmd 7) s m args meth c RX8 cX8_sends 8 (some .int) D ad cy) (z1 : Int32) (z2 : Int32) (z3 : Int32) (z4 : Int32) (z5 : Int32) (z6 : Int32) : ∀ (n : Nat) (y7 : Int32) (g : GS) (y7' : Int32) (g' : GS), L_X8_sends_97 N z1 z2 z3 z4 z5 z6 n y7 g = some (y7', g') → Vy p l e (rmd 7) s m args below meth c 8 D ad cy (QI D ad cy below args s r gq) 134 [some (.ref (ad (8, 0, 0))), some (.int z1), some (.int z2), some (.int z3), some (.int z4), some (.int z5), some (.int z6), some (.int y7')] [] g' → Vy p l e (rmd 7) s m args below meth c 8 D ad cy (QI D ad cy below args s r gq) 97 [some (.ref (ad (8, 0, 0))), some (.int z1), some (.int z2), some (.int z3), some (.int z4), some (.int z5), some (.int z6), some (.int y7)] [] g := by
  intro n
  induction n with
  | zero => intro y7 g y7' g' h k; cases h
  | succ n ih =>
    intro y7 g y7' g' h k
    rw [L_X8_sends_97] at h
    refine v_iload X dX8_sends_97 rfl ?_
    refine v_aloadn X dX8_sends_99 rfl rfl ?_
    refine gf_X8_19 X dX8_sends_100 ?_
    refine v_iconst (v := 0) X dX8_sends_103 (by decide) ?_
    obtain ⟨jv26, qv27, h⟩ := bd1_some h
    obtain ⟨ejv26, ljv26⟩ := ix_spec qv27
    refine alM X (by decide +kernel) jv26 ejv26 ljv26 dX8_sends_104 ?_
    refine v_icmp_ge X 134 dX8_sends_105 (by decide) (fun cv28 => ?_) (fun cv28 => ?_)
    · replace h := (if_pos cv28).symm.trans h
      cases h
      exact k
    · replace h := (if_neg cv28).symm.trans h
      refine v_iload X dX8_sends_108 rfl ?_
      refine v_iload X dX8_sends_110 rfl ?_
      obtain ⟨rv31, gv30, qv29, h⟩ := bd2_some h
      refine v_callSI (As := [.int z6, .int y7]) (rest := []) X (c_X8_has l D ad cy X.2.2.2.2.2.2.2.2.1 N z6 y7 g rv31 gv30  qv29) mw_X8_has ml_X8_240 (by decide) rfl rfl (Nat.le_of_ble_eq_true rfl) dX8_sends_112 ?_
      refine v_if_eq X 128 dX8_sends_115 (by decide) (fun cv32 => ?_) (fun cv32 => ?_)
      · replace h := (if_pos cv32).symm.trans h
        refine v_iinc (v := (y7 + 1)) (lc' := [some (.ref (ad (8, 0, 0))), some (.int z1), some (.int z2), some (.int z3), some (.int z4), some (.int z5), some (.int z6), some (.int (y7 + 1))]) X dX8_sends_128 rfl rfl (by decide) rfl rfl ?_
        refine v_goto X 97 dX8_sends_131 (by decide) ?_
        exact ih (y7 + 1) gv30 _ _ h k
      · replace h := (if_neg cv32).symm.trans h
        refine v_aloadn X dX8_sends_118 rfl rfl ?_
        refine gf_X8_25 X dX8_sends_119 ?_
        refine v_iload X dX8_sends_122 rfl ?_
        refine v_iloadn X dX8_sends_124 rfl rfl ?_
        obtain ⟨gv34, qv33, h⟩ := bd1_some h
        refine v_callSV (As := [.ref (ad (9, 11, 7)), .int y7, .int z2]) (rest := []) X (c_X8_goesUp l D ad cy X.2.2.2.2.2.2.2.2.1 N 7 y7 z2 gv30 gv34 (by decide +kernel) qv33) mw_X8_goesUp ml_X8_213 (by decide) rfl rfl (Nat.le_of_ble_eq_true rfl) dX8_sends_125 ?_
        refine v_iinc (v := (y7 + 1)) (lc' := [some (.ref (ad (8, 0, 0))), some (.int z1), some (.int z2), some (.int z3), some (.int z4), some (.int z5), some (.int z6), some (.int (y7 + 1))]) X dX8_sends_128 rfl rfl (by decide) rfl rfl ?_
        refine v_goto X 97 dX8_sends_131 (by decide) ?_
        exact ih (y7 + 1) gv34 _ _ h k
set_option maxRecDepth 100000 in
set_option maxHeartbeats 4000000 in
theorem w_X8_sends_61 {p : Program} {l : Launch} {e : Env} {s : State} {m : MethodId} {args : Array Value} {below : List Frame} {meth : Method} {c : Code} {D : va_G} {ad : Ky → Nat} {cy : Nat → ClassId} {r : Int32} {gq : GS} {N : Nat} (X : Cx p (rmd 7) s m args meth c RX8 cX8_sends 8 (some .int) D ad cy) (z1 : Int32) (z2 : Int32) (z3 : Int32) : ∀ (n : Nat) (y4 : Int32) (y5 : Int32) (y6 : Int32) (g : GS) (y4' : Int32) (y5' : Int32) (y6' : Int32) (g' : GS), L_X8_sends_61 N z1 z2 z3 n y4 y5 y6 g = some (y4', y5', y6', g') → Vy p l e (rmd 7) s m args below meth c 8 D ad cy (QI D ad cy below args s r gq) 196 [some (.ref (ad (8, 0, 0))), some (.int z1), some (.int z2), some (.int z3), some (.int y4'), some (.int y5'), some (.int y6'), none] [] g' → Vy p l e (rmd 7) s m args below meth c 8 D ad cy (QI D ad cy below args s r gq) 61 [some (.ref (ad (8, 0, 0))), some (.int z1), some (.int z2), some (.int z3), some (.int y4), some (.int y5), some (.int y6), none] [] g := by
  intro n
  induction n with
  | zero => intro y4 y5 y6 g y4' y5' y6' g' h k; cases h
  | succ n ih =>
    intro y4 y5 y6 g y4' y5' y6' g' h k
    rw [L_X8_sends_61] at h
    refine v_iload X dX8_sends_61 rfl ?_
    refine v_iconst (v := 1) X dX8_sends_63 (by decide) ?_
    refine v_aloadn X dX8_sends_64 rfl rfl ?_
    refine gf_X8_19 X dX8_sends_65 ?_
    refine v_iconst (v := 0) X dX8_sends_68 (by decide) ?_
    obtain ⟨jv17, qv18, h⟩ := bd1_some h
    obtain ⟨ejv17, ljv17⟩ := ix_spec qv18
    refine alM X (by decide +kernel) jv17 ejv17 ljv17 dX8_sends_69 ?_
    refine v_ishl X dX8_sends_70 ?_
    refine v_icmp_ge X 196 dX8_sends_71 (by decide) (fun cv19 => ?_) (fun cv19 => ?_)
    · replace h := (if_pos cv19).symm.trans h
      cases h
      exact k
    · replace h := (if_neg cv19).symm.trans h
      refine v_iload X dX8_sends_74 rfl ?_
      refine v_aloadn X dX8_sends_76 rfl rfl ?_
      refine gf_X8_19 X dX8_sends_77 ?_
      refine v_iconst (v := 0) X dX8_sends_80 (by decide) ?_
      obtain ⟨rv22, gv21, qv20, h⟩ := bd2_some h
      refine v_callSI (As := [.ref (ad (9, 11, 5)), .int (0 : Int32)]) (rest := [.int y6]) X (c_X8_those l D ad cy X.2.2.2.2.2.2.2.2.1 N 5 (0 : Int32) g rv22 gv21 (by decide +kernel) qv20) mw_X8_those ml_X8_217 (by decide) rfl rfl (Nat.le_of_ble_eq_true rfl) dX8_sends_81 ?_
      refine v_iconst (v := -1) X dX8_sends_84 (by decide) ?_
      refine v_ixor X dX8_sends_85 ?_
      refine v_iand X dX8_sends_86 ?_
      refine v_if_ne X 190 dX8_sends_87 (by decide) (fun cv23 => ?_) (fun cv23 => ?_)
      · replace h := (if_neg cv23).symm.trans h
        refine v_iinc (v := (y6 + 1)) (lc' := [some (.ref (ad (8, 0, 0))), some (.int z1), some (.int z2), some (.int z3), some (.int y4), some (.int y5), some (.int (y6 + 1)), none]) X dX8_sends_190 rfl rfl (by decide) rfl rfl ?_
        refine v_goto X 61 dX8_sends_193 (by decide) ?_
        exact ih y4 y5 (y6 + 1) gv21 _ _ _ _ h k
      · replace h := (if_pos cv23).symm.trans h
        refine v_aloadn X dX8_sends_90 rfl rfl ?_
        obtain ⟨gv25, qv24, h⟩ := bd1_some h
        refine v_callVV (As := []) (rest := []) X (c_X8_layThen l D ad cy X.2.2.2.2.2.2.2.2.1 N  gv21 gv25  qv24) mw_X8_layThen ml_X8_232 (by decide) (by decide +kernel) (by decide) rfl rfl rfl rfl (Nat.le_of_ble_eq_true rfl) dX8_sends_91 ?_
        refine v_iconst (v := 0) X dX8_sends_94 (by decide) ?_
        refine v_istore (lc' := [some (.ref (ad (8, 0, 0))), some (.int z1), some (.int z2), some (.int z3), some (.int y4), some (.int y5), some (.int y6), some (.int (0 : Int32))]) X dX8_sends_95 (by decide) rfl rfl ?_
        obtain ⟨xv35, gv36, qv37, h⟩ := bd2_some h
        refine w_X8_sends_97 X z1 z2 z3 y4 y5 y6 N (0 : Int32) gv25 xv35 gv36 qv37 ?_
        refine v_aloadn X dX8_sends_134 rfl rfl ?_
        refine v_aloadn X dX8_sends_135 rfl rfl ?_
        refine gf_X8_25 X dX8_sends_136 ?_
        refine v_iloadn X dX8_sends_139 rfl rfl ?_
        obtain ⟨gv39, qv38, h⟩ := bd1_some h
        refine v_callVV (As := [.ref (ad (9, 11, 7)), .int z1]) (rest := []) X (c_X8_hoursOf l D ad cy X.2.2.2.2.2.2.2.2.1 N 7 z1 gv36 gv39 (by decide +kernel) qv38) mw_X8_hoursOf ml_X8_235 (by decide) (by decide +kernel) (by decide) rfl rfl rfl rfl (Nat.le_of_ble_eq_true rfl) dX8_sends_140 ?_
        refine v_aloadn X dX8_sends_143 rfl rfl ?_
        refine gf_X8_25 X dX8_sends_144 ?_
        obtain ⟨rv42, gv41, qv40, h⟩ := bd2_some h
        refine v_callSI (As := [.ref (ad (9, 11, 7))]) (rest := []) X (c_X8_policies l D ad cy X.2.2.2.2.2.2.2.2.1 N 7 gv39 rv42 gv41 (by decide +kernel) qv40) mw_X8_policies ml_X8_204 (by decide) rfl rfl (Nat.le_of_ble_eq_true rfl) dX8_sends_147 ?_
        obtain ⟨rv45, gv44, qv43, h⟩ := bd2_some h
        refine v_callSI (As := [.int rv42]) (rest := []) X (c_X8_bits l D ad cy X.2.2.2.2.2.2.2.2.1 N rv42 gv41 rv45 gv44  qv43) mw_X8_bits ml_X8_244 (by decide) rfl rfl (Nat.le_of_ble_eq_true rfl) dX8_sends_150 ?_
        refine v_istore (lc' := [some (.ref (ad (8, 0, 0))), some (.int z1), some (.int z2), some (.int z3), some (.int y4), some (.int y5), some (.int y6), some (.int rv45)]) X dX8_sends_153 (by decide) rfl rfl ?_
        refine v_iload X dX8_sends_155 rfl ?_
        refine v_iload X dX8_sends_157 rfl ?_
        refine v_icmp_gt X 182 dX8_sends_159 (by decide) (fun cv46 => ?_) (fun cv46 => ?_)
        · replace h := (if_pos cv46).symm.trans h
          refine v_iload X dX8_sends_182 rfl ?_
          refine v_istore (lc' := [some (.ref (ad (8, 0, 0))), some (.int z1), some (.int z2), some (.int z3), some (.int y4), some (.int rv45), some (.int y6), some (.int rv45)]) X dX8_sends_184 (by decide) rfl rfl ?_
          refine v_iload X dX8_sends_186 rfl ?_
          refine v_istore (lc' := [some (.ref (ad (8, 0, 0))), some (.int z1), some (.int z2), some (.int z3), some (.int y6), some (.int rv45), some (.int y6), some (.int rv45)]) X dX8_sends_188 (by decide) rfl rfl ?_
          refine v_iinc (v := (y6 + 1)) (lc' := [some (.ref (ad (8, 0, 0))), some (.int z1), some (.int z2), some (.int z3), some (.int y6), some (.int rv45), some (.int (y6 + 1)), some (.int rv45)]) X dX8_sends_190 rfl rfl (by decide) rfl rfl ?_
          refine v_goto X 61 dX8_sends_193 (by decide) ?_
          refine v_weak (lc2 := [some (.ref (ad (8, 0, 0))), some (.int z1), some (.int z2), some (.int z3), some (.int y6), some (.int rv45), some (.int (y6 + 1)), none]) ⟨rfl, rfl, rfl, rfl, rfl, rfl, rfl, trivial⟩ ?_
          exact ih y6 rv45 (y6 + 1) gv44 _ _ _ _ h k
        · replace h := (if_neg cv46).symm.trans h
          refine v_iload X dX8_sends_162 rfl ?_
          refine v_iload X dX8_sends_164 rfl ?_
          refine v_icmp_ne X 190 dX8_sends_166 (by decide) (fun cv47 => ?_) (fun cv47 => ?_)
          · replace h := (if_neg cv47).symm.trans h
            refine v_iinc (v := (y6 + 1)) (lc' := [some (.ref (ad (8, 0, 0))), some (.int z1), some (.int z2), some (.int z3), some (.int y4), some (.int y5), some (.int (y6 + 1)), some (.int rv45)]) X dX8_sends_190 rfl rfl (by decide) rfl rfl ?_
            refine v_goto X 61 dX8_sends_193 (by decide) ?_
            refine v_weak (lc2 := [some (.ref (ad (8, 0, 0))), some (.int z1), some (.int z2), some (.int z3), some (.int y4), some (.int y5), some (.int (y6 + 1)), none]) ⟨rfl, rfl, rfl, rfl, rfl, rfl, rfl, trivial⟩ ?_
            exact ih y4 y5 (y6 + 1) gv44 _ _ _ _ h k
          · replace h := (if_pos cv47).symm.trans h
            refine v_iload X dX8_sends_169 rfl ?_
            obtain ⟨rv50, gv49, qv48, h⟩ := bd2_some h
            refine v_callSI (As := [.int y6]) (rest := []) X (c_X8_bits l D ad cy X.2.2.2.2.2.2.2.2.1 N y6 gv44 rv50 gv49  qv48) mw_X8_bits ml_X8_244 (by decide) rfl rfl (Nat.le_of_ble_eq_true rfl) dX8_sends_171 ?_
            refine v_iload X dX8_sends_174 rfl ?_
            obtain ⟨rv53, gv52, qv51, h⟩ := bd2_some h
            refine v_callSI (As := [.int y4]) (rest := [.int rv50]) X (c_X8_bits l D ad cy X.2.2.2.2.2.2.2.2.1 N y4 gv49 rv53 gv52  qv51) mw_X8_bits ml_X8_244 (by decide) rfl rfl (Nat.le_of_ble_eq_true rfl) dX8_sends_176 ?_
            refine v_icmp_ge X 190 dX8_sends_179 (by decide) (fun cv54 => ?_) (fun cv54 => ?_)
            · replace h := (if_pos cv54).symm.trans h
              refine v_iinc (v := (y6 + 1)) (lc' := [some (.ref (ad (8, 0, 0))), some (.int z1), some (.int z2), some (.int z3), some (.int y4), some (.int y5), some (.int (y6 + 1)), some (.int rv45)]) X dX8_sends_190 rfl rfl (by decide) rfl rfl ?_
              refine v_goto X 61 dX8_sends_193 (by decide) ?_
              refine v_weak (lc2 := [some (.ref (ad (8, 0, 0))), some (.int z1), some (.int z2), some (.int z3), some (.int y4), some (.int y5), some (.int (y6 + 1)), none]) ⟨rfl, rfl, rfl, rfl, rfl, rfl, rfl, trivial⟩ ?_
              exact ih y4 y5 (y6 + 1) gv52 _ _ _ _ h k
            · replace h := (if_neg cv54).symm.trans h
              refine v_iload X dX8_sends_182 rfl ?_
              refine v_istore (lc' := [some (.ref (ad (8, 0, 0))), some (.int z1), some (.int z2), some (.int z3), some (.int y4), some (.int rv45), some (.int y6), some (.int rv45)]) X dX8_sends_184 (by decide) rfl rfl ?_
              refine v_iload X dX8_sends_186 rfl ?_
              refine v_istore (lc' := [some (.ref (ad (8, 0, 0))), some (.int z1), some (.int z2), some (.int z3), some (.int y6), some (.int rv45), some (.int y6), some (.int rv45)]) X dX8_sends_188 (by decide) rfl rfl ?_
              refine v_iinc (v := (y6 + 1)) (lc' := [some (.ref (ad (8, 0, 0))), some (.int z1), some (.int z2), some (.int z3), some (.int y6), some (.int rv45), some (.int (y6 + 1)), some (.int rv45)]) X dX8_sends_190 rfl rfl (by decide) rfl rfl ?_
              refine v_goto X 61 dX8_sends_193 (by decide) ?_
              refine v_weak (lc2 := [some (.ref (ad (8, 0, 0))), some (.int z1), some (.int z2), some (.int z3), some (.int y6), some (.int rv45), some (.int (y6 + 1)), none]) ⟨rfl, rfl, rfl, rfl, rfl, rfl, rfl, trivial⟩ ?_
              exact ih y6 rv45 (y6 + 1) gv52 _ _ _ _ h k
set_option maxRecDepth 100000 in
set_option maxHeartbeats 4000000 in
theorem c_X8_sends (l : Launch) (D : va_G) (ad : Ky → Nat) (cy : Nat → ClassId) (hI : Inj ad) (N : Nat) (x1 : Int32) (x2 : Int32) (x3 : Int32) (g : GS) (r : Int32) (gq : GS) (h : F_X8_sends N x1 x2 x3 g = some (r, gq)) : CtI l D ad cy yX8_sends cX8_sends 8 (some .int) 7 [.ref (ad (8, 0, 0)), .int x1, .int x2, .int x3] g r gq := by
  refine CtI.of 4 hI (by decide +kernel) rfl (Nat.le_of_ble_eq_true rfl) (fun p e s m args below meth c X => ?_)
  unfold F_X8_sends at h
  show Vy _ _ _ _ _ _ _ _ _ _ _ _ _ _ _ 0 [some (.ref (ad (8, 0, 0))), some (.int x1), some (.int x2), some (.int x3), none, none, none, none] [] g
  refine v_aloadn X dX8_sends_0 rfl rfl ?_
  refine v_iconst (v := 0) X dX8_sends_1 (by decide) ?_
  refine pf_X8_50 X dX8_sends_2 ?_
  refine v_aloadn X dX8_sends_5 rfl rfl ?_
  obtain ⟨rv3, gv2, qv1, h⟩ := bd2_some h
  refine v_callVI (As := []) (rest := []) X (c_X8_isThere l D ad cy X.2.2.2.2.2.2.2.2.1 N  (g3 g 10 0 0 (0 : Int32)) rv3 gv2  qv1) mw_X8_isThere ml_X8_195 (by decide) (by decide +kernel) (by decide) rfl rfl rfl rfl (Nat.le_of_ble_eq_true rfl) dX8_sends_6 ?_
  refine v_if_ne X 15 dX8_sends_9 (by decide) (fun cv4 => ?_) (fun cv4 => ?_)
  · replace h := (if_neg cv4).symm.trans h
    refine v_iloadn X dX8_sends_15 rfl rfl ?_
    refine v_i2l X dX8_sends_16 ?_
    refine v_lconst (v := 1) X dX8_sends_17 (by decide) ?_
    refine v_ldc2 X kl_X8_238 dX8_sends_18 ?_
    obtain ⟨rv7, gv6, qv5, h⟩ := bd2_some h
    refine v_callSI (As := [.long (x1.toInt64), .long (1 : Int64), .long (30 : Int64)]) (rest := []) X (c_X8_in l D ad cy X.2.2.2.2.2.2.2.2.1 N (x1.toInt64) (1 : Int64) (30 : Int64) gv2 rv7 gv6  qv5) mw_X8_in ml_X8_60 (by decide) rfl rfl (Nat.le_of_ble_eq_true rfl) dX8_sends_21 ?_
    refine v_if_eq X 49 dX8_sends_24 (by decide) (fun cv8 => ?_) (fun cv8 => ?_)
    · replace h := (if_pos cv8).symm.trans h
      refine v_ldc X kc_X8_70 dX8_sends_49 ?_
      obtain ⟨er, eg⟩ := Prod.mk.inj (Option.some.inj h)
      exact v_iret X dX8_sends_51 er eg
    · replace h := (if_neg cv8).symm.trans h
      refine v_iloadn X dX8_sends_27 rfl rfl ?_
      refine v_i2l X dX8_sends_28 ?_
      refine v_lconst (v := 1) X dX8_sends_29 (by decide) ?_
      refine v_ldc2 X kl_X8_211 dX8_sends_30 ?_
      obtain ⟨rv11, gv10, qv9, h⟩ := bd2_some h
      refine v_callSI (As := [.long (x2.toInt64), .long (1 : Int64), .long (40 : Int64)]) (rest := []) X (c_X8_in l D ad cy X.2.2.2.2.2.2.2.2.1 N (x2.toInt64) (1 : Int64) (40 : Int64) gv6 rv11 gv10  qv9) mw_X8_in ml_X8_60 (by decide) rfl rfl (Nat.le_of_ble_eq_true rfl) dX8_sends_33 ?_
      refine v_if_eq X 49 dX8_sends_36 (by decide) (fun cv12 => ?_) (fun cv12 => ?_)
      · replace h := (if_pos cv12).symm.trans h
        refine v_ldc X kc_X8_70 dX8_sends_49 ?_
        obtain ⟨er, eg⟩ := Prod.mk.inj (Option.some.inj h)
        exact v_iret X dX8_sends_51 er eg
      · replace h := (if_neg cv12).symm.trans h
        refine v_iloadn X dX8_sends_39 rfl rfl ?_
        refine v_i2l X dX8_sends_40 ?_
        refine v_lconst (v := 0) X dX8_sends_41 (by decide) ?_
        refine v_lconst (v := 1) X dX8_sends_42 (by decide) ?_
        obtain ⟨rv15, gv14, qv13, h⟩ := bd2_some h
        refine v_callSI (As := [.long (x3.toInt64), .long (0 : Int64), .long (1 : Int64)]) (rest := []) X (c_X8_in l D ad cy X.2.2.2.2.2.2.2.2.1 N (x3.toInt64) (0 : Int64) (1 : Int64) gv10 rv15 gv14  qv13) mw_X8_in ml_X8_60 (by decide) rfl rfl (Nat.le_of_ble_eq_true rfl) dX8_sends_43 ?_
        refine v_if_ne X 52 dX8_sends_46 (by decide) (fun cv16 => ?_) (fun cv16 => ?_)
        · replace h := (if_neg cv16).symm.trans h
          refine v_iconst (v := 0) X dX8_sends_52 (by decide) ?_
          refine v_istore (lc' := [some (.ref (ad (8, 0, 0))), some (.int x1), some (.int x2), some (.int x3), some (.int (0 : Int32)), none, none, none]) X dX8_sends_53 (by decide) rfl rfl ?_
          refine v_iconst (v := -1) X dX8_sends_55 (by decide) ?_
          refine v_istore (lc' := [some (.ref (ad (8, 0, 0))), some (.int x1), some (.int x2), some (.int x3), some (.int (0 : Int32)), some (.int (-1 : Int32)), none, none]) X dX8_sends_56 (by decide) rfl rfl ?_
          refine v_iconst (v := 0) X dX8_sends_58 (by decide) ?_
          refine v_istore (lc' := [some (.ref (ad (8, 0, 0))), some (.int x1), some (.int x2), some (.int x3), some (.int (0 : Int32)), some (.int (-1 : Int32)), some (.int (0 : Int32)), none]) X dX8_sends_59 (by decide) rfl rfl ?_
          obtain ⟨xv55, xv56, xv57, gv58, qv59, h⟩ := bd4_some h
          refine w_X8_sends_61 X x1 x2 x3 N (0 : Int32) (-1 : Int32) (0 : Int32) gv14 xv55 xv56 xv57 gv58 qv59 ?_
          refine v_iloadn X dX8_sends_196 rfl rfl ?_
          refine v_if_ne X 205 dX8_sends_197 (by decide) (fun cv60 => ?_) (fun cv60 => ?_)
          · replace h := (if_neg cv60).symm.trans h
            refine v_iload X dX8_sends_205 rfl ?_
            obtain ⟨er, eg⟩ := Prod.mk.inj (Option.some.inj h)
            exact v_iret X dX8_sends_207 er eg
          · replace h := (if_pos cv60).symm.trans h
            refine v_iload X dX8_sends_200 rfl ?_
            refine v_goto X 207 dX8_sends_202 (by decide) ?_
            obtain ⟨er, eg⟩ := Prod.mk.inj (Option.some.inj h)
            exact v_iret X dX8_sends_207 er eg
        · replace h := (if_pos cv16).symm.trans h
          refine v_ldc X kc_X8_70 dX8_sends_49 ?_
          obtain ⟨er, eg⟩ := Prod.mk.inj (Option.some.inj h)
          exact v_iret X dX8_sends_51 er eg
  · replace h := (if_pos cv4).symm.trans h
    refine v_ldc X kc_X8_198 dX8_sends_12 ?_
    obtain ⟨er, eg⟩ := Prod.mk.inj (Option.some.inj h)
    exact v_iret X dX8_sends_14 er eg
def F_X8_set (N : Nat) (x1 : Int32) (x2 : Int32) (x3 : Int32) (g : GS) : Option (Int32 × GS) := bd2 (F_X8_isRow N x1 (g3 g 10 0 0 (0 : Int32))) (fun rv3 gv2 => if rv3 = 0 then some ((-1000001 : Int32), gv2) else bd1 (ix x1 8) (fun jv5 => if 0 ≤ (gv2 11 2 jv5) then bd2 (F_X8_in N (x2.toInt64) (0 : Int64) (((gv2 11 3 jv5) - (1 : Int32)).toInt64) (g3 gv2 10 0 1 (0 : Int32))) (fun rv10 gv9 => if rv10 = 0 then bd2 (F_X8_finding N (2 : Int32) gv9) (fun rv22 gv21 => some (rv22, gv21)) else if (gv9 11 2 jv5) = 0 then bd1 (ix (((40 : Int32) * x1) + x2) 320) (fun jv18 => some ((x3.toInt8.toInt32), (g3 gv9 11 4 jv18 (x3.toInt8.toInt32)))) else if (gv9 11 2 jv5) = (1 : Int32) then bd1 (ix (((40 : Int32) * x1) + x2) 320) (fun jv16 => some ((x3.toInt16.toInt32), (g3 gv9 11 4 jv16 (x3.toInt16.toInt32)))) else bd1 (ix (((40 : Int32) * x1) + x2) 320) (fun jv14 => some (x3, (g3 gv9 11 4 jv14 x3)))) else bd2 (F_X8_finding N (1 : Int32) (g3 gv2 10 0 1 (0 : Int32))) (fun rv25 gv24 => some (rv25, gv24))))
set_option maxRecDepth 100000 in
set_option maxHeartbeats 4000000 in
theorem c_X8_set (l : Launch) (D : va_G) (ad : Ky → Nat) (cy : Nat → ClassId) (hI : Inj ad) (N : Nat) (x1 : Int32) (x2 : Int32) (x3 : Int32) (g : GS) (r : Int32) (gq : GS) (h : F_X8_set N x1 x2 x3 g = some (r, gq)) : CtI l D ad cy yX8_set cX8_set 4 (some .int) 2 [.ref (ad (8, 0, 0)), .int x1, .int x2, .int x3] g r gq := by
  refine CtI.of 0 hI (by decide +kernel) rfl (Nat.le_of_ble_eq_true rfl) (fun p e s m args below meth c X => ?_)
  unfold F_X8_set at h
  show Vy _ _ _ _ _ _ _ _ _ _ _ _ _ _ _ 0 [some (.ref (ad (8, 0, 0))), some (.int x1), some (.int x2), some (.int x3)] [] g
  refine v_aloadn X dX8_set_0 rfl rfl ?_
  refine v_iconst (v := 0) X dX8_set_1 (by decide) ?_
  refine pf_X8_50 X dX8_set_2 ?_
  refine v_iloadn X dX8_set_5 rfl rfl ?_
  obtain ⟨rv3, gv2, qv1, h⟩ := bd2_some h
  refine v_callSI (As := [.int x1]) (rest := []) X (c_X8_isRow l D ad cy X.2.2.2.2.2.2.2.2.1 N x1 (g3 g 10 0 0 (0 : Int32)) rv3 gv2  qv1) mw_X8_isRow ml_X8_64 (by decide) rfl rfl (Nat.le_of_ble_eq_true rfl) dX8_set_6 ?_
  refine v_if_ne X 15 dX8_set_9 (by decide) (fun cv4 => ?_) (fun cv4 => ?_)
  · replace h := (if_neg cv4).symm.trans h
    refine v_aloadn X dX8_set_15 rfl rfl ?_
    refine v_iconst (v := 0) X dX8_set_16 (by decide) ?_
    refine pf_X8_54 X dX8_set_17 ?_
    refine v_aloadn X dX8_set_20 rfl rfl ?_
    refine gf_X8_7 X dX8_set_21 ?_
    refine v_iloadn X dX8_set_24 rfl rfl ?_
    obtain ⟨jv5, qv6, h⟩ := bd1_some h
    obtain ⟨ejv5, ljv5⟩ := ix_spec qv6
    refine alM X (by decide +kernel) jv5 ejv5 ljv5 dX8_set_25 ?_
    refine v_vali (v2 := (gv2 11 2 jv5)) rfl ?_
    refine v_if_ge X 35 dX8_set_26 (by decide) (fun cv7 => ?_) (fun cv7 => ?_)
    · replace h := (if_pos cv7).symm.trans h
      refine v_iloadn X dX8_set_35 rfl rfl ?_
      refine v_i2l X dX8_set_36 ?_
      refine v_lconst (v := 0) X dX8_set_37 (by decide) ?_
      refine v_aloadn X dX8_set_38 rfl rfl ?_
      refine gf_X8_13 X dX8_set_39 ?_
      refine v_iloadn X dX8_set_42 rfl rfl ?_
      refine alM X (by decide +kernel) jv5 ejv5 ljv5 dX8_set_43 ?_
      refine v_vali (v2 := (gv2 11 3 jv5)) rfl ?_
      refine v_iconst (v := 1) X dX8_set_44 (by decide) ?_
      refine v_isub X dX8_set_45 ?_
      refine v_i2l X dX8_set_46 ?_
      obtain ⟨rv10, gv9, qv8, h⟩ := bd2_some h
      refine v_callSI (As := [.long (x2.toInt64), .long (0 : Int64), .long (((gv2 11 3 jv5) - (1 : Int32)).toInt64)]) (rest := []) X (c_X8_in l D ad cy X.2.2.2.2.2.2.2.2.1 N (x2.toInt64) (0 : Int64) (((gv2 11 3 jv5) - (1 : Int32)).toInt64) (g3 gv2 10 0 1 (0 : Int32)) rv10 gv9  qv8) mw_X8_in ml_X8_60 (by decide) rfl rfl (Nat.le_of_ble_eq_true rfl) dX8_set_47 ?_
      refine v_if_ne X 59 dX8_set_50 (by decide) (fun cv11 => ?_) (fun cv11 => ?_)
      · replace h := (if_neg cv11).symm.trans h
        refine v_aloadn X dX8_set_59 rfl rfl ?_
        refine gf_X8_16 X dX8_set_60 ?_
        refine v_bipush (v := 40) X dX8_set_63 (by decide) ?_
        refine v_iloadn X dX8_set_65 rfl rfl ?_
        refine v_imul X dX8_set_66 ?_
        refine v_iloadn X dX8_set_67 rfl rfl ?_
        refine v_iadd X dX8_set_68 ?_
        refine v_aloadn X dX8_set_69 rfl rfl ?_
        refine gf_X8_7 X dX8_set_70 ?_
        refine v_iloadn X dX8_set_73 rfl rfl ?_
        refine alM X (by decide +kernel) jv5 ejv5 ljv5 dX8_set_74 ?_
        refine v_if_ne X 83 dX8_set_75 (by decide) (fun cv12 => ?_) (fun cv12 => ?_)
        · replace h := (if_neg cv12).symm.trans h
          refine v_aloadn X dX8_set_83 rfl rfl ?_
          refine gf_X8_7 X dX8_set_84 ?_
          refine v_iloadn X dX8_set_87 rfl rfl ?_
          refine alM X (by decide +kernel) jv5 ejv5 ljv5 dX8_set_88 ?_
          refine v_iconst (v := 1) X dX8_set_89 (by decide) ?_
          refine v_icmp_ne X 98 dX8_set_90 (by decide) (fun cv13 => ?_) (fun cv13 => ?_)
          · replace h := (if_neg cv13).symm.trans h
            refine v_iloadn X dX8_set_98 rfl rfl ?_
            obtain ⟨jv14, qv15, h⟩ := bd1_some h
            obtain ⟨ejv14, ljv14⟩ := ix_spec qv15
            refine asM X (by decide +kernel) jv14 ejv14 ljv14 dX8_set_99 ?_
            refine v_aloadn X dX8_set_100 rfl rfl ?_
            refine gf_X8_16 X dX8_set_101 ?_
            refine v_bipush (v := 40) X dX8_set_104 (by decide) ?_
            refine v_iloadn X dX8_set_106 rfl rfl ?_
            refine v_imul X dX8_set_107 ?_
            refine v_iloadn X dX8_set_108 rfl rfl ?_
            refine v_iadd X dX8_set_109 ?_
            refine alM X (by decide +kernel) jv14 ejv14 ljv14 dX8_set_110 ?_
            refine v_vali (v2 := x3) (by simp [g3, va_up]) ?_
            obtain ⟨er, eg⟩ := Prod.mk.inj (Option.some.inj h)
            exact v_iret X dX8_set_111 er eg
          · replace h := (if_pos cv13).symm.trans h
            refine v_iloadn X dX8_set_93 rfl rfl ?_
            refine v_i2s X dX8_set_94 ?_
            refine v_goto X 99 dX8_set_95 (by decide) ?_
            obtain ⟨jv16, qv17, h⟩ := bd1_some h
            obtain ⟨ejv16, ljv16⟩ := ix_spec qv17
            refine asM X (by decide +kernel) jv16 ejv16 ljv16 dX8_set_99 ?_
            refine v_aloadn X dX8_set_100 rfl rfl ?_
            refine gf_X8_16 X dX8_set_101 ?_
            refine v_bipush (v := 40) X dX8_set_104 (by decide) ?_
            refine v_iloadn X dX8_set_106 rfl rfl ?_
            refine v_imul X dX8_set_107 ?_
            refine v_iloadn X dX8_set_108 rfl rfl ?_
            refine v_iadd X dX8_set_109 ?_
            refine alM X (by decide +kernel) jv16 ejv16 ljv16 dX8_set_110 ?_
            refine v_vali (v2 := (x3.toInt16.toInt32)) (by simp [g3, va_up]) ?_
            obtain ⟨er, eg⟩ := Prod.mk.inj (Option.some.inj h)
            exact v_iret X dX8_set_111 er eg
        · replace h := (if_pos cv12).symm.trans h
          refine v_iloadn X dX8_set_78 rfl rfl ?_
          refine v_i2b X dX8_set_79 ?_
          refine v_goto X 99 dX8_set_80 (by decide) ?_
          obtain ⟨jv18, qv19, h⟩ := bd1_some h
          obtain ⟨ejv18, ljv18⟩ := ix_spec qv19
          refine asM X (by decide +kernel) jv18 ejv18 ljv18 dX8_set_99 ?_
          refine v_aloadn X dX8_set_100 rfl rfl ?_
          refine gf_X8_16 X dX8_set_101 ?_
          refine v_bipush (v := 40) X dX8_set_104 (by decide) ?_
          refine v_iloadn X dX8_set_106 rfl rfl ?_
          refine v_imul X dX8_set_107 ?_
          refine v_iloadn X dX8_set_108 rfl rfl ?_
          refine v_iadd X dX8_set_109 ?_
          refine alM X (by decide +kernel) jv18 ejv18 ljv18 dX8_set_110 ?_
          refine v_vali (v2 := (x3.toInt8.toInt32)) (by simp [g3, va_up]) ?_
          obtain ⟨er, eg⟩ := Prod.mk.inj (Option.some.inj h)
          exact v_iret X dX8_set_111 er eg
      · replace h := (if_pos cv11).symm.trans h
        refine v_aloadn X dX8_set_53 rfl rfl ?_
        refine v_iconst (v := 2) X dX8_set_54 (by decide) ?_
        obtain ⟨rv22, gv21, qv20, h⟩ := bd2_some h
        refine v_callVI (As := [.int (2 : Int32)]) (rest := []) X (c_X8_finding l D ad cy X.2.2.2.2.2.2.2.2.1 N (2 : Int32) gv9 rv22 gv21  qv20) mw_X8_finding ml_X8_71 (by decide) (by decide +kernel) (by decide) rfl rfl rfl rfl (Nat.le_of_ble_eq_true rfl) dX8_set_55 ?_
        obtain ⟨er, eg⟩ := Prod.mk.inj (Option.some.inj h)
        exact v_iret X dX8_set_58 er eg
    · replace h := (if_neg cv7).symm.trans h
      refine v_aloadn X dX8_set_29 rfl rfl ?_
      refine v_iconst (v := 1) X dX8_set_30 (by decide) ?_
      obtain ⟨rv25, gv24, qv23, h⟩ := bd2_some h
      refine v_callVI (As := [.int (1 : Int32)]) (rest := []) X (c_X8_finding l D ad cy X.2.2.2.2.2.2.2.2.1 N (1 : Int32) (g3 gv2 10 0 1 (0 : Int32)) rv25 gv24  qv23) mw_X8_finding ml_X8_71 (by decide) (by decide +kernel) (by decide) rfl rfl rfl rfl (Nat.le_of_ble_eq_true rfl) dX8_set_31 ?_
      obtain ⟨er, eg⟩ := Prod.mk.inj (Option.some.inj h)
      exact v_iret X dX8_set_34 er eg
  · replace h := (if_pos cv4).symm.trans h
    refine v_ldc X kc_X8_70 dX8_set_12 ?_
    obtain ⟨er, eg⟩ := Prod.mk.inj (Option.some.inj h)
    exact v_iret X dX8_set_14 er eg
def F_X8_stand (N : Nat) (x1 : Int32) (g : GS) : Option (Int32 × GS) := bd2 (F_X8_isThere N  (g3 g 10 0 0 (0 : Int32))) (fun rv3 gv2 => if rv3 = 0 then some ((-1000002 : Int32), gv2) else if x1 = 0 then bd2 (F_X8_those N 5 (1 : Int32) gv2) (fun rv8 gv7 => some (rv8, gv7)) else if x1 = 1 then bd2 (F_X8_policies N 5 gv2) (fun rv12 gv11 => some (rv12, gv11)) else if x1 = 2 then bd2 (F_X8_those N 5 (2 : Int32) gv2) (fun rv16 gv15 => some (rv16, gv15)) else if x1 = 3 then bd1 (ix (2 : Int32) 53) (fun jv18 => some ((gv2 11 5 jv18), gv2)) else if x1 = 4 then bd1 (ix (3 : Int32) 53) (fun jv21 => some ((gv2 11 5 jv21), gv2)) else some ((-1000001 : Int32), gv2))
set_option maxRecDepth 100000 in
set_option maxHeartbeats 4000000 in
theorem c_X8_stand (l : Launch) (D : va_G) (ad : Ky → Nat) (cy : Nat → ClassId) (hI : Inj ad) (N : Nat) (x1 : Int32) (g : GS) (r : Int32) (gq : GS) (h : F_X8_stand N x1 g = some (r, gq)) : CtI l D ad cy yX8_stand cX8_stand 2 (some .int) 4 [.ref (ad (8, 0, 0)), .int x1] g r gq := by
  refine CtI.of 0 hI (by decide +kernel) rfl (Nat.le_of_ble_eq_true rfl) (fun p e s m args below meth c X => ?_)
  unfold F_X8_stand at h
  show Vy _ _ _ _ _ _ _ _ _ _ _ _ _ _ _ 0 [some (.ref (ad (8, 0, 0))), some (.int x1)] [] g
  refine v_aloadn X dX8_stand_0 rfl rfl ?_
  refine v_iconst (v := 0) X dX8_stand_1 (by decide) ?_
  refine pf_X8_50 X dX8_stand_2 ?_
  refine v_aloadn X dX8_stand_5 rfl rfl ?_
  obtain ⟨rv3, gv2, qv1, h⟩ := bd2_some h
  refine v_callVI (As := []) (rest := []) X (c_X8_isThere l D ad cy X.2.2.2.2.2.2.2.2.1 N  (g3 g 10 0 0 (0 : Int32)) rv3 gv2  qv1) mw_X8_isThere ml_X8_195 (by decide) (by decide +kernel) (by decide) rfl rfl rfl rfl (Nat.le_of_ble_eq_true rfl) dX8_stand_6 ?_
  refine v_if_ne X 15 dX8_stand_9 (by decide) (fun cv4 => ?_) (fun cv4 => ?_)
  · replace h := (if_neg cv4).symm.trans h
    refine v_iloadn X dX8_stand_15 rfl rfl ?_
    by_cases cv5 : x1 = 0
    · replace h := (if_pos cv5).symm.trans h
      refine v_tableIn X 52 dX8_stand_16 (by rw [cv5]; decide) (by rw [cv5]; decide) (by rw [cv5]; rfl) (by decide) ?_
      refine v_aloadn X dX8_stand_52 rfl rfl ?_
      refine gf_X8_19 X dX8_stand_53 ?_
      refine v_iconst (v := 1) X dX8_stand_56 (by decide) ?_
      obtain ⟨rv8, gv7, qv6, h⟩ := bd2_some h
      refine v_callSI (As := [.ref (ad (9, 11, 5)), .int (1 : Int32)]) (rest := []) X (c_X8_those l D ad cy X.2.2.2.2.2.2.2.2.1 N 5 (1 : Int32) gv2 rv8 gv7 (by decide +kernel) qv6) mw_X8_those ml_X8_217 (by decide) rfl rfl (Nat.le_of_ble_eq_true rfl) dX8_stand_57 ?_
      obtain ⟨er, eg⟩ := Prod.mk.inj (Option.some.inj h)
      exact v_iret X dX8_stand_60 er eg
    replace h := (if_neg cv5).symm.trans h
    by_cases cv9 : x1 = 1
    · replace h := (if_pos cv9).symm.trans h
      refine v_tableIn X 61 dX8_stand_16 (by rw [cv9]; decide) (by rw [cv9]; decide) (by rw [cv9]; rfl) (by decide) ?_
      refine v_aloadn X dX8_stand_61 rfl rfl ?_
      refine gf_X8_19 X dX8_stand_62 ?_
      obtain ⟨rv12, gv11, qv10, h⟩ := bd2_some h
      refine v_callSI (As := [.ref (ad (9, 11, 5))]) (rest := []) X (c_X8_policies l D ad cy X.2.2.2.2.2.2.2.2.1 N 5 gv2 rv12 gv11 (by decide +kernel) qv10) mw_X8_policies ml_X8_204 (by decide) rfl rfl (Nat.le_of_ble_eq_true rfl) dX8_stand_65 ?_
      obtain ⟨er, eg⟩ := Prod.mk.inj (Option.some.inj h)
      exact v_iret X dX8_stand_68 er eg
    replace h := (if_neg cv9).symm.trans h
    by_cases cv13 : x1 = 2
    · replace h := (if_pos cv13).symm.trans h
      refine v_tableIn X 69 dX8_stand_16 (by rw [cv13]; decide) (by rw [cv13]; decide) (by rw [cv13]; rfl) (by decide) ?_
      refine v_aloadn X dX8_stand_69 rfl rfl ?_
      refine gf_X8_19 X dX8_stand_70 ?_
      refine v_iconst (v := 2) X dX8_stand_73 (by decide) ?_
      obtain ⟨rv16, gv15, qv14, h⟩ := bd2_some h
      refine v_callSI (As := [.ref (ad (9, 11, 5)), .int (2 : Int32)]) (rest := []) X (c_X8_those l D ad cy X.2.2.2.2.2.2.2.2.1 N 5 (2 : Int32) gv2 rv16 gv15 (by decide +kernel) qv14) mw_X8_those ml_X8_217 (by decide) rfl rfl (Nat.le_of_ble_eq_true rfl) dX8_stand_74 ?_
      obtain ⟨er, eg⟩ := Prod.mk.inj (Option.some.inj h)
      exact v_iret X dX8_stand_77 er eg
    replace h := (if_neg cv13).symm.trans h
    by_cases cv17 : x1 = 3
    · replace h := (if_pos cv17).symm.trans h
      refine v_tableIn X 78 dX8_stand_16 (by rw [cv17]; decide) (by rw [cv17]; decide) (by rw [cv17]; rfl) (by decide) ?_
      refine v_aloadn X dX8_stand_78 rfl rfl ?_
      refine gf_X8_19 X dX8_stand_79 ?_
      refine v_iconst (v := 2) X dX8_stand_82 (by decide) ?_
      obtain ⟨jv18, qv19, h⟩ := bd1_some h
      obtain ⟨ejv18, ljv18⟩ := ix_spec qv19
      refine alM X (by decide +kernel) jv18 ejv18 ljv18 dX8_stand_83 ?_
      obtain ⟨er, eg⟩ := Prod.mk.inj (Option.some.inj h)
      exact v_iret X dX8_stand_84 er eg
    replace h := (if_neg cv17).symm.trans h
    by_cases cv20 : x1 = 4
    · replace h := (if_pos cv20).symm.trans h
      refine v_tableIn X 85 dX8_stand_16 (by rw [cv20]; decide) (by rw [cv20]; decide) (by rw [cv20]; rfl) (by decide) ?_
      refine v_aloadn X dX8_stand_85 rfl rfl ?_
      refine gf_X8_19 X dX8_stand_86 ?_
      refine v_iconst (v := 3) X dX8_stand_89 (by decide) ?_
      obtain ⟨jv21, qv22, h⟩ := bd1_some h
      obtain ⟨ejv21, ljv21⟩ := ix_spec qv22
      refine alM X (by decide +kernel) jv21 ejv21 ljv21 dX8_stand_90 ?_
      obtain ⟨er, eg⟩ := Prod.mk.inj (Option.some.inj h)
      exact v_iret X dX8_stand_91 er eg
    replace h := (if_neg cv20).symm.trans h
    have tv23 := tab_ne (k := 0) (n := 0) cv5 (by decide)
    have tv24 := tab_ne (k := 1) (n := 1) cv9 (by decide)
    have tv25 := tab_ne (k := 2) (n := 2) cv13 (by decide)
    have tv26 := tab_ne (k := 3) (n := 3) cv17 (by decide)
    have tv27 := tab_ne (k := 4) (n := 4) cv20 (by decide)
    refine v_tableOut X 92 dX8_stand_16 (by omega) (by decide) ?_
    refine v_ldc X kc_X8_70 dX8_stand_92 ?_
    obtain ⟨er, eg⟩ := Prod.mk.inj (Option.some.inj h)
    exact v_iret X dX8_stand_94 er eg
  · replace h := (if_pos cv4).symm.trans h
    refine v_ldc X kc_X8_198 dX8_stand_12 ?_
    obtain ⟨er, eg⟩ := Prod.mk.inj (Option.some.inj h)
    exact v_iret X dX8_stand_14 er eg
def F_X8_status (N : Nat) (g : GS) : Option (Int32 × GS) := some ((g 10 0 1), (g3 g 10 0 0 (0 : Int32)))
set_option maxRecDepth 100000 in
set_option maxHeartbeats 4000000 in
theorem c_X8_status (l : Launch) (D : va_G) (ad : Ky → Nat) (cy : Nat → ClassId) (hI : Inj ad) (N : Nat) (g : GS) (r : Int32) (gq : GS) (h : F_X8_status N  g = some (r, gq)) : CtI l D ad cy yX8_status cX8_status 1 (some .int) 0 [.ref (ad (8, 0, 0))] g r gq := by
  refine CtI.of 0 hI (by decide +kernel) rfl (Nat.le_of_ble_eq_true rfl) (fun p e s m args below meth c X => ?_)
  unfold F_X8_status at h
  show Vy _ _ _ _ _ _ _ _ _ _ _ _ _ _ _ 0 [some (.ref (ad (8, 0, 0)))] [] g
  refine v_aloadn X dX8_status_0 rfl rfl ?_
  refine v_iconst (v := 0) X dX8_status_1 (by decide) ?_
  refine pf_X8_50 X dX8_status_2 ?_
  refine v_aloadn X dX8_status_5 rfl rfl ?_
  refine gf_X8_54 X dX8_status_6 ?_
  refine v_vali (v2 := (g 10 0 1)) rfl ?_
  obtain ⟨er, eg⟩ := Prod.mk.inj (Option.some.inj h)
  exact v_iret X dX8_status_9 er eg
def L_X8_tapes_65 (N : Nat) (z1 : Int32) (z2 : Int32) (z3 : Int32) (z4 : Int32) (z5 : Int32) (z6 : Int32) : Nat → Int32 → Int32 → Int32 → GS → Option (Int32 × Int32 × Int32 × GS)
  | 0, _, _, _, _ => none
  | n + 1, y7, y8, y9, g => if y9 ≤ 0 then some (y7, y8, y9, g) else bd1 (F_X8_layThen N  g) (fun gv19 => bd1 (ix (3 : Int32) 53) (fun jv20 => bd2 (F_X8_isSo N z1 (((40 : Int32) * z3) + z4) z5 (g3 gv19 11 7 jv20 y9)) (fun rv24 gv23 => if rv24 = 0 then L_X8_tapes_65 N z1 z2 z3 z4 z5 z6 n y7 y8 (y9 + (-1)) gv23 else L_X8_tapes_65 N z1 z2 z3 z4 z5 z6 n (y7 + 1) y9 (y9 + (-1)) gv23)))
def F_X8_tapes (N : Nat) (x1 : Int32) (x2 : Int32) (x3 : Int32) (x4 : Int32) (x5 : Int32) (g : GS) : Option (Int32 × GS) := bd2 (F_X8_isPaper N x1 (g3 g 10 0 0 (0 : Int32))) (fun rv3 gv2 => if rv3 = 0 then some ((-1000001 : Int32), gv2) else bd2 (F_X8_in N (x2.toInt64) (0 : Int64) (1 : Int64) gv2) (fun rv7 gv6 => if rv7 = 0 then some ((-1000001 : Int32), gv6) else bd2 (F_X8_isMany N x3 x5 gv6) (fun rv11 gv10 => if rv11 = 0 then some ((-1000001 : Int32), gv10) else bd2 (F_X8_rowFound N x3 x4 x5 gv10) (fun rv15 gv14 => if rv15 = 0 then bd4 (L_X8_tapes_65 N x1 x2 x3 x4 x5 rv15 N (0 : Int32) (-1000000 : Int32) (99 : Int32) gv14) (fun xv26 xv27 xv28 gv29 => if x2 = 0 then some (xv26, gv29) else some (xv27, gv29)) else some (rv15, gv14)))))
set_option maxRecDepth 100000 in
set_option maxHeartbeats 4000000 in
theorem w_X8_tapes_65 {p : Program} {l : Launch} {e : Env} {s : State} {m : MethodId} {args : Array Value} {below : List Frame} {meth : Method} {c : Code} {D : va_G} {ad : Ky → Nat} {cy : Nat → ClassId} {r : Int32} {gq : GS} {N : Nat} (X : Cx p (rmd 7) s m args meth c RX8 cX8_tapes 10 (some .int) D ad cy) (z1 : Int32) (z2 : Int32) (z3 : Int32) (z4 : Int32) (z5 : Int32) (z6 : Int32) : ∀ (n : Nat) (y7 : Int32) (y8 : Int32) (y9 : Int32) (g : GS) (y7' : Int32) (y8' : Int32) (y9' : Int32) (g' : GS), L_X8_tapes_65 N z1 z2 z3 z4 z5 z6 n y7 y8 y9 g = some (y7', y8', y9', g') → Vy p l e (rmd 7) s m args below meth c 10 D ad cy (QI D ad cy below args s r gq) 112 [some (.ref (ad (8, 0, 0))), some (.int z1), some (.int z2), some (.int z3), some (.int z4), some (.int z5), some (.int z6), some (.int y7'), some (.int y8'), some (.int y9')] [] g' → Vy p l e (rmd 7) s m args below meth c 10 D ad cy (QI D ad cy below args s r gq) 65 [some (.ref (ad (8, 0, 0))), some (.int z1), some (.int z2), some (.int z3), some (.int z4), some (.int z5), some (.int z6), some (.int y7), some (.int y8), some (.int y9)] [] g := by
  intro n
  induction n with
  | zero => intro y7 y8 y9 g y7' y8' y9' g' h k; cases h
  | succ n ih =>
    intro y7 y8 y9 g y7' y8' y9' g' h k
    rw [L_X8_tapes_65] at h
    refine v_iload X dX8_tapes_65 rfl ?_
    refine v_if_le X 112 dX8_tapes_67 (by decide) (fun cv17 => ?_) (fun cv17 => ?_)
    · replace h := (if_pos cv17).symm.trans h
      cases h
      exact k
    · replace h := (if_neg cv17).symm.trans h
      refine v_aloadn X dX8_tapes_70 rfl rfl ?_
      obtain ⟨gv19, qv18, h⟩ := bd1_some h
      refine v_callVV (As := []) (rest := []) X (c_X8_layThen l D ad cy X.2.2.2.2.2.2.2.2.1 N  g gv19  qv18) mw_X8_layThen ml_X8_232 (by decide) (by decide +kernel) (by decide) rfl rfl rfl rfl (Nat.le_of_ble_eq_true rfl) dX8_tapes_71 ?_
      refine v_aloadn X dX8_tapes_74 rfl rfl ?_
      refine gf_X8_25 X dX8_tapes_75 ?_
      refine v_iconst (v := 3) X dX8_tapes_78 (by decide) ?_
      refine v_iload X dX8_tapes_79 rfl ?_
      obtain ⟨jv20, qv21, h⟩ := bd1_some h
      obtain ⟨ejv20, ljv20⟩ := ix_spec qv21
      refine asM X (by decide +kernel) jv20 ejv20 ljv20 dX8_tapes_81 ?_
      refine v_aloadn X dX8_tapes_82 rfl rfl ?_
      refine v_iloadn X dX8_tapes_83 rfl rfl ?_
      refine v_bipush (v := 40) X dX8_tapes_84 (by decide) ?_
      refine v_iloadn X dX8_tapes_86 rfl rfl ?_
      refine v_imul X dX8_tapes_87 ?_
      refine v_iload X dX8_tapes_88 rfl ?_
      refine v_iadd X dX8_tapes_90 ?_
      refine v_iload X dX8_tapes_91 rfl ?_
      obtain ⟨rv24, gv23, qv22, h⟩ := bd2_some h
      refine v_callVI (As := [.int z1, .int (((40 : Int32) * z3) + z4), .int z5]) (rest := []) X (c_X8_isSo l D ad cy X.2.2.2.2.2.2.2.2.1 N z1 (((40 : Int32) * z3) + z4) z5 (g3 gv19 11 7 jv20 y9) rv24 gv23  qv22) mw_X8_isSo ml_X8_258 (by decide) (by decide +kernel) (by decide) rfl rfl rfl rfl (Nat.le_of_ble_eq_true rfl) dX8_tapes_93 ?_
      refine v_if_eq X 106 dX8_tapes_96 (by decide) (fun cv25 => ?_) (fun cv25 => ?_)
      · replace h := (if_pos cv25).symm.trans h
        refine v_iinc (v := (y9 + (-1))) (lc' := [some (.ref (ad (8, 0, 0))), some (.int z1), some (.int z2), some (.int z3), some (.int z4), some (.int z5), some (.int z6), some (.int y7), some (.int y8), some (.int (y9 + (-1)))]) X dX8_tapes_106 rfl rfl (by decide) rfl rfl ?_
        refine v_goto X 65 dX8_tapes_109 (by decide) ?_
        exact ih y7 y8 (y9 + (-1)) gv23 _ _ _ _ h k
      · replace h := (if_neg cv25).symm.trans h
        refine v_iinc (v := (y7 + 1)) (lc' := [some (.ref (ad (8, 0, 0))), some (.int z1), some (.int z2), some (.int z3), some (.int z4), some (.int z5), some (.int z6), some (.int (y7 + 1)), some (.int y8), some (.int y9)]) X dX8_tapes_99 rfl rfl (by decide) rfl rfl ?_
        refine v_iload X dX8_tapes_102 rfl ?_
        refine v_istore (lc' := [some (.ref (ad (8, 0, 0))), some (.int z1), some (.int z2), some (.int z3), some (.int z4), some (.int z5), some (.int z6), some (.int (y7 + 1)), some (.int y9), some (.int y9)]) X dX8_tapes_104 (by decide) rfl rfl ?_
        refine v_iinc (v := (y9 + (-1))) (lc' := [some (.ref (ad (8, 0, 0))), some (.int z1), some (.int z2), some (.int z3), some (.int z4), some (.int z5), some (.int z6), some (.int (y7 + 1)), some (.int y9), some (.int (y9 + (-1)))]) X dX8_tapes_106 rfl rfl (by decide) rfl rfl ?_
        refine v_goto X 65 dX8_tapes_109 (by decide) ?_
        exact ih (y7 + 1) y9 (y9 + (-1)) gv23 _ _ _ _ h k
set_option maxRecDepth 100000 in
set_option maxHeartbeats 4000000 in
theorem c_X8_tapes (l : Launch) (D : va_G) (ad : Ky → Nat) (cy : Nat → ClassId) (hI : Inj ad) (N : Nat) (x1 : Int32) (x2 : Int32) (x3 : Int32) (x4 : Int32) (x5 : Int32) (g : GS) (r : Int32) (gq : GS) (h : F_X8_tapes N x1 x2 x3 x4 x5 g = some (r, gq)) : CtI l D ad cy yX8_tapes cX8_tapes 10 (some .int) 7 [.ref (ad (8, 0, 0)), .int x1, .int x2, .int x3, .int x4, .int x5] g r gq := by
  refine CtI.of 4 hI (by decide +kernel) rfl (Nat.le_of_ble_eq_true rfl) (fun p e s m args below meth c X => ?_)
  unfold F_X8_tapes at h
  show Vy _ _ _ _ _ _ _ _ _ _ _ _ _ _ _ 0 [some (.ref (ad (8, 0, 0))), some (.int x1), some (.int x2), some (.int x3), some (.int x4), some (.int x5), none, none, none, none] [] g
  refine v_aloadn X dX8_tapes_0 rfl rfl ?_
  refine v_iconst (v := 0) X dX8_tapes_1 (by decide) ?_
  refine pf_X8_50 X dX8_tapes_2 ?_
  refine v_aloadn X dX8_tapes_5 rfl rfl ?_
  refine v_iloadn X dX8_tapes_6 rfl rfl ?_
  obtain ⟨rv3, gv2, qv1, h⟩ := bd2_some h
  refine v_callVI (As := [.int x1]) (rest := []) X (c_X8_isPaper l D ad cy X.2.2.2.2.2.2.2.2.1 N x1 (g3 g 10 0 0 (0 : Int32)) rv3 gv2  qv1) mw_X8_isPaper ml_X8_208 (by decide) (by decide +kernel) (by decide) rfl rfl rfl rfl (Nat.le_of_ble_eq_true rfl) dX8_tapes_7 ?_
  refine v_if_eq X 32 dX8_tapes_10 (by decide) (fun cv4 => ?_) (fun cv4 => ?_)
  · replace h := (if_pos cv4).symm.trans h
    refine v_ldc X kc_X8_70 dX8_tapes_32 ?_
    obtain ⟨er, eg⟩ := Prod.mk.inj (Option.some.inj h)
    exact v_iret X dX8_tapes_34 er eg
  · replace h := (if_neg cv4).symm.trans h
    refine v_iloadn X dX8_tapes_13 rfl rfl ?_
    refine v_i2l X dX8_tapes_14 ?_
    refine v_lconst (v := 0) X dX8_tapes_15 (by decide) ?_
    refine v_lconst (v := 1) X dX8_tapes_16 (by decide) ?_
    obtain ⟨rv7, gv6, qv5, h⟩ := bd2_some h
    refine v_callSI (As := [.long (x2.toInt64), .long (0 : Int64), .long (1 : Int64)]) (rest := []) X (c_X8_in l D ad cy X.2.2.2.2.2.2.2.2.1 N (x2.toInt64) (0 : Int64) (1 : Int64) gv2 rv7 gv6  qv5) mw_X8_in ml_X8_60 (by decide) rfl rfl (Nat.le_of_ble_eq_true rfl) dX8_tapes_17 ?_
    refine v_if_eq X 32 dX8_tapes_20 (by decide) (fun cv8 => ?_) (fun cv8 => ?_)
    · replace h := (if_pos cv8).symm.trans h
      refine v_ldc X kc_X8_70 dX8_tapes_32 ?_
      obtain ⟨er, eg⟩ := Prod.mk.inj (Option.some.inj h)
      exact v_iret X dX8_tapes_34 er eg
    · replace h := (if_neg cv8).symm.trans h
      refine v_iloadn X dX8_tapes_23 rfl rfl ?_
      refine v_iload X dX8_tapes_24 rfl ?_
      obtain ⟨rv11, gv10, qv9, h⟩ := bd2_some h
      refine v_callSI (As := [.int x3, .int x5]) (rest := []) X (c_X8_isMany l D ad cy X.2.2.2.2.2.2.2.2.1 N x3 x5 gv6 rv11 gv10  qv9) mw_X8_isMany ml_X8_251 (by decide) rfl rfl (Nat.le_of_ble_eq_true rfl) dX8_tapes_26 ?_
      refine v_if_ne X 35 dX8_tapes_29 (by decide) (fun cv12 => ?_) (fun cv12 => ?_)
      · replace h := (if_neg cv12).symm.trans h
        refine v_aloadn X dX8_tapes_35 rfl rfl ?_
        refine v_iloadn X dX8_tapes_36 rfl rfl ?_
        refine v_iload X dX8_tapes_37 rfl ?_
        refine v_iload X dX8_tapes_39 rfl ?_
        obtain ⟨rv15, gv14, qv13, h⟩ := bd2_some h
        refine v_callVI (As := [.int x3, .int x4, .int x5]) (rest := []) X (c_X8_rowFound l D ad cy X.2.2.2.2.2.2.2.2.1 N x3 x4 x5 gv10 rv15 gv14  qv13) mw_X8_rowFound ml_X8_254 (by decide) (by decide +kernel) (by decide) rfl rfl rfl rfl (Nat.le_of_ble_eq_true rfl) dX8_tapes_41 ?_
        refine v_istore (lc' := [some (.ref (ad (8, 0, 0))), some (.int x1), some (.int x2), some (.int x3), some (.int x4), some (.int x5), some (.int rv15), none, none, none]) X dX8_tapes_44 (by decide) rfl rfl ?_
        refine v_iload X dX8_tapes_46 rfl ?_
        refine v_if_eq X 54 dX8_tapes_48 (by decide) (fun cv16 => ?_) (fun cv16 => ?_)
        · replace h := (if_pos cv16).symm.trans h
          refine v_iconst (v := 0) X dX8_tapes_54 (by decide) ?_
          refine v_istore (lc' := [some (.ref (ad (8, 0, 0))), some (.int x1), some (.int x2), some (.int x3), some (.int x4), some (.int x5), some (.int rv15), some (.int (0 : Int32)), none, none]) X dX8_tapes_55 (by decide) rfl rfl ?_
          refine v_ldc X kc_X8_93 dX8_tapes_57 ?_
          refine v_istore (lc' := [some (.ref (ad (8, 0, 0))), some (.int x1), some (.int x2), some (.int x3), some (.int x4), some (.int x5), some (.int rv15), some (.int (0 : Int32)), some (.int (-1000000 : Int32)), none]) X dX8_tapes_59 (by decide) rfl rfl ?_
          refine v_bipush (v := 99) X dX8_tapes_61 (by decide) ?_
          refine v_istore (lc' := [some (.ref (ad (8, 0, 0))), some (.int x1), some (.int x2), some (.int x3), some (.int x4), some (.int x5), some (.int rv15), some (.int (0 : Int32)), some (.int (-1000000 : Int32)), some (.int (99 : Int32))]) X dX8_tapes_63 (by decide) rfl rfl ?_
          obtain ⟨xv26, xv27, xv28, gv29, qv30, h⟩ := bd4_some h
          refine w_X8_tapes_65 X x1 x2 x3 x4 x5 rv15 N (0 : Int32) (-1000000 : Int32) (99 : Int32) gv14 xv26 xv27 xv28 gv29 qv30 ?_
          refine v_iloadn X dX8_tapes_112 rfl rfl ?_
          refine v_if_ne X 121 dX8_tapes_113 (by decide) (fun cv31 => ?_) (fun cv31 => ?_)
          · replace h := (if_neg cv31).symm.trans h
            refine v_iload X dX8_tapes_121 rfl ?_
            obtain ⟨er, eg⟩ := Prod.mk.inj (Option.some.inj h)
            exact v_iret X dX8_tapes_123 er eg
          · replace h := (if_pos cv31).symm.trans h
            refine v_iload X dX8_tapes_116 rfl ?_
            refine v_goto X 123 dX8_tapes_118 (by decide) ?_
            obtain ⟨er, eg⟩ := Prod.mk.inj (Option.some.inj h)
            exact v_iret X dX8_tapes_123 er eg
        · replace h := (if_neg cv16).symm.trans h
          refine v_iload X dX8_tapes_51 rfl ?_
          obtain ⟨er, eg⟩ := Prod.mk.inj (Option.some.inj h)
          exact v_iret X dX8_tapes_53 er eg
      · replace h := (if_pos cv12).symm.trans h
        refine v_ldc X kc_X8_70 dX8_tapes_32 ?_
        obtain ⟨er, eg⟩ := Prod.mk.inj (Option.some.inj h)
        exact v_iret X dX8_tapes_34 er eg
def F_X8_trace (N : Nat) (x1 : Int32) (g : GS) : Option (Int32 × GS) := bd2 (F_X8_in N (x1.toInt64) (0 : Int64) (((g 10 0 24) - (1 : Int32)).toInt64) (g3 g 10 0 0 (0 : Int32))) (fun rv3 gv2 => if rv3 = 0 then some ((-1000000 : Int32), gv2) else bd1 (ix x1 16) (fun jv5 => some ((gv2 11 23 jv5), gv2)))
set_option maxRecDepth 100000 in
set_option maxHeartbeats 4000000 in
theorem c_X8_trace (l : Launch) (D : va_G) (ad : Ky → Nat) (cy : Nat → ClassId) (hI : Inj ad) (N : Nat) (x1 : Int32) (g : GS) (r : Int32) (gq : GS) (h : F_X8_trace N x1 g = some (r, gq)) : CtI l D ad cy yX8_trace cX8_trace 2 (some .int) 1 [.ref (ad (8, 0, 0)), .int x1] g r gq := by
  refine CtI.of 0 hI (by decide +kernel) rfl (Nat.le_of_ble_eq_true rfl) (fun p e s m args below meth c X => ?_)
  unfold F_X8_trace at h
  show Vy _ _ _ _ _ _ _ _ _ _ _ _ _ _ _ 0 [some (.ref (ad (8, 0, 0))), some (.int x1)] [] g
  refine v_aloadn X dX8_trace_0 rfl rfl ?_
  refine v_iconst (v := 0) X dX8_trace_1 (by decide) ?_
  refine pf_X8_50 X dX8_trace_2 ?_
  refine v_iloadn X dX8_trace_5 rfl rfl ?_
  refine v_i2l X dX8_trace_6 ?_
  refine v_lconst (v := 0) X dX8_trace_7 (by decide) ?_
  refine v_aloadn X dX8_trace_8 rfl rfl ?_
  refine gf_X8_279 X dX8_trace_9 ?_
  refine v_vali (v2 := (g 10 0 24)) rfl ?_
  refine v_iconst (v := 1) X dX8_trace_12 (by decide) ?_
  refine v_isub X dX8_trace_13 ?_
  refine v_i2l X dX8_trace_14 ?_
  obtain ⟨rv3, gv2, qv1, h⟩ := bd2_some h
  refine v_callSI (As := [.long (x1.toInt64), .long (0 : Int64), .long (((g 10 0 24) - (1 : Int32)).toInt64)]) (rest := []) X (c_X8_in l D ad cy X.2.2.2.2.2.2.2.2.1 N (x1.toInt64) (0 : Int64) (((g 10 0 24) - (1 : Int32)).toInt64) (g3 g 10 0 0 (0 : Int32)) rv3 gv2  qv1) mw_X8_in ml_X8_60 (by decide) rfl rfl (Nat.le_of_ble_eq_true rfl) dX8_trace_15 ?_
  refine v_if_eq X 30 dX8_trace_18 (by decide) (fun cv4 => ?_) (fun cv4 => ?_)
  · replace h := (if_pos cv4).symm.trans h
    refine v_ldc X kc_X8_93 dX8_trace_30 ?_
    obtain ⟨er, eg⟩ := Prod.mk.inj (Option.some.inj h)
    exact v_iret X dX8_trace_32 er eg
  · replace h := (if_neg cv4).symm.trans h
    refine v_aloadn X dX8_trace_21 rfl rfl ?_
    refine gf_X8_47 X dX8_trace_22 ?_
    refine v_iloadn X dX8_trace_25 rfl rfl ?_
    obtain ⟨jv5, qv6, h⟩ := bd1_some h
    obtain ⟨ejv5, ljv5⟩ := ix_spec qv6
    refine alM X (by decide +kernel) jv5 ejv5 ljv5 dX8_trace_26 ?_
    refine v_goto X 32 dX8_trace_27 (by decide) ?_
    obtain ⟨er, eg⟩ := Prod.mk.inj (Option.some.inj h)
    exact v_iret X dX8_trace_32 er eg
def L_X8_undo_27 (N : Nat) : Nat → Int32 → GS → Option (Int32 × GS)
  | 0, _, _ => none
  | n + 1, y1, g => if (53 : Int32) ≤ y1 then some (y1, g) else bd1 (ix (((53 : Int32) * (g 10 0 10)) + y1) 1272) (fun jv3 => bd1 (ix y1 53) (fun jv5 => L_X8_undo_27 N n (y1 + 1) (g3 g 11 5 jv5 (g 11 9 jv3))))
def F_X8_undo (N : Nat) (g : GS) : Option (Int32 × GS) := if (g 10 0 10) = 0 then some ((-1000002 : Int32), (g3 g 10 0 0 (0 : Int32))) else bd2 (L_X8_undo_27 N N (0 : Int32) (g3 (g3 g 10 0 0 (0 : Int32)) 10 0 10 ((g 10 0 10) - (1 : Int32)))) (fun xv7 gv8 => some ((gv8 10 0 10), gv8))
set_option maxRecDepth 100000 in
set_option maxHeartbeats 4000000 in
theorem w_X8_undo_27 {p : Program} {l : Launch} {e : Env} {s : State} {m : MethodId} {args : Array Value} {below : List Frame} {meth : Method} {c : Code} {D : va_G} {ad : Ky → Nat} {cy : Nat → ClassId} {r : Int32} {gq : GS} {N : Nat} (X : Cx p (rmd 0) s m args meth c RX8 cX8_undo 2 (some .int) D ad cy) : ∀ (n : Nat) (y1 : Int32) (g : GS) (y1' : Int32) (g' : GS), L_X8_undo_27 N n y1 g = some (y1', g') → Vy p l e (rmd 0) s m args below meth c 2 D ad cy (QI D ad cy below args s r gq) 59 [some (.ref (ad (8, 0, 0))), some (.int y1')] [] g' → Vy p l e (rmd 0) s m args below meth c 2 D ad cy (QI D ad cy below args s r gq) 27 [some (.ref (ad (8, 0, 0))), some (.int y1)] [] g := by
  intro n
  induction n with
  | zero => intro y1 g y1' g' h k; cases h
  | succ n ih =>
    intro y1 g y1' g' h k
    rw [L_X8_undo_27] at h
    refine v_iloadn X dX8_undo_27 rfl rfl ?_
    refine v_bipush (v := 53) X dX8_undo_28 (by decide) ?_
    refine v_icmp_ge X 59 dX8_undo_30 (by decide) (fun cv2 => ?_) (fun cv2 => ?_)
    · replace h := (if_pos cv2).symm.trans h
      cases h
      exact k
    · replace h := (if_neg cv2).symm.trans h
      refine v_aloadn X dX8_undo_33 rfl rfl ?_
      refine gf_X8_19 X dX8_undo_34 ?_
      refine v_iloadn X dX8_undo_37 rfl rfl ?_
      refine v_aloadn X dX8_undo_38 rfl rfl ?_
      refine gf_X8_31 X dX8_undo_39 ?_
      refine v_bipush (v := 53) X dX8_undo_42 (by decide) ?_
      refine v_aloadn X dX8_undo_44 rfl rfl ?_
      refine gf_X8_152 X dX8_undo_45 ?_
      refine v_imul X dX8_undo_48 ?_
      refine v_iloadn X dX8_undo_49 rfl rfl ?_
      refine v_iadd X dX8_undo_50 ?_
      obtain ⟨jv3, qv4, h⟩ := bd1_some h
      obtain ⟨ejv3, ljv3⟩ := ix_spec qv4
      refine alM X (by decide +kernel) jv3 ejv3 ljv3 dX8_undo_51 ?_
      obtain ⟨jv5, qv6, h⟩ := bd1_some h
      obtain ⟨ejv5, ljv5⟩ := ix_spec qv6
      refine asM X (by decide +kernel) jv5 ejv5 ljv5 dX8_undo_52 ?_
      refine v_iinc (v := (y1 + 1)) (lc' := [some (.ref (ad (8, 0, 0))), some (.int (y1 + 1))]) X dX8_undo_53 rfl rfl (by decide) rfl rfl ?_
      refine v_goto X 27 dX8_undo_56 (by decide) ?_
      exact ih (y1 + 1) (g3 g 11 5 jv5 (g 11 9 jv3)) _ _ h k
set_option maxRecDepth 100000 in
set_option maxHeartbeats 4000000 in
theorem c_X8_undo (l : Launch) (D : va_G) (ad : Ky → Nat) (cy : Nat → ClassId) (hI : Inj ad) (N : Nat) (g : GS) (r : Int32) (gq : GS) (h : F_X8_undo N  g = some (r, gq)) : CtI l D ad cy yX8_undo cX8_undo 2 (some .int) 0 [.ref (ad (8, 0, 0))] g r gq := by
  refine CtI.of 1 hI (by decide +kernel) rfl (Nat.le_of_ble_eq_true rfl) (fun p e s m args below meth c X => ?_)
  unfold F_X8_undo at h
  show Vy _ _ _ _ _ _ _ _ _ _ _ _ _ _ _ 0 [some (.ref (ad (8, 0, 0))), none] [] g
  refine v_aloadn X dX8_undo_0 rfl rfl ?_
  refine v_iconst (v := 0) X dX8_undo_1 (by decide) ?_
  refine pf_X8_50 X dX8_undo_2 ?_
  refine v_aloadn X dX8_undo_5 rfl rfl ?_
  refine gf_X8_152 X dX8_undo_6 ?_
  refine v_vali (v2 := (g 10 0 10)) rfl ?_
  refine v_if_ne X 15 dX8_undo_9 (by decide) (fun cv1 => ?_) (fun cv1 => ?_)
  · replace h := (if_neg cv1).symm.trans h
    refine v_aloadn X dX8_undo_15 rfl rfl ?_
    refine v_dup X dX8_undo_16 rfl ?_
    refine gf_X8_152 X dX8_undo_17 ?_
    refine v_vali (v2 := (g 10 0 10)) rfl ?_
    refine v_iconst (v := 1) X dX8_undo_20 (by decide) ?_
    refine v_isub X dX8_undo_21 ?_
    refine pf_X8_152 X dX8_undo_22 ?_
    refine v_iconst (v := 0) X dX8_undo_25 (by decide) ?_
    refine v_istoren (lc' := [some (.ref (ad (8, 0, 0))), some (.int (0 : Int32))]) X dX8_undo_26 rfl (by decide) rfl rfl ?_
    obtain ⟨xv7, gv8, qv9, h⟩ := bd2_some h
    refine w_X8_undo_27 X  N (0 : Int32) (g3 (g3 g 10 0 0 (0 : Int32)) 10 0 10 ((g 10 0 10) - (1 : Int32))) xv7 gv8 qv9 ?_
    refine v_aloadn X dX8_undo_59 rfl rfl ?_
    refine gf_X8_152 X dX8_undo_60 ?_
    obtain ⟨er, eg⟩ := Prod.mk.inj (Option.some.inj h)
    exact v_iret X dX8_undo_63 er eg
  · replace h := (if_pos cv1).symm.trans h
    refine v_ldc X kc_X8_198 dX8_undo_12 ?_
    obtain ⟨er, eg⟩ := Prod.mk.inj (Option.some.inj h)
    exact v_iret X dX8_undo_14 er eg
def F_X8_weigh (N : Nat) (x1 : Int32) (x2 : Int32) (g : GS) : Option (Int32 × GS) := bd2 (F_X8_isPaper N x1 (g3 g 10 0 0 (0 : Int32))) (fun rv3 gv2 => if rv3 = 0 then some ((-1000001 : Int32), gv2) else bd2 (F_X8_in N (x2.toInt64) (1 : Int64) (60 : Int64) gv2) (fun rv7 gv6 => if rv7 = 0 then some ((-1000001 : Int32), gv6) else bd1 (F_X8_keep N  gv6) (fun gv10 => bd2 (F_X8_of N 5 x1 (2 : Int32) gv10) (fun rv13 gv12 => bd1 (F_X8_be N 5 x1 (2 : Int32) x2 gv12) (fun gv15 => some (rv13, gv15))))))
set_option maxRecDepth 100000 in
set_option maxHeartbeats 4000000 in
theorem c_X8_weigh (l : Launch) (D : va_G) (ad : Ky → Nat) (cy : Nat → ClassId) (hI : Inj ad) (N : Nat) (x1 : Int32) (x2 : Int32) (g : GS) (r : Int32) (gq : GS) (h : F_X8_weigh N x1 x2 g = some (r, gq)) : CtI l D ad cy yX8_weigh cX8_weigh 4 (some .int) 2 [.ref (ad (8, 0, 0)), .int x1, .int x2] g r gq := by
  refine CtI.of 1 hI (by decide +kernel) rfl (Nat.le_of_ble_eq_true rfl) (fun p e s m args below meth c X => ?_)
  unfold F_X8_weigh at h
  show Vy _ _ _ _ _ _ _ _ _ _ _ _ _ _ _ 0 [some (.ref (ad (8, 0, 0))), some (.int x1), some (.int x2), none] [] g
  refine v_aloadn X dX8_weigh_0 rfl rfl ?_
  refine v_iconst (v := 0) X dX8_weigh_1 (by decide) ?_
  refine pf_X8_50 X dX8_weigh_2 ?_
  refine v_aloadn X dX8_weigh_5 rfl rfl ?_
  refine v_iloadn X dX8_weigh_6 rfl rfl ?_
  obtain ⟨rv3, gv2, qv1, h⟩ := bd2_some h
  refine v_callVI (As := [.int x1]) (rest := []) X (c_X8_isPaper l D ad cy X.2.2.2.2.2.2.2.2.1 N x1 (g3 g 10 0 0 (0 : Int32)) rv3 gv2  qv1) mw_X8_isPaper ml_X8_208 (by decide) (by decide +kernel) (by decide) rfl rfl rfl rfl (Nat.le_of_ble_eq_true rfl) dX8_weigh_7 ?_
  refine v_if_eq X 25 dX8_weigh_10 (by decide) (fun cv4 => ?_) (fun cv4 => ?_)
  · replace h := (if_pos cv4).symm.trans h
    refine v_ldc X kc_X8_70 dX8_weigh_25 ?_
    obtain ⟨er, eg⟩ := Prod.mk.inj (Option.some.inj h)
    exact v_iret X dX8_weigh_27 er eg
  · replace h := (if_neg cv4).symm.trans h
    refine v_iloadn X dX8_weigh_13 rfl rfl ?_
    refine v_i2l X dX8_weigh_14 ?_
    refine v_lconst (v := 1) X dX8_weigh_15 (by decide) ?_
    refine v_ldc2 X kl_X8_225 dX8_weigh_16 ?_
    obtain ⟨rv7, gv6, qv5, h⟩ := bd2_some h
    refine v_callSI (As := [.long (x2.toInt64), .long (1 : Int64), .long (60 : Int64)]) (rest := []) X (c_X8_in l D ad cy X.2.2.2.2.2.2.2.2.1 N (x2.toInt64) (1 : Int64) (60 : Int64) gv2 rv7 gv6  qv5) mw_X8_in ml_X8_60 (by decide) rfl rfl (Nat.le_of_ble_eq_true rfl) dX8_weigh_19 ?_
    refine v_if_ne X 28 dX8_weigh_22 (by decide) (fun cv8 => ?_) (fun cv8 => ?_)
    · replace h := (if_neg cv8).symm.trans h
      refine v_aloadn X dX8_weigh_28 rfl rfl ?_
      obtain ⟨gv10, qv9, h⟩ := bd1_some h
      refine v_callVV (As := []) (rest := []) X (c_X8_keep l D ad cy X.2.2.2.2.2.2.2.2.1 N  gv6 gv10  qv9) mw_X8_keep ml_X8_201 (by decide) (by decide +kernel) (by decide) rfl rfl rfl rfl (Nat.le_of_ble_eq_true rfl) dX8_weigh_29 ?_
      refine v_aloadn X dX8_weigh_32 rfl rfl ?_
      refine gf_X8_19 X dX8_weigh_33 ?_
      refine v_iloadn X dX8_weigh_36 rfl rfl ?_
      refine v_iconst (v := 2) X dX8_weigh_37 (by decide) ?_
      obtain ⟨rv13, gv12, qv11, h⟩ := bd2_some h
      refine v_callSI (As := [.ref (ad (9, 11, 5)), .int x1, .int (2 : Int32)]) (rest := []) X (c_X8_of l D ad cy X.2.2.2.2.2.2.2.2.1 N 5 x1 (2 : Int32) gv10 rv13 gv12 (by decide +kernel) qv11) mw_X8_of ml_X8_155 (by decide) rfl rfl (Nat.le_of_ble_eq_true rfl) dX8_weigh_38 ?_
      refine v_istoren (lc' := [some (.ref (ad (8, 0, 0))), some (.int x1), some (.int x2), some (.int rv13)]) X dX8_weigh_41 rfl (by decide) rfl rfl ?_
      refine v_aloadn X dX8_weigh_42 rfl rfl ?_
      refine gf_X8_19 X dX8_weigh_43 ?_
      refine v_iloadn X dX8_weigh_46 rfl rfl ?_
      refine v_iconst (v := 2) X dX8_weigh_47 (by decide) ?_
      refine v_iloadn X dX8_weigh_48 rfl rfl ?_
      obtain ⟨gv15, qv14, h⟩ := bd1_some h
      refine v_callSV (As := [.ref (ad (9, 11, 5)), .int x1, .int (2 : Int32), .int x2]) (rest := []) X (c_X8_be l D ad cy X.2.2.2.2.2.2.2.2.1 N 5 x1 (2 : Int32) x2 gv12 gv15 (by decide +kernel) qv14) mw_X8_be ml_X8_170 (by decide) rfl rfl (Nat.le_of_ble_eq_true rfl) dX8_weigh_49 ?_
      refine v_iloadn X dX8_weigh_52 rfl rfl ?_
      obtain ⟨er, eg⟩ := Prod.mk.inj (Option.some.inj h)
      exact v_iret X dX8_weigh_53 er eg
    · replace h := (if_pos cv8).symm.trans h
      refine v_ldc X kc_X8_70 dX8_weigh_25 ?_
      obtain ⟨er, eg⟩ := Prod.mk.inj (Option.some.inj h)
      exact v_iret X dX8_weigh_27 er eg
def L_X8_when_34 (N : Nat) (z1 : Int32) (z2 : Int32) : Nat → Int32 → GS → Option ((Int32 × GS) ⊕ (Int32 × GS))
  | 0, _, _ => none
  | n + 1, y3, g => if (60 : Int32) < y3 then some (.inr (y3, g)) else if z2 = (1 : Int32) then bd2 (F_X8_isPolicy N 7 z1 g) (fun rv21 gv20 => if rv21 = 0 then bd1 (F_X8_hour N 7 gv20) (fun gv24 => L_X8_when_34 N z1 z2 n (y3 + 1) gv24) else some (.inl (y3, gv20))) else bd2 (F_X8_of N 7 z1 (3 : Int32) g) (fun rv15 gv14 => if rv15 = (2 : Int32) then some (.inl (y3, gv14)) else bd1 (F_X8_hour N 7 gv14) (fun gv18 => L_X8_when_34 N z1 z2 n (y3 + 1) gv18))
def F_X8_when (N : Nat) (x1 : Int32) (x2 : Int32) (g : GS) : Option (Int32 × GS) := bd2 (F_X8_isPaper N x1 (g3 g 10 0 0 (0 : Int32))) (fun rv3 gv2 => if rv3 = 0 then some ((-1000001 : Int32), gv2) else bd2 (F_X8_in N (x2.toInt64) (1 : Int64) (2 : Int64) gv2) (fun rv7 gv6 => if rv7 = 0 then some ((-1000001 : Int32), gv6) else bd1 (F_X8_layThen N  gv6) (fun gv10 => bs2 (L_X8_when_34 N x1 x2 N (0 : Int32) gv10) (fun rv28 gv29 => some (rv28, gv29)) (fun xv25 gv26 => some ((-1000000 : Int32), gv26)))))
set_option maxRecDepth 100000 in
set_option maxHeartbeats 4000000 in
theorem w_X8_when_34 {p : Program} {l : Launch} {e : Env} {s : State} {m : MethodId} {args : Array Value} {below : List Frame} {meth : Method} {c : Code} {D : va_G} {ad : Ky → Nat} {cy : Nat → ClassId} {r : Int32} {gq : GS} {N : Nat} (X : Cx p (rmd 6) s m args meth c RX8 cX8_when 4 (some .int) D ad cy) (z1 : Int32) (z2 : Int32) : ∀ (n : Nat) (y3 : Int32) (g : GS) (res : _), L_X8_when_34 N z1 z2 n y3 g = some res → (∀ (r1 : Int32) (g1 : GS), res = .inl (r1, g1) → r1 = r ∧ g1 = gq) → (∀ (y3' : Int32) (g' : GS), res = .inr (y3', g') → Vy p l e (rmd 6) s m args below meth c 4 D ad cy (QI D ad cy below args s r gq) 88 [some (.ref (ad (8, 0, 0))), some (.int z1), some (.int z2), some (.int y3')] [] g') → Vy p l e (rmd 6) s m args below meth c 4 D ad cy (QI D ad cy below args s r gq) 34 [some (.ref (ad (8, 0, 0))), some (.int z1), some (.int z2), some (.int y3)] [] g := by
  intro n
  induction n with
  | zero => intro y3 g res h kr k; cases h
  | succ n ih =>
    intro y3 g res h kr k
    rw [L_X8_when_34] at h
    refine v_iloadn X dX8_when_34 rfl rfl ?_
    refine v_bipush (v := 60) X dX8_when_35 (by decide) ?_
    refine v_icmp_gt X 88 dX8_when_37 (by decide) (fun cv11 => ?_) (fun cv11 => ?_)
    · replace h := (if_pos cv11).symm.trans h
      cases h
      exact k _ _ rfl
    · replace h := (if_neg cv11).symm.trans h
      refine v_iloadn X dX8_when_40 rfl rfl ?_
      refine v_iconst (v := 1) X dX8_when_41 (by decide) ?_
      refine v_icmp_ne X 59 dX8_when_42 (by decide) (fun cv12 => ?_) (fun cv12 => ?_)
      · replace h := (if_neg cv12).symm.trans h
        refine v_aloadn X dX8_when_59 rfl rfl ?_
        refine gf_X8_25 X dX8_when_60 ?_
        refine v_iloadn X dX8_when_63 rfl rfl ?_
        refine v_iconst (v := 3) X dX8_when_64 (by decide) ?_
        obtain ⟨rv15, gv14, qv13, h⟩ := bd2_some h
        refine v_callSI (As := [.ref (ad (9, 11, 7)), .int z1, .int (3 : Int32)]) (rest := []) X (c_X8_of l D ad cy X.2.2.2.2.2.2.2.2.1 N 7 z1 (3 : Int32) g rv15 gv14 (by decide +kernel) qv13) mw_X8_of ml_X8_155 (by decide) rfl rfl (Nat.le_of_ble_eq_true rfl) dX8_when_65 ?_
        refine v_iconst (v := 2) X dX8_when_68 (by decide) ?_
        refine v_icmp_ne X 74 dX8_when_69 (by decide) (fun cv16 => ?_) (fun cv16 => ?_)
        · replace h := (if_neg cv16).symm.trans h
          refine v_aloadn X dX8_when_74 rfl rfl ?_
          refine v_aloadn X dX8_when_75 rfl rfl ?_
          refine gf_X8_25 X dX8_when_76 ?_
          obtain ⟨gv18, qv17, h⟩ := bd1_some h
          refine v_callVV (As := [.ref (ad (9, 11, 7))]) (rest := []) X (c_X8_hour l D ad cy X.2.2.2.2.2.2.2.2.1 N 7 gv14 gv18 (by decide +kernel) qv17) mw_X8_hour ml_X8_188 (by decide) (by decide +kernel) (by decide) rfl rfl rfl rfl (Nat.le_of_ble_eq_true rfl) dX8_when_79 ?_
          refine v_iinc (v := (y3 + 1)) (lc' := [some (.ref (ad (8, 0, 0))), some (.int z1), some (.int z2), some (.int (y3 + 1))]) X dX8_when_82 rfl rfl (by decide) rfl rfl ?_
          refine v_goto X 34 dX8_when_85 (by decide) ?_
          exact ih (y3 + 1) gv18 _ h kr k
        · replace h := (if_pos cv16).symm.trans h
          refine v_iloadn X dX8_when_72 rfl rfl ?_
          obtain ⟨er, eg⟩ := kr _ _ (Option.some.inj h).symm
          exact v_iret X dX8_when_73 er eg
      · replace h := (if_pos cv12).symm.trans h
        refine v_aloadn X dX8_when_45 rfl rfl ?_
        refine gf_X8_25 X dX8_when_46 ?_
        refine v_iloadn X dX8_when_49 rfl rfl ?_
        obtain ⟨rv21, gv20, qv19, h⟩ := bd2_some h
        refine v_callSI (As := [.ref (ad (9, 11, 7)), .int z1]) (rest := []) X (c_X8_isPolicy l D ad cy X.2.2.2.2.2.2.2.2.1 N 7 z1 g rv21 gv20 (by decide +kernel) qv19) mw_X8_isPolicy ml_X8_192 (by decide) rfl rfl (Nat.le_of_ble_eq_true rfl) dX8_when_50 ?_
        refine v_if_eq X 74 dX8_when_53 (by decide) (fun cv22 => ?_) (fun cv22 => ?_)
        · replace h := (if_pos cv22).symm.trans h
          refine v_aloadn X dX8_when_74 rfl rfl ?_
          refine v_aloadn X dX8_when_75 rfl rfl ?_
          refine gf_X8_25 X dX8_when_76 ?_
          obtain ⟨gv24, qv23, h⟩ := bd1_some h
          refine v_callVV (As := [.ref (ad (9, 11, 7))]) (rest := []) X (c_X8_hour l D ad cy X.2.2.2.2.2.2.2.2.1 N 7 gv20 gv24 (by decide +kernel) qv23) mw_X8_hour ml_X8_188 (by decide) (by decide +kernel) (by decide) rfl rfl rfl rfl (Nat.le_of_ble_eq_true rfl) dX8_when_79 ?_
          refine v_iinc (v := (y3 + 1)) (lc' := [some (.ref (ad (8, 0, 0))), some (.int z1), some (.int z2), some (.int (y3 + 1))]) X dX8_when_82 rfl rfl (by decide) rfl rfl ?_
          refine v_goto X 34 dX8_when_85 (by decide) ?_
          exact ih (y3 + 1) gv24 _ h kr k
        · replace h := (if_neg cv22).symm.trans h
          refine v_goto X 72 dX8_when_56 (by decide) ?_
          refine v_iloadn X dX8_when_72 rfl rfl ?_
          obtain ⟨er, eg⟩ := kr _ _ (Option.some.inj h).symm
          exact v_iret X dX8_when_73 er eg
set_option maxRecDepth 100000 in
set_option maxHeartbeats 4000000 in
theorem c_X8_when (l : Launch) (D : va_G) (ad : Ky → Nat) (cy : Nat → ClassId) (hI : Inj ad) (N : Nat) (x1 : Int32) (x2 : Int32) (g : GS) (r : Int32) (gq : GS) (h : F_X8_when N x1 x2 g = some (r, gq)) : CtI l D ad cy yX8_when cX8_when 4 (some .int) 6 [.ref (ad (8, 0, 0)), .int x1, .int x2] g r gq := by
  refine CtI.of 1 hI (by decide +kernel) rfl (Nat.le_of_ble_eq_true rfl) (fun p e s m args below meth c X => ?_)
  unfold F_X8_when at h
  show Vy _ _ _ _ _ _ _ _ _ _ _ _ _ _ _ 0 [some (.ref (ad (8, 0, 0))), some (.int x1), some (.int x2), none] [] g
  refine v_aloadn X dX8_when_0 rfl rfl ?_
  refine v_iconst (v := 0) X dX8_when_1 (by decide) ?_
  refine pf_X8_50 X dX8_when_2 ?_
  refine v_aloadn X dX8_when_5 rfl rfl ?_
  refine v_iloadn X dX8_when_6 rfl rfl ?_
  obtain ⟨rv3, gv2, qv1, h⟩ := bd2_some h
  refine v_callVI (As := [.int x1]) (rest := []) X (c_X8_isPaper l D ad cy X.2.2.2.2.2.2.2.2.1 N x1 (g3 g 10 0 0 (0 : Int32)) rv3 gv2  qv1) mw_X8_isPaper ml_X8_208 (by decide) (by decide +kernel) (by decide) rfl rfl rfl rfl (Nat.le_of_ble_eq_true rfl) dX8_when_7 ?_
  refine v_if_eq X 25 dX8_when_10 (by decide) (fun cv4 => ?_) (fun cv4 => ?_)
  · replace h := (if_pos cv4).symm.trans h
    refine v_ldc X kc_X8_70 dX8_when_25 ?_
    obtain ⟨er, eg⟩ := Prod.mk.inj (Option.some.inj h)
    exact v_iret X dX8_when_27 er eg
  · replace h := (if_neg cv4).symm.trans h
    refine v_iloadn X dX8_when_13 rfl rfl ?_
    refine v_i2l X dX8_when_14 ?_
    refine v_lconst (v := 1) X dX8_when_15 (by decide) ?_
    refine v_ldc2 X kl_X8_68 dX8_when_16 ?_
    obtain ⟨rv7, gv6, qv5, h⟩ := bd2_some h
    refine v_callSI (As := [.long (x2.toInt64), .long (1 : Int64), .long (2 : Int64)]) (rest := []) X (c_X8_in l D ad cy X.2.2.2.2.2.2.2.2.1 N (x2.toInt64) (1 : Int64) (2 : Int64) gv2 rv7 gv6  qv5) mw_X8_in ml_X8_60 (by decide) rfl rfl (Nat.le_of_ble_eq_true rfl) dX8_when_19 ?_
    refine v_if_ne X 28 dX8_when_22 (by decide) (fun cv8 => ?_) (fun cv8 => ?_)
    · replace h := (if_neg cv8).symm.trans h
      refine v_aloadn X dX8_when_28 rfl rfl ?_
      obtain ⟨gv10, qv9, h⟩ := bd1_some h
      refine v_callVV (As := []) (rest := []) X (c_X8_layThen l D ad cy X.2.2.2.2.2.2.2.2.1 N  gv6 gv10  qv9) mw_X8_layThen ml_X8_232 (by decide) (by decide +kernel) (by decide) rfl rfl rfl rfl (Nat.le_of_ble_eq_true rfl) dX8_when_29 ?_
      refine v_iconst (v := 0) X dX8_when_32 (by decide) ?_
      refine v_istoren (lc' := [some (.ref (ad (8, 0, 0))), some (.int x1), some (.int x2), some (.int (0 : Int32))]) X dX8_when_33 rfl (by decide) rfl rfl ?_
      obtain ⟨zv30, qv27, h⟩ := bs2_some h
      refine w_X8_when_34 X x1 x2 N (0 : Int32) gv10 _ qv27 ?_ ?_
      · intro rv28 gv29 e1
        subst e1
        dsimp only at h
        cases h
        exact ⟨rfl, rfl⟩
      · intro xv25 gv26 e1
        subst e1
        dsimp only at h
        refine v_ldc X kc_X8_93 dX8_when_88 ?_
        obtain ⟨er, eg⟩ := Prod.mk.inj (Option.some.inj h)
        exact v_iret X dX8_when_90 er eg
    · replace h := (if_pos cv8).symm.trans h
      refine v_ldc X kc_X8_70 dX8_when_25 ?_
      obtain ⟨er, eg⟩ := Prod.mk.inj (Option.some.inj h)
      exact v_iret X dX8_when_27 er eg
def L_X8_who_104 (N : Nat) (z1 : Int32) (z2 : Int32) (z3 : Int32) (z4 : Int32) (z5 : Int32) (z6 : Int32) (z11 : Int32) : Nat → Int32 → Int32 → Int32 → Int32 → Int32 → GS → Option (Int32 × Int32 × Int32 × Int32 × Int32 × GS)
  | 0, _, _, _, _, _, _ => none
  | n + 1, y7, y8, y9, y10, y12, g => if z11 < y12 then some (y7, y8, y9, y10, y12, g) else bd1 (F_X8_layThen N  g) (fun gv22 => if z2 = 0 then bd1 (F_X8_be N 7 z1 (0 : Int32) y12 gv22) (fun gv44 => bd2 (F_X8_isSo N z1 (((40 : Int32) * z3) + z4) z5 gv44) (fun rv47 gv46 => if rv47 = 0 then L_X8_who_104 N z1 z2 z3 z4 z5 z6 z11 n y7 y8 y9 y10 (y12 + 1) gv46 else if (2 : Int32) ≤ z2 then if y8 = 0 then L_X8_who_104 N z1 z2 z3 z4 z5 z6 z11 n (y7 ||| (0 : Int32)) (y8 + 1) y12 y12 (y12 + 1) gv46 else L_X8_who_104 N z1 z2 z3 z4 z5 z6 z11 n (y7 ||| (0 : Int32)) (y8 + 1) y9 y12 (y12 + 1) gv46 else if y8 = 0 then L_X8_who_104 N z1 z2 z3 z4 z5 z6 z11 n (y7 ||| ((1 : Int32) <<< (y12 &&& 31))) (y8 + 1) y12 y12 (y12 + 1) gv46 else L_X8_who_104 N z1 z2 z3 z4 z5 z6 z11 n (y7 ||| ((1 : Int32) <<< (y12 &&& 31))) (y8 + 1) y9 y12 (y12 + 1) gv46)) else if z2 = (1 : Int32) then bd1 (F_X8_be N 7 z1 (1 : Int32) y12 gv22) (fun gv35 => bd2 (F_X8_isSo N z1 (((40 : Int32) * z3) + z4) z5 gv35) (fun rv38 gv37 => if rv38 = 0 then L_X8_who_104 N z1 z2 z3 z4 z5 z6 z11 n y7 y8 y9 y10 (y12 + 1) gv37 else if (2 : Int32) ≤ z2 then if y8 = 0 then L_X8_who_104 N z1 z2 z3 z4 z5 z6 z11 n (y7 ||| (0 : Int32)) (y8 + 1) y12 y12 (y12 + 1) gv37 else L_X8_who_104 N z1 z2 z3 z4 z5 z6 z11 n (y7 ||| (0 : Int32)) (y8 + 1) y9 y12 (y12 + 1) gv37 else if y8 = 0 then L_X8_who_104 N z1 z2 z3 z4 z5 z6 z11 n (y7 ||| ((1 : Int32) <<< (y12 &&& 31))) (y8 + 1) y12 y12 (y12 + 1) gv37 else L_X8_who_104 N z1 z2 z3 z4 z5 z6 z11 n (y7 ||| ((1 : Int32) <<< (y12 &&& 31))) (y8 + 1) y9 y12 (y12 + 1) gv37)) else bd1 (F_X8_be N 7 z1 (2 : Int32) y12 gv22) (fun gv26 => bd2 (F_X8_isSo N z1 (((40 : Int32) * z3) + z4) z5 gv26) (fun rv29 gv28 => if rv29 = 0 then L_X8_who_104 N z1 z2 z3 z4 z5 z6 z11 n y7 y8 y9 y10 (y12 + 1) gv28 else if (2 : Int32) ≤ z2 then if y8 = 0 then L_X8_who_104 N z1 z2 z3 z4 z5 z6 z11 n (y7 ||| (0 : Int32)) (y8 + 1) y12 y12 (y12 + 1) gv28 else L_X8_who_104 N z1 z2 z3 z4 z5 z6 z11 n (y7 ||| (0 : Int32)) (y8 + 1) y9 y12 (y12 + 1) gv28 else if y8 = 0 then L_X8_who_104 N z1 z2 z3 z4 z5 z6 z11 n (y7 ||| ((1 : Int32) <<< (y12 &&& 31))) (y8 + 1) y12 y12 (y12 + 1) gv28 else L_X8_who_104 N z1 z2 z3 z4 z5 z6 z11 n (y7 ||| ((1 : Int32) <<< (y12 &&& 31))) (y8 + 1) y9 y12 (y12 + 1) gv28)))
def F_X8_who (N : Nat) (x1 : Int32) (x2 : Int32) (x3 : Int32) (x4 : Int32) (x5 : Int32) (g : GS) : Option (Int32 × GS) := bd2 (F_X8_isPaper N x1 (g3 g 10 0 0 (0 : Int32))) (fun rv3 gv2 => if rv3 = 0 then some ((-1000001 : Int32), gv2) else bd2 (F_X8_in N (x2.toInt64) (0 : Int64) (4 : Int64) gv2) (fun rv7 gv6 => if rv7 = 0 then some ((-1000001 : Int32), gv6) else bd2 (F_X8_isMany N x3 x5 gv6) (fun rv11 gv10 => if rv11 = 0 then some ((-1000001 : Int32), gv10) else bd2 (F_X8_rowFound N x3 x4 x5 gv10) (fun rv15 gv14 => if rv15 = 0 then if x2 = 0 then if x2 = (1 : Int32) then bd6 (L_X8_who_104 N x1 x2 x3 x4 x5 rv15 (5 : Int32) N (0 : Int32) (0 : Int32) (-1000000 : Int32) (-1000000 : Int32) (0 : Int32) gv14) (fun xv104 xv105 xv106 xv107 xv108 gv109 => if (2 : Int32) ≤ x2 then if x2 = (2 : Int32) then some (xv105, gv109) else if x2 = (3 : Int32) then some (xv106, gv109) else some (xv107, gv109) else some (xv104, gv109)) else bd6 (L_X8_who_104 N x1 x2 x3 x4 x5 rv15 (5 : Int32) N (0 : Int32) (0 : Int32) (-1000000 : Int32) (-1000000 : Int32) (1 : Int32) gv14) (fun xv94 xv95 xv96 xv97 xv98 gv99 => if (2 : Int32) ≤ x2 then if x2 = (2 : Int32) then some (xv95, gv99) else if x2 = (3 : Int32) then some (xv96, gv99) else some (xv97, gv99) else some (xv94, gv99)) else if x2 = (1 : Int32) then if x2 = (1 : Int32) then bd6 (L_X8_who_104 N x1 x2 x3 x4 x5 rv15 (9 : Int32) N (0 : Int32) (0 : Int32) (-1000000 : Int32) (-1000000 : Int32) (0 : Int32) gv14) (fun xv83 xv84 xv85 xv86 xv87 gv88 => if (2 : Int32) ≤ x2 then if x2 = (2 : Int32) then some (xv84, gv88) else if x2 = (3 : Int32) then some (xv85, gv88) else some (xv86, gv88) else some (xv83, gv88)) else bd6 (L_X8_who_104 N x1 x2 x3 x4 x5 rv15 (9 : Int32) N (0 : Int32) (0 : Int32) (-1000000 : Int32) (-1000000 : Int32) (1 : Int32) gv14) (fun xv73 xv74 xv75 xv76 xv77 gv78 => if (2 : Int32) ≤ x2 then if x2 = (2 : Int32) then some (xv74, gv78) else if x2 = (3 : Int32) then some (xv75, gv78) else some (xv76, gv78) else some (xv73, gv78)) else if x2 = (1 : Int32) then bd6 (L_X8_who_104 N x1 x2 x3 x4 x5 rv15 (60 : Int32) N (0 : Int32) (0 : Int32) (-1000000 : Int32) (-1000000 : Int32) (0 : Int32) gv14) (fun xv62 xv63 xv64 xv65 xv66 gv67 => if (2 : Int32) ≤ x2 then if x2 = (2 : Int32) then some (xv63, gv67) else if x2 = (3 : Int32) then some (xv64, gv67) else some (xv65, gv67) else some (xv62, gv67)) else bd6 (L_X8_who_104 N x1 x2 x3 x4 x5 rv15 (60 : Int32) N (0 : Int32) (0 : Int32) (-1000000 : Int32) (-1000000 : Int32) (1 : Int32) gv14) (fun xv52 xv53 xv54 xv55 xv56 gv57 => if (2 : Int32) ≤ x2 then if x2 = (2 : Int32) then some (xv53, gv57) else if x2 = (3 : Int32) then some (xv54, gv57) else some (xv55, gv57) else some (xv52, gv57)) else some (rv15, gv14)))))
set_option maxRecDepth 100000 in
set_option maxHeartbeats 4000000 in
theorem w_X8_who_104 {p : Program} {l : Launch} {e : Env} {s : State} {m : MethodId} {args : Array Value} {below : List Frame} {meth : Method} {c : Code} {D : va_G} {ad : Ky → Nat} {cy : Nat → ClassId} {r : Int32} {gq : GS} {N : Nat} (X : Cx p (rmd 7) s m args meth c RX8 cX8_who 13 (some .int) D ad cy) (z1 : Int32) (z2 : Int32) (z3 : Int32) (z4 : Int32) (z5 : Int32) (z6 : Int32) (z11 : Int32) : ∀ (n : Nat) (y7 : Int32) (y8 : Int32) (y9 : Int32) (y10 : Int32) (y12 : Int32) (g : GS) (y7' : Int32) (y8' : Int32) (y9' : Int32) (y10' : Int32) (y12' : Int32) (g' : GS), L_X8_who_104 N z1 z2 z3 z4 z5 z6 z11 n y7 y8 y9 y10 y12 g = some (y7', y8', y9', y10', y12', g') → Vy p l e (rmd 7) s m args below meth c 13 D ad cy (QI D ad cy below args s r gq) 205 [some (.ref (ad (8, 0, 0))), some (.int z1), some (.int z2), some (.int z3), some (.int z4), some (.int z5), some (.int z6), some (.int y7'), some (.int y8'), some (.int y9'), some (.int y10'), some (.int z11), some (.int y12')] [] g' → Vy p l e (rmd 7) s m args below meth c 13 D ad cy (QI D ad cy below args s r gq) 104 [some (.ref (ad (8, 0, 0))), some (.int z1), some (.int z2), some (.int z3), some (.int z4), some (.int z5), some (.int z6), some (.int y7), some (.int y8), some (.int y9), some (.int y10), some (.int z11), some (.int y12)] [] g := by
  intro n
  induction n with
  | zero => intro y7 y8 y9 y10 y12 g y7' y8' y9' y10' y12' g' h k; cases h
  | succ n ih =>
    intro y7 y8 y9 y10 y12 g y7' y8' y9' y10' y12' g' h k
    rw [L_X8_who_104] at h
    refine v_iload X dX8_who_104 rfl ?_
    refine v_iload X dX8_who_106 rfl ?_
    refine v_icmp_gt X 205 dX8_who_108 (by decide) (fun cv20 => ?_) (fun cv20 => ?_)
    · replace h := (if_pos cv20).symm.trans h
      cases h
      exact k
    · replace h := (if_neg cv20).symm.trans h
      refine v_aloadn X dX8_who_111 rfl rfl ?_
      obtain ⟨gv22, qv21, h⟩ := bd1_some h
      refine v_callVV (As := []) (rest := []) X (c_X8_layThen l D ad cy X.2.2.2.2.2.2.2.2.1 N  g gv22  qv21) mw_X8_layThen ml_X8_232 (by decide) (by decide +kernel) (by decide) rfl rfl rfl rfl (Nat.le_of_ble_eq_true rfl) dX8_who_112 ?_
      refine v_aloadn X dX8_who_115 rfl rfl ?_
      refine gf_X8_25 X dX8_who_116 ?_
      refine v_iloadn X dX8_who_119 rfl rfl ?_
      refine v_iloadn X dX8_who_120 rfl rfl ?_
      refine v_if_ne X 128 dX8_who_121 (by decide) (fun cv23 => ?_) (fun cv23 => ?_)
      · replace h := (if_neg cv23).symm.trans h
        refine v_iloadn X dX8_who_128 rfl rfl ?_
        refine v_iconst (v := 1) X dX8_who_129 (by decide) ?_
        refine v_icmp_ne X 137 dX8_who_130 (by decide) (fun cv24 => ?_) (fun cv24 => ?_)
        · replace h := (if_neg cv24).symm.trans h
          refine v_iconst (v := 2) X dX8_who_137 (by decide) ?_
          refine v_iload X dX8_who_138 rfl ?_
          obtain ⟨gv26, qv25, h⟩ := bd1_some h
          refine v_callSV (As := [.ref (ad (9, 11, 7)), .int z1, .int (2 : Int32), .int y12]) (rest := []) X (c_X8_be l D ad cy X.2.2.2.2.2.2.2.2.1 N 7 z1 (2 : Int32) y12 gv22 gv26 (by decide +kernel) qv25) mw_X8_be ml_X8_170 (by decide) rfl rfl (Nat.le_of_ble_eq_true rfl) dX8_who_140 ?_
          refine v_aloadn X dX8_who_143 rfl rfl ?_
          refine v_iloadn X dX8_who_144 rfl rfl ?_
          refine v_bipush (v := 40) X dX8_who_145 (by decide) ?_
          refine v_iloadn X dX8_who_147 rfl rfl ?_
          refine v_imul X dX8_who_148 ?_
          refine v_iload X dX8_who_149 rfl ?_
          refine v_iadd X dX8_who_151 ?_
          refine v_iload X dX8_who_152 rfl ?_
          obtain ⟨rv29, gv28, qv27, h⟩ := bd2_some h
          refine v_callVI (As := [.int z1, .int (((40 : Int32) * z3) + z4), .int z5]) (rest := []) X (c_X8_isSo l D ad cy X.2.2.2.2.2.2.2.2.1 N z1 (((40 : Int32) * z3) + z4) z5 gv26 rv29 gv28  qv27) mw_X8_isSo ml_X8_258 (by decide) (by decide +kernel) (by decide) rfl rfl rfl rfl (Nat.le_of_ble_eq_true rfl) dX8_who_154 ?_
          refine v_if_eq X 199 dX8_who_157 (by decide) (fun cv30 => ?_) (fun cv30 => ?_)
          · replace h := (if_pos cv30).symm.trans h
            refine v_iinc (v := (y12 + 1)) (lc' := [some (.ref (ad (8, 0, 0))), some (.int z1), some (.int z2), some (.int z3), some (.int z4), some (.int z5), some (.int z6), some (.int y7), some (.int y8), some (.int y9), some (.int y10), some (.int z11), some (.int (y12 + 1))]) X dX8_who_199 rfl rfl (by decide) rfl rfl ?_
            refine v_goto X 104 dX8_who_202 (by decide) ?_
            exact ih y7 y8 y9 y10 (y12 + 1) gv28 _ _ _ _ _ _ h k
          · replace h := (if_neg cv30).symm.trans h
            refine v_iload X dX8_who_160 rfl ?_
            refine v_iloadn X dX8_who_162 rfl rfl ?_
            refine v_iconst (v := 2) X dX8_who_163 (by decide) ?_
            refine v_icmp_ge X 174 dX8_who_164 (by decide) (fun cv31 => ?_) (fun cv31 => ?_)
            · replace h := (if_pos cv31).symm.trans h
              refine v_iconst (v := 0) X dX8_who_174 (by decide) ?_
              refine v_ior X dX8_who_175 ?_
              refine v_istore (lc' := [some (.ref (ad (8, 0, 0))), some (.int z1), some (.int z2), some (.int z3), some (.int z4), some (.int z5), some (.int z6), some (.int (y7 ||| (0 : Int32))), some (.int y8), some (.int y9), some (.int y10), some (.int z11), some (.int y12)]) X dX8_who_176 (by decide) rfl rfl ?_
              refine v_iload X dX8_who_178 rfl ?_
              refine v_if_ne X 188 dX8_who_180 (by decide) (fun cv32 => ?_) (fun cv32 => ?_)
              · replace h := (if_neg cv32).symm.trans h
                refine v_iload X dX8_who_188 rfl ?_
                refine v_istore (lc' := [some (.ref (ad (8, 0, 0))), some (.int z1), some (.int z2), some (.int z3), some (.int z4), some (.int z5), some (.int z6), some (.int (y7 ||| (0 : Int32))), some (.int y8), some (.int y9), some (.int y10), some (.int z11), some (.int y12)]) X dX8_who_190 (by decide) rfl rfl ?_
                refine v_iload X dX8_who_192 rfl ?_
                refine v_istore (lc' := [some (.ref (ad (8, 0, 0))), some (.int z1), some (.int z2), some (.int z3), some (.int z4), some (.int z5), some (.int z6), some (.int (y7 ||| (0 : Int32))), some (.int y8), some (.int y9), some (.int y12), some (.int z11), some (.int y12)]) X dX8_who_194 (by decide) rfl rfl ?_
                refine v_iinc (v := (y8 + 1)) (lc' := [some (.ref (ad (8, 0, 0))), some (.int z1), some (.int z2), some (.int z3), some (.int z4), some (.int z5), some (.int z6), some (.int (y7 ||| (0 : Int32))), some (.int (y8 + 1)), some (.int y9), some (.int y12), some (.int z11), some (.int y12)]) X dX8_who_196 rfl rfl (by decide) rfl rfl ?_
                refine v_iinc (v := (y12 + 1)) (lc' := [some (.ref (ad (8, 0, 0))), some (.int z1), some (.int z2), some (.int z3), some (.int z4), some (.int z5), some (.int z6), some (.int (y7 ||| (0 : Int32))), some (.int (y8 + 1)), some (.int y9), some (.int y12), some (.int z11), some (.int (y12 + 1))]) X dX8_who_199 rfl rfl (by decide) rfl rfl ?_
                refine v_goto X 104 dX8_who_202 (by decide) ?_
                exact ih (y7 ||| (0 : Int32)) (y8 + 1) y9 y12 (y12 + 1) gv28 _ _ _ _ _ _ h k
              · replace h := (if_pos cv32).symm.trans h
                refine v_iload X dX8_who_183 rfl ?_
                refine v_goto X 190 dX8_who_185 (by decide) ?_
                refine v_istore (lc' := [some (.ref (ad (8, 0, 0))), some (.int z1), some (.int z2), some (.int z3), some (.int z4), some (.int z5), some (.int z6), some (.int (y7 ||| (0 : Int32))), some (.int y8), some (.int y12), some (.int y10), some (.int z11), some (.int y12)]) X dX8_who_190 (by decide) rfl rfl ?_
                refine v_iload X dX8_who_192 rfl ?_
                refine v_istore (lc' := [some (.ref (ad (8, 0, 0))), some (.int z1), some (.int z2), some (.int z3), some (.int z4), some (.int z5), some (.int z6), some (.int (y7 ||| (0 : Int32))), some (.int y8), some (.int y12), some (.int y12), some (.int z11), some (.int y12)]) X dX8_who_194 (by decide) rfl rfl ?_
                refine v_iinc (v := (y8 + 1)) (lc' := [some (.ref (ad (8, 0, 0))), some (.int z1), some (.int z2), some (.int z3), some (.int z4), some (.int z5), some (.int z6), some (.int (y7 ||| (0 : Int32))), some (.int (y8 + 1)), some (.int y12), some (.int y12), some (.int z11), some (.int y12)]) X dX8_who_196 rfl rfl (by decide) rfl rfl ?_
                refine v_iinc (v := (y12 + 1)) (lc' := [some (.ref (ad (8, 0, 0))), some (.int z1), some (.int z2), some (.int z3), some (.int z4), some (.int z5), some (.int z6), some (.int (y7 ||| (0 : Int32))), some (.int (y8 + 1)), some (.int y12), some (.int y12), some (.int z11), some (.int (y12 + 1))]) X dX8_who_199 rfl rfl (by decide) rfl rfl ?_
                refine v_goto X 104 dX8_who_202 (by decide) ?_
                exact ih (y7 ||| (0 : Int32)) (y8 + 1) y12 y12 (y12 + 1) gv28 _ _ _ _ _ _ h k
            · replace h := (if_neg cv31).symm.trans h
              refine v_iconst (v := 1) X dX8_who_167 (by decide) ?_
              refine v_iload X dX8_who_168 rfl ?_
              refine v_ishl X dX8_who_170 ?_
              refine v_goto X 175 dX8_who_171 (by decide) ?_
              refine v_ior X dX8_who_175 ?_
              refine v_istore (lc' := [some (.ref (ad (8, 0, 0))), some (.int z1), some (.int z2), some (.int z3), some (.int z4), some (.int z5), some (.int z6), some (.int (y7 ||| ((1 : Int32) <<< (y12 &&& 31)))), some (.int y8), some (.int y9), some (.int y10), some (.int z11), some (.int y12)]) X dX8_who_176 (by decide) rfl rfl ?_
              refine v_iload X dX8_who_178 rfl ?_
              refine v_if_ne X 188 dX8_who_180 (by decide) (fun cv33 => ?_) (fun cv33 => ?_)
              · replace h := (if_neg cv33).symm.trans h
                refine v_iload X dX8_who_188 rfl ?_
                refine v_istore (lc' := [some (.ref (ad (8, 0, 0))), some (.int z1), some (.int z2), some (.int z3), some (.int z4), some (.int z5), some (.int z6), some (.int (y7 ||| ((1 : Int32) <<< (y12 &&& 31)))), some (.int y8), some (.int y9), some (.int y10), some (.int z11), some (.int y12)]) X dX8_who_190 (by decide) rfl rfl ?_
                refine v_iload X dX8_who_192 rfl ?_
                refine v_istore (lc' := [some (.ref (ad (8, 0, 0))), some (.int z1), some (.int z2), some (.int z3), some (.int z4), some (.int z5), some (.int z6), some (.int (y7 ||| ((1 : Int32) <<< (y12 &&& 31)))), some (.int y8), some (.int y9), some (.int y12), some (.int z11), some (.int y12)]) X dX8_who_194 (by decide) rfl rfl ?_
                refine v_iinc (v := (y8 + 1)) (lc' := [some (.ref (ad (8, 0, 0))), some (.int z1), some (.int z2), some (.int z3), some (.int z4), some (.int z5), some (.int z6), some (.int (y7 ||| ((1 : Int32) <<< (y12 &&& 31)))), some (.int (y8 + 1)), some (.int y9), some (.int y12), some (.int z11), some (.int y12)]) X dX8_who_196 rfl rfl (by decide) rfl rfl ?_
                refine v_iinc (v := (y12 + 1)) (lc' := [some (.ref (ad (8, 0, 0))), some (.int z1), some (.int z2), some (.int z3), some (.int z4), some (.int z5), some (.int z6), some (.int (y7 ||| ((1 : Int32) <<< (y12 &&& 31)))), some (.int (y8 + 1)), some (.int y9), some (.int y12), some (.int z11), some (.int (y12 + 1))]) X dX8_who_199 rfl rfl (by decide) rfl rfl ?_
                refine v_goto X 104 dX8_who_202 (by decide) ?_
                exact ih (y7 ||| ((1 : Int32) <<< (y12 &&& 31))) (y8 + 1) y9 y12 (y12 + 1) gv28 _ _ _ _ _ _ h k
              · replace h := (if_pos cv33).symm.trans h
                refine v_iload X dX8_who_183 rfl ?_
                refine v_goto X 190 dX8_who_185 (by decide) ?_
                refine v_istore (lc' := [some (.ref (ad (8, 0, 0))), some (.int z1), some (.int z2), some (.int z3), some (.int z4), some (.int z5), some (.int z6), some (.int (y7 ||| ((1 : Int32) <<< (y12 &&& 31)))), some (.int y8), some (.int y12), some (.int y10), some (.int z11), some (.int y12)]) X dX8_who_190 (by decide) rfl rfl ?_
                refine v_iload X dX8_who_192 rfl ?_
                refine v_istore (lc' := [some (.ref (ad (8, 0, 0))), some (.int z1), some (.int z2), some (.int z3), some (.int z4), some (.int z5), some (.int z6), some (.int (y7 ||| ((1 : Int32) <<< (y12 &&& 31)))), some (.int y8), some (.int y12), some (.int y12), some (.int z11), some (.int y12)]) X dX8_who_194 (by decide) rfl rfl ?_
                refine v_iinc (v := (y8 + 1)) (lc' := [some (.ref (ad (8, 0, 0))), some (.int z1), some (.int z2), some (.int z3), some (.int z4), some (.int z5), some (.int z6), some (.int (y7 ||| ((1 : Int32) <<< (y12 &&& 31)))), some (.int (y8 + 1)), some (.int y12), some (.int y12), some (.int z11), some (.int y12)]) X dX8_who_196 rfl rfl (by decide) rfl rfl ?_
                refine v_iinc (v := (y12 + 1)) (lc' := [some (.ref (ad (8, 0, 0))), some (.int z1), some (.int z2), some (.int z3), some (.int z4), some (.int z5), some (.int z6), some (.int (y7 ||| ((1 : Int32) <<< (y12 &&& 31)))), some (.int (y8 + 1)), some (.int y12), some (.int y12), some (.int z11), some (.int (y12 + 1))]) X dX8_who_199 rfl rfl (by decide) rfl rfl ?_
                refine v_goto X 104 dX8_who_202 (by decide) ?_
                exact ih (y7 ||| ((1 : Int32) <<< (y12 &&& 31))) (y8 + 1) y12 y12 (y12 + 1) gv28 _ _ _ _ _ _ h k
        · replace h := (if_pos cv24).symm.trans h
          refine v_iconst (v := 1) X dX8_who_133 (by decide) ?_
          refine v_goto X 138 dX8_who_134 (by decide) ?_
          refine v_iload X dX8_who_138 rfl ?_
          obtain ⟨gv35, qv34, h⟩ := bd1_some h
          refine v_callSV (As := [.ref (ad (9, 11, 7)), .int z1, .int (1 : Int32), .int y12]) (rest := []) X (c_X8_be l D ad cy X.2.2.2.2.2.2.2.2.1 N 7 z1 (1 : Int32) y12 gv22 gv35 (by decide +kernel) qv34) mw_X8_be ml_X8_170 (by decide) rfl rfl (Nat.le_of_ble_eq_true rfl) dX8_who_140 ?_
          refine v_aloadn X dX8_who_143 rfl rfl ?_
          refine v_iloadn X dX8_who_144 rfl rfl ?_
          refine v_bipush (v := 40) X dX8_who_145 (by decide) ?_
          refine v_iloadn X dX8_who_147 rfl rfl ?_
          refine v_imul X dX8_who_148 ?_
          refine v_iload X dX8_who_149 rfl ?_
          refine v_iadd X dX8_who_151 ?_
          refine v_iload X dX8_who_152 rfl ?_
          obtain ⟨rv38, gv37, qv36, h⟩ := bd2_some h
          refine v_callVI (As := [.int z1, .int (((40 : Int32) * z3) + z4), .int z5]) (rest := []) X (c_X8_isSo l D ad cy X.2.2.2.2.2.2.2.2.1 N z1 (((40 : Int32) * z3) + z4) z5 gv35 rv38 gv37  qv36) mw_X8_isSo ml_X8_258 (by decide) (by decide +kernel) (by decide) rfl rfl rfl rfl (Nat.le_of_ble_eq_true rfl) dX8_who_154 ?_
          refine v_if_eq X 199 dX8_who_157 (by decide) (fun cv39 => ?_) (fun cv39 => ?_)
          · replace h := (if_pos cv39).symm.trans h
            refine v_iinc (v := (y12 + 1)) (lc' := [some (.ref (ad (8, 0, 0))), some (.int z1), some (.int z2), some (.int z3), some (.int z4), some (.int z5), some (.int z6), some (.int y7), some (.int y8), some (.int y9), some (.int y10), some (.int z11), some (.int (y12 + 1))]) X dX8_who_199 rfl rfl (by decide) rfl rfl ?_
            refine v_goto X 104 dX8_who_202 (by decide) ?_
            exact ih y7 y8 y9 y10 (y12 + 1) gv37 _ _ _ _ _ _ h k
          · replace h := (if_neg cv39).symm.trans h
            refine v_iload X dX8_who_160 rfl ?_
            refine v_iloadn X dX8_who_162 rfl rfl ?_
            refine v_iconst (v := 2) X dX8_who_163 (by decide) ?_
            refine v_icmp_ge X 174 dX8_who_164 (by decide) (fun cv40 => ?_) (fun cv40 => ?_)
            · replace h := (if_pos cv40).symm.trans h
              refine v_iconst (v := 0) X dX8_who_174 (by decide) ?_
              refine v_ior X dX8_who_175 ?_
              refine v_istore (lc' := [some (.ref (ad (8, 0, 0))), some (.int z1), some (.int z2), some (.int z3), some (.int z4), some (.int z5), some (.int z6), some (.int (y7 ||| (0 : Int32))), some (.int y8), some (.int y9), some (.int y10), some (.int z11), some (.int y12)]) X dX8_who_176 (by decide) rfl rfl ?_
              refine v_iload X dX8_who_178 rfl ?_
              refine v_if_ne X 188 dX8_who_180 (by decide) (fun cv41 => ?_) (fun cv41 => ?_)
              · replace h := (if_neg cv41).symm.trans h
                refine v_iload X dX8_who_188 rfl ?_
                refine v_istore (lc' := [some (.ref (ad (8, 0, 0))), some (.int z1), some (.int z2), some (.int z3), some (.int z4), some (.int z5), some (.int z6), some (.int (y7 ||| (0 : Int32))), some (.int y8), some (.int y9), some (.int y10), some (.int z11), some (.int y12)]) X dX8_who_190 (by decide) rfl rfl ?_
                refine v_iload X dX8_who_192 rfl ?_
                refine v_istore (lc' := [some (.ref (ad (8, 0, 0))), some (.int z1), some (.int z2), some (.int z3), some (.int z4), some (.int z5), some (.int z6), some (.int (y7 ||| (0 : Int32))), some (.int y8), some (.int y9), some (.int y12), some (.int z11), some (.int y12)]) X dX8_who_194 (by decide) rfl rfl ?_
                refine v_iinc (v := (y8 + 1)) (lc' := [some (.ref (ad (8, 0, 0))), some (.int z1), some (.int z2), some (.int z3), some (.int z4), some (.int z5), some (.int z6), some (.int (y7 ||| (0 : Int32))), some (.int (y8 + 1)), some (.int y9), some (.int y12), some (.int z11), some (.int y12)]) X dX8_who_196 rfl rfl (by decide) rfl rfl ?_
                refine v_iinc (v := (y12 + 1)) (lc' := [some (.ref (ad (8, 0, 0))), some (.int z1), some (.int z2), some (.int z3), some (.int z4), some (.int z5), some (.int z6), some (.int (y7 ||| (0 : Int32))), some (.int (y8 + 1)), some (.int y9), some (.int y12), some (.int z11), some (.int (y12 + 1))]) X dX8_who_199 rfl rfl (by decide) rfl rfl ?_
                refine v_goto X 104 dX8_who_202 (by decide) ?_
                exact ih (y7 ||| (0 : Int32)) (y8 + 1) y9 y12 (y12 + 1) gv37 _ _ _ _ _ _ h k
              · replace h := (if_pos cv41).symm.trans h
                refine v_iload X dX8_who_183 rfl ?_
                refine v_goto X 190 dX8_who_185 (by decide) ?_
                refine v_istore (lc' := [some (.ref (ad (8, 0, 0))), some (.int z1), some (.int z2), some (.int z3), some (.int z4), some (.int z5), some (.int z6), some (.int (y7 ||| (0 : Int32))), some (.int y8), some (.int y12), some (.int y10), some (.int z11), some (.int y12)]) X dX8_who_190 (by decide) rfl rfl ?_
                refine v_iload X dX8_who_192 rfl ?_
                refine v_istore (lc' := [some (.ref (ad (8, 0, 0))), some (.int z1), some (.int z2), some (.int z3), some (.int z4), some (.int z5), some (.int z6), some (.int (y7 ||| (0 : Int32))), some (.int y8), some (.int y12), some (.int y12), some (.int z11), some (.int y12)]) X dX8_who_194 (by decide) rfl rfl ?_
                refine v_iinc (v := (y8 + 1)) (lc' := [some (.ref (ad (8, 0, 0))), some (.int z1), some (.int z2), some (.int z3), some (.int z4), some (.int z5), some (.int z6), some (.int (y7 ||| (0 : Int32))), some (.int (y8 + 1)), some (.int y12), some (.int y12), some (.int z11), some (.int y12)]) X dX8_who_196 rfl rfl (by decide) rfl rfl ?_
                refine v_iinc (v := (y12 + 1)) (lc' := [some (.ref (ad (8, 0, 0))), some (.int z1), some (.int z2), some (.int z3), some (.int z4), some (.int z5), some (.int z6), some (.int (y7 ||| (0 : Int32))), some (.int (y8 + 1)), some (.int y12), some (.int y12), some (.int z11), some (.int (y12 + 1))]) X dX8_who_199 rfl rfl (by decide) rfl rfl ?_
                refine v_goto X 104 dX8_who_202 (by decide) ?_
                exact ih (y7 ||| (0 : Int32)) (y8 + 1) y12 y12 (y12 + 1) gv37 _ _ _ _ _ _ h k
            · replace h := (if_neg cv40).symm.trans h
              refine v_iconst (v := 1) X dX8_who_167 (by decide) ?_
              refine v_iload X dX8_who_168 rfl ?_
              refine v_ishl X dX8_who_170 ?_
              refine v_goto X 175 dX8_who_171 (by decide) ?_
              refine v_ior X dX8_who_175 ?_
              refine v_istore (lc' := [some (.ref (ad (8, 0, 0))), some (.int z1), some (.int z2), some (.int z3), some (.int z4), some (.int z5), some (.int z6), some (.int (y7 ||| ((1 : Int32) <<< (y12 &&& 31)))), some (.int y8), some (.int y9), some (.int y10), some (.int z11), some (.int y12)]) X dX8_who_176 (by decide) rfl rfl ?_
              refine v_iload X dX8_who_178 rfl ?_
              refine v_if_ne X 188 dX8_who_180 (by decide) (fun cv42 => ?_) (fun cv42 => ?_)
              · replace h := (if_neg cv42).symm.trans h
                refine v_iload X dX8_who_188 rfl ?_
                refine v_istore (lc' := [some (.ref (ad (8, 0, 0))), some (.int z1), some (.int z2), some (.int z3), some (.int z4), some (.int z5), some (.int z6), some (.int (y7 ||| ((1 : Int32) <<< (y12 &&& 31)))), some (.int y8), some (.int y9), some (.int y10), some (.int z11), some (.int y12)]) X dX8_who_190 (by decide) rfl rfl ?_
                refine v_iload X dX8_who_192 rfl ?_
                refine v_istore (lc' := [some (.ref (ad (8, 0, 0))), some (.int z1), some (.int z2), some (.int z3), some (.int z4), some (.int z5), some (.int z6), some (.int (y7 ||| ((1 : Int32) <<< (y12 &&& 31)))), some (.int y8), some (.int y9), some (.int y12), some (.int z11), some (.int y12)]) X dX8_who_194 (by decide) rfl rfl ?_
                refine v_iinc (v := (y8 + 1)) (lc' := [some (.ref (ad (8, 0, 0))), some (.int z1), some (.int z2), some (.int z3), some (.int z4), some (.int z5), some (.int z6), some (.int (y7 ||| ((1 : Int32) <<< (y12 &&& 31)))), some (.int (y8 + 1)), some (.int y9), some (.int y12), some (.int z11), some (.int y12)]) X dX8_who_196 rfl rfl (by decide) rfl rfl ?_
                refine v_iinc (v := (y12 + 1)) (lc' := [some (.ref (ad (8, 0, 0))), some (.int z1), some (.int z2), some (.int z3), some (.int z4), some (.int z5), some (.int z6), some (.int (y7 ||| ((1 : Int32) <<< (y12 &&& 31)))), some (.int (y8 + 1)), some (.int y9), some (.int y12), some (.int z11), some (.int (y12 + 1))]) X dX8_who_199 rfl rfl (by decide) rfl rfl ?_
                refine v_goto X 104 dX8_who_202 (by decide) ?_
                exact ih (y7 ||| ((1 : Int32) <<< (y12 &&& 31))) (y8 + 1) y9 y12 (y12 + 1) gv37 _ _ _ _ _ _ h k
              · replace h := (if_pos cv42).symm.trans h
                refine v_iload X dX8_who_183 rfl ?_
                refine v_goto X 190 dX8_who_185 (by decide) ?_
                refine v_istore (lc' := [some (.ref (ad (8, 0, 0))), some (.int z1), some (.int z2), some (.int z3), some (.int z4), some (.int z5), some (.int z6), some (.int (y7 ||| ((1 : Int32) <<< (y12 &&& 31)))), some (.int y8), some (.int y12), some (.int y10), some (.int z11), some (.int y12)]) X dX8_who_190 (by decide) rfl rfl ?_
                refine v_iload X dX8_who_192 rfl ?_
                refine v_istore (lc' := [some (.ref (ad (8, 0, 0))), some (.int z1), some (.int z2), some (.int z3), some (.int z4), some (.int z5), some (.int z6), some (.int (y7 ||| ((1 : Int32) <<< (y12 &&& 31)))), some (.int y8), some (.int y12), some (.int y12), some (.int z11), some (.int y12)]) X dX8_who_194 (by decide) rfl rfl ?_
                refine v_iinc (v := (y8 + 1)) (lc' := [some (.ref (ad (8, 0, 0))), some (.int z1), some (.int z2), some (.int z3), some (.int z4), some (.int z5), some (.int z6), some (.int (y7 ||| ((1 : Int32) <<< (y12 &&& 31)))), some (.int (y8 + 1)), some (.int y12), some (.int y12), some (.int z11), some (.int y12)]) X dX8_who_196 rfl rfl (by decide) rfl rfl ?_
                refine v_iinc (v := (y12 + 1)) (lc' := [some (.ref (ad (8, 0, 0))), some (.int z1), some (.int z2), some (.int z3), some (.int z4), some (.int z5), some (.int z6), some (.int (y7 ||| ((1 : Int32) <<< (y12 &&& 31)))), some (.int (y8 + 1)), some (.int y12), some (.int y12), some (.int z11), some (.int (y12 + 1))]) X dX8_who_199 rfl rfl (by decide) rfl rfl ?_
                refine v_goto X 104 dX8_who_202 (by decide) ?_
                exact ih (y7 ||| ((1 : Int32) <<< (y12 &&& 31))) (y8 + 1) y12 y12 (y12 + 1) gv37 _ _ _ _ _ _ h k
      · replace h := (if_pos cv23).symm.trans h
        refine v_iconst (v := 0) X dX8_who_124 (by decide) ?_
        refine v_goto X 138 dX8_who_125 (by decide) ?_
        refine v_iload X dX8_who_138 rfl ?_
        obtain ⟨gv44, qv43, h⟩ := bd1_some h
        refine v_callSV (As := [.ref (ad (9, 11, 7)), .int z1, .int (0 : Int32), .int y12]) (rest := []) X (c_X8_be l D ad cy X.2.2.2.2.2.2.2.2.1 N 7 z1 (0 : Int32) y12 gv22 gv44 (by decide +kernel) qv43) mw_X8_be ml_X8_170 (by decide) rfl rfl (Nat.le_of_ble_eq_true rfl) dX8_who_140 ?_
        refine v_aloadn X dX8_who_143 rfl rfl ?_
        refine v_iloadn X dX8_who_144 rfl rfl ?_
        refine v_bipush (v := 40) X dX8_who_145 (by decide) ?_
        refine v_iloadn X dX8_who_147 rfl rfl ?_
        refine v_imul X dX8_who_148 ?_
        refine v_iload X dX8_who_149 rfl ?_
        refine v_iadd X dX8_who_151 ?_
        refine v_iload X dX8_who_152 rfl ?_
        obtain ⟨rv47, gv46, qv45, h⟩ := bd2_some h
        refine v_callVI (As := [.int z1, .int (((40 : Int32) * z3) + z4), .int z5]) (rest := []) X (c_X8_isSo l D ad cy X.2.2.2.2.2.2.2.2.1 N z1 (((40 : Int32) * z3) + z4) z5 gv44 rv47 gv46  qv45) mw_X8_isSo ml_X8_258 (by decide) (by decide +kernel) (by decide) rfl rfl rfl rfl (Nat.le_of_ble_eq_true rfl) dX8_who_154 ?_
        refine v_if_eq X 199 dX8_who_157 (by decide) (fun cv48 => ?_) (fun cv48 => ?_)
        · replace h := (if_pos cv48).symm.trans h
          refine v_iinc (v := (y12 + 1)) (lc' := [some (.ref (ad (8, 0, 0))), some (.int z1), some (.int z2), some (.int z3), some (.int z4), some (.int z5), some (.int z6), some (.int y7), some (.int y8), some (.int y9), some (.int y10), some (.int z11), some (.int (y12 + 1))]) X dX8_who_199 rfl rfl (by decide) rfl rfl ?_
          refine v_goto X 104 dX8_who_202 (by decide) ?_
          exact ih y7 y8 y9 y10 (y12 + 1) gv46 _ _ _ _ _ _ h k
        · replace h := (if_neg cv48).symm.trans h
          refine v_iload X dX8_who_160 rfl ?_
          refine v_iloadn X dX8_who_162 rfl rfl ?_
          refine v_iconst (v := 2) X dX8_who_163 (by decide) ?_
          refine v_icmp_ge X 174 dX8_who_164 (by decide) (fun cv49 => ?_) (fun cv49 => ?_)
          · replace h := (if_pos cv49).symm.trans h
            refine v_iconst (v := 0) X dX8_who_174 (by decide) ?_
            refine v_ior X dX8_who_175 ?_
            refine v_istore (lc' := [some (.ref (ad (8, 0, 0))), some (.int z1), some (.int z2), some (.int z3), some (.int z4), some (.int z5), some (.int z6), some (.int (y7 ||| (0 : Int32))), some (.int y8), some (.int y9), some (.int y10), some (.int z11), some (.int y12)]) X dX8_who_176 (by decide) rfl rfl ?_
            refine v_iload X dX8_who_178 rfl ?_
            refine v_if_ne X 188 dX8_who_180 (by decide) (fun cv50 => ?_) (fun cv50 => ?_)
            · replace h := (if_neg cv50).symm.trans h
              refine v_iload X dX8_who_188 rfl ?_
              refine v_istore (lc' := [some (.ref (ad (8, 0, 0))), some (.int z1), some (.int z2), some (.int z3), some (.int z4), some (.int z5), some (.int z6), some (.int (y7 ||| (0 : Int32))), some (.int y8), some (.int y9), some (.int y10), some (.int z11), some (.int y12)]) X dX8_who_190 (by decide) rfl rfl ?_
              refine v_iload X dX8_who_192 rfl ?_
              refine v_istore (lc' := [some (.ref (ad (8, 0, 0))), some (.int z1), some (.int z2), some (.int z3), some (.int z4), some (.int z5), some (.int z6), some (.int (y7 ||| (0 : Int32))), some (.int y8), some (.int y9), some (.int y12), some (.int z11), some (.int y12)]) X dX8_who_194 (by decide) rfl rfl ?_
              refine v_iinc (v := (y8 + 1)) (lc' := [some (.ref (ad (8, 0, 0))), some (.int z1), some (.int z2), some (.int z3), some (.int z4), some (.int z5), some (.int z6), some (.int (y7 ||| (0 : Int32))), some (.int (y8 + 1)), some (.int y9), some (.int y12), some (.int z11), some (.int y12)]) X dX8_who_196 rfl rfl (by decide) rfl rfl ?_
              refine v_iinc (v := (y12 + 1)) (lc' := [some (.ref (ad (8, 0, 0))), some (.int z1), some (.int z2), some (.int z3), some (.int z4), some (.int z5), some (.int z6), some (.int (y7 ||| (0 : Int32))), some (.int (y8 + 1)), some (.int y9), some (.int y12), some (.int z11), some (.int (y12 + 1))]) X dX8_who_199 rfl rfl (by decide) rfl rfl ?_
              refine v_goto X 104 dX8_who_202 (by decide) ?_
              exact ih (y7 ||| (0 : Int32)) (y8 + 1) y9 y12 (y12 + 1) gv46 _ _ _ _ _ _ h k
            · replace h := (if_pos cv50).symm.trans h
              refine v_iload X dX8_who_183 rfl ?_
              refine v_goto X 190 dX8_who_185 (by decide) ?_
              refine v_istore (lc' := [some (.ref (ad (8, 0, 0))), some (.int z1), some (.int z2), some (.int z3), some (.int z4), some (.int z5), some (.int z6), some (.int (y7 ||| (0 : Int32))), some (.int y8), some (.int y12), some (.int y10), some (.int z11), some (.int y12)]) X dX8_who_190 (by decide) rfl rfl ?_
              refine v_iload X dX8_who_192 rfl ?_
              refine v_istore (lc' := [some (.ref (ad (8, 0, 0))), some (.int z1), some (.int z2), some (.int z3), some (.int z4), some (.int z5), some (.int z6), some (.int (y7 ||| (0 : Int32))), some (.int y8), some (.int y12), some (.int y12), some (.int z11), some (.int y12)]) X dX8_who_194 (by decide) rfl rfl ?_
              refine v_iinc (v := (y8 + 1)) (lc' := [some (.ref (ad (8, 0, 0))), some (.int z1), some (.int z2), some (.int z3), some (.int z4), some (.int z5), some (.int z6), some (.int (y7 ||| (0 : Int32))), some (.int (y8 + 1)), some (.int y12), some (.int y12), some (.int z11), some (.int y12)]) X dX8_who_196 rfl rfl (by decide) rfl rfl ?_
              refine v_iinc (v := (y12 + 1)) (lc' := [some (.ref (ad (8, 0, 0))), some (.int z1), some (.int z2), some (.int z3), some (.int z4), some (.int z5), some (.int z6), some (.int (y7 ||| (0 : Int32))), some (.int (y8 + 1)), some (.int y12), some (.int y12), some (.int z11), some (.int (y12 + 1))]) X dX8_who_199 rfl rfl (by decide) rfl rfl ?_
              refine v_goto X 104 dX8_who_202 (by decide) ?_
              exact ih (y7 ||| (0 : Int32)) (y8 + 1) y12 y12 (y12 + 1) gv46 _ _ _ _ _ _ h k
          · replace h := (if_neg cv49).symm.trans h
            refine v_iconst (v := 1) X dX8_who_167 (by decide) ?_
            refine v_iload X dX8_who_168 rfl ?_
            refine v_ishl X dX8_who_170 ?_
            refine v_goto X 175 dX8_who_171 (by decide) ?_
            refine v_ior X dX8_who_175 ?_
            refine v_istore (lc' := [some (.ref (ad (8, 0, 0))), some (.int z1), some (.int z2), some (.int z3), some (.int z4), some (.int z5), some (.int z6), some (.int (y7 ||| ((1 : Int32) <<< (y12 &&& 31)))), some (.int y8), some (.int y9), some (.int y10), some (.int z11), some (.int y12)]) X dX8_who_176 (by decide) rfl rfl ?_
            refine v_iload X dX8_who_178 rfl ?_
            refine v_if_ne X 188 dX8_who_180 (by decide) (fun cv51 => ?_) (fun cv51 => ?_)
            · replace h := (if_neg cv51).symm.trans h
              refine v_iload X dX8_who_188 rfl ?_
              refine v_istore (lc' := [some (.ref (ad (8, 0, 0))), some (.int z1), some (.int z2), some (.int z3), some (.int z4), some (.int z5), some (.int z6), some (.int (y7 ||| ((1 : Int32) <<< (y12 &&& 31)))), some (.int y8), some (.int y9), some (.int y10), some (.int z11), some (.int y12)]) X dX8_who_190 (by decide) rfl rfl ?_
              refine v_iload X dX8_who_192 rfl ?_
              refine v_istore (lc' := [some (.ref (ad (8, 0, 0))), some (.int z1), some (.int z2), some (.int z3), some (.int z4), some (.int z5), some (.int z6), some (.int (y7 ||| ((1 : Int32) <<< (y12 &&& 31)))), some (.int y8), some (.int y9), some (.int y12), some (.int z11), some (.int y12)]) X dX8_who_194 (by decide) rfl rfl ?_
              refine v_iinc (v := (y8 + 1)) (lc' := [some (.ref (ad (8, 0, 0))), some (.int z1), some (.int z2), some (.int z3), some (.int z4), some (.int z5), some (.int z6), some (.int (y7 ||| ((1 : Int32) <<< (y12 &&& 31)))), some (.int (y8 + 1)), some (.int y9), some (.int y12), some (.int z11), some (.int y12)]) X dX8_who_196 rfl rfl (by decide) rfl rfl ?_
              refine v_iinc (v := (y12 + 1)) (lc' := [some (.ref (ad (8, 0, 0))), some (.int z1), some (.int z2), some (.int z3), some (.int z4), some (.int z5), some (.int z6), some (.int (y7 ||| ((1 : Int32) <<< (y12 &&& 31)))), some (.int (y8 + 1)), some (.int y9), some (.int y12), some (.int z11), some (.int (y12 + 1))]) X dX8_who_199 rfl rfl (by decide) rfl rfl ?_
              refine v_goto X 104 dX8_who_202 (by decide) ?_
              exact ih (y7 ||| ((1 : Int32) <<< (y12 &&& 31))) (y8 + 1) y9 y12 (y12 + 1) gv46 _ _ _ _ _ _ h k
            · replace h := (if_pos cv51).symm.trans h
              refine v_iload X dX8_who_183 rfl ?_
              refine v_goto X 190 dX8_who_185 (by decide) ?_
              refine v_istore (lc' := [some (.ref (ad (8, 0, 0))), some (.int z1), some (.int z2), some (.int z3), some (.int z4), some (.int z5), some (.int z6), some (.int (y7 ||| ((1 : Int32) <<< (y12 &&& 31)))), some (.int y8), some (.int y12), some (.int y10), some (.int z11), some (.int y12)]) X dX8_who_190 (by decide) rfl rfl ?_
              refine v_iload X dX8_who_192 rfl ?_
              refine v_istore (lc' := [some (.ref (ad (8, 0, 0))), some (.int z1), some (.int z2), some (.int z3), some (.int z4), some (.int z5), some (.int z6), some (.int (y7 ||| ((1 : Int32) <<< (y12 &&& 31)))), some (.int y8), some (.int y12), some (.int y12), some (.int z11), some (.int y12)]) X dX8_who_194 (by decide) rfl rfl ?_
              refine v_iinc (v := (y8 + 1)) (lc' := [some (.ref (ad (8, 0, 0))), some (.int z1), some (.int z2), some (.int z3), some (.int z4), some (.int z5), some (.int z6), some (.int (y7 ||| ((1 : Int32) <<< (y12 &&& 31)))), some (.int (y8 + 1)), some (.int y12), some (.int y12), some (.int z11), some (.int y12)]) X dX8_who_196 rfl rfl (by decide) rfl rfl ?_
              refine v_iinc (v := (y12 + 1)) (lc' := [some (.ref (ad (8, 0, 0))), some (.int z1), some (.int z2), some (.int z3), some (.int z4), some (.int z5), some (.int z6), some (.int (y7 ||| ((1 : Int32) <<< (y12 &&& 31)))), some (.int (y8 + 1)), some (.int y12), some (.int y12), some (.int z11), some (.int (y12 + 1))]) X dX8_who_199 rfl rfl (by decide) rfl rfl ?_
              refine v_goto X 104 dX8_who_202 (by decide) ?_
              exact ih (y7 ||| ((1 : Int32) <<< (y12 &&& 31))) (y8 + 1) y12 y12 (y12 + 1) gv46 _ _ _ _ _ _ h k
set_option maxRecDepth 100000 in
set_option maxHeartbeats 4000000 in
theorem c_X8_who (l : Launch) (D : va_G) (ad : Ky → Nat) (cy : Nat → ClassId) (hI : Inj ad) (N : Nat) (x1 : Int32) (x2 : Int32) (x3 : Int32) (x4 : Int32) (x5 : Int32) (g : GS) (r : Int32) (gq : GS) (h : F_X8_who N x1 x2 x3 x4 x5 g = some (r, gq)) : CtI l D ad cy yX8_who cX8_who 13 (some .int) 7 [.ref (ad (8, 0, 0)), .int x1, .int x2, .int x3, .int x4, .int x5] g r gq := by
  refine CtI.of 7 hI (by decide +kernel) rfl (Nat.le_of_ble_eq_true rfl) (fun p e s m args below meth c X => ?_)
  unfold F_X8_who at h
  show Vy _ _ _ _ _ _ _ _ _ _ _ _ _ _ _ 0 [some (.ref (ad (8, 0, 0))), some (.int x1), some (.int x2), some (.int x3), some (.int x4), some (.int x5), none, none, none, none, none, none, none] [] g
  refine v_aloadn X dX8_who_0 rfl rfl ?_
  refine v_iconst (v := 0) X dX8_who_1 (by decide) ?_
  refine pf_X8_50 X dX8_who_2 ?_
  refine v_aloadn X dX8_who_5 rfl rfl ?_
  refine v_iloadn X dX8_who_6 rfl rfl ?_
  obtain ⟨rv3, gv2, qv1, h⟩ := bd2_some h
  refine v_callVI (As := [.int x1]) (rest := []) X (c_X8_isPaper l D ad cy X.2.2.2.2.2.2.2.2.1 N x1 (g3 g 10 0 0 (0 : Int32)) rv3 gv2  qv1) mw_X8_isPaper ml_X8_208 (by decide) (by decide +kernel) (by decide) rfl rfl rfl rfl (Nat.le_of_ble_eq_true rfl) dX8_who_7 ?_
  refine v_if_eq X 34 dX8_who_10 (by decide) (fun cv4 => ?_) (fun cv4 => ?_)
  · replace h := (if_pos cv4).symm.trans h
    refine v_ldc X kc_X8_70 dX8_who_34 ?_
    obtain ⟨er, eg⟩ := Prod.mk.inj (Option.some.inj h)
    exact v_iret X dX8_who_36 er eg
  · replace h := (if_neg cv4).symm.trans h
    refine v_iloadn X dX8_who_13 rfl rfl ?_
    refine v_i2l X dX8_who_14 ?_
    refine v_lconst (v := 0) X dX8_who_15 (by decide) ?_
    refine v_ldc2 X kl_X8_247 dX8_who_16 ?_
    obtain ⟨rv7, gv6, qv5, h⟩ := bd2_some h
    refine v_callSI (As := [.long (x2.toInt64), .long (0 : Int64), .long (4 : Int64)]) (rest := []) X (c_X8_in l D ad cy X.2.2.2.2.2.2.2.2.1 N (x2.toInt64) (0 : Int64) (4 : Int64) gv2 rv7 gv6  qv5) mw_X8_in ml_X8_60 (by decide) rfl rfl (Nat.le_of_ble_eq_true rfl) dX8_who_19 ?_
    refine v_if_eq X 34 dX8_who_22 (by decide) (fun cv8 => ?_) (fun cv8 => ?_)
    · replace h := (if_pos cv8).symm.trans h
      refine v_ldc X kc_X8_70 dX8_who_34 ?_
      obtain ⟨er, eg⟩ := Prod.mk.inj (Option.some.inj h)
      exact v_iret X dX8_who_36 er eg
    · replace h := (if_neg cv8).symm.trans h
      refine v_iloadn X dX8_who_25 rfl rfl ?_
      refine v_iload X dX8_who_26 rfl ?_
      obtain ⟨rv11, gv10, qv9, h⟩ := bd2_some h
      refine v_callSI (As := [.int x3, .int x5]) (rest := []) X (c_X8_isMany l D ad cy X.2.2.2.2.2.2.2.2.1 N x3 x5 gv6 rv11 gv10  qv9) mw_X8_isMany ml_X8_251 (by decide) rfl rfl (Nat.le_of_ble_eq_true rfl) dX8_who_28 ?_
      refine v_if_ne X 37 dX8_who_31 (by decide) (fun cv12 => ?_) (fun cv12 => ?_)
      · replace h := (if_neg cv12).symm.trans h
        refine v_aloadn X dX8_who_37 rfl rfl ?_
        refine v_iloadn X dX8_who_38 rfl rfl ?_
        refine v_iload X dX8_who_39 rfl ?_
        refine v_iload X dX8_who_41 rfl ?_
        obtain ⟨rv15, gv14, qv13, h⟩ := bd2_some h
        refine v_callVI (As := [.int x3, .int x4, .int x5]) (rest := []) X (c_X8_rowFound l D ad cy X.2.2.2.2.2.2.2.2.1 N x3 x4 x5 gv10 rv15 gv14  qv13) mw_X8_rowFound ml_X8_254 (by decide) (by decide +kernel) (by decide) rfl rfl rfl rfl (Nat.le_of_ble_eq_true rfl) dX8_who_43 ?_
        refine v_istore (lc' := [some (.ref (ad (8, 0, 0))), some (.int x1), some (.int x2), some (.int x3), some (.int x4), some (.int x5), some (.int rv15), none, none, none, none, none, none]) X dX8_who_46 (by decide) rfl rfl ?_
        refine v_iload X dX8_who_48 rfl ?_
        refine v_if_eq X 56 dX8_who_50 (by decide) (fun cv16 => ?_) (fun cv16 => ?_)
        · replace h := (if_pos cv16).symm.trans h
          refine v_iconst (v := 0) X dX8_who_56 (by decide) ?_
          refine v_istore (lc' := [some (.ref (ad (8, 0, 0))), some (.int x1), some (.int x2), some (.int x3), some (.int x4), some (.int x5), some (.int rv15), some (.int (0 : Int32)), none, none, none, none, none]) X dX8_who_57 (by decide) rfl rfl ?_
          refine v_iconst (v := 0) X dX8_who_59 (by decide) ?_
          refine v_istore (lc' := [some (.ref (ad (8, 0, 0))), some (.int x1), some (.int x2), some (.int x3), some (.int x4), some (.int x5), some (.int rv15), some (.int (0 : Int32)), some (.int (0 : Int32)), none, none, none, none]) X dX8_who_60 (by decide) rfl rfl ?_
          refine v_ldc X kc_X8_93 dX8_who_62 ?_
          refine v_istore (lc' := [some (.ref (ad (8, 0, 0))), some (.int x1), some (.int x2), some (.int x3), some (.int x4), some (.int x5), some (.int rv15), some (.int (0 : Int32)), some (.int (0 : Int32)), some (.int (-1000000 : Int32)), none, none, none]) X dX8_who_64 (by decide) rfl rfl ?_
          refine v_ldc X kc_X8_93 dX8_who_66 ?_
          refine v_istore (lc' := [some (.ref (ad (8, 0, 0))), some (.int x1), some (.int x2), some (.int x3), some (.int x4), some (.int x5), some (.int rv15), some (.int (0 : Int32)), some (.int (0 : Int32)), some (.int (-1000000 : Int32)), some (.int (-1000000 : Int32)), none, none]) X dX8_who_68 (by decide) rfl rfl ?_
          refine v_iloadn X dX8_who_70 rfl rfl ?_
          refine v_if_ne X 78 dX8_who_71 (by decide) (fun cv17 => ?_) (fun cv17 => ?_)
          · replace h := (if_neg cv17).symm.trans h
            refine v_iloadn X dX8_who_78 rfl rfl ?_
            refine v_iconst (v := 1) X dX8_who_79 (by decide) ?_
            refine v_icmp_ne X 88 dX8_who_80 (by decide) (fun cv18 => ?_) (fun cv18 => ?_)
            · replace h := (if_neg cv18).symm.trans h
              refine v_bipush (v := 60) X dX8_who_88 (by decide) ?_
              refine v_istore (lc' := [some (.ref (ad (8, 0, 0))), some (.int x1), some (.int x2), some (.int x3), some (.int x4), some (.int x5), some (.int rv15), some (.int (0 : Int32)), some (.int (0 : Int32)), some (.int (-1000000 : Int32)), some (.int (-1000000 : Int32)), some (.int (60 : Int32)), none]) X dX8_who_90 (by decide) rfl rfl ?_
              refine v_iloadn X dX8_who_92 rfl rfl ?_
              refine v_iconst (v := 1) X dX8_who_93 (by decide) ?_
              refine v_icmp_ne X 101 dX8_who_94 (by decide) (fun cv19 => ?_) (fun cv19 => ?_)
              · replace h := (if_neg cv19).symm.trans h
                refine v_iconst (v := 1) X dX8_who_101 (by decide) ?_
                refine v_istore (lc' := [some (.ref (ad (8, 0, 0))), some (.int x1), some (.int x2), some (.int x3), some (.int x4), some (.int x5), some (.int rv15), some (.int (0 : Int32)), some (.int (0 : Int32)), some (.int (-1000000 : Int32)), some (.int (-1000000 : Int32)), some (.int (60 : Int32)), some (.int (1 : Int32))]) X dX8_who_102 (by decide) rfl rfl ?_
                obtain ⟨xv52, xv53, xv54, xv55, xv56, gv57, qv58, h⟩ := bd6_some h
                refine w_X8_who_104 X x1 x2 x3 x4 x5 rv15 (60 : Int32) N (0 : Int32) (0 : Int32) (-1000000 : Int32) (-1000000 : Int32) (1 : Int32) gv14 xv52 xv53 xv54 xv55 xv56 gv57 qv58 ?_
                refine v_iloadn X dX8_who_205 rfl rfl ?_
                refine v_iconst (v := 2) X dX8_who_206 (by decide) ?_
                refine v_icmp_ge X 215 dX8_who_207 (by decide) (fun cv59 => ?_) (fun cv59 => ?_)
                · replace h := (if_pos cv59).symm.trans h
                  refine v_iloadn X dX8_who_215 rfl rfl ?_
                  refine v_iconst (v := 2) X dX8_who_216 (by decide) ?_
                  refine v_icmp_ne X 225 dX8_who_217 (by decide) (fun cv60 => ?_) (fun cv60 => ?_)
                  · replace h := (if_neg cv60).symm.trans h
                    refine v_iloadn X dX8_who_225 rfl rfl ?_
                    refine v_iconst (v := 3) X dX8_who_226 (by decide) ?_
                    refine v_icmp_ne X 235 dX8_who_227 (by decide) (fun cv61 => ?_) (fun cv61 => ?_)
                    · replace h := (if_neg cv61).symm.trans h
                      refine v_iload X dX8_who_235 rfl ?_
                      obtain ⟨er, eg⟩ := Prod.mk.inj (Option.some.inj h)
                      exact v_iret X dX8_who_237 er eg
                    · replace h := (if_pos cv61).symm.trans h
                      refine v_iload X dX8_who_230 rfl ?_
                      refine v_goto X 237 dX8_who_232 (by decide) ?_
                      obtain ⟨er, eg⟩ := Prod.mk.inj (Option.some.inj h)
                      exact v_iret X dX8_who_237 er eg
                  · replace h := (if_pos cv60).symm.trans h
                    refine v_iload X dX8_who_220 rfl ?_
                    refine v_goto X 237 dX8_who_222 (by decide) ?_
                    obtain ⟨er, eg⟩ := Prod.mk.inj (Option.some.inj h)
                    exact v_iret X dX8_who_237 er eg
                · replace h := (if_neg cv59).symm.trans h
                  refine v_iload X dX8_who_210 rfl ?_
                  refine v_goto X 237 dX8_who_212 (by decide) ?_
                  obtain ⟨er, eg⟩ := Prod.mk.inj (Option.some.inj h)
                  exact v_iret X dX8_who_237 er eg
              · replace h := (if_pos cv19).symm.trans h
                refine v_iconst (v := 0) X dX8_who_97 (by decide) ?_
                refine v_goto X 102 dX8_who_98 (by decide) ?_
                refine v_istore (lc' := [some (.ref (ad (8, 0, 0))), some (.int x1), some (.int x2), some (.int x3), some (.int x4), some (.int x5), some (.int rv15), some (.int (0 : Int32)), some (.int (0 : Int32)), some (.int (-1000000 : Int32)), some (.int (-1000000 : Int32)), some (.int (60 : Int32)), some (.int (0 : Int32))]) X dX8_who_102 (by decide) rfl rfl ?_
                obtain ⟨xv62, xv63, xv64, xv65, xv66, gv67, qv68, h⟩ := bd6_some h
                refine w_X8_who_104 X x1 x2 x3 x4 x5 rv15 (60 : Int32) N (0 : Int32) (0 : Int32) (-1000000 : Int32) (-1000000 : Int32) (0 : Int32) gv14 xv62 xv63 xv64 xv65 xv66 gv67 qv68 ?_
                refine v_iloadn X dX8_who_205 rfl rfl ?_
                refine v_iconst (v := 2) X dX8_who_206 (by decide) ?_
                refine v_icmp_ge X 215 dX8_who_207 (by decide) (fun cv69 => ?_) (fun cv69 => ?_)
                · replace h := (if_pos cv69).symm.trans h
                  refine v_iloadn X dX8_who_215 rfl rfl ?_
                  refine v_iconst (v := 2) X dX8_who_216 (by decide) ?_
                  refine v_icmp_ne X 225 dX8_who_217 (by decide) (fun cv70 => ?_) (fun cv70 => ?_)
                  · replace h := (if_neg cv70).symm.trans h
                    refine v_iloadn X dX8_who_225 rfl rfl ?_
                    refine v_iconst (v := 3) X dX8_who_226 (by decide) ?_
                    refine v_icmp_ne X 235 dX8_who_227 (by decide) (fun cv71 => ?_) (fun cv71 => ?_)
                    · replace h := (if_neg cv71).symm.trans h
                      refine v_iload X dX8_who_235 rfl ?_
                      obtain ⟨er, eg⟩ := Prod.mk.inj (Option.some.inj h)
                      exact v_iret X dX8_who_237 er eg
                    · replace h := (if_pos cv71).symm.trans h
                      refine v_iload X dX8_who_230 rfl ?_
                      refine v_goto X 237 dX8_who_232 (by decide) ?_
                      obtain ⟨er, eg⟩ := Prod.mk.inj (Option.some.inj h)
                      exact v_iret X dX8_who_237 er eg
                  · replace h := (if_pos cv70).symm.trans h
                    refine v_iload X dX8_who_220 rfl ?_
                    refine v_goto X 237 dX8_who_222 (by decide) ?_
                    obtain ⟨er, eg⟩ := Prod.mk.inj (Option.some.inj h)
                    exact v_iret X dX8_who_237 er eg
                · replace h := (if_neg cv69).symm.trans h
                  refine v_iload X dX8_who_210 rfl ?_
                  refine v_goto X 237 dX8_who_212 (by decide) ?_
                  obtain ⟨er, eg⟩ := Prod.mk.inj (Option.some.inj h)
                  exact v_iret X dX8_who_237 er eg
            · replace h := (if_pos cv18).symm.trans h
              refine v_bipush (v := 9) X dX8_who_83 (by decide) ?_
              refine v_goto X 90 dX8_who_85 (by decide) ?_
              refine v_istore (lc' := [some (.ref (ad (8, 0, 0))), some (.int x1), some (.int x2), some (.int x3), some (.int x4), some (.int x5), some (.int rv15), some (.int (0 : Int32)), some (.int (0 : Int32)), some (.int (-1000000 : Int32)), some (.int (-1000000 : Int32)), some (.int (9 : Int32)), none]) X dX8_who_90 (by decide) rfl rfl ?_
              refine v_iloadn X dX8_who_92 rfl rfl ?_
              refine v_iconst (v := 1) X dX8_who_93 (by decide) ?_
              refine v_icmp_ne X 101 dX8_who_94 (by decide) (fun cv72 => ?_) (fun cv72 => ?_)
              · replace h := (if_neg cv72).symm.trans h
                refine v_iconst (v := 1) X dX8_who_101 (by decide) ?_
                refine v_istore (lc' := [some (.ref (ad (8, 0, 0))), some (.int x1), some (.int x2), some (.int x3), some (.int x4), some (.int x5), some (.int rv15), some (.int (0 : Int32)), some (.int (0 : Int32)), some (.int (-1000000 : Int32)), some (.int (-1000000 : Int32)), some (.int (9 : Int32)), some (.int (1 : Int32))]) X dX8_who_102 (by decide) rfl rfl ?_
                obtain ⟨xv73, xv74, xv75, xv76, xv77, gv78, qv79, h⟩ := bd6_some h
                refine w_X8_who_104 X x1 x2 x3 x4 x5 rv15 (9 : Int32) N (0 : Int32) (0 : Int32) (-1000000 : Int32) (-1000000 : Int32) (1 : Int32) gv14 xv73 xv74 xv75 xv76 xv77 gv78 qv79 ?_
                refine v_iloadn X dX8_who_205 rfl rfl ?_
                refine v_iconst (v := 2) X dX8_who_206 (by decide) ?_
                refine v_icmp_ge X 215 dX8_who_207 (by decide) (fun cv80 => ?_) (fun cv80 => ?_)
                · replace h := (if_pos cv80).symm.trans h
                  refine v_iloadn X dX8_who_215 rfl rfl ?_
                  refine v_iconst (v := 2) X dX8_who_216 (by decide) ?_
                  refine v_icmp_ne X 225 dX8_who_217 (by decide) (fun cv81 => ?_) (fun cv81 => ?_)
                  · replace h := (if_neg cv81).symm.trans h
                    refine v_iloadn X dX8_who_225 rfl rfl ?_
                    refine v_iconst (v := 3) X dX8_who_226 (by decide) ?_
                    refine v_icmp_ne X 235 dX8_who_227 (by decide) (fun cv82 => ?_) (fun cv82 => ?_)
                    · replace h := (if_neg cv82).symm.trans h
                      refine v_iload X dX8_who_235 rfl ?_
                      obtain ⟨er, eg⟩ := Prod.mk.inj (Option.some.inj h)
                      exact v_iret X dX8_who_237 er eg
                    · replace h := (if_pos cv82).symm.trans h
                      refine v_iload X dX8_who_230 rfl ?_
                      refine v_goto X 237 dX8_who_232 (by decide) ?_
                      obtain ⟨er, eg⟩ := Prod.mk.inj (Option.some.inj h)
                      exact v_iret X dX8_who_237 er eg
                  · replace h := (if_pos cv81).symm.trans h
                    refine v_iload X dX8_who_220 rfl ?_
                    refine v_goto X 237 dX8_who_222 (by decide) ?_
                    obtain ⟨er, eg⟩ := Prod.mk.inj (Option.some.inj h)
                    exact v_iret X dX8_who_237 er eg
                · replace h := (if_neg cv80).symm.trans h
                  refine v_iload X dX8_who_210 rfl ?_
                  refine v_goto X 237 dX8_who_212 (by decide) ?_
                  obtain ⟨er, eg⟩ := Prod.mk.inj (Option.some.inj h)
                  exact v_iret X dX8_who_237 er eg
              · replace h := (if_pos cv72).symm.trans h
                refine v_iconst (v := 0) X dX8_who_97 (by decide) ?_
                refine v_goto X 102 dX8_who_98 (by decide) ?_
                refine v_istore (lc' := [some (.ref (ad (8, 0, 0))), some (.int x1), some (.int x2), some (.int x3), some (.int x4), some (.int x5), some (.int rv15), some (.int (0 : Int32)), some (.int (0 : Int32)), some (.int (-1000000 : Int32)), some (.int (-1000000 : Int32)), some (.int (9 : Int32)), some (.int (0 : Int32))]) X dX8_who_102 (by decide) rfl rfl ?_
                obtain ⟨xv83, xv84, xv85, xv86, xv87, gv88, qv89, h⟩ := bd6_some h
                refine w_X8_who_104 X x1 x2 x3 x4 x5 rv15 (9 : Int32) N (0 : Int32) (0 : Int32) (-1000000 : Int32) (-1000000 : Int32) (0 : Int32) gv14 xv83 xv84 xv85 xv86 xv87 gv88 qv89 ?_
                refine v_iloadn X dX8_who_205 rfl rfl ?_
                refine v_iconst (v := 2) X dX8_who_206 (by decide) ?_
                refine v_icmp_ge X 215 dX8_who_207 (by decide) (fun cv90 => ?_) (fun cv90 => ?_)
                · replace h := (if_pos cv90).symm.trans h
                  refine v_iloadn X dX8_who_215 rfl rfl ?_
                  refine v_iconst (v := 2) X dX8_who_216 (by decide) ?_
                  refine v_icmp_ne X 225 dX8_who_217 (by decide) (fun cv91 => ?_) (fun cv91 => ?_)
                  · replace h := (if_neg cv91).symm.trans h
                    refine v_iloadn X dX8_who_225 rfl rfl ?_
                    refine v_iconst (v := 3) X dX8_who_226 (by decide) ?_
                    refine v_icmp_ne X 235 dX8_who_227 (by decide) (fun cv92 => ?_) (fun cv92 => ?_)
                    · replace h := (if_neg cv92).symm.trans h
                      refine v_iload X dX8_who_235 rfl ?_
                      obtain ⟨er, eg⟩ := Prod.mk.inj (Option.some.inj h)
                      exact v_iret X dX8_who_237 er eg
                    · replace h := (if_pos cv92).symm.trans h
                      refine v_iload X dX8_who_230 rfl ?_
                      refine v_goto X 237 dX8_who_232 (by decide) ?_
                      obtain ⟨er, eg⟩ := Prod.mk.inj (Option.some.inj h)
                      exact v_iret X dX8_who_237 er eg
                  · replace h := (if_pos cv91).symm.trans h
                    refine v_iload X dX8_who_220 rfl ?_
                    refine v_goto X 237 dX8_who_222 (by decide) ?_
                    obtain ⟨er, eg⟩ := Prod.mk.inj (Option.some.inj h)
                    exact v_iret X dX8_who_237 er eg
                · replace h := (if_neg cv90).symm.trans h
                  refine v_iload X dX8_who_210 rfl ?_
                  refine v_goto X 237 dX8_who_212 (by decide) ?_
                  obtain ⟨er, eg⟩ := Prod.mk.inj (Option.some.inj h)
                  exact v_iret X dX8_who_237 er eg
          · replace h := (if_pos cv17).symm.trans h
            refine v_iconst (v := 5) X dX8_who_74 (by decide) ?_
            refine v_goto X 90 dX8_who_75 (by decide) ?_
            refine v_istore (lc' := [some (.ref (ad (8, 0, 0))), some (.int x1), some (.int x2), some (.int x3), some (.int x4), some (.int x5), some (.int rv15), some (.int (0 : Int32)), some (.int (0 : Int32)), some (.int (-1000000 : Int32)), some (.int (-1000000 : Int32)), some (.int (5 : Int32)), none]) X dX8_who_90 (by decide) rfl rfl ?_
            refine v_iloadn X dX8_who_92 rfl rfl ?_
            refine v_iconst (v := 1) X dX8_who_93 (by decide) ?_
            refine v_icmp_ne X 101 dX8_who_94 (by decide) (fun cv93 => ?_) (fun cv93 => ?_)
            · replace h := (if_neg cv93).symm.trans h
              refine v_iconst (v := 1) X dX8_who_101 (by decide) ?_
              refine v_istore (lc' := [some (.ref (ad (8, 0, 0))), some (.int x1), some (.int x2), some (.int x3), some (.int x4), some (.int x5), some (.int rv15), some (.int (0 : Int32)), some (.int (0 : Int32)), some (.int (-1000000 : Int32)), some (.int (-1000000 : Int32)), some (.int (5 : Int32)), some (.int (1 : Int32))]) X dX8_who_102 (by decide) rfl rfl ?_
              obtain ⟨xv94, xv95, xv96, xv97, xv98, gv99, qv100, h⟩ := bd6_some h
              refine w_X8_who_104 X x1 x2 x3 x4 x5 rv15 (5 : Int32) N (0 : Int32) (0 : Int32) (-1000000 : Int32) (-1000000 : Int32) (1 : Int32) gv14 xv94 xv95 xv96 xv97 xv98 gv99 qv100 ?_
              refine v_iloadn X dX8_who_205 rfl rfl ?_
              refine v_iconst (v := 2) X dX8_who_206 (by decide) ?_
              refine v_icmp_ge X 215 dX8_who_207 (by decide) (fun cv101 => ?_) (fun cv101 => ?_)
              · replace h := (if_pos cv101).symm.trans h
                refine v_iloadn X dX8_who_215 rfl rfl ?_
                refine v_iconst (v := 2) X dX8_who_216 (by decide) ?_
                refine v_icmp_ne X 225 dX8_who_217 (by decide) (fun cv102 => ?_) (fun cv102 => ?_)
                · replace h := (if_neg cv102).symm.trans h
                  refine v_iloadn X dX8_who_225 rfl rfl ?_
                  refine v_iconst (v := 3) X dX8_who_226 (by decide) ?_
                  refine v_icmp_ne X 235 dX8_who_227 (by decide) (fun cv103 => ?_) (fun cv103 => ?_)
                  · replace h := (if_neg cv103).symm.trans h
                    refine v_iload X dX8_who_235 rfl ?_
                    obtain ⟨er, eg⟩ := Prod.mk.inj (Option.some.inj h)
                    exact v_iret X dX8_who_237 er eg
                  · replace h := (if_pos cv103).symm.trans h
                    refine v_iload X dX8_who_230 rfl ?_
                    refine v_goto X 237 dX8_who_232 (by decide) ?_
                    obtain ⟨er, eg⟩ := Prod.mk.inj (Option.some.inj h)
                    exact v_iret X dX8_who_237 er eg
                · replace h := (if_pos cv102).symm.trans h
                  refine v_iload X dX8_who_220 rfl ?_
                  refine v_goto X 237 dX8_who_222 (by decide) ?_
                  obtain ⟨er, eg⟩ := Prod.mk.inj (Option.some.inj h)
                  exact v_iret X dX8_who_237 er eg
              · replace h := (if_neg cv101).symm.trans h
                refine v_iload X dX8_who_210 rfl ?_
                refine v_goto X 237 dX8_who_212 (by decide) ?_
                obtain ⟨er, eg⟩ := Prod.mk.inj (Option.some.inj h)
                exact v_iret X dX8_who_237 er eg
            · replace h := (if_pos cv93).symm.trans h
              refine v_iconst (v := 0) X dX8_who_97 (by decide) ?_
              refine v_goto X 102 dX8_who_98 (by decide) ?_
              refine v_istore (lc' := [some (.ref (ad (8, 0, 0))), some (.int x1), some (.int x2), some (.int x3), some (.int x4), some (.int x5), some (.int rv15), some (.int (0 : Int32)), some (.int (0 : Int32)), some (.int (-1000000 : Int32)), some (.int (-1000000 : Int32)), some (.int (5 : Int32)), some (.int (0 : Int32))]) X dX8_who_102 (by decide) rfl rfl ?_
              obtain ⟨xv104, xv105, xv106, xv107, xv108, gv109, qv110, h⟩ := bd6_some h
              refine w_X8_who_104 X x1 x2 x3 x4 x5 rv15 (5 : Int32) N (0 : Int32) (0 : Int32) (-1000000 : Int32) (-1000000 : Int32) (0 : Int32) gv14 xv104 xv105 xv106 xv107 xv108 gv109 qv110 ?_
              refine v_iloadn X dX8_who_205 rfl rfl ?_
              refine v_iconst (v := 2) X dX8_who_206 (by decide) ?_
              refine v_icmp_ge X 215 dX8_who_207 (by decide) (fun cv111 => ?_) (fun cv111 => ?_)
              · replace h := (if_pos cv111).symm.trans h
                refine v_iloadn X dX8_who_215 rfl rfl ?_
                refine v_iconst (v := 2) X dX8_who_216 (by decide) ?_
                refine v_icmp_ne X 225 dX8_who_217 (by decide) (fun cv112 => ?_) (fun cv112 => ?_)
                · replace h := (if_neg cv112).symm.trans h
                  refine v_iloadn X dX8_who_225 rfl rfl ?_
                  refine v_iconst (v := 3) X dX8_who_226 (by decide) ?_
                  refine v_icmp_ne X 235 dX8_who_227 (by decide) (fun cv113 => ?_) (fun cv113 => ?_)
                  · replace h := (if_neg cv113).symm.trans h
                    refine v_iload X dX8_who_235 rfl ?_
                    obtain ⟨er, eg⟩ := Prod.mk.inj (Option.some.inj h)
                    exact v_iret X dX8_who_237 er eg
                  · replace h := (if_pos cv113).symm.trans h
                    refine v_iload X dX8_who_230 rfl ?_
                    refine v_goto X 237 dX8_who_232 (by decide) ?_
                    obtain ⟨er, eg⟩ := Prod.mk.inj (Option.some.inj h)
                    exact v_iret X dX8_who_237 er eg
                · replace h := (if_pos cv112).symm.trans h
                  refine v_iload X dX8_who_220 rfl ?_
                  refine v_goto X 237 dX8_who_222 (by decide) ?_
                  obtain ⟨er, eg⟩ := Prod.mk.inj (Option.some.inj h)
                  exact v_iret X dX8_who_237 er eg
              · replace h := (if_neg cv111).symm.trans h
                refine v_iload X dX8_who_210 rfl ?_
                refine v_goto X 237 dX8_who_212 (by decide) ?_
                obtain ⟨er, eg⟩ := Prod.mk.inj (Option.some.inj h)
                exact v_iret X dX8_who_237 er eg
        · replace h := (if_neg cv16).symm.trans h
          refine v_iload X dX8_who_53 rfl ?_
          obtain ⟨er, eg⟩ := Prod.mk.inj (Option.some.inj h)
          exact v_iret X dX8_who_55 er eg
      · replace h := (if_pos cv12).symm.trans h
        refine v_ldc X kc_X8_70 dX8_who_34 ?_
        obtain ⟨er, eg⟩ := Prod.mk.inj (Option.some.inj h)
        exact v_iret X dX8_who_36 er eg
def L_X8_winds_68 (N : Nat) (z1 : Int32) (z2 : Int32) (z3 : Int32) (z4 : Int32) (z5 : Int32) (z6 : Int32) : Nat → Int32 → Int32 → GS → Option (Int32 × Int32 × GS)
  | 0, _, _, _ => none
  | n + 1, y7, y8, g => if (10 : Int32) ≤ y8 then some (y7, y8, g) else bd1 (F_X8_layThen N  g) (fun gv21 => bd1 (ix ((5 : Int32) + z2) 53) (fun jv22 => bd2 (F_X8_isSo N z1 (((40 : Int32) * z3) + z4) z5 (g3 gv21 11 7 jv22 y8)) (fun rv26 gv25 => if rv26 = 0 then L_X8_winds_68 N z1 z2 z3 z4 z5 z6 n (y7 ||| (0 : Int32)) (y8 + 1) gv25 else L_X8_winds_68 N z1 z2 z3 z4 z5 z6 n (y7 ||| ((1 : Int32) <<< (y8 &&& 31))) (y8 + 1) gv25)))
def F_X8_winds (N : Nat) (x1 : Int32) (x2 : Int32) (x3 : Int32) (x4 : Int32) (x5 : Int32) (g : GS) : Option (Int32 × GS) := bd2 (F_X8_isPaper N x1 (g3 g 10 0 0 (0 : Int32))) (fun rv3 gv2 => if rv3 = 0 then some ((-1000001 : Int32), gv2) else bd1 (ix (1 : Int32) 53) (fun jv5 => bd2 (F_X8_in N (x2.toInt64) (0 : Int64) (((gv2 11 5 jv5) - (1 : Int32)).toInt64) gv2) (fun rv9 gv8 => if rv9 = 0 then some ((-1000001 : Int32), gv8) else bd2 (F_X8_isMany N x3 x5 gv8) (fun rv13 gv12 => if rv13 = 0 then some ((-1000001 : Int32), gv12) else bd2 (F_X8_rowFound N x3 x4 x5 gv12) (fun rv17 gv16 => if rv17 = 0 then bd3 (L_X8_winds_68 N x1 x2 x3 x4 x5 rv17 N (0 : Int32) (0 : Int32) gv16) (fun xv28 xv29 gv30 => some (xv28, gv30)) else some (rv17, gv16))))))
set_option maxRecDepth 100000 in
set_option maxHeartbeats 4000000 in
theorem w_X8_winds_68 {p : Program} {l : Launch} {e : Env} {s : State} {m : MethodId} {args : Array Value} {below : List Frame} {meth : Method} {c : Code} {D : va_G} {ad : Ky → Nat} {cy : Nat → ClassId} {r : Int32} {gq : GS} {N : Nat} (X : Cx p (rmd 7) s m args meth c RX8 cX8_winds 9 (some .int) D ad cy) (z1 : Int32) (z2 : Int32) (z3 : Int32) (z4 : Int32) (z5 : Int32) (z6 : Int32) : ∀ (n : Nat) (y7 : Int32) (y8 : Int32) (g : GS) (y7' : Int32) (y8' : Int32) (g' : GS), L_X8_winds_68 N z1 z2 z3 z4 z5 z6 n y7 y8 g = some (y7', y8', g') → Vy p l e (rmd 7) s m args below meth c 9 D ad cy (QI D ad cy below args s r gq) 125 [some (.ref (ad (8, 0, 0))), some (.int z1), some (.int z2), some (.int z3), some (.int z4), some (.int z5), some (.int z6), some (.int y7'), some (.int y8')] [] g' → Vy p l e (rmd 7) s m args below meth c 9 D ad cy (QI D ad cy below args s r gq) 68 [some (.ref (ad (8, 0, 0))), some (.int z1), some (.int z2), some (.int z3), some (.int z4), some (.int z5), some (.int z6), some (.int y7), some (.int y8)] [] g := by
  intro n
  induction n with
  | zero => intro y7 y8 g y7' y8' g' h k; cases h
  | succ n ih =>
    intro y7 y8 g y7' y8' g' h k
    rw [L_X8_winds_68] at h
    refine v_iload X dX8_winds_68 rfl ?_
    refine v_bipush (v := 10) X dX8_winds_70 (by decide) ?_
    refine v_icmp_ge X 125 dX8_winds_72 (by decide) (fun cv19 => ?_) (fun cv19 => ?_)
    · replace h := (if_pos cv19).symm.trans h
      cases h
      exact k
    · replace h := (if_neg cv19).symm.trans h
      refine v_aloadn X dX8_winds_75 rfl rfl ?_
      obtain ⟨gv21, qv20, h⟩ := bd1_some h
      refine v_callVV (As := []) (rest := []) X (c_X8_layThen l D ad cy X.2.2.2.2.2.2.2.2.1 N  g gv21  qv20) mw_X8_layThen ml_X8_232 (by decide) (by decide +kernel) (by decide) rfl rfl rfl rfl (Nat.le_of_ble_eq_true rfl) dX8_winds_76 ?_
      refine v_aloadn X dX8_winds_79 rfl rfl ?_
      refine gf_X8_25 X dX8_winds_80 ?_
      refine v_iconst (v := 5) X dX8_winds_83 (by decide) ?_
      refine v_iloadn X dX8_winds_84 rfl rfl ?_
      refine v_iadd X dX8_winds_85 ?_
      refine v_iload X dX8_winds_86 rfl ?_
      obtain ⟨jv22, qv23, h⟩ := bd1_some h
      obtain ⟨ejv22, ljv22⟩ := ix_spec qv23
      refine asM X (by decide +kernel) jv22 ejv22 ljv22 dX8_winds_88 ?_
      refine v_iload X dX8_winds_89 rfl ?_
      refine v_aloadn X dX8_winds_91 rfl rfl ?_
      refine v_iloadn X dX8_winds_92 rfl rfl ?_
      refine v_bipush (v := 40) X dX8_winds_93 (by decide) ?_
      refine v_iloadn X dX8_winds_95 rfl rfl ?_
      refine v_imul X dX8_winds_96 ?_
      refine v_iload X dX8_winds_97 rfl ?_
      refine v_iadd X dX8_winds_99 ?_
      refine v_iload X dX8_winds_100 rfl ?_
      obtain ⟨rv26, gv25, qv24, h⟩ := bd2_some h
      refine v_callVI (As := [.int z1, .int (((40 : Int32) * z3) + z4), .int z5]) (rest := [.int y7]) X (c_X8_isSo l D ad cy X.2.2.2.2.2.2.2.2.1 N z1 (((40 : Int32) * z3) + z4) z5 (g3 gv21 11 7 jv22 y8) rv26 gv25  qv24) mw_X8_isSo ml_X8_258 (by decide) (by decide +kernel) (by decide) rfl rfl rfl rfl (Nat.le_of_ble_eq_true rfl) dX8_winds_102 ?_
      refine v_if_eq X 115 dX8_winds_105 (by decide) (fun cv27 => ?_) (fun cv27 => ?_)
      · replace h := (if_pos cv27).symm.trans h
        refine v_iconst (v := 0) X dX8_winds_115 (by decide) ?_
        refine v_ior X dX8_winds_116 ?_
        refine v_istore (lc' := [some (.ref (ad (8, 0, 0))), some (.int z1), some (.int z2), some (.int z3), some (.int z4), some (.int z5), some (.int z6), some (.int (y7 ||| (0 : Int32))), some (.int y8)]) X dX8_winds_117 (by decide) rfl rfl ?_
        refine v_iinc (v := (y8 + 1)) (lc' := [some (.ref (ad (8, 0, 0))), some (.int z1), some (.int z2), some (.int z3), some (.int z4), some (.int z5), some (.int z6), some (.int (y7 ||| (0 : Int32))), some (.int (y8 + 1))]) X dX8_winds_119 rfl rfl (by decide) rfl rfl ?_
        refine v_goto X 68 dX8_winds_122 (by decide) ?_
        exact ih (y7 ||| (0 : Int32)) (y8 + 1) gv25 _ _ _ h k
      · replace h := (if_neg cv27).symm.trans h
        refine v_iconst (v := 1) X dX8_winds_108 (by decide) ?_
        refine v_iload X dX8_winds_109 rfl ?_
        refine v_ishl X dX8_winds_111 ?_
        refine v_goto X 116 dX8_winds_112 (by decide) ?_
        refine v_ior X dX8_winds_116 ?_
        refine v_istore (lc' := [some (.ref (ad (8, 0, 0))), some (.int z1), some (.int z2), some (.int z3), some (.int z4), some (.int z5), some (.int z6), some (.int (y7 ||| ((1 : Int32) <<< (y8 &&& 31)))), some (.int y8)]) X dX8_winds_117 (by decide) rfl rfl ?_
        refine v_iinc (v := (y8 + 1)) (lc' := [some (.ref (ad (8, 0, 0))), some (.int z1), some (.int z2), some (.int z3), some (.int z4), some (.int z5), some (.int z6), some (.int (y7 ||| ((1 : Int32) <<< (y8 &&& 31)))), some (.int (y8 + 1))]) X dX8_winds_119 rfl rfl (by decide) rfl rfl ?_
        refine v_goto X 68 dX8_winds_122 (by decide) ?_
        exact ih (y7 ||| ((1 : Int32) <<< (y8 &&& 31))) (y8 + 1) gv25 _ _ _ h k
set_option maxRecDepth 100000 in
set_option maxHeartbeats 4000000 in
theorem c_X8_winds (l : Launch) (D : va_G) (ad : Ky → Nat) (cy : Nat → ClassId) (hI : Inj ad) (N : Nat) (x1 : Int32) (x2 : Int32) (x3 : Int32) (x4 : Int32) (x5 : Int32) (g : GS) (r : Int32) (gq : GS) (h : F_X8_winds N x1 x2 x3 x4 x5 g = some (r, gq)) : CtI l D ad cy yX8_winds cX8_winds 9 (some .int) 7 [.ref (ad (8, 0, 0)), .int x1, .int x2, .int x3, .int x4, .int x5] g r gq := by
  refine CtI.of 3 hI (by decide +kernel) rfl (Nat.le_of_ble_eq_true rfl) (fun p e s m args below meth c X => ?_)
  unfold F_X8_winds at h
  show Vy _ _ _ _ _ _ _ _ _ _ _ _ _ _ _ 0 [some (.ref (ad (8, 0, 0))), some (.int x1), some (.int x2), some (.int x3), some (.int x4), some (.int x5), none, none, none] [] g
  refine v_aloadn X dX8_winds_0 rfl rfl ?_
  refine v_iconst (v := 0) X dX8_winds_1 (by decide) ?_
  refine pf_X8_50 X dX8_winds_2 ?_
  refine v_aloadn X dX8_winds_5 rfl rfl ?_
  refine v_iloadn X dX8_winds_6 rfl rfl ?_
  obtain ⟨rv3, gv2, qv1, h⟩ := bd2_some h
  refine v_callVI (As := [.int x1]) (rest := []) X (c_X8_isPaper l D ad cy X.2.2.2.2.2.2.2.2.1 N x1 (g3 g 10 0 0 (0 : Int32)) rv3 gv2  qv1) mw_X8_isPaper ml_X8_208 (by decide) (by decide +kernel) (by decide) rfl rfl rfl rfl (Nat.le_of_ble_eq_true rfl) dX8_winds_7 ?_
  refine v_if_eq X 40 dX8_winds_10 (by decide) (fun cv4 => ?_) (fun cv4 => ?_)
  · replace h := (if_pos cv4).symm.trans h
    refine v_ldc X kc_X8_70 dX8_winds_40 ?_
    obtain ⟨er, eg⟩ := Prod.mk.inj (Option.some.inj h)
    exact v_iret X dX8_winds_42 er eg
  · replace h := (if_neg cv4).symm.trans h
    refine v_iloadn X dX8_winds_13 rfl rfl ?_
    refine v_i2l X dX8_winds_14 ?_
    refine v_lconst (v := 0) X dX8_winds_15 (by decide) ?_
    refine v_aloadn X dX8_winds_16 rfl rfl ?_
    refine gf_X8_19 X dX8_winds_17 ?_
    refine v_iconst (v := 1) X dX8_winds_20 (by decide) ?_
    obtain ⟨jv5, qv6, h⟩ := bd1_some h
    obtain ⟨ejv5, ljv5⟩ := ix_spec qv6
    refine alM X (by decide +kernel) jv5 ejv5 ljv5 dX8_winds_21 ?_
    refine v_iconst (v := 1) X dX8_winds_22 (by decide) ?_
    refine v_isub X dX8_winds_23 ?_
    refine v_i2l X dX8_winds_24 ?_
    obtain ⟨rv9, gv8, qv7, h⟩ := bd2_some h
    refine v_callSI (As := [.long (x2.toInt64), .long (0 : Int64), .long (((gv2 11 5 jv5) - (1 : Int32)).toInt64)]) (rest := []) X (c_X8_in l D ad cy X.2.2.2.2.2.2.2.2.1 N (x2.toInt64) (0 : Int64) (((gv2 11 5 jv5) - (1 : Int32)).toInt64) gv2 rv9 gv8  qv7) mw_X8_in ml_X8_60 (by decide) rfl rfl (Nat.le_of_ble_eq_true rfl) dX8_winds_25 ?_
    refine v_if_eq X 40 dX8_winds_28 (by decide) (fun cv10 => ?_) (fun cv10 => ?_)
    · replace h := (if_pos cv10).symm.trans h
      refine v_ldc X kc_X8_70 dX8_winds_40 ?_
      obtain ⟨er, eg⟩ := Prod.mk.inj (Option.some.inj h)
      exact v_iret X dX8_winds_42 er eg
    · replace h := (if_neg cv10).symm.trans h
      refine v_iloadn X dX8_winds_31 rfl rfl ?_
      refine v_iload X dX8_winds_32 rfl ?_
      obtain ⟨rv13, gv12, qv11, h⟩ := bd2_some h
      refine v_callSI (As := [.int x3, .int x5]) (rest := []) X (c_X8_isMany l D ad cy X.2.2.2.2.2.2.2.2.1 N x3 x5 gv8 rv13 gv12  qv11) mw_X8_isMany ml_X8_251 (by decide) rfl rfl (Nat.le_of_ble_eq_true rfl) dX8_winds_34 ?_
      refine v_if_ne X 43 dX8_winds_37 (by decide) (fun cv14 => ?_) (fun cv14 => ?_)
      · replace h := (if_neg cv14).symm.trans h
        refine v_aloadn X dX8_winds_43 rfl rfl ?_
        refine v_iloadn X dX8_winds_44 rfl rfl ?_
        refine v_iload X dX8_winds_45 rfl ?_
        refine v_iload X dX8_winds_47 rfl ?_
        obtain ⟨rv17, gv16, qv15, h⟩ := bd2_some h
        refine v_callVI (As := [.int x3, .int x4, .int x5]) (rest := []) X (c_X8_rowFound l D ad cy X.2.2.2.2.2.2.2.2.1 N x3 x4 x5 gv12 rv17 gv16  qv15) mw_X8_rowFound ml_X8_254 (by decide) (by decide +kernel) (by decide) rfl rfl rfl rfl (Nat.le_of_ble_eq_true rfl) dX8_winds_49 ?_
        refine v_istore (lc' := [some (.ref (ad (8, 0, 0))), some (.int x1), some (.int x2), some (.int x3), some (.int x4), some (.int x5), some (.int rv17), none, none]) X dX8_winds_52 (by decide) rfl rfl ?_
        refine v_iload X dX8_winds_54 rfl ?_
        refine v_if_eq X 62 dX8_winds_56 (by decide) (fun cv18 => ?_) (fun cv18 => ?_)
        · replace h := (if_pos cv18).symm.trans h
          refine v_iconst (v := 0) X dX8_winds_62 (by decide) ?_
          refine v_istore (lc' := [some (.ref (ad (8, 0, 0))), some (.int x1), some (.int x2), some (.int x3), some (.int x4), some (.int x5), some (.int rv17), some (.int (0 : Int32)), none]) X dX8_winds_63 (by decide) rfl rfl ?_
          refine v_iconst (v := 0) X dX8_winds_65 (by decide) ?_
          refine v_istore (lc' := [some (.ref (ad (8, 0, 0))), some (.int x1), some (.int x2), some (.int x3), some (.int x4), some (.int x5), some (.int rv17), some (.int (0 : Int32)), some (.int (0 : Int32))]) X dX8_winds_66 (by decide) rfl rfl ?_
          obtain ⟨xv28, xv29, gv30, qv31, h⟩ := bd3_some h
          refine w_X8_winds_68 X x1 x2 x3 x4 x5 rv17 N (0 : Int32) (0 : Int32) gv16 xv28 xv29 gv30 qv31 ?_
          refine v_iload X dX8_winds_125 rfl ?_
          obtain ⟨er, eg⟩ := Prod.mk.inj (Option.some.inj h)
          exact v_iret X dX8_winds_127 er eg
        · replace h := (if_neg cv18).symm.trans h
          refine v_iload X dX8_winds_59 rfl ?_
          obtain ⟨er, eg⟩ := Prod.mk.inj (Option.some.inj h)
          exact v_iret X dX8_winds_61 er eg
      · replace h := (if_pos cv14).symm.trans h
        refine v_ldc X kc_X8_70 dX8_winds_40 ?_
        obtain ⟨er, eg⟩ := Prod.mk.inj (Option.some.inj h)
        exact v_iret X dX8_winds_42 er eg
