def F_X8_of (N : Nat) (b0 : Nat) (x1 : Int32) (x2 : Int32) (g : GS) : Option (Int32 × GS) := bd1 (ix (((11 : Int32) + ((7 : Int32) * x1)) + x2) (lenM b0)) (fun jv1 => some ((g 11 b0 jv1), g))
set_option maxRecDepth 100000 in
set_option maxHeartbeats 4000000 in
theorem c_X8_of (l : Launch) (D : va_G) (ad : Ky → Nat) (cy : Nat → ClassId) (hI : Inj ad) (N : Nat) (b0 : Nat) (x1 : Int32) (x2 : Int32) (g : GS) (r : Int32) (gq : GS) (kb0 : ((9, 11, b0) : Ky) ∈ keys) (h : F_X8_of N b0 x1 x2 g = some (r, gq)) : CtI l D ad cy yX8_of cX8_of 3 (some .int) 0 [.ref (ad (9, 11, b0)), .int x1, .int x2] g r gq := by
  refine CtI.of 0 hI (by decide +kernel) rfl (Nat.le_of_ble_eq_true rfl) (fun p e s m args below meth c X => ?_)
  unfold F_X8_of at h
  show Vy _ _ _ _ _ _ _ _ _ _ _ _ _ _ _ 0 [some (.ref (ad (9, 11, b0))), some (.int x1), some (.int x2)] [] g
  refine v_aloadn X dX8_of_0 rfl rfl ?_
  refine v_bipush (v := 11) X dX8_of_1 (by decide) ?_
  refine v_bipush (v := 7) X dX8_of_3 (by decide) ?_
  refine v_iloadn X dX8_of_5 rfl rfl ?_
  refine v_imul X dX8_of_6 ?_
  refine v_iadd X dX8_of_7 ?_
  refine v_iloadn X dX8_of_8 rfl rfl ?_
  refine v_iadd X dX8_of_9 ?_
  obtain ⟨jv1, qv2, h⟩ := bd1_some h
  obtain ⟨ejv1, ljv1⟩ := ix_spec qv2
  refine alM X (by assumption) jv1 ejv1 ljv1 dX8_of_10 ?_
  obtain ⟨er, eg⟩ := Prod.mk.inj (Option.some.inj h)
  exact v_iret X dX8_of_11 er eg
def F_X8_cellOf (N : Nat) (b0 : Nat) (x1 : Int32) (g : GS) : Option (Int32 × GS) := bd2 (F_X8_of N b0 x1 (3 : Int32) g) (fun rv3 gv2 => if rv3 = (2 : Int32) then bd2 (F_X8_of N b0 x1 (6 : Int32) gv2) (fun rv7 gv6 => some (rv7, gv6)) else some ((-1000000 : Int32), gv2))
set_option maxRecDepth 100000 in
set_option maxHeartbeats 4000000 in
theorem c_X8_cellOf (l : Launch) (D : va_G) (ad : Ky → Nat) (cy : Nat → ClassId) (hI : Inj ad) (N : Nat) (b0 : Nat) (x1 : Int32) (g : GS) (r : Int32) (gq : GS) (kb0 : ((9, 11, b0) : Ky) ∈ keys) (h : F_X8_cellOf N b0 x1 g = some (r, gq)) : CtI l D ad cy yX8_cellOf cX8_cellOf 2 (some .int) 1 [.ref (ad (9, 11, b0)), .int x1] g r gq := by
  refine CtI.of 0 hI (by decide +kernel) rfl (Nat.le_of_ble_eq_true rfl) (fun p e s m args below meth c X => ?_)
  unfold F_X8_cellOf at h
  show Vy _ _ _ _ _ _ _ _ _ _ _ _ _ _ _ 0 [some (.ref (ad (9, 11, b0))), some (.int x1)] [] g
  refine v_aloadn X dX8_cellOf_0 rfl rfl ?_
  refine v_iloadn X dX8_cellOf_1 rfl rfl ?_
  refine v_iconst (v := 3) X dX8_cellOf_2 (by decide) ?_
  obtain ⟨rv3, gv2, qv1, h⟩ := bd2_some h
  refine v_callSI (As := [.ref (ad (9, 11, b0)), .int x1, .int (3 : Int32)]) (rest := []) X (c_X8_of l D ad cy X.2.2.2.2.2.2.2.2.1 N b0 x1 (3 : Int32) g rv3 gv2 (by assumption) qv1) mw_X8_of ml_X8_155 (by decide) rfl rfl (Nat.le_of_ble_eq_true rfl) dX8_cellOf_3 ?_
  refine v_iconst (v := 2) X dX8_cellOf_6 (by decide) ?_
  refine v_icmp_ne X 20 dX8_cellOf_7 (by decide) (fun cv4 => ?_) (fun cv4 => ?_)
  · replace h := (if_neg cv4).symm.trans h
    refine v_ldc X kc_X8_93 dX8_cellOf_20 ?_
    obtain ⟨er, eg⟩ := Prod.mk.inj (Option.some.inj h)
    exact v_iret X dX8_cellOf_22 er eg
  · replace h := (if_pos cv4).symm.trans h
    refine v_aloadn X dX8_cellOf_10 rfl rfl ?_
    refine v_iloadn X dX8_cellOf_11 rfl rfl ?_
    refine v_bipush (v := 6) X dX8_cellOf_12 (by decide) ?_
    obtain ⟨rv7, gv6, qv5, h⟩ := bd2_some h
    refine v_callSI (As := [.ref (ad (9, 11, b0)), .int x1, .int (6 : Int32)]) (rest := []) X (c_X8_of l D ad cy X.2.2.2.2.2.2.2.2.1 N b0 x1 (6 : Int32) gv2 rv7 gv6 (by assumption) qv5) mw_X8_of ml_X8_155 (by decide) rfl rfl (Nat.le_of_ble_eq_true rfl) dX8_cellOf_14 ?_
    refine v_goto X 22 dX8_cellOf_17 (by decide) ?_
    obtain ⟨er, eg⟩ := Prod.mk.inj (Option.some.inj h)
    exact v_iret X dX8_cellOf_22 er eg
def F_X8_forceOf (N : Nat) (b0 : Nat) (x1 : Int32) (g : GS) : Option (Int32 × GS) := bd1 (ix (1 : Int32) (lenM b0)) (fun jv1 => if (g 11 b0 jv1) = 0 then some ((0 : Int32), g) else if (g 11 b0 jv1) = 0 then none else bd1 (ix ((5 : Int32) + (x1 - x1 / (g 11 b0 jv1) * (g 11 b0 jv1))) (lenM b0)) (fun jv5 => some ((g 11 b0 jv5), g)))
set_option maxRecDepth 100000 in
set_option maxHeartbeats 4000000 in
theorem c_X8_forceOf (l : Launch) (D : va_G) (ad : Ky → Nat) (cy : Nat → ClassId) (hI : Inj ad) (N : Nat) (b0 : Nat) (x1 : Int32) (g : GS) (r : Int32) (gq : GS) (kb0 : ((9, 11, b0) : Ky) ∈ keys) (h : F_X8_forceOf N b0 x1 g = some (r, gq)) : CtI l D ad cy yX8_forceOf cX8_forceOf 2 (some .int) 0 [.ref (ad (9, 11, b0)), .int x1] g r gq := by
  refine CtI.of 0 hI (by decide +kernel) rfl (Nat.le_of_ble_eq_true rfl) (fun p e s m args below meth c X => ?_)
  unfold F_X8_forceOf at h
  show Vy _ _ _ _ _ _ _ _ _ _ _ _ _ _ _ 0 [some (.ref (ad (9, 11, b0))), some (.int x1)] [] g
  refine v_aloadn X dX8_forceOf_0 rfl rfl ?_
  refine v_iconst (v := 1) X dX8_forceOf_1 (by decide) ?_
  obtain ⟨jv1, qv2, h⟩ := bd1_some h
  obtain ⟨ejv1, ljv1⟩ := ix_spec qv2
  refine alM X (by assumption) jv1 ejv1 ljv1 dX8_forceOf_2 ?_
  refine v_if_ne X 10 dX8_forceOf_3 (by decide) (fun cv3 => ?_) (fun cv3 => ?_)
  · replace h := (if_neg cv3).symm.trans h
    refine v_aloadn X dX8_forceOf_10 rfl rfl ?_
    refine v_iconst (v := 5) X dX8_forceOf_11 (by decide) ?_
    refine v_iloadn X dX8_forceOf_12 rfl rfl ?_
    refine v_aloadn X dX8_forceOf_13 rfl rfl ?_
    refine v_iconst (v := 1) X dX8_forceOf_14 (by decide) ?_
    refine alM X (by assumption) jv1 ejv1 ljv1 dX8_forceOf_15 ?_
    by_cases cv4 : (g 11 b0 jv1) = 0
    · replace h := (if_pos cv4).symm.trans h
      cases h
    replace h := (if_neg cv4).symm.trans h
    refine v_irem X dX8_forceOf_16 cv4 ?_
    refine v_iadd X dX8_forceOf_17 ?_
    obtain ⟨jv5, qv6, h⟩ := bd1_some h
    obtain ⟨ejv5, ljv5⟩ := ix_spec qv6
    refine alM X (by assumption) jv5 ejv5 ljv5 dX8_forceOf_18 ?_
    obtain ⟨er, eg⟩ := Prod.mk.inj (Option.some.inj h)
    exact v_iret X dX8_forceOf_19 er eg
  · replace h := (if_pos cv3).symm.trans h
    refine v_iconst (v := 0) X dX8_forceOf_6 (by decide) ?_
    refine v_goto X 19 dX8_forceOf_7 (by decide) ?_
    obtain ⟨er, eg⟩ := Prod.mk.inj (Option.some.inj h)
    exact v_iret X dX8_forceOf_19 er eg
def F_X8_isUp (N : Nat) (b0 : Nat) (x1 : Int32) (g : GS) : Option (Int32 × GS) := bd2 (F_X8_of N b0 x1 (3 : Int32) g) (fun rv3 gv2 => if rv3 = (1 : Int32) then some ((1 : Int32), gv2) else some ((0 : Int32), gv2))
set_option maxRecDepth 100000 in
set_option maxHeartbeats 4000000 in
theorem c_X8_isUp (l : Launch) (D : va_G) (ad : Ky → Nat) (cy : Nat → ClassId) (hI : Inj ad) (N : Nat) (b0 : Nat) (x1 : Int32) (g : GS) (r : Int32) (gq : GS) (kb0 : ((9, 11, b0) : Ky) ∈ keys) (h : F_X8_isUp N b0 x1 g = some (r, gq)) : CtI l D ad cy yX8_isUp cX8_isUp 2 (some .boolean) 1 [.ref (ad (9, 11, b0)), .int x1] g r gq := by
  refine CtI.of 0 hI (by decide +kernel) rfl (Nat.le_of_ble_eq_true rfl) (fun p e s m args below meth c X => ?_)
  unfold F_X8_isUp at h
  show Vy _ _ _ _ _ _ _ _ _ _ _ _ _ _ _ 0 [some (.ref (ad (9, 11, b0))), some (.int x1)] [] g
  refine v_aloadn X dX8_isUp_0 rfl rfl ?_
  refine v_iloadn X dX8_isUp_1 rfl rfl ?_
  refine v_iconst (v := 3) X dX8_isUp_2 (by decide) ?_
  obtain ⟨rv3, gv2, qv1, h⟩ := bd2_some h
  refine v_callSI (As := [.ref (ad (9, 11, b0)), .int x1, .int (3 : Int32)]) (rest := []) X (c_X8_of l D ad cy X.2.2.2.2.2.2.2.2.1 N b0 x1 (3 : Int32) g rv3 gv2 (by assumption) qv1) mw_X8_of ml_X8_155 (by decide) rfl rfl (Nat.le_of_ble_eq_true rfl) dX8_isUp_3 ?_
  refine v_iconst (v := 1) X dX8_isUp_6 (by decide) ?_
  refine v_icmp_ne X 14 dX8_isUp_7 (by decide) (fun cv4 => ?_) (fun cv4 => ?_)
  · replace h := (if_neg cv4).symm.trans h
    refine v_iconst (v := 0) X dX8_isUp_14 (by decide) ?_
    obtain ⟨er, eg⟩ := Prod.mk.inj (Option.some.inj h)
    exact v_zret X dX8_isUp_15 rfl er eg
  · replace h := (if_pos cv4).symm.trans h
    refine v_iconst (v := 1) X dX8_isUp_10 (by decide) ?_
    refine v_goto X 15 dX8_isUp_11 (by decide) ?_
    obtain ⟨er, eg⟩ := Prod.mk.inj (Option.some.inj h)
    exact v_zret X dX8_isUp_15 rfl er eg
def F_X8_be (N : Nat) (b0 : Nat) (x1 : Int32) (x2 : Int32) (x3 : Int32) (g : GS) : Option GS := bd1 (ix (((11 : Int32) + ((7 : Int32) * x1)) + x2) (lenM b0)) (fun jv1 => some (g3 g 11 b0 jv1 x3))
set_option maxRecDepth 100000 in
set_option maxHeartbeats 4000000 in
theorem c_X8_be (l : Launch) (D : va_G) (ad : Ky → Nat) (cy : Nat → ClassId) (hI : Inj ad) (N : Nat) (b0 : Nat) (x1 : Int32) (x2 : Int32) (x3 : Int32) (g : GS) (gq : GS) (kb0 : ((9, 11, b0) : Ky) ∈ keys) (h : F_X8_be N b0 x1 x2 x3 g = some gq) : CtV l D ad cy yX8_be cX8_be 4 0 [.ref (ad (9, 11, b0)), .int x1, .int x2, .int x3] g gq := by
  refine CtV.of 0 hI (by decide +kernel) rfl (Nat.le_of_ble_eq_true rfl) (fun p e s m args below meth c X => ?_)
  unfold F_X8_be at h
  show Vy _ _ _ _ _ _ _ _ _ _ _ _ _ _ _ 0 [some (.ref (ad (9, 11, b0))), some (.int x1), some (.int x2), some (.int x3)] [] g
  refine v_aloadn X dX8_be_0 rfl rfl ?_
  refine v_bipush (v := 11) X dX8_be_1 (by decide) ?_
  refine v_bipush (v := 7) X dX8_be_3 (by decide) ?_
  refine v_iloadn X dX8_be_5 rfl rfl ?_
  refine v_imul X dX8_be_6 ?_
  refine v_iadd X dX8_be_7 ?_
  refine v_iloadn X dX8_be_8 rfl rfl ?_
  refine v_iadd X dX8_be_9 ?_
  refine v_iloadn X dX8_be_10 rfl rfl ?_
  obtain ⟨jv1, qv2, h⟩ := bd1_some h
  obtain ⟨ejv1, ljv1⟩ := ix_spec qv2
  refine asM X (by assumption) jv1 ejv1 ljv1 dX8_be_11 ?_
  exact v_vret X dX8_be_12 (Option.some.inj h)
def F_X8_doesSnap (N : Nat) (b0 : Nat) (x1 : Int32) (x2 : Int32) (g : GS) : Option (Int32 × GS) := if x2 ≤ 0 then some ((0 : Int32), g) else bd2 (F_X8_of N b0 x1 (4 : Int32) g) (fun rv4 gv3 => bd2 (F_X8_of N b0 x1 (5 : Int32) gv3) (fun rv7 gv6 => bd1 (ix (3 : Int32) (lenM b0)) (fun jv8 => if (rv4 + x2) ≤ (rv7 + (gv6 11 b0 jv8)) then some ((0 : Int32), gv6) else some ((1 : Int32), gv6))))
set_option maxRecDepth 100000 in
set_option maxHeartbeats 4000000 in
theorem c_X8_doesSnap (l : Launch) (D : va_G) (ad : Ky → Nat) (cy : Nat → ClassId) (hI : Inj ad) (N : Nat) (b0 : Nat) (x1 : Int32) (x2 : Int32) (g : GS) (r : Int32) (gq : GS) (kb0 : ((9, 11, b0) : Ky) ∈ keys) (h : F_X8_doesSnap N b0 x1 x2 g = some (r, gq)) : CtI l D ad cy yX8_doesSnap cX8_doesSnap 3 (some .boolean) 1 [.ref (ad (9, 11, b0)), .int x1, .int x2] g r gq := by
  refine CtI.of 0 hI (by decide +kernel) rfl (Nat.le_of_ble_eq_true rfl) (fun p e s m args below meth c X => ?_)
  unfold F_X8_doesSnap at h
  show Vy _ _ _ _ _ _ _ _ _ _ _ _ _ _ _ 0 [some (.ref (ad (9, 11, b0))), some (.int x1), some (.int x2)] [] g
  refine v_iloadn X dX8_doesSnap_0 rfl rfl ?_
  refine v_if_le X 29 dX8_doesSnap_1 (by decide) (fun cv1 => ?_) (fun cv1 => ?_)
  · replace h := (if_pos cv1).symm.trans h
    refine v_iconst (v := 0) X dX8_doesSnap_29 (by decide) ?_
    obtain ⟨er, eg⟩ := Prod.mk.inj (Option.some.inj h)
    exact v_zret X dX8_doesSnap_30 rfl er eg
  · replace h := (if_neg cv1).symm.trans h
    refine v_aloadn X dX8_doesSnap_4 rfl rfl ?_
    refine v_iloadn X dX8_doesSnap_5 rfl rfl ?_
    refine v_iconst (v := 4) X dX8_doesSnap_6 (by decide) ?_
    obtain ⟨rv4, gv3, qv2, h⟩ := bd2_some h
    refine v_callSI (As := [.ref (ad (9, 11, b0)), .int x1, .int (4 : Int32)]) (rest := []) X (c_X8_of l D ad cy X.2.2.2.2.2.2.2.2.1 N b0 x1 (4 : Int32) g rv4 gv3 (by assumption) qv2) mw_X8_of ml_X8_155 (by decide) rfl rfl (Nat.le_of_ble_eq_true rfl) dX8_doesSnap_7 ?_
    refine v_iloadn X dX8_doesSnap_10 rfl rfl ?_
    refine v_iadd X dX8_doesSnap_11 ?_
    refine v_aloadn X dX8_doesSnap_12 rfl rfl ?_
    refine v_iloadn X dX8_doesSnap_13 rfl rfl ?_
    refine v_iconst (v := 5) X dX8_doesSnap_14 (by decide) ?_
    obtain ⟨rv7, gv6, qv5, h⟩ := bd2_some h
    refine v_callSI (As := [.ref (ad (9, 11, b0)), .int x1, .int (5 : Int32)]) (rest := [.int (rv4 + x2)]) X (c_X8_of l D ad cy X.2.2.2.2.2.2.2.2.1 N b0 x1 (5 : Int32) gv3 rv7 gv6 (by assumption) qv5) mw_X8_of ml_X8_155 (by decide) rfl rfl (Nat.le_of_ble_eq_true rfl) dX8_doesSnap_15 ?_
    refine v_aloadn X dX8_doesSnap_18 rfl rfl ?_
    refine v_iconst (v := 3) X dX8_doesSnap_19 (by decide) ?_
    obtain ⟨jv8, qv9, h⟩ := bd1_some h
    obtain ⟨ejv8, ljv8⟩ := ix_spec qv9
    refine alM X (by assumption) jv8 ejv8 ljv8 dX8_doesSnap_20 ?_
    refine v_iadd X dX8_doesSnap_21 ?_
    refine v_icmp_le X 29 dX8_doesSnap_22 (by decide) (fun cv10 => ?_) (fun cv10 => ?_)
    · replace h := (if_pos cv10).symm.trans h
      refine v_iconst (v := 0) X dX8_doesSnap_29 (by decide) ?_
      obtain ⟨er, eg⟩ := Prod.mk.inj (Option.some.inj h)
      exact v_zret X dX8_doesSnap_30 rfl er eg
    · replace h := (if_neg cv10).symm.trans h
      refine v_iconst (v := 1) X dX8_doesSnap_25 (by decide) ?_
      refine v_goto X 30 dX8_doesSnap_26 (by decide) ?_
      obtain ⟨er, eg⟩ := Prod.mk.inj (Option.some.inj h)
      exact v_zret X dX8_doesSnap_30 rfl er eg
def F_X8_moves (N : Nat) (b0 : Nat) (x1 : Int32) (x2 : Int32) (x3 : Int32) (g : GS) : Option GS := bd2 (F_X8_of N b0 x1 (4 : Int32) g) (fun rv3 gv2 => bd2 (F_X8_of N b0 x1 (5 : Int32) gv2) (fun rv6 gv5 => bd2 (F_X8_doesSnap N b0 x1 x2 gv5) (fun rv9 gv8 => if rv9 = 0 then if 0 ≤ x2 then if (rv3 + x2) ≤ rv6 then bd1 (F_X8_be N b0 x1 (4 : Int32) (rv3 + x2) gv8) (fun gv14 => some gv14) else bd1 (F_X8_be N b0 x1 (4 : Int32) rv6 gv8) (fun gv16 => some gv16) else if 0 < (rv3 + x2) then if (rv3 + x2) ≤ rv6 then bd1 (F_X8_be N b0 x1 (4 : Int32) (rv3 + x2) gv8) (fun gv20 => some gv20) else bd1 (F_X8_be N b0 x1 (4 : Int32) rv6 gv8) (fun gv22 => some gv22) else bd1 (F_X8_be N b0 x1 (3 : Int32) (0 : Int32) gv8) (fun gv24 => bd1 (F_X8_be N b0 x1 (4 : Int32) (0 : Int32) gv24) (fun gv26 => bd1 (F_X8_be N b0 x1 (5 : Int32) (0 : Int32) gv26) (fun gv28 => some gv28))) else bd1 (F_X8_be N b0 x1 (3 : Int32) (2 : Int32) gv8) (fun gv30 => bd1 (F_X8_be N b0 x1 (6 : Int32) (((x1 + rv6) + x3) - ((x1 + rv6) + x3) / (16 : Int32) * (16 : Int32)) gv30) (fun gv32 => bd1 (F_X8_be N b0 x1 (4 : Int32) (0 : Int32) gv32) (fun gv34 => bd1 (F_X8_be N b0 x1 (5 : Int32) (0 : Int32) gv34) (fun gv36 => some gv36)))))))
set_option maxRecDepth 100000 in
set_option maxHeartbeats 4000000 in
theorem c_X8_moves (l : Launch) (D : va_G) (ad : Ky → Nat) (cy : Nat → ClassId) (hI : Inj ad) (N : Nat) (b0 : Nat) (x1 : Int32) (x2 : Int32) (x3 : Int32) (g : GS) (gq : GS) (kb0 : ((9, 11, b0) : Ky) ∈ keys) (h : F_X8_moves N b0 x1 x2 x3 g = some gq) : CtV l D ad cy yX8_moves cX8_moves 6 2 [.ref (ad (9, 11, b0)), .int x1, .int x2, .int x3] g gq := by
  refine CtV.of 2 hI (by decide +kernel) rfl (Nat.le_of_ble_eq_true rfl) (fun p e s m args below meth c X => ?_)
  unfold F_X8_moves at h
  show Vy _ _ _ _ _ _ _ _ _ _ _ _ _ _ _ 0 [some (.ref (ad (9, 11, b0))), some (.int x1), some (.int x2), some (.int x3), none, none] [] g
  refine v_aloadn X dX8_moves_0 rfl rfl ?_
  refine v_iloadn X dX8_moves_1 rfl rfl ?_
  refine v_iconst (v := 4) X dX8_moves_2 (by decide) ?_
  obtain ⟨rv3, gv2, qv1, h⟩ := bd2_some h
  refine v_callSI (As := [.ref (ad (9, 11, b0)), .int x1, .int (4 : Int32)]) (rest := []) X (c_X8_of l D ad cy X.2.2.2.2.2.2.2.2.1 N b0 x1 (4 : Int32) g rv3 gv2 (by assumption) qv1) mw_X8_of ml_X8_155 (by decide) rfl rfl (Nat.le_of_ble_eq_true rfl) dX8_moves_3 ?_
  refine v_iloadn X dX8_moves_6 rfl rfl ?_
  refine v_iadd X dX8_moves_7 ?_
  refine v_istore (lc' := [some (.ref (ad (9, 11, b0))), some (.int x1), some (.int x2), some (.int x3), some (.int (rv3 + x2)), none]) X dX8_moves_8 (by decide) rfl rfl ?_
  refine v_aloadn X dX8_moves_10 rfl rfl ?_
  refine v_iloadn X dX8_moves_11 rfl rfl ?_
  refine v_iconst (v := 5) X dX8_moves_12 (by decide) ?_
  obtain ⟨rv6, gv5, qv4, h⟩ := bd2_some h
  refine v_callSI (As := [.ref (ad (9, 11, b0)), .int x1, .int (5 : Int32)]) (rest := []) X (c_X8_of l D ad cy X.2.2.2.2.2.2.2.2.1 N b0 x1 (5 : Int32) gv2 rv6 gv5 (by assumption) qv4) mw_X8_of ml_X8_155 (by decide) rfl rfl (Nat.le_of_ble_eq_true rfl) dX8_moves_13 ?_
  refine v_istore (lc' := [some (.ref (ad (9, 11, b0))), some (.int x1), some (.int x2), some (.int x3), some (.int (rv3 + x2)), some (.int rv6)]) X dX8_moves_16 (by decide) rfl rfl ?_
  refine v_aloadn X dX8_moves_18 rfl rfl ?_
  refine v_iloadn X dX8_moves_19 rfl rfl ?_
  refine v_iloadn X dX8_moves_20 rfl rfl ?_
  obtain ⟨rv9, gv8, qv7, h⟩ := bd2_some h
  refine v_callSI (As := [.ref (ad (9, 11, b0)), .int x1, .int x2]) (rest := []) X (c_X8_doesSnap l D ad cy X.2.2.2.2.2.2.2.2.1 N b0 x1 x2 gv5 rv9 gv8 (by assumption) qv7) mw_X8_doesSnap ml_X8_166 (by decide) rfl rfl (Nat.le_of_ble_eq_true rfl) dX8_moves_21 ?_
  refine v_if_eq X 67 dX8_moves_24 (by decide) (fun cv10 => ?_) (fun cv10 => ?_)
  · replace h := (if_pos cv10).symm.trans h
    refine v_iloadn X dX8_moves_67 rfl rfl ?_
    refine v_if_ge X 100 dX8_moves_68 (by decide) (fun cv11 => ?_) (fun cv11 => ?_)
    · replace h := (if_pos cv11).symm.trans h
      refine v_aloadn X dX8_moves_100 rfl rfl ?_
      refine v_iloadn X dX8_moves_101 rfl rfl ?_
      refine v_iconst (v := 4) X dX8_moves_102 (by decide) ?_
      refine v_iload X dX8_moves_103 rfl ?_
      refine v_iload X dX8_moves_105 rfl ?_
      refine v_icmp_le X 115 dX8_moves_107 (by decide) (fun cv12 => ?_) (fun cv12 => ?_)
      · replace h := (if_pos cv12).symm.trans h
        refine v_iload X dX8_moves_115 rfl ?_
        obtain ⟨gv14, qv13, h⟩ := bd1_some h
        refine v_callSV (As := [.ref (ad (9, 11, b0)), .int x1, .int (4 : Int32), .int (rv3 + x2)]) (rest := []) X (c_X8_be l D ad cy X.2.2.2.2.2.2.2.2.1 N b0 x1 (4 : Int32) (rv3 + x2) gv8 gv14 (by assumption) qv13) mw_X8_be ml_X8_170 (by decide) rfl rfl (Nat.le_of_ble_eq_true rfl) dX8_moves_117 ?_
        exact v_vret X dX8_moves_120 (Option.some.inj h)
      · replace h := (if_neg cv12).symm.trans h
        refine v_iload X dX8_moves_110 rfl ?_
        refine v_goto X 117 dX8_moves_112 (by decide) ?_
        obtain ⟨gv16, qv15, h⟩ := bd1_some h
        refine v_callSV (As := [.ref (ad (9, 11, b0)), .int x1, .int (4 : Int32), .int rv6]) (rest := []) X (c_X8_be l D ad cy X.2.2.2.2.2.2.2.2.1 N b0 x1 (4 : Int32) rv6 gv8 gv16 (by assumption) qv15) mw_X8_be ml_X8_170 (by decide) rfl rfl (Nat.le_of_ble_eq_true rfl) dX8_moves_117 ?_
        exact v_vret X dX8_moves_120 (Option.some.inj h)
    · replace h := (if_neg cv11).symm.trans h
      refine v_iload X dX8_moves_71 rfl ?_
      refine v_if_gt X 100 dX8_moves_73 (by decide) (fun cv17 => ?_) (fun cv17 => ?_)
      · replace h := (if_pos cv17).symm.trans h
        refine v_aloadn X dX8_moves_100 rfl rfl ?_
        refine v_iloadn X dX8_moves_101 rfl rfl ?_
        refine v_iconst (v := 4) X dX8_moves_102 (by decide) ?_
        refine v_iload X dX8_moves_103 rfl ?_
        refine v_iload X dX8_moves_105 rfl ?_
        refine v_icmp_le X 115 dX8_moves_107 (by decide) (fun cv18 => ?_) (fun cv18 => ?_)
        · replace h := (if_pos cv18).symm.trans h
          refine v_iload X dX8_moves_115 rfl ?_
          obtain ⟨gv20, qv19, h⟩ := bd1_some h
          refine v_callSV (As := [.ref (ad (9, 11, b0)), .int x1, .int (4 : Int32), .int (rv3 + x2)]) (rest := []) X (c_X8_be l D ad cy X.2.2.2.2.2.2.2.2.1 N b0 x1 (4 : Int32) (rv3 + x2) gv8 gv20 (by assumption) qv19) mw_X8_be ml_X8_170 (by decide) rfl rfl (Nat.le_of_ble_eq_true rfl) dX8_moves_117 ?_
          exact v_vret X dX8_moves_120 (Option.some.inj h)
        · replace h := (if_neg cv18).symm.trans h
          refine v_iload X dX8_moves_110 rfl ?_
          refine v_goto X 117 dX8_moves_112 (by decide) ?_
          obtain ⟨gv22, qv21, h⟩ := bd1_some h
          refine v_callSV (As := [.ref (ad (9, 11, b0)), .int x1, .int (4 : Int32), .int rv6]) (rest := []) X (c_X8_be l D ad cy X.2.2.2.2.2.2.2.2.1 N b0 x1 (4 : Int32) rv6 gv8 gv22 (by assumption) qv21) mw_X8_be ml_X8_170 (by decide) rfl rfl (Nat.le_of_ble_eq_true rfl) dX8_moves_117 ?_
          exact v_vret X dX8_moves_120 (Option.some.inj h)
      · replace h := (if_neg cv17).symm.trans h
        refine v_aloadn X dX8_moves_76 rfl rfl ?_
        refine v_iloadn X dX8_moves_77 rfl rfl ?_
        refine v_iconst (v := 3) X dX8_moves_78 (by decide) ?_
        refine v_iconst (v := 0) X dX8_moves_79 (by decide) ?_
        obtain ⟨gv24, qv23, h⟩ := bd1_some h
        refine v_callSV (As := [.ref (ad (9, 11, b0)), .int x1, .int (3 : Int32), .int (0 : Int32)]) (rest := []) X (c_X8_be l D ad cy X.2.2.2.2.2.2.2.2.1 N b0 x1 (3 : Int32) (0 : Int32) gv8 gv24 (by assumption) qv23) mw_X8_be ml_X8_170 (by decide) rfl rfl (Nat.le_of_ble_eq_true rfl) dX8_moves_80 ?_
        refine v_aloadn X dX8_moves_83 rfl rfl ?_
        refine v_iloadn X dX8_moves_84 rfl rfl ?_
        refine v_iconst (v := 4) X dX8_moves_85 (by decide) ?_
        refine v_iconst (v := 0) X dX8_moves_86 (by decide) ?_
        obtain ⟨gv26, qv25, h⟩ := bd1_some h
        refine v_callSV (As := [.ref (ad (9, 11, b0)), .int x1, .int (4 : Int32), .int (0 : Int32)]) (rest := []) X (c_X8_be l D ad cy X.2.2.2.2.2.2.2.2.1 N b0 x1 (4 : Int32) (0 : Int32) gv24 gv26 (by assumption) qv25) mw_X8_be ml_X8_170 (by decide) rfl rfl (Nat.le_of_ble_eq_true rfl) dX8_moves_87 ?_
        refine v_aloadn X dX8_moves_90 rfl rfl ?_
        refine v_iloadn X dX8_moves_91 rfl rfl ?_
        refine v_iconst (v := 5) X dX8_moves_92 (by decide) ?_
        refine v_iconst (v := 0) X dX8_moves_93 (by decide) ?_
        obtain ⟨gv28, qv27, h⟩ := bd1_some h
        refine v_callSV (As := [.ref (ad (9, 11, b0)), .int x1, .int (5 : Int32), .int (0 : Int32)]) (rest := []) X (c_X8_be l D ad cy X.2.2.2.2.2.2.2.2.1 N b0 x1 (5 : Int32) (0 : Int32) gv26 gv28 (by assumption) qv27) mw_X8_be ml_X8_170 (by decide) rfl rfl (Nat.le_of_ble_eq_true rfl) dX8_moves_94 ?_
        refine v_goto X 120 dX8_moves_97 (by decide) ?_
        exact v_vret X dX8_moves_120 (Option.some.inj h)
  · replace h := (if_neg cv10).symm.trans h
    refine v_aloadn X dX8_moves_27 rfl rfl ?_
    refine v_iloadn X dX8_moves_28 rfl rfl ?_
    refine v_iconst (v := 3) X dX8_moves_29 (by decide) ?_
    refine v_iconst (v := 2) X dX8_moves_30 (by decide) ?_
    obtain ⟨gv30, qv29, h⟩ := bd1_some h
    refine v_callSV (As := [.ref (ad (9, 11, b0)), .int x1, .int (3 : Int32), .int (2 : Int32)]) (rest := []) X (c_X8_be l D ad cy X.2.2.2.2.2.2.2.2.1 N b0 x1 (3 : Int32) (2 : Int32) gv8 gv30 (by assumption) qv29) mw_X8_be ml_X8_170 (by decide) rfl rfl (Nat.le_of_ble_eq_true rfl) dX8_moves_31 ?_
    refine v_aloadn X dX8_moves_34 rfl rfl ?_
    refine v_iloadn X dX8_moves_35 rfl rfl ?_
    refine v_bipush (v := 6) X dX8_moves_36 (by decide) ?_
    refine v_iloadn X dX8_moves_38 rfl rfl ?_
    refine v_iload X dX8_moves_39 rfl ?_
    refine v_iadd X dX8_moves_41 ?_
    refine v_iloadn X dX8_moves_42 rfl rfl ?_
    refine v_iadd X dX8_moves_43 ?_
    refine v_bipush (v := 16) X dX8_moves_44 (by decide) ?_
    refine v_irem X dX8_moves_46 (by decide) ?_
    obtain ⟨gv32, qv31, h⟩ := bd1_some h
    refine v_callSV (As := [.ref (ad (9, 11, b0)), .int x1, .int (6 : Int32), .int (((x1 + rv6) + x3) - ((x1 + rv6) + x3) / (16 : Int32) * (16 : Int32))]) (rest := []) X (c_X8_be l D ad cy X.2.2.2.2.2.2.2.2.1 N b0 x1 (6 : Int32) (((x1 + rv6) + x3) - ((x1 + rv6) + x3) / (16 : Int32) * (16 : Int32)) gv30 gv32 (by assumption) qv31) mw_X8_be ml_X8_170 (by decide) rfl rfl (Nat.le_of_ble_eq_true rfl) dX8_moves_47 ?_
    refine v_aloadn X dX8_moves_50 rfl rfl ?_
    refine v_iloadn X dX8_moves_51 rfl rfl ?_
    refine v_iconst (v := 4) X dX8_moves_52 (by decide) ?_
    refine v_iconst (v := 0) X dX8_moves_53 (by decide) ?_
    obtain ⟨gv34, qv33, h⟩ := bd1_some h
    refine v_callSV (As := [.ref (ad (9, 11, b0)), .int x1, .int (4 : Int32), .int (0 : Int32)]) (rest := []) X (c_X8_be l D ad cy X.2.2.2.2.2.2.2.2.1 N b0 x1 (4 : Int32) (0 : Int32) gv32 gv34 (by assumption) qv33) mw_X8_be ml_X8_170 (by decide) rfl rfl (Nat.le_of_ble_eq_true rfl) dX8_moves_54 ?_
    refine v_aloadn X dX8_moves_57 rfl rfl ?_
    refine v_iloadn X dX8_moves_58 rfl rfl ?_
    refine v_iconst (v := 5) X dX8_moves_59 (by decide) ?_
    refine v_iconst (v := 0) X dX8_moves_60 (by decide) ?_
    obtain ⟨gv36, qv35, h⟩ := bd1_some h
    refine v_callSV (As := [.ref (ad (9, 11, b0)), .int x1, .int (5 : Int32), .int (0 : Int32)]) (rest := []) X (c_X8_be l D ad cy X.2.2.2.2.2.2.2.2.1 N b0 x1 (5 : Int32) (0 : Int32) gv34 gv36 (by assumption) qv35) mw_X8_be ml_X8_170 (by decide) rfl rfl (Nat.le_of_ble_eq_true rfl) dX8_moves_61 ?_
    refine v_goto X 120 dX8_moves_64 (by decide) ?_
    exact v_vret X dX8_moves_120 (Option.some.inj h)
def L_X8_isOtherUp_4 (N : Nat) (w0_1 : Nat) (z1 : Int32) : Nat → Int32 → Int32 → GS → Option (Int32 × Int32 × GS)
  | 0, _, _, _ => none
  | n + 1, y2, y3, g => bd1 (ix (0 : Int32) (lenM w0_1)) (fun jv1 => if (g 11 w0_1 jv1) ≤ y3 then some (y2, y3, g) else if y2 = 0 then if y3 = z1 then L_X8_isOtherUp_4 N w0_1 z1 n (0 : Int32) (y3 + 1) g else bd2 (F_X8_isUp N w0_1 y3 g) (fun rv8 gv7 => if rv8 = 0 then L_X8_isOtherUp_4 N w0_1 z1 n (0 : Int32) (y3 + 1) gv7 else bd2 (F_X8_of N w0_1 y3 (0 : Int32) gv7) (fun rv12 gv11 => if rv12 = (3 : Int32) then L_X8_isOtherUp_4 N w0_1 z1 n (1 : Int32) (y3 + 1) gv11 else L_X8_isOtherUp_4 N w0_1 z1 n (0 : Int32) (y3 + 1) gv11)) else L_X8_isOtherUp_4 N w0_1 z1 n (1 : Int32) (y3 + 1) g)
def F_X8_isOtherUp (N : Nat) (b0 : Nat) (x1 : Int32) (g : GS) : Option (Int32 × GS) := bd3 (L_X8_isOtherUp_4 N b0 x1 N (0 : Int32) (0 : Int32) g) (fun xv14 xv15 gv16 => if xv14 = 0 ∨ xv14 = 1 then some (xv14, gv16) else none)
set_option maxRecDepth 100000 in
set_option maxHeartbeats 4000000 in
theorem w_X8_isOtherUp_4 {p : Program} {l : Launch} {e : Env} {s : State} {m : MethodId} {args : Array Value} {below : List Frame} {meth : Method} {c : Code} {D : va_G} {ad : Ky → Nat} {cy : Nat → ClassId} {r : Int32} {gq : GS} {N : Nat} (X : Cx p (rmd 2) s m args meth c RX8 cX8_isOtherUp 4 (some .boolean) D ad cy) (w0_1 : Nat) (z1 : Int32) (hh0 : ((9, 11, w0_1) : Ky) ∈ keys) : ∀ (n : Nat) (y2 : Int32) (y3 : Int32) (g : GS) (y2' : Int32) (y3' : Int32) (g' : GS), L_X8_isOtherUp_4 N w0_1 z1 n y2 y3 g = some (y2', y3', g') → Vy p l e (rmd 2) s m args below meth c 4 D ad cy (QI D ad cy below args s r gq) 50 [some (.ref (ad (9, 11, w0_1))), some (.int z1), some (.int y2'), some (.int y3')] [] g' → Vy p l e (rmd 2) s m args below meth c 4 D ad cy (QI D ad cy below args s r gq) 4 [some (.ref (ad (9, 11, w0_1))), some (.int z1), some (.int y2), some (.int y3)] [] g := by
  intro n
  induction n with
  | zero => intro y2 y3 g y2' y3' g' h k; cases h
  | succ n ih =>
    intro y2 y3 g y2' y3' g' h k
    rw [L_X8_isOtherUp_4] at h
    refine v_iloadn X dX8_isOtherUp_4 rfl rfl ?_
    refine v_aloadn X dX8_isOtherUp_5 rfl rfl ?_
    refine v_iconst (v := 0) X dX8_isOtherUp_6 (by decide) ?_
    obtain ⟨jv1, qv2, h⟩ := bd1_some h
    obtain ⟨ejv1, ljv1⟩ := ix_spec qv2
    refine alM X (by assumption) jv1 ejv1 ljv1 dX8_isOtherUp_7 ?_
    refine v_icmp_ge X 50 dX8_isOtherUp_8 (by decide) (fun cv3 => ?_) (fun cv3 => ?_)
    · replace h := (if_pos cv3).symm.trans h
      cases h
      exact k
    · replace h := (if_neg cv3).symm.trans h
      refine v_iloadn X dX8_isOtherUp_11 rfl rfl ?_
      refine v_if_ne X 38 dX8_isOtherUp_12 (by decide) (fun cv4 => ?_) (fun cv4 => ?_)
      · replace h := (if_neg cv4).symm.trans h
        refine v_iconst (v := 1) X dX8_isOtherUp_38 (by decide) ?_
        refine v_goto X 43 dX8_isOtherUp_39 (by decide) ?_
        refine v_istoren (lc' := [some (.ref (ad (9, 11, w0_1))), some (.int z1), some (.int (1 : Int32)), some (.int y3)]) X dX8_isOtherUp_43 rfl (by decide) rfl rfl ?_
        refine v_iinc (v := (y3 + 1)) (lc' := [some (.ref (ad (9, 11, w0_1))), some (.int z1), some (.int (1 : Int32)), some (.int (y3 + 1))]) X dX8_isOtherUp_44 rfl rfl (by decide) rfl rfl ?_
        refine v_goto X 4 dX8_isOtherUp_47 (by decide) ?_
        exact ih (1 : Int32) (y3 + 1) g _ _ _ h k
      · replace h := (if_pos cv4).symm.trans h
        refine v_iloadn X dX8_isOtherUp_15 rfl rfl ?_
        refine v_iloadn X dX8_isOtherUp_16 rfl rfl ?_
        refine v_icmp_eq X 42 dX8_isOtherUp_17 (by decide) (fun cv5 => ?_) (fun cv5 => ?_)
        · replace h := (if_pos cv5).symm.trans h
          refine v_iconst (v := 0) X dX8_isOtherUp_42 (by decide) ?_
          refine v_istoren (lc' := [some (.ref (ad (9, 11, w0_1))), some (.int z1), some (.int (0 : Int32)), some (.int y3)]) X dX8_isOtherUp_43 rfl (by decide) rfl rfl ?_
          refine v_iinc (v := (y3 + 1)) (lc' := [some (.ref (ad (9, 11, w0_1))), some (.int z1), some (.int (0 : Int32)), some (.int (y3 + 1))]) X dX8_isOtherUp_44 rfl rfl (by decide) rfl rfl ?_
          refine v_goto X 4 dX8_isOtherUp_47 (by decide) ?_
          exact ih (0 : Int32) (y3 + 1) g _ _ _ h k
        · replace h := (if_neg cv5).symm.trans h
          refine v_aloadn X dX8_isOtherUp_20 rfl rfl ?_
          refine v_iloadn X dX8_isOtherUp_21 rfl rfl ?_
          obtain ⟨rv8, gv7, qv6, h⟩ := bd2_some h
          refine v_callSI (As := [.ref (ad (9, 11, w0_1)), .int y3]) (rest := []) X (c_X8_isUp l D ad cy X.2.2.2.2.2.2.2.2.1 N w0_1 y3 g rv8 gv7 (by assumption) qv6) mw_X8_isUp ml_X8_159 (by decide) rfl rfl (Nat.le_of_ble_eq_true rfl) dX8_isOtherUp_22 ?_
          refine v_if_eq X 42 dX8_isOtherUp_25 (by decide) (fun cv9 => ?_) (fun cv9 => ?_)
          · replace h := (if_pos cv9).symm.trans h
            refine v_iconst (v := 0) X dX8_isOtherUp_42 (by decide) ?_
            refine v_istoren (lc' := [some (.ref (ad (9, 11, w0_1))), some (.int z1), some (.int (0 : Int32)), some (.int y3)]) X dX8_isOtherUp_43 rfl (by decide) rfl rfl ?_
            refine v_iinc (v := (y3 + 1)) (lc' := [some (.ref (ad (9, 11, w0_1))), some (.int z1), some (.int (0 : Int32)), some (.int (y3 + 1))]) X dX8_isOtherUp_44 rfl rfl (by decide) rfl rfl ?_
            refine v_goto X 4 dX8_isOtherUp_47 (by decide) ?_
            exact ih (0 : Int32) (y3 + 1) gv7 _ _ _ h k
          · replace h := (if_neg cv9).symm.trans h
            refine v_aloadn X dX8_isOtherUp_28 rfl rfl ?_
            refine v_iloadn X dX8_isOtherUp_29 rfl rfl ?_
            refine v_iconst (v := 0) X dX8_isOtherUp_30 (by decide) ?_
            obtain ⟨rv12, gv11, qv10, h⟩ := bd2_some h
            refine v_callSI (As := [.ref (ad (9, 11, w0_1)), .int y3, .int (0 : Int32)]) (rest := []) X (c_X8_of l D ad cy X.2.2.2.2.2.2.2.2.1 N w0_1 y3 (0 : Int32) gv7 rv12 gv11 (by assumption) qv10) mw_X8_of ml_X8_155 (by decide) rfl rfl (Nat.le_of_ble_eq_true rfl) dX8_isOtherUp_31 ?_
            refine v_iconst (v := 3) X dX8_isOtherUp_34 (by decide) ?_
            refine v_icmp_ne X 42 dX8_isOtherUp_35 (by decide) (fun cv13 => ?_) (fun cv13 => ?_)
            · replace h := (if_neg cv13).symm.trans h
              refine v_iconst (v := 0) X dX8_isOtherUp_42 (by decide) ?_
              refine v_istoren (lc' := [some (.ref (ad (9, 11, w0_1))), some (.int z1), some (.int (0 : Int32)), some (.int y3)]) X dX8_isOtherUp_43 rfl (by decide) rfl rfl ?_
              refine v_iinc (v := (y3 + 1)) (lc' := [some (.ref (ad (9, 11, w0_1))), some (.int z1), some (.int (0 : Int32)), some (.int (y3 + 1))]) X dX8_isOtherUp_44 rfl rfl (by decide) rfl rfl ?_
              refine v_goto X 4 dX8_isOtherUp_47 (by decide) ?_
              exact ih (0 : Int32) (y3 + 1) gv11 _ _ _ h k
            · replace h := (if_pos cv13).symm.trans h
              refine v_iconst (v := 1) X dX8_isOtherUp_38 (by decide) ?_
              refine v_goto X 43 dX8_isOtherUp_39 (by decide) ?_
              refine v_istoren (lc' := [some (.ref (ad (9, 11, w0_1))), some (.int z1), some (.int (1 : Int32)), some (.int y3)]) X dX8_isOtherUp_43 rfl (by decide) rfl rfl ?_
              refine v_iinc (v := (y3 + 1)) (lc' := [some (.ref (ad (9, 11, w0_1))), some (.int z1), some (.int (1 : Int32)), some (.int (y3 + 1))]) X dX8_isOtherUp_44 rfl rfl (by decide) rfl rfl ?_
              refine v_goto X 4 dX8_isOtherUp_47 (by decide) ?_
              exact ih (1 : Int32) (y3 + 1) gv11 _ _ _ h k
set_option maxRecDepth 100000 in
set_option maxHeartbeats 4000000 in
theorem c_X8_isOtherUp (l : Launch) (D : va_G) (ad : Ky → Nat) (cy : Nat → ClassId) (hI : Inj ad) (N : Nat) (b0 : Nat) (x1 : Int32) (g : GS) (r : Int32) (gq : GS) (kb0 : ((9, 11, b0) : Ky) ∈ keys) (h : F_X8_isOtherUp N b0 x1 g = some (r, gq)) : CtI l D ad cy yX8_isOtherUp cX8_isOtherUp 4 (some .boolean) 2 [.ref (ad (9, 11, b0)), .int x1] g r gq := by
  refine CtI.of 2 hI (by decide +kernel) rfl (Nat.le_of_ble_eq_true rfl) (fun p e s m args below meth c X => ?_)
  unfold F_X8_isOtherUp at h
  show Vy _ _ _ _ _ _ _ _ _ _ _ _ _ _ _ 0 [some (.ref (ad (9, 11, b0))), some (.int x1), none, none] [] g
  refine v_iconst (v := 0) X dX8_isOtherUp_0 (by decide) ?_
  refine v_istoren (lc' := [some (.ref (ad (9, 11, b0))), some (.int x1), some (.int (0 : Int32)), none]) X dX8_isOtherUp_1 rfl (by decide) rfl rfl ?_
  refine v_iconst (v := 0) X dX8_isOtherUp_2 (by decide) ?_
  refine v_istoren (lc' := [some (.ref (ad (9, 11, b0))), some (.int x1), some (.int (0 : Int32)), some (.int (0 : Int32))]) X dX8_isOtherUp_3 rfl (by decide) rfl rfl ?_
  obtain ⟨xv14, xv15, gv16, qv17, h⟩ := bd3_some h
  refine w_X8_isOtherUp_4 X b0 x1 (by assumption) N (0 : Int32) (0 : Int32) g xv14 xv15 gv16 qv17 ?_
  refine v_iloadn X dX8_isOtherUp_50 rfl rfl ?_
  by_cases cv18 : xv14 = 0 ∨ xv14 = 1
  · replace h := (if_pos cv18).symm.trans h
    obtain ⟨er, eg⟩ := Prod.mk.inj (Option.some.inj h)
    exact v_zret X dX8_isOtherUp_51 (nb cv18) er eg
  · replace h := (if_neg cv18).symm.trans h
    cases h
def F_X8_riseOf (N : Nat) (b0 : Nat) (x1 : Int32) (x2 : Int32) (g : GS) : Option (Int32 × GS) := bd2 (F_X8_of N b0 x1 (1 : Int32) g) (fun rv3 gv2 => bd2 (F_X8_of N b0 x1 (4 : Int32) gv2) (fun rv6 gv5 => bd2 (F_X8_of N b0 x1 (0 : Int32) gv5) (fun rv9 gv8 => if rv9 = 1 then bd2 (F_X8_of N b0 x1 (0 : Int32) gv8) (fun rv13 gv12 => if rv13 = (5 : Int32) then if rv6 < (30 : Int32) then bd2 (F_X8_of N b0 x1 (2 : Int32) gv12) (fun rv21 gv20 => some (((rv3 * x2) - rv21), gv20)) else if (30 : Int32) ≤ (rv3 * x2) then bd2 (F_X8_of N b0 x1 (2 : Int32) gv12) (fun rv25 gv24 => some (((rv3 * x2) - rv25), gv24)) else bd2 (F_X8_of N b0 x1 (2 : Int32) gv12) (fun rv28 gv27 => some (((30 : Int32) - rv28), gv27)) else bd2 (F_X8_of N b0 x1 (2 : Int32) gv12) (fun rv17 gv16 => some (((rv3 * x2) - rv17), gv16))) else if rv9 = 2 then if rv6 < (20 : Int32) then bd2 (F_X8_of N b0 x1 (0 : Int32) gv8) (fun rv33 gv32 => if rv33 = (5 : Int32) then if rv6 < (30 : Int32) then bd2 (F_X8_of N b0 x1 (2 : Int32) gv32) (fun rv41 gv40 => some ((((rv3 * x2) / (2 : Int32)) - rv41), gv40)) else if (30 : Int32) ≤ ((rv3 * x2) / (2 : Int32)) then bd2 (F_X8_of N b0 x1 (2 : Int32) gv32) (fun rv45 gv44 => some ((((rv3 * x2) / (2 : Int32)) - rv45), gv44)) else bd2 (F_X8_of N b0 x1 (2 : Int32) gv32) (fun rv48 gv47 => some (((30 : Int32) - rv48), gv47)) else bd2 (F_X8_of N b0 x1 (2 : Int32) gv32) (fun rv37 gv36 => some ((((rv3 * x2) / (2 : Int32)) - rv37), gv36))) else bd2 (F_X8_of N b0 x1 (0 : Int32) gv8) (fun rv51 gv50 => if rv51 = (5 : Int32) then if rv6 < (30 : Int32) then bd2 (F_X8_of N b0 x1 (2 : Int32) gv50) (fun rv59 gv58 => some (((rv3 * x2) - rv59), gv58)) else if (30 : Int32) ≤ (rv3 * x2) then bd2 (F_X8_of N b0 x1 (2 : Int32) gv50) (fun rv63 gv62 => some (((rv3 * x2) - rv63), gv62)) else bd2 (F_X8_of N b0 x1 (2 : Int32) gv50) (fun rv66 gv65 => some (((30 : Int32) - rv66), gv65)) else bd2 (F_X8_of N b0 x1 (2 : Int32) gv50) (fun rv55 gv54 => some (((rv3 * x2) - rv55), gv54))) else if rv9 = 3 then bd2 (F_X8_isOtherUp N b0 x1 gv8) (fun rv70 gv69 => if rv70 = 0 then bd2 (F_X8_of N b0 x1 (0 : Int32) gv69) (fun rv74 gv73 => if rv74 = (5 : Int32) then if rv6 < (30 : Int32) then bd2 (F_X8_of N b0 x1 (2 : Int32) gv73) (fun rv82 gv81 => some (((rv3 * x2) - rv82), gv81)) else if (30 : Int32) ≤ (rv3 * x2) then bd2 (F_X8_of N b0 x1 (2 : Int32) gv73) (fun rv86 gv85 => some (((rv3 * x2) - rv86), gv85)) else bd2 (F_X8_of N b0 x1 (2 : Int32) gv73) (fun rv89 gv88 => some (((30 : Int32) - rv89), gv88)) else bd2 (F_X8_of N b0 x1 (2 : Int32) gv73) (fun rv78 gv77 => some (((rv3 * x2) - rv78), gv77))) else bd2 (F_X8_of N b0 x1 (0 : Int32) gv69) (fun rv92 gv91 => if rv92 = (5 : Int32) then if rv6 < (30 : Int32) then bd2 (F_X8_of N b0 x1 (2 : Int32) gv91) (fun rv100 gv99 => some ((((2 : Int32) * (rv3 * x2)) - rv100), gv99)) else if (30 : Int32) ≤ ((2 : Int32) * (rv3 * x2)) then bd2 (F_X8_of N b0 x1 (2 : Int32) gv91) (fun rv104 gv103 => some ((((2 : Int32) * (rv3 * x2)) - rv104), gv103)) else bd2 (F_X8_of N b0 x1 (2 : Int32) gv91) (fun rv107 gv106 => some (((30 : Int32) - rv107), gv106)) else bd2 (F_X8_of N b0 x1 (2 : Int32) gv91) (fun rv96 gv95 => some ((((2 : Int32) * (rv3 * x2)) - rv96), gv95)))) else bd2 (F_X8_of N b0 x1 (0 : Int32) gv8) (fun rv110 gv109 => if rv110 = (5 : Int32) then if rv6 < (30 : Int32) then bd2 (F_X8_of N b0 x1 (2 : Int32) gv109) (fun rv118 gv117 => some ((((4 : Int32) * x2) - rv118), gv117)) else if (30 : Int32) ≤ ((4 : Int32) * x2) then bd2 (F_X8_of N b0 x1 (2 : Int32) gv109) (fun rv122 gv121 => some ((((4 : Int32) * x2) - rv122), gv121)) else bd2 (F_X8_of N b0 x1 (2 : Int32) gv109) (fun rv125 gv124 => some (((30 : Int32) - rv125), gv124)) else bd2 (F_X8_of N b0 x1 (2 : Int32) gv109) (fun rv114 gv113 => some ((((4 : Int32) * x2) - rv114), gv113))))))
set_option maxRecDepth 100000 in
set_option maxHeartbeats 4000000 in
theorem c_X8_riseOf (l : Launch) (D : va_G) (ad : Ky → Nat) (cy : Nat → ClassId) (hI : Inj ad) (N : Nat) (b0 : Nat) (x1 : Int32) (x2 : Int32) (g : GS) (r : Int32) (gq : GS) (kb0 : ((9, 11, b0) : Ky) ∈ keys) (h : F_X8_riseOf N b0 x1 x2 g = some (r, gq)) : CtI l D ad cy yX8_riseOf cX8_riseOf 6 (some .int) 3 [.ref (ad (9, 11, b0)), .int x1, .int x2] g r gq := by
  refine CtI.of 3 hI (by decide +kernel) rfl (Nat.le_of_ble_eq_true rfl) (fun p e s m args below meth c X => ?_)
  unfold F_X8_riseOf at h
  show Vy _ _ _ _ _ _ _ _ _ _ _ _ _ _ _ 0 [some (.ref (ad (9, 11, b0))), some (.int x1), some (.int x2), none, none, none] [] g
  refine v_aloadn X dX8_riseOf_0 rfl rfl ?_
  refine v_iloadn X dX8_riseOf_1 rfl rfl ?_
  refine v_iconst (v := 1) X dX8_riseOf_2 (by decide) ?_
  obtain ⟨rv3, gv2, qv1, h⟩ := bd2_some h
  refine v_callSI (As := [.ref (ad (9, 11, b0)), .int x1, .int (1 : Int32)]) (rest := []) X (c_X8_of l D ad cy X.2.2.2.2.2.2.2.2.1 N b0 x1 (1 : Int32) g rv3 gv2 (by assumption) qv1) mw_X8_of ml_X8_155 (by decide) rfl rfl (Nat.le_of_ble_eq_true rfl) dX8_riseOf_3 ?_
  refine v_iloadn X dX8_riseOf_6 rfl rfl ?_
  refine v_imul X dX8_riseOf_7 ?_
  refine v_istoren (lc' := [some (.ref (ad (9, 11, b0))), some (.int x1), some (.int x2), some (.int (rv3 * x2)), none, none]) X dX8_riseOf_8 rfl (by decide) rfl rfl ?_
  refine v_aloadn X dX8_riseOf_9 rfl rfl ?_
  refine v_iloadn X dX8_riseOf_10 rfl rfl ?_
  refine v_iconst (v := 4) X dX8_riseOf_11 (by decide) ?_
  obtain ⟨rv6, gv5, qv4, h⟩ := bd2_some h
  refine v_callSI (As := [.ref (ad (9, 11, b0)), .int x1, .int (4 : Int32)]) (rest := []) X (c_X8_of l D ad cy X.2.2.2.2.2.2.2.2.1 N b0 x1 (4 : Int32) gv2 rv6 gv5 (by assumption) qv4) mw_X8_of ml_X8_155 (by decide) rfl rfl (Nat.le_of_ble_eq_true rfl) dX8_riseOf_12 ?_
  refine v_istore (lc' := [some (.ref (ad (9, 11, b0))), some (.int x1), some (.int x2), some (.int (rv3 * x2)), some (.int rv6), none]) X dX8_riseOf_15 (by decide) rfl rfl ?_
  refine v_iconst (v := 0) X dX8_riseOf_17 (by decide) ?_
  refine v_istore (lc' := [some (.ref (ad (9, 11, b0))), some (.int x1), some (.int x2), some (.int (rv3 * x2)), some (.int rv6), some (.int (0 : Int32))]) X dX8_riseOf_18 (by decide) rfl rfl ?_
  refine v_aloadn X dX8_riseOf_20 rfl rfl ?_
  refine v_iloadn X dX8_riseOf_21 rfl rfl ?_
  refine v_iconst (v := 0) X dX8_riseOf_22 (by decide) ?_
  obtain ⟨rv9, gv8, qv7, h⟩ := bd2_some h
  refine v_callSI (As := [.ref (ad (9, 11, b0)), .int x1, .int (0 : Int32)]) (rest := []) X (c_X8_of l D ad cy X.2.2.2.2.2.2.2.2.1 N b0 x1 (0 : Int32) gv5 rv9 gv8 (by assumption) qv7) mw_X8_of ml_X8_155 (by decide) rfl rfl (Nat.le_of_ble_eq_true rfl) dX8_riseOf_23 ?_
  by_cases cv10 : rv9 = 1
  · replace h := (if_pos cv10).symm.trans h
    refine v_tableIn X 52 dX8_riseOf_26 (by rw [cv10]; decide) (by rw [cv10]; decide) (by rw [cv10]; rfl) (by decide) ?_
    refine v_iloadn X dX8_riseOf_52 rfl rfl ?_
    refine v_istore (lc' := [some (.ref (ad (9, 11, b0))), some (.int x1), some (.int x2), some (.int (rv3 * x2)), some (.int rv6), some (.int (rv3 * x2))]) X dX8_riseOf_53 (by decide) rfl rfl ?_
    refine v_goto X 102 dX8_riseOf_55 (by decide) ?_
    refine v_aloadn X dX8_riseOf_102 rfl rfl ?_
    refine v_iloadn X dX8_riseOf_103 rfl rfl ?_
    refine v_iconst (v := 0) X dX8_riseOf_104 (by decide) ?_
    obtain ⟨rv13, gv12, qv11, h⟩ := bd2_some h
    refine v_callSI (As := [.ref (ad (9, 11, b0)), .int x1, .int (0 : Int32)]) (rest := []) X (c_X8_of l D ad cy X.2.2.2.2.2.2.2.2.1 N b0 x1 (0 : Int32) gv8 rv13 gv12 (by assumption) qv11) mw_X8_of ml_X8_155 (by decide) rfl rfl (Nat.le_of_ble_eq_true rfl) dX8_riseOf_105 ?_
    refine v_iconst (v := 5) X dX8_riseOf_108 (by decide) ?_
    refine v_icmp_ne X 130 dX8_riseOf_109 (by decide) (fun cv14 => ?_) (fun cv14 => ?_)
    · replace h := (if_neg cv14).symm.trans h
      refine v_iload X dX8_riseOf_130 rfl ?_
      refine v_aloadn X dX8_riseOf_132 rfl rfl ?_
      refine v_iloadn X dX8_riseOf_133 rfl rfl ?_
      refine v_iconst (v := 2) X dX8_riseOf_134 (by decide) ?_
      obtain ⟨rv17, gv16, qv15, h⟩ := bd2_some h
      refine v_callSI (As := [.ref (ad (9, 11, b0)), .int x1, .int (2 : Int32)]) (rest := [.int (rv3 * x2)]) X (c_X8_of l D ad cy X.2.2.2.2.2.2.2.2.1 N b0 x1 (2 : Int32) gv12 rv17 gv16 (by assumption) qv15) mw_X8_of ml_X8_155 (by decide) rfl rfl (Nat.le_of_ble_eq_true rfl) dX8_riseOf_135 ?_
      refine v_isub X dX8_riseOf_138 ?_
      obtain ⟨er, eg⟩ := Prod.mk.inj (Option.some.inj h)
      exact v_iret X dX8_riseOf_139 er eg
    · replace h := (if_pos cv14).symm.trans h
      refine v_iload X dX8_riseOf_112 rfl ?_
      refine v_bipush (v := 30) X dX8_riseOf_114 (by decide) ?_
      refine v_icmp_lt X 130 dX8_riseOf_116 (by decide) (fun cv18 => ?_) (fun cv18 => ?_)
      · replace h := (if_pos cv18).symm.trans h
        refine v_iload X dX8_riseOf_130 rfl ?_
        refine v_aloadn X dX8_riseOf_132 rfl rfl ?_
        refine v_iloadn X dX8_riseOf_133 rfl rfl ?_
        refine v_iconst (v := 2) X dX8_riseOf_134 (by decide) ?_
        obtain ⟨rv21, gv20, qv19, h⟩ := bd2_some h
        refine v_callSI (As := [.ref (ad (9, 11, b0)), .int x1, .int (2 : Int32)]) (rest := [.int (rv3 * x2)]) X (c_X8_of l D ad cy X.2.2.2.2.2.2.2.2.1 N b0 x1 (2 : Int32) gv12 rv21 gv20 (by assumption) qv19) mw_X8_of ml_X8_155 (by decide) rfl rfl (Nat.le_of_ble_eq_true rfl) dX8_riseOf_135 ?_
        refine v_isub X dX8_riseOf_138 ?_
        obtain ⟨er, eg⟩ := Prod.mk.inj (Option.some.inj h)
        exact v_iret X dX8_riseOf_139 er eg
      · replace h := (if_neg cv18).symm.trans h
        refine v_iload X dX8_riseOf_119 rfl ?_
        refine v_bipush (v := 30) X dX8_riseOf_121 (by decide) ?_
        refine v_icmp_ge X 130 dX8_riseOf_123 (by decide) (fun cv22 => ?_) (fun cv22 => ?_)
        · replace h := (if_pos cv22).symm.trans h
          refine v_iload X dX8_riseOf_130 rfl ?_
          refine v_aloadn X dX8_riseOf_132 rfl rfl ?_
          refine v_iloadn X dX8_riseOf_133 rfl rfl ?_
          refine v_iconst (v := 2) X dX8_riseOf_134 (by decide) ?_
          obtain ⟨rv25, gv24, qv23, h⟩ := bd2_some h
          refine v_callSI (As := [.ref (ad (9, 11, b0)), .int x1, .int (2 : Int32)]) (rest := [.int (rv3 * x2)]) X (c_X8_of l D ad cy X.2.2.2.2.2.2.2.2.1 N b0 x1 (2 : Int32) gv12 rv25 gv24 (by assumption) qv23) mw_X8_of ml_X8_155 (by decide) rfl rfl (Nat.le_of_ble_eq_true rfl) dX8_riseOf_135 ?_
          refine v_isub X dX8_riseOf_138 ?_
          obtain ⟨er, eg⟩ := Prod.mk.inj (Option.some.inj h)
          exact v_iret X dX8_riseOf_139 er eg
        · replace h := (if_neg cv22).symm.trans h
          refine v_bipush (v := 30) X dX8_riseOf_126 (by decide) ?_
          refine v_istore (lc' := [some (.ref (ad (9, 11, b0))), some (.int x1), some (.int x2), some (.int (rv3 * x2)), some (.int rv6), some (.int (30 : Int32))]) X dX8_riseOf_128 (by decide) rfl rfl ?_
          refine v_iload X dX8_riseOf_130 rfl ?_
          refine v_aloadn X dX8_riseOf_132 rfl rfl ?_
          refine v_iloadn X dX8_riseOf_133 rfl rfl ?_
          refine v_iconst (v := 2) X dX8_riseOf_134 (by decide) ?_
          obtain ⟨rv28, gv27, qv26, h⟩ := bd2_some h
          refine v_callSI (As := [.ref (ad (9, 11, b0)), .int x1, .int (2 : Int32)]) (rest := [.int (30 : Int32)]) X (c_X8_of l D ad cy X.2.2.2.2.2.2.2.2.1 N b0 x1 (2 : Int32) gv12 rv28 gv27 (by assumption) qv26) mw_X8_of ml_X8_155 (by decide) rfl rfl (Nat.le_of_ble_eq_true rfl) dX8_riseOf_135 ?_
          refine v_isub X dX8_riseOf_138 ?_
          obtain ⟨er, eg⟩ := Prod.mk.inj (Option.some.inj h)
          exact v_iret X dX8_riseOf_139 er eg
  replace h := (if_neg cv10).symm.trans h
  by_cases cv29 : rv9 = 2
  · replace h := (if_pos cv29).symm.trans h
    refine v_tableIn X 58 dX8_riseOf_26 (by rw [cv29]; decide) (by rw [cv29]; decide) (by rw [cv29]; rfl) (by decide) ?_
    refine v_iload X dX8_riseOf_58 rfl ?_
    refine v_bipush (v := 20) X dX8_riseOf_60 (by decide) ?_
    refine v_icmp_lt X 69 dX8_riseOf_62 (by decide) (fun cv30 => ?_) (fun cv30 => ?_)
    · replace h := (if_pos cv30).symm.trans h
      refine v_iloadn X dX8_riseOf_69 rfl rfl ?_
      refine v_iconst (v := 2) X dX8_riseOf_70 (by decide) ?_
      refine v_idiv X dX8_riseOf_71 (by decide) ?_
      refine v_istore (lc' := [some (.ref (ad (9, 11, b0))), some (.int x1), some (.int x2), some (.int (rv3 * x2)), some (.int rv6), some (.int ((rv3 * x2) / (2 : Int32)))]) X dX8_riseOf_72 (by decide) rfl rfl ?_
      refine v_goto X 102 dX8_riseOf_74 (by decide) ?_
      refine v_aloadn X dX8_riseOf_102 rfl rfl ?_
      refine v_iloadn X dX8_riseOf_103 rfl rfl ?_
      refine v_iconst (v := 0) X dX8_riseOf_104 (by decide) ?_
      obtain ⟨rv33, gv32, qv31, h⟩ := bd2_some h
      refine v_callSI (As := [.ref (ad (9, 11, b0)), .int x1, .int (0 : Int32)]) (rest := []) X (c_X8_of l D ad cy X.2.2.2.2.2.2.2.2.1 N b0 x1 (0 : Int32) gv8 rv33 gv32 (by assumption) qv31) mw_X8_of ml_X8_155 (by decide) rfl rfl (Nat.le_of_ble_eq_true rfl) dX8_riseOf_105 ?_
      refine v_iconst (v := 5) X dX8_riseOf_108 (by decide) ?_
      refine v_icmp_ne X 130 dX8_riseOf_109 (by decide) (fun cv34 => ?_) (fun cv34 => ?_)
      · replace h := (if_neg cv34).symm.trans h
        refine v_iload X dX8_riseOf_130 rfl ?_
        refine v_aloadn X dX8_riseOf_132 rfl rfl ?_
        refine v_iloadn X dX8_riseOf_133 rfl rfl ?_
        refine v_iconst (v := 2) X dX8_riseOf_134 (by decide) ?_
        obtain ⟨rv37, gv36, qv35, h⟩ := bd2_some h
        refine v_callSI (As := [.ref (ad (9, 11, b0)), .int x1, .int (2 : Int32)]) (rest := [.int ((rv3 * x2) / (2 : Int32))]) X (c_X8_of l D ad cy X.2.2.2.2.2.2.2.2.1 N b0 x1 (2 : Int32) gv32 rv37 gv36 (by assumption) qv35) mw_X8_of ml_X8_155 (by decide) rfl rfl (Nat.le_of_ble_eq_true rfl) dX8_riseOf_135 ?_
        refine v_isub X dX8_riseOf_138 ?_
        obtain ⟨er, eg⟩ := Prod.mk.inj (Option.some.inj h)
        exact v_iret X dX8_riseOf_139 er eg
      · replace h := (if_pos cv34).symm.trans h
        refine v_iload X dX8_riseOf_112 rfl ?_
        refine v_bipush (v := 30) X dX8_riseOf_114 (by decide) ?_
        refine v_icmp_lt X 130 dX8_riseOf_116 (by decide) (fun cv38 => ?_) (fun cv38 => ?_)
        · replace h := (if_pos cv38).symm.trans h
          refine v_iload X dX8_riseOf_130 rfl ?_
          refine v_aloadn X dX8_riseOf_132 rfl rfl ?_
          refine v_iloadn X dX8_riseOf_133 rfl rfl ?_
          refine v_iconst (v := 2) X dX8_riseOf_134 (by decide) ?_
          obtain ⟨rv41, gv40, qv39, h⟩ := bd2_some h
          refine v_callSI (As := [.ref (ad (9, 11, b0)), .int x1, .int (2 : Int32)]) (rest := [.int ((rv3 * x2) / (2 : Int32))]) X (c_X8_of l D ad cy X.2.2.2.2.2.2.2.2.1 N b0 x1 (2 : Int32) gv32 rv41 gv40 (by assumption) qv39) mw_X8_of ml_X8_155 (by decide) rfl rfl (Nat.le_of_ble_eq_true rfl) dX8_riseOf_135 ?_
          refine v_isub X dX8_riseOf_138 ?_
          obtain ⟨er, eg⟩ := Prod.mk.inj (Option.some.inj h)
          exact v_iret X dX8_riseOf_139 er eg
        · replace h := (if_neg cv38).symm.trans h
          refine v_iload X dX8_riseOf_119 rfl ?_
          refine v_bipush (v := 30) X dX8_riseOf_121 (by decide) ?_
          refine v_icmp_ge X 130 dX8_riseOf_123 (by decide) (fun cv42 => ?_) (fun cv42 => ?_)
          · replace h := (if_pos cv42).symm.trans h
            refine v_iload X dX8_riseOf_130 rfl ?_
            refine v_aloadn X dX8_riseOf_132 rfl rfl ?_
            refine v_iloadn X dX8_riseOf_133 rfl rfl ?_
            refine v_iconst (v := 2) X dX8_riseOf_134 (by decide) ?_
            obtain ⟨rv45, gv44, qv43, h⟩ := bd2_some h
            refine v_callSI (As := [.ref (ad (9, 11, b0)), .int x1, .int (2 : Int32)]) (rest := [.int ((rv3 * x2) / (2 : Int32))]) X (c_X8_of l D ad cy X.2.2.2.2.2.2.2.2.1 N b0 x1 (2 : Int32) gv32 rv45 gv44 (by assumption) qv43) mw_X8_of ml_X8_155 (by decide) rfl rfl (Nat.le_of_ble_eq_true rfl) dX8_riseOf_135 ?_
            refine v_isub X dX8_riseOf_138 ?_
            obtain ⟨er, eg⟩ := Prod.mk.inj (Option.some.inj h)
            exact v_iret X dX8_riseOf_139 er eg
          · replace h := (if_neg cv42).symm.trans h
            refine v_bipush (v := 30) X dX8_riseOf_126 (by decide) ?_
            refine v_istore (lc' := [some (.ref (ad (9, 11, b0))), some (.int x1), some (.int x2), some (.int (rv3 * x2)), some (.int rv6), some (.int (30 : Int32))]) X dX8_riseOf_128 (by decide) rfl rfl ?_
            refine v_iload X dX8_riseOf_130 rfl ?_
            refine v_aloadn X dX8_riseOf_132 rfl rfl ?_
            refine v_iloadn X dX8_riseOf_133 rfl rfl ?_
            refine v_iconst (v := 2) X dX8_riseOf_134 (by decide) ?_
            obtain ⟨rv48, gv47, qv46, h⟩ := bd2_some h
            refine v_callSI (As := [.ref (ad (9, 11, b0)), .int x1, .int (2 : Int32)]) (rest := [.int (30 : Int32)]) X (c_X8_of l D ad cy X.2.2.2.2.2.2.2.2.1 N b0 x1 (2 : Int32) gv32 rv48 gv47 (by assumption) qv46) mw_X8_of ml_X8_155 (by decide) rfl rfl (Nat.le_of_ble_eq_true rfl) dX8_riseOf_135 ?_
            refine v_isub X dX8_riseOf_138 ?_
            obtain ⟨er, eg⟩ := Prod.mk.inj (Option.some.inj h)
            exact v_iret X dX8_riseOf_139 er eg
    · replace h := (if_neg cv30).symm.trans h
      refine v_iloadn X dX8_riseOf_65 rfl rfl ?_
      refine v_goto X 72 dX8_riseOf_66 (by decide) ?_
      refine v_istore (lc' := [some (.ref (ad (9, 11, b0))), some (.int x1), some (.int x2), some (.int (rv3 * x2)), some (.int rv6), some (.int (rv3 * x2))]) X dX8_riseOf_72 (by decide) rfl rfl ?_
      refine v_goto X 102 dX8_riseOf_74 (by decide) ?_
      refine v_aloadn X dX8_riseOf_102 rfl rfl ?_
      refine v_iloadn X dX8_riseOf_103 rfl rfl ?_
      refine v_iconst (v := 0) X dX8_riseOf_104 (by decide) ?_
      obtain ⟨rv51, gv50, qv49, h⟩ := bd2_some h
      refine v_callSI (As := [.ref (ad (9, 11, b0)), .int x1, .int (0 : Int32)]) (rest := []) X (c_X8_of l D ad cy X.2.2.2.2.2.2.2.2.1 N b0 x1 (0 : Int32) gv8 rv51 gv50 (by assumption) qv49) mw_X8_of ml_X8_155 (by decide) rfl rfl (Nat.le_of_ble_eq_true rfl) dX8_riseOf_105 ?_
      refine v_iconst (v := 5) X dX8_riseOf_108 (by decide) ?_
      refine v_icmp_ne X 130 dX8_riseOf_109 (by decide) (fun cv52 => ?_) (fun cv52 => ?_)
      · replace h := (if_neg cv52).symm.trans h
        refine v_iload X dX8_riseOf_130 rfl ?_
        refine v_aloadn X dX8_riseOf_132 rfl rfl ?_
        refine v_iloadn X dX8_riseOf_133 rfl rfl ?_
        refine v_iconst (v := 2) X dX8_riseOf_134 (by decide) ?_
        obtain ⟨rv55, gv54, qv53, h⟩ := bd2_some h
        refine v_callSI (As := [.ref (ad (9, 11, b0)), .int x1, .int (2 : Int32)]) (rest := [.int (rv3 * x2)]) X (c_X8_of l D ad cy X.2.2.2.2.2.2.2.2.1 N b0 x1 (2 : Int32) gv50 rv55 gv54 (by assumption) qv53) mw_X8_of ml_X8_155 (by decide) rfl rfl (Nat.le_of_ble_eq_true rfl) dX8_riseOf_135 ?_
        refine v_isub X dX8_riseOf_138 ?_
        obtain ⟨er, eg⟩ := Prod.mk.inj (Option.some.inj h)
        exact v_iret X dX8_riseOf_139 er eg
      · replace h := (if_pos cv52).symm.trans h
        refine v_iload X dX8_riseOf_112 rfl ?_
        refine v_bipush (v := 30) X dX8_riseOf_114 (by decide) ?_
        refine v_icmp_lt X 130 dX8_riseOf_116 (by decide) (fun cv56 => ?_) (fun cv56 => ?_)
        · replace h := (if_pos cv56).symm.trans h
          refine v_iload X dX8_riseOf_130 rfl ?_
          refine v_aloadn X dX8_riseOf_132 rfl rfl ?_
          refine v_iloadn X dX8_riseOf_133 rfl rfl ?_
          refine v_iconst (v := 2) X dX8_riseOf_134 (by decide) ?_
          obtain ⟨rv59, gv58, qv57, h⟩ := bd2_some h
          refine v_callSI (As := [.ref (ad (9, 11, b0)), .int x1, .int (2 : Int32)]) (rest := [.int (rv3 * x2)]) X (c_X8_of l D ad cy X.2.2.2.2.2.2.2.2.1 N b0 x1 (2 : Int32) gv50 rv59 gv58 (by assumption) qv57) mw_X8_of ml_X8_155 (by decide) rfl rfl (Nat.le_of_ble_eq_true rfl) dX8_riseOf_135 ?_
          refine v_isub X dX8_riseOf_138 ?_
          obtain ⟨er, eg⟩ := Prod.mk.inj (Option.some.inj h)
          exact v_iret X dX8_riseOf_139 er eg
        · replace h := (if_neg cv56).symm.trans h
          refine v_iload X dX8_riseOf_119 rfl ?_
          refine v_bipush (v := 30) X dX8_riseOf_121 (by decide) ?_
          refine v_icmp_ge X 130 dX8_riseOf_123 (by decide) (fun cv60 => ?_) (fun cv60 => ?_)
          · replace h := (if_pos cv60).symm.trans h
            refine v_iload X dX8_riseOf_130 rfl ?_
            refine v_aloadn X dX8_riseOf_132 rfl rfl ?_
            refine v_iloadn X dX8_riseOf_133 rfl rfl ?_
            refine v_iconst (v := 2) X dX8_riseOf_134 (by decide) ?_
            obtain ⟨rv63, gv62, qv61, h⟩ := bd2_some h
            refine v_callSI (As := [.ref (ad (9, 11, b0)), .int x1, .int (2 : Int32)]) (rest := [.int (rv3 * x2)]) X (c_X8_of l D ad cy X.2.2.2.2.2.2.2.2.1 N b0 x1 (2 : Int32) gv50 rv63 gv62 (by assumption) qv61) mw_X8_of ml_X8_155 (by decide) rfl rfl (Nat.le_of_ble_eq_true rfl) dX8_riseOf_135 ?_
            refine v_isub X dX8_riseOf_138 ?_
            obtain ⟨er, eg⟩ := Prod.mk.inj (Option.some.inj h)
            exact v_iret X dX8_riseOf_139 er eg
          · replace h := (if_neg cv60).symm.trans h
            refine v_bipush (v := 30) X dX8_riseOf_126 (by decide) ?_
            refine v_istore (lc' := [some (.ref (ad (9, 11, b0))), some (.int x1), some (.int x2), some (.int (rv3 * x2)), some (.int rv6), some (.int (30 : Int32))]) X dX8_riseOf_128 (by decide) rfl rfl ?_
            refine v_iload X dX8_riseOf_130 rfl ?_
            refine v_aloadn X dX8_riseOf_132 rfl rfl ?_
            refine v_iloadn X dX8_riseOf_133 rfl rfl ?_
            refine v_iconst (v := 2) X dX8_riseOf_134 (by decide) ?_
            obtain ⟨rv66, gv65, qv64, h⟩ := bd2_some h
            refine v_callSI (As := [.ref (ad (9, 11, b0)), .int x1, .int (2 : Int32)]) (rest := [.int (30 : Int32)]) X (c_X8_of l D ad cy X.2.2.2.2.2.2.2.2.1 N b0 x1 (2 : Int32) gv50 rv66 gv65 (by assumption) qv64) mw_X8_of ml_X8_155 (by decide) rfl rfl (Nat.le_of_ble_eq_true rfl) dX8_riseOf_135 ?_
            refine v_isub X dX8_riseOf_138 ?_
            obtain ⟨er, eg⟩ := Prod.mk.inj (Option.some.inj h)
            exact v_iret X dX8_riseOf_139 er eg
  replace h := (if_neg cv29).symm.trans h
  by_cases cv67 : rv9 = 3
  · replace h := (if_pos cv67).symm.trans h
    refine v_tableIn X 77 dX8_riseOf_26 (by rw [cv67]; decide) (by rw [cv67]; decide) (by rw [cv67]; rfl) (by decide) ?_
    refine v_aloadn X dX8_riseOf_77 rfl rfl ?_
    refine v_iloadn X dX8_riseOf_78 rfl rfl ?_
    obtain ⟨rv70, gv69, qv68, h⟩ := bd2_some h
    refine v_callSI (As := [.ref (ad (9, 11, b0)), .int x1]) (rest := []) X (c_X8_isOtherUp l D ad cy X.2.2.2.2.2.2.2.2.1 N b0 x1 gv8 rv70 gv69 (by assumption) qv68) mw_X8_isOtherUp ml_X8_163 (by decide) rfl rfl (Nat.le_of_ble_eq_true rfl) dX8_riseOf_79 ?_
    refine v_if_eq X 91 dX8_riseOf_82 (by decide) (fun cv71 => ?_) (fun cv71 => ?_)
    · replace h := (if_pos cv71).symm.trans h
      refine v_iloadn X dX8_riseOf_91 rfl rfl ?_
      refine v_istore (lc' := [some (.ref (ad (9, 11, b0))), some (.int x1), some (.int x2), some (.int (rv3 * x2)), some (.int rv6), some (.int (rv3 * x2))]) X dX8_riseOf_92 (by decide) rfl rfl ?_
      refine v_goto X 102 dX8_riseOf_94 (by decide) ?_
      refine v_aloadn X dX8_riseOf_102 rfl rfl ?_
      refine v_iloadn X dX8_riseOf_103 rfl rfl ?_
      refine v_iconst (v := 0) X dX8_riseOf_104 (by decide) ?_
      obtain ⟨rv74, gv73, qv72, h⟩ := bd2_some h
      refine v_callSI (As := [.ref (ad (9, 11, b0)), .int x1, .int (0 : Int32)]) (rest := []) X (c_X8_of l D ad cy X.2.2.2.2.2.2.2.2.1 N b0 x1 (0 : Int32) gv69 rv74 gv73 (by assumption) qv72) mw_X8_of ml_X8_155 (by decide) rfl rfl (Nat.le_of_ble_eq_true rfl) dX8_riseOf_105 ?_
      refine v_iconst (v := 5) X dX8_riseOf_108 (by decide) ?_
      refine v_icmp_ne X 130 dX8_riseOf_109 (by decide) (fun cv75 => ?_) (fun cv75 => ?_)
      · replace h := (if_neg cv75).symm.trans h
        refine v_iload X dX8_riseOf_130 rfl ?_
        refine v_aloadn X dX8_riseOf_132 rfl rfl ?_
        refine v_iloadn X dX8_riseOf_133 rfl rfl ?_
        refine v_iconst (v := 2) X dX8_riseOf_134 (by decide) ?_
        obtain ⟨rv78, gv77, qv76, h⟩ := bd2_some h
        refine v_callSI (As := [.ref (ad (9, 11, b0)), .int x1, .int (2 : Int32)]) (rest := [.int (rv3 * x2)]) X (c_X8_of l D ad cy X.2.2.2.2.2.2.2.2.1 N b0 x1 (2 : Int32) gv73 rv78 gv77 (by assumption) qv76) mw_X8_of ml_X8_155 (by decide) rfl rfl (Nat.le_of_ble_eq_true rfl) dX8_riseOf_135 ?_
        refine v_isub X dX8_riseOf_138 ?_
        obtain ⟨er, eg⟩ := Prod.mk.inj (Option.some.inj h)
        exact v_iret X dX8_riseOf_139 er eg
      · replace h := (if_pos cv75).symm.trans h
        refine v_iload X dX8_riseOf_112 rfl ?_
        refine v_bipush (v := 30) X dX8_riseOf_114 (by decide) ?_
        refine v_icmp_lt X 130 dX8_riseOf_116 (by decide) (fun cv79 => ?_) (fun cv79 => ?_)
        · replace h := (if_pos cv79).symm.trans h
          refine v_iload X dX8_riseOf_130 rfl ?_
          refine v_aloadn X dX8_riseOf_132 rfl rfl ?_
          refine v_iloadn X dX8_riseOf_133 rfl rfl ?_
          refine v_iconst (v := 2) X dX8_riseOf_134 (by decide) ?_
          obtain ⟨rv82, gv81, qv80, h⟩ := bd2_some h
          refine v_callSI (As := [.ref (ad (9, 11, b0)), .int x1, .int (2 : Int32)]) (rest := [.int (rv3 * x2)]) X (c_X8_of l D ad cy X.2.2.2.2.2.2.2.2.1 N b0 x1 (2 : Int32) gv73 rv82 gv81 (by assumption) qv80) mw_X8_of ml_X8_155 (by decide) rfl rfl (Nat.le_of_ble_eq_true rfl) dX8_riseOf_135 ?_
          refine v_isub X dX8_riseOf_138 ?_
          obtain ⟨er, eg⟩ := Prod.mk.inj (Option.some.inj h)
          exact v_iret X dX8_riseOf_139 er eg
        · replace h := (if_neg cv79).symm.trans h
          refine v_iload X dX8_riseOf_119 rfl ?_
          refine v_bipush (v := 30) X dX8_riseOf_121 (by decide) ?_
          refine v_icmp_ge X 130 dX8_riseOf_123 (by decide) (fun cv83 => ?_) (fun cv83 => ?_)
          · replace h := (if_pos cv83).symm.trans h
            refine v_iload X dX8_riseOf_130 rfl ?_
            refine v_aloadn X dX8_riseOf_132 rfl rfl ?_
            refine v_iloadn X dX8_riseOf_133 rfl rfl ?_
            refine v_iconst (v := 2) X dX8_riseOf_134 (by decide) ?_
            obtain ⟨rv86, gv85, qv84, h⟩ := bd2_some h
            refine v_callSI (As := [.ref (ad (9, 11, b0)), .int x1, .int (2 : Int32)]) (rest := [.int (rv3 * x2)]) X (c_X8_of l D ad cy X.2.2.2.2.2.2.2.2.1 N b0 x1 (2 : Int32) gv73 rv86 gv85 (by assumption) qv84) mw_X8_of ml_X8_155 (by decide) rfl rfl (Nat.le_of_ble_eq_true rfl) dX8_riseOf_135 ?_
            refine v_isub X dX8_riseOf_138 ?_
            obtain ⟨er, eg⟩ := Prod.mk.inj (Option.some.inj h)
            exact v_iret X dX8_riseOf_139 er eg
          · replace h := (if_neg cv83).symm.trans h
            refine v_bipush (v := 30) X dX8_riseOf_126 (by decide) ?_
            refine v_istore (lc' := [some (.ref (ad (9, 11, b0))), some (.int x1), some (.int x2), some (.int (rv3 * x2)), some (.int rv6), some (.int (30 : Int32))]) X dX8_riseOf_128 (by decide) rfl rfl ?_
            refine v_iload X dX8_riseOf_130 rfl ?_
            refine v_aloadn X dX8_riseOf_132 rfl rfl ?_
            refine v_iloadn X dX8_riseOf_133 rfl rfl ?_
            refine v_iconst (v := 2) X dX8_riseOf_134 (by decide) ?_
            obtain ⟨rv89, gv88, qv87, h⟩ := bd2_some h
            refine v_callSI (As := [.ref (ad (9, 11, b0)), .int x1, .int (2 : Int32)]) (rest := [.int (30 : Int32)]) X (c_X8_of l D ad cy X.2.2.2.2.2.2.2.2.1 N b0 x1 (2 : Int32) gv73 rv89 gv88 (by assumption) qv87) mw_X8_of ml_X8_155 (by decide) rfl rfl (Nat.le_of_ble_eq_true rfl) dX8_riseOf_135 ?_
            refine v_isub X dX8_riseOf_138 ?_
            obtain ⟨er, eg⟩ := Prod.mk.inj (Option.some.inj h)
            exact v_iret X dX8_riseOf_139 er eg
    · replace h := (if_neg cv71).symm.trans h
      refine v_iconst (v := 2) X dX8_riseOf_85 (by decide) ?_
      refine v_iloadn X dX8_riseOf_86 rfl rfl ?_
      refine v_imul X dX8_riseOf_87 ?_
      refine v_goto X 92 dX8_riseOf_88 (by decide) ?_
      refine v_istore (lc' := [some (.ref (ad (9, 11, b0))), some (.int x1), some (.int x2), some (.int (rv3 * x2)), some (.int rv6), some (.int ((2 : Int32) * (rv3 * x2)))]) X dX8_riseOf_92 (by decide) rfl rfl ?_
      refine v_goto X 102 dX8_riseOf_94 (by decide) ?_
      refine v_aloadn X dX8_riseOf_102 rfl rfl ?_
      refine v_iloadn X dX8_riseOf_103 rfl rfl ?_
      refine v_iconst (v := 0) X dX8_riseOf_104 (by decide) ?_
      obtain ⟨rv92, gv91, qv90, h⟩ := bd2_some h
      refine v_callSI (As := [.ref (ad (9, 11, b0)), .int x1, .int (0 : Int32)]) (rest := []) X (c_X8_of l D ad cy X.2.2.2.2.2.2.2.2.1 N b0 x1 (0 : Int32) gv69 rv92 gv91 (by assumption) qv90) mw_X8_of ml_X8_155 (by decide) rfl rfl (Nat.le_of_ble_eq_true rfl) dX8_riseOf_105 ?_
      refine v_iconst (v := 5) X dX8_riseOf_108 (by decide) ?_
      refine v_icmp_ne X 130 dX8_riseOf_109 (by decide) (fun cv93 => ?_) (fun cv93 => ?_)
      · replace h := (if_neg cv93).symm.trans h
        refine v_iload X dX8_riseOf_130 rfl ?_
        refine v_aloadn X dX8_riseOf_132 rfl rfl ?_
        refine v_iloadn X dX8_riseOf_133 rfl rfl ?_
        refine v_iconst (v := 2) X dX8_riseOf_134 (by decide) ?_
        obtain ⟨rv96, gv95, qv94, h⟩ := bd2_some h
        refine v_callSI (As := [.ref (ad (9, 11, b0)), .int x1, .int (2 : Int32)]) (rest := [.int ((2 : Int32) * (rv3 * x2))]) X (c_X8_of l D ad cy X.2.2.2.2.2.2.2.2.1 N b0 x1 (2 : Int32) gv91 rv96 gv95 (by assumption) qv94) mw_X8_of ml_X8_155 (by decide) rfl rfl (Nat.le_of_ble_eq_true rfl) dX8_riseOf_135 ?_
        refine v_isub X dX8_riseOf_138 ?_
        obtain ⟨er, eg⟩ := Prod.mk.inj (Option.some.inj h)
        exact v_iret X dX8_riseOf_139 er eg
      · replace h := (if_pos cv93).symm.trans h
        refine v_iload X dX8_riseOf_112 rfl ?_
        refine v_bipush (v := 30) X dX8_riseOf_114 (by decide) ?_
        refine v_icmp_lt X 130 dX8_riseOf_116 (by decide) (fun cv97 => ?_) (fun cv97 => ?_)
        · replace h := (if_pos cv97).symm.trans h
          refine v_iload X dX8_riseOf_130 rfl ?_
          refine v_aloadn X dX8_riseOf_132 rfl rfl ?_
          refine v_iloadn X dX8_riseOf_133 rfl rfl ?_
          refine v_iconst (v := 2) X dX8_riseOf_134 (by decide) ?_
          obtain ⟨rv100, gv99, qv98, h⟩ := bd2_some h
          refine v_callSI (As := [.ref (ad (9, 11, b0)), .int x1, .int (2 : Int32)]) (rest := [.int ((2 : Int32) * (rv3 * x2))]) X (c_X8_of l D ad cy X.2.2.2.2.2.2.2.2.1 N b0 x1 (2 : Int32) gv91 rv100 gv99 (by assumption) qv98) mw_X8_of ml_X8_155 (by decide) rfl rfl (Nat.le_of_ble_eq_true rfl) dX8_riseOf_135 ?_
          refine v_isub X dX8_riseOf_138 ?_
          obtain ⟨er, eg⟩ := Prod.mk.inj (Option.some.inj h)
          exact v_iret X dX8_riseOf_139 er eg
        · replace h := (if_neg cv97).symm.trans h
          refine v_iload X dX8_riseOf_119 rfl ?_
          refine v_bipush (v := 30) X dX8_riseOf_121 (by decide) ?_
          refine v_icmp_ge X 130 dX8_riseOf_123 (by decide) (fun cv101 => ?_) (fun cv101 => ?_)
          · replace h := (if_pos cv101).symm.trans h
            refine v_iload X dX8_riseOf_130 rfl ?_
            refine v_aloadn X dX8_riseOf_132 rfl rfl ?_
            refine v_iloadn X dX8_riseOf_133 rfl rfl ?_
            refine v_iconst (v := 2) X dX8_riseOf_134 (by decide) ?_
            obtain ⟨rv104, gv103, qv102, h⟩ := bd2_some h
            refine v_callSI (As := [.ref (ad (9, 11, b0)), .int x1, .int (2 : Int32)]) (rest := [.int ((2 : Int32) * (rv3 * x2))]) X (c_X8_of l D ad cy X.2.2.2.2.2.2.2.2.1 N b0 x1 (2 : Int32) gv91 rv104 gv103 (by assumption) qv102) mw_X8_of ml_X8_155 (by decide) rfl rfl (Nat.le_of_ble_eq_true rfl) dX8_riseOf_135 ?_
            refine v_isub X dX8_riseOf_138 ?_
            obtain ⟨er, eg⟩ := Prod.mk.inj (Option.some.inj h)
            exact v_iret X dX8_riseOf_139 er eg
          · replace h := (if_neg cv101).symm.trans h
            refine v_bipush (v := 30) X dX8_riseOf_126 (by decide) ?_
            refine v_istore (lc' := [some (.ref (ad (9, 11, b0))), some (.int x1), some (.int x2), some (.int (rv3 * x2)), some (.int rv6), some (.int (30 : Int32))]) X dX8_riseOf_128 (by decide) rfl rfl ?_
            refine v_iload X dX8_riseOf_130 rfl ?_
            refine v_aloadn X dX8_riseOf_132 rfl rfl ?_
            refine v_iloadn X dX8_riseOf_133 rfl rfl ?_
            refine v_iconst (v := 2) X dX8_riseOf_134 (by decide) ?_
            obtain ⟨rv107, gv106, qv105, h⟩ := bd2_some h
            refine v_callSI (As := [.ref (ad (9, 11, b0)), .int x1, .int (2 : Int32)]) (rest := [.int (30 : Int32)]) X (c_X8_of l D ad cy X.2.2.2.2.2.2.2.2.1 N b0 x1 (2 : Int32) gv91 rv107 gv106 (by assumption) qv105) mw_X8_of ml_X8_155 (by decide) rfl rfl (Nat.le_of_ble_eq_true rfl) dX8_riseOf_135 ?_
            refine v_isub X dX8_riseOf_138 ?_
            obtain ⟨er, eg⟩ := Prod.mk.inj (Option.some.inj h)
            exact v_iret X dX8_riseOf_139 er eg
  replace h := (if_neg cv67).symm.trans h
  have tv126 := tab_ne (k := 1) (n := 1) cv10 (by decide)
  have tv127 := tab_ne (k := 2) (n := 2) cv29 (by decide)
  have tv128 := tab_ne (k := 3) (n := 3) cv67 (by decide)
  refine v_tableOut X 97 dX8_riseOf_26 (by omega) (by decide) ?_
  refine v_iconst (v := 4) X dX8_riseOf_97 (by decide) ?_
  refine v_iloadn X dX8_riseOf_98 rfl rfl ?_
  refine v_imul X dX8_riseOf_99 ?_
  refine v_istore (lc' := [some (.ref (ad (9, 11, b0))), some (.int x1), some (.int x2), some (.int (rv3 * x2)), some (.int rv6), some (.int ((4 : Int32) * x2))]) X dX8_riseOf_100 (by decide) rfl rfl ?_
  refine v_aloadn X dX8_riseOf_102 rfl rfl ?_
  refine v_iloadn X dX8_riseOf_103 rfl rfl ?_
  refine v_iconst (v := 0) X dX8_riseOf_104 (by decide) ?_
  obtain ⟨rv110, gv109, qv108, h⟩ := bd2_some h
  refine v_callSI (As := [.ref (ad (9, 11, b0)), .int x1, .int (0 : Int32)]) (rest := []) X (c_X8_of l D ad cy X.2.2.2.2.2.2.2.2.1 N b0 x1 (0 : Int32) gv8 rv110 gv109 (by assumption) qv108) mw_X8_of ml_X8_155 (by decide) rfl rfl (Nat.le_of_ble_eq_true rfl) dX8_riseOf_105 ?_
  refine v_iconst (v := 5) X dX8_riseOf_108 (by decide) ?_
  refine v_icmp_ne X 130 dX8_riseOf_109 (by decide) (fun cv111 => ?_) (fun cv111 => ?_)
  · replace h := (if_neg cv111).symm.trans h
    refine v_iload X dX8_riseOf_130 rfl ?_
    refine v_aloadn X dX8_riseOf_132 rfl rfl ?_
    refine v_iloadn X dX8_riseOf_133 rfl rfl ?_
    refine v_iconst (v := 2) X dX8_riseOf_134 (by decide) ?_
    obtain ⟨rv114, gv113, qv112, h⟩ := bd2_some h
    refine v_callSI (As := [.ref (ad (9, 11, b0)), .int x1, .int (2 : Int32)]) (rest := [.int ((4 : Int32) * x2)]) X (c_X8_of l D ad cy X.2.2.2.2.2.2.2.2.1 N b0 x1 (2 : Int32) gv109 rv114 gv113 (by assumption) qv112) mw_X8_of ml_X8_155 (by decide) rfl rfl (Nat.le_of_ble_eq_true rfl) dX8_riseOf_135 ?_
    refine v_isub X dX8_riseOf_138 ?_
    obtain ⟨er, eg⟩ := Prod.mk.inj (Option.some.inj h)
    exact v_iret X dX8_riseOf_139 er eg
  · replace h := (if_pos cv111).symm.trans h
    refine v_iload X dX8_riseOf_112 rfl ?_
    refine v_bipush (v := 30) X dX8_riseOf_114 (by decide) ?_
    refine v_icmp_lt X 130 dX8_riseOf_116 (by decide) (fun cv115 => ?_) (fun cv115 => ?_)
    · replace h := (if_pos cv115).symm.trans h
      refine v_iload X dX8_riseOf_130 rfl ?_
      refine v_aloadn X dX8_riseOf_132 rfl rfl ?_
      refine v_iloadn X dX8_riseOf_133 rfl rfl ?_
      refine v_iconst (v := 2) X dX8_riseOf_134 (by decide) ?_
      obtain ⟨rv118, gv117, qv116, h⟩ := bd2_some h
      refine v_callSI (As := [.ref (ad (9, 11, b0)), .int x1, .int (2 : Int32)]) (rest := [.int ((4 : Int32) * x2)]) X (c_X8_of l D ad cy X.2.2.2.2.2.2.2.2.1 N b0 x1 (2 : Int32) gv109 rv118 gv117 (by assumption) qv116) mw_X8_of ml_X8_155 (by decide) rfl rfl (Nat.le_of_ble_eq_true rfl) dX8_riseOf_135 ?_
      refine v_isub X dX8_riseOf_138 ?_
      obtain ⟨er, eg⟩ := Prod.mk.inj (Option.some.inj h)
      exact v_iret X dX8_riseOf_139 er eg
    · replace h := (if_neg cv115).symm.trans h
      refine v_iload X dX8_riseOf_119 rfl ?_
      refine v_bipush (v := 30) X dX8_riseOf_121 (by decide) ?_
      refine v_icmp_ge X 130 dX8_riseOf_123 (by decide) (fun cv119 => ?_) (fun cv119 => ?_)
      · replace h := (if_pos cv119).symm.trans h
        refine v_iload X dX8_riseOf_130 rfl ?_
        refine v_aloadn X dX8_riseOf_132 rfl rfl ?_
        refine v_iloadn X dX8_riseOf_133 rfl rfl ?_
        refine v_iconst (v := 2) X dX8_riseOf_134 (by decide) ?_
        obtain ⟨rv122, gv121, qv120, h⟩ := bd2_some h
        refine v_callSI (As := [.ref (ad (9, 11, b0)), .int x1, .int (2 : Int32)]) (rest := [.int ((4 : Int32) * x2)]) X (c_X8_of l D ad cy X.2.2.2.2.2.2.2.2.1 N b0 x1 (2 : Int32) gv109 rv122 gv121 (by assumption) qv120) mw_X8_of ml_X8_155 (by decide) rfl rfl (Nat.le_of_ble_eq_true rfl) dX8_riseOf_135 ?_
        refine v_isub X dX8_riseOf_138 ?_
        obtain ⟨er, eg⟩ := Prod.mk.inj (Option.some.inj h)
        exact v_iret X dX8_riseOf_139 er eg
      · replace h := (if_neg cv119).symm.trans h
        refine v_bipush (v := 30) X dX8_riseOf_126 (by decide) ?_
        refine v_istore (lc' := [some (.ref (ad (9, 11, b0))), some (.int x1), some (.int x2), some (.int (rv3 * x2)), some (.int rv6), some (.int (30 : Int32))]) X dX8_riseOf_128 (by decide) rfl rfl ?_
        refine v_iload X dX8_riseOf_130 rfl ?_
        refine v_aloadn X dX8_riseOf_132 rfl rfl ?_
        refine v_iloadn X dX8_riseOf_133 rfl rfl ?_
        refine v_iconst (v := 2) X dX8_riseOf_134 (by decide) ?_
        obtain ⟨rv125, gv124, qv123, h⟩ := bd2_some h
        refine v_callSI (As := [.ref (ad (9, 11, b0)), .int x1, .int (2 : Int32)]) (rest := [.int (30 : Int32)]) X (c_X8_of l D ad cy X.2.2.2.2.2.2.2.2.1 N b0 x1 (2 : Int32) gv109 rv125 gv124 (by assumption) qv123) mw_X8_of ml_X8_155 (by decide) rfl rfl (Nat.le_of_ble_eq_true rfl) dX8_riseOf_135 ?_
        refine v_isub X dX8_riseOf_138 ?_
        obtain ⟨er, eg⟩ := Prod.mk.inj (Option.some.inj h)
        exact v_iret X dX8_riseOf_139 er eg
def L_X8_hourBy_2 (N : Nat) (w1_1 : Nat) (z2 : Int32) : Nat → Int32 → GS → Option (Int32 × GS)
  | 0, _, _ => none
  | n + 1, y3, g => bd1 (ix (0 : Int32) (lenM w1_1)) (fun jv1 => if (g 11 w1_1 jv1) ≤ y3 then some (y3, g) else bd2 (F_X8_riseOf N w1_1 y3 z2 g) (fun rv6 gv5 => bd1 (ix y3 6) (fun jv7 => L_X8_hourBy_2 N w1_1 z2 n (y3 + 1) (g3 gv5 11 8 jv7 rv6))))
def L_X8_hourBy_29 (N : Nat) (w1_1 : Nat) (z2 : Int32) : Nat → Int32 → GS → Option (Int32 × GS)
  | 0, _, _ => none
  | n + 1, y3, g => bd1 (ix (0 : Int32) (lenM w1_1)) (fun jv12 => if (g 11 w1_1 jv12) ≤ y3 then some (y3, g) else bd2 (F_X8_isUp N w1_1 y3 g) (fun rv17 gv16 => if rv17 = 0 then L_X8_hourBy_29 N w1_1 z2 n (y3 + 1) gv16 else bd1 (ix y3 6) (fun jv19 => bd1 (F_X8_moves N w1_1 y3 (gv16 11 8 jv19) z2 gv16) (fun gv22 => L_X8_hourBy_29 N w1_1 z2 n (y3 + 1) gv22))))
def F_X8_hourBy (N : Nat) (b1 : Nat) (x2 : Int32) (g : GS) : Option GS := bd2 (L_X8_hourBy_2 N b1 x2 N (0 : Int32) g) (fun xv9 gv10 => bd2 (L_X8_hourBy_29 N b1 x2 N (0 : Int32) gv10) (fun xv23 gv24 => bd1 (ix (4 : Int32) (lenM b1)) (fun jv26 => some (g3 gv24 11 b1 jv26 ((gv24 11 b1 jv26) + (1 : Int32))))))
set_option maxRecDepth 100000 in
set_option maxHeartbeats 4000000 in
theorem w_X8_hourBy_2 {p : Program} {l : Launch} {e : Env} {s : State} {m : MethodId} {args : Array Value} {below : List Frame} {meth : Method} {c : Code} {D : va_G} {ad : Ky → Nat} {cy : Nat → ClassId} {gq : GS} {N : Nat} (X : Cx p (rmd 4) s m args meth c RX8 cX8_hourBy 4 none D ad cy) (w1_1 : Nat) (z2 : Int32) (hh0 : ((9, 11, w1_1) : Ky) ∈ keys) : ∀ (n : Nat) (y3 : Int32) (g : GS) (y3' : Int32) (g' : GS), L_X8_hourBy_2 N w1_1 z2 n y3 g = some (y3', g') → Vy p l e (rmd 4) s m args below meth c 4 D ad cy (QV D ad cy below args s gq) 27 [some (.ref (ad (8, 0, 0))), some (.ref (ad (9, 11, w1_1))), some (.int z2), some (.int y3')] [] g' → Vy p l e (rmd 4) s m args below meth c 4 D ad cy (QV D ad cy below args s gq) 2 [some (.ref (ad (8, 0, 0))), some (.ref (ad (9, 11, w1_1))), some (.int z2), some (.int y3)] [] g := by
  intro n
  induction n with
  | zero => intro y3 g y3' g' h k; cases h
  | succ n ih =>
    intro y3 g y3' g' h k
    rw [L_X8_hourBy_2] at h
    refine v_iloadn X dX8_hourBy_2 rfl rfl ?_
    refine v_aloadn X dX8_hourBy_3 rfl rfl ?_
    refine v_iconst (v := 0) X dX8_hourBy_4 (by decide) ?_
    obtain ⟨jv1, qv2, h⟩ := bd1_some h
    obtain ⟨ejv1, ljv1⟩ := ix_spec qv2
    refine alM X (by assumption) jv1 ejv1 ljv1 dX8_hourBy_5 ?_
    refine v_icmp_ge X 27 dX8_hourBy_6 (by decide) (fun cv3 => ?_) (fun cv3 => ?_)
    · replace h := (if_pos cv3).symm.trans h
      cases h
      exact k
    · replace h := (if_neg cv3).symm.trans h
      refine v_aloadn X dX8_hourBy_9 rfl rfl ?_
      refine gf_X8_28 X dX8_hourBy_10 ?_
      refine v_iloadn X dX8_hourBy_13 rfl rfl ?_
      refine v_aloadn X dX8_hourBy_14 rfl rfl ?_
      refine v_iloadn X dX8_hourBy_15 rfl rfl ?_
      refine v_iloadn X dX8_hourBy_16 rfl rfl ?_
      obtain ⟨rv6, gv5, qv4, h⟩ := bd2_some h
      refine v_callSI (As := [.ref (ad (9, 11, w1_1)), .int y3, .int z2]) (rest := [.int y3, .ref (ad (9, 11, 8))]) X (c_X8_riseOf l D ad cy X.2.2.2.2.2.2.2.2.1 N w1_1 y3 z2 g rv6 gv5 (by assumption) qv4) mw_X8_riseOf ml_X8_174 (by decide) rfl rfl (Nat.le_of_ble_eq_true rfl) dX8_hourBy_17 ?_
      obtain ⟨jv7, qv8, h⟩ := bd1_some h
      obtain ⟨ejv7, ljv7⟩ := ix_spec qv8
      refine asM X (by decide +kernel) jv7 ejv7 ljv7 dX8_hourBy_20 ?_
      refine v_iinc (v := (y3 + 1)) (lc' := [some (.ref (ad (8, 0, 0))), some (.ref (ad (9, 11, w1_1))), some (.int z2), some (.int (y3 + 1))]) X dX8_hourBy_21 rfl rfl (by decide) rfl rfl ?_
      refine v_goto X 2 dX8_hourBy_24 (by decide) ?_
      exact ih (y3 + 1) (g3 gv5 11 8 jv7 rv6) _ _ h k
set_option maxRecDepth 100000 in
set_option maxHeartbeats 4000000 in
theorem w_X8_hourBy_29 {p : Program} {l : Launch} {e : Env} {s : State} {m : MethodId} {args : Array Value} {below : List Frame} {meth : Method} {c : Code} {D : va_G} {ad : Ky → Nat} {cy : Nat → ClassId} {gq : GS} {N : Nat} (X : Cx p (rmd 4) s m args meth c RX8 cX8_hourBy 4 none D ad cy) (w1_1 : Nat) (z2 : Int32) (hh0 : ((9, 11, w1_1) : Ky) ∈ keys) : ∀ (n : Nat) (y3 : Int32) (g : GS) (y3' : Int32) (g' : GS), L_X8_hourBy_29 N w1_1 z2 n y3 g = some (y3', g') → Vy p l e (rmd 4) s m args below meth c 4 D ad cy (QV D ad cy below args s gq) 62 [some (.ref (ad (8, 0, 0))), some (.ref (ad (9, 11, w1_1))), some (.int z2), some (.int y3')] [] g' → Vy p l e (rmd 4) s m args below meth c 4 D ad cy (QV D ad cy below args s gq) 29 [some (.ref (ad (8, 0, 0))), some (.ref (ad (9, 11, w1_1))), some (.int z2), some (.int y3)] [] g := by
  intro n
  induction n with
  | zero => intro y3 g y3' g' h k; cases h
  | succ n ih =>
    intro y3 g y3' g' h k
    rw [L_X8_hourBy_29] at h
    refine v_iloadn X dX8_hourBy_29 rfl rfl ?_
    refine v_aloadn X dX8_hourBy_30 rfl rfl ?_
    refine v_iconst (v := 0) X dX8_hourBy_31 (by decide) ?_
    obtain ⟨jv12, qv13, h⟩ := bd1_some h
    obtain ⟨ejv12, ljv12⟩ := ix_spec qv13
    refine alM X (by assumption) jv12 ejv12 ljv12 dX8_hourBy_32 ?_
    refine v_icmp_ge X 62 dX8_hourBy_33 (by decide) (fun cv14 => ?_) (fun cv14 => ?_)
    · replace h := (if_pos cv14).symm.trans h
      cases h
      exact k
    · replace h := (if_neg cv14).symm.trans h
      refine v_aloadn X dX8_hourBy_36 rfl rfl ?_
      refine v_iloadn X dX8_hourBy_37 rfl rfl ?_
      obtain ⟨rv17, gv16, qv15, h⟩ := bd2_some h
      refine v_callSI (As := [.ref (ad (9, 11, w1_1)), .int y3]) (rest := []) X (c_X8_isUp l D ad cy X.2.2.2.2.2.2.2.2.1 N w1_1 y3 g rv17 gv16 (by assumption) qv15) mw_X8_isUp ml_X8_159 (by decide) rfl rfl (Nat.le_of_ble_eq_true rfl) dX8_hourBy_38 ?_
      refine v_if_eq X 56 dX8_hourBy_41 (by decide) (fun cv18 => ?_) (fun cv18 => ?_)
      · replace h := (if_pos cv18).symm.trans h
        refine v_iinc (v := (y3 + 1)) (lc' := [some (.ref (ad (8, 0, 0))), some (.ref (ad (9, 11, w1_1))), some (.int z2), some (.int (y3 + 1))]) X dX8_hourBy_56 rfl rfl (by decide) rfl rfl ?_
        refine v_goto X 29 dX8_hourBy_59 (by decide) ?_
        exact ih (y3 + 1) gv16 _ _ h k
      · replace h := (if_neg cv18).symm.trans h
        refine v_aloadn X dX8_hourBy_44 rfl rfl ?_
        refine v_iloadn X dX8_hourBy_45 rfl rfl ?_
        refine v_aloadn X dX8_hourBy_46 rfl rfl ?_
        refine gf_X8_28 X dX8_hourBy_47 ?_
        refine v_iloadn X dX8_hourBy_50 rfl rfl ?_
        obtain ⟨jv19, qv20, h⟩ := bd1_some h
        obtain ⟨ejv19, ljv19⟩ := ix_spec qv20
        refine alM X (by decide +kernel) jv19 ejv19 ljv19 dX8_hourBy_51 ?_
        refine v_iloadn X dX8_hourBy_52 rfl rfl ?_
        obtain ⟨gv22, qv21, h⟩ := bd1_some h
        refine v_callSV (As := [.ref (ad (9, 11, w1_1)), .int y3, .int (gv16 11 8 jv19), .int z2]) (rest := []) X (c_X8_moves l D ad cy X.2.2.2.2.2.2.2.2.1 N w1_1 y3 (gv16 11 8 jv19) z2 gv16 gv22 (by assumption) qv21) mw_X8_moves ml_X8_177 (by decide) rfl rfl (Nat.le_of_ble_eq_true rfl) dX8_hourBy_53 ?_
        refine v_iinc (v := (y3 + 1)) (lc' := [some (.ref (ad (8, 0, 0))), some (.ref (ad (9, 11, w1_1))), some (.int z2), some (.int (y3 + 1))]) X dX8_hourBy_56 rfl rfl (by decide) rfl rfl ?_
        refine v_goto X 29 dX8_hourBy_59 (by decide) ?_
        exact ih (y3 + 1) gv22 _ _ h k
set_option maxRecDepth 100000 in
set_option maxHeartbeats 4000000 in
theorem c_X8_hourBy (l : Launch) (D : va_G) (ad : Ky → Nat) (cy : Nat → ClassId) (hI : Inj ad) (N : Nat) (b1 : Nat) (x2 : Int32) (g : GS) (gq : GS) (kb1 : ((9, 11, b1) : Ky) ∈ keys) (h : F_X8_hourBy N b1 x2 g = some gq) : CtV l D ad cy yX8_hourBy cX8_hourBy 4 4 [.ref (ad (8, 0, 0)), .ref (ad (9, 11, b1)), .int x2] g gq := by
  refine CtV.of 1 hI (by decide +kernel) rfl (Nat.le_of_ble_eq_true rfl) (fun p e s m args below meth c X => ?_)
  unfold F_X8_hourBy at h
  show Vy _ _ _ _ _ _ _ _ _ _ _ _ _ _ _ 0 [some (.ref (ad (8, 0, 0))), some (.ref (ad (9, 11, b1))), some (.int x2), none] [] g
  refine v_iconst (v := 0) X dX8_hourBy_0 (by decide) ?_
  refine v_istoren (lc' := [some (.ref (ad (8, 0, 0))), some (.ref (ad (9, 11, b1))), some (.int x2), some (.int (0 : Int32))]) X dX8_hourBy_1 rfl (by decide) rfl rfl ?_
  obtain ⟨xv9, gv10, qv11, h⟩ := bd2_some h
  refine w_X8_hourBy_2 X b1 x2 (by assumption) N (0 : Int32) g xv9 gv10 qv11 ?_
  refine v_iconst (v := 0) X dX8_hourBy_27 (by decide) ?_
  refine v_istoren (lc' := [some (.ref (ad (8, 0, 0))), some (.ref (ad (9, 11, b1))), some (.int x2), some (.int (0 : Int32))]) X dX8_hourBy_28 rfl (by decide) rfl rfl ?_
  obtain ⟨xv23, gv24, qv25, h⟩ := bd2_some h
  refine w_X8_hourBy_29 X b1 x2 (by assumption) N (0 : Int32) gv10 xv23 gv24 qv25 ?_
  refine v_aloadn X dX8_hourBy_62 rfl rfl ?_
  refine v_iconst (v := 4) X dX8_hourBy_63 (by decide) ?_
  refine v_dup2 X dX8_hourBy_64 rfl rfl ?_
  obtain ⟨jv26, qv27, h⟩ := bd1_some h
  obtain ⟨ejv26, ljv26⟩ := ix_spec qv27
  refine alM X (by assumption) jv26 ejv26 ljv26 dX8_hourBy_65 ?_
  refine v_iconst (v := 1) X dX8_hourBy_66 (by decide) ?_
  refine v_iadd X dX8_hourBy_67 ?_
  refine asM X (by assumption) jv26 ejv26 ljv26 dX8_hourBy_68 ?_
  exact v_vret X dX8_hourBy_69 (Option.some.inj h)
def F_X8_hour (N : Nat) (b1 : Nat) (g : GS) : Option GS := bd1 (ix (4 : Int32) (lenM b1)) (fun jv1 => bd2 (F_X8_forceOf N b1 (g 11 b1 jv1) g) (fun rv5 gv4 => bd1 (F_X8_hourBy N b1 rv5 gv4) (fun gv7 => some gv7)))
set_option maxRecDepth 100000 in
set_option maxHeartbeats 4000000 in
theorem c_X8_hour (l : Launch) (D : va_G) (ad : Ky → Nat) (cy : Nat → ClassId) (hI : Inj ad) (N : Nat) (b1 : Nat) (g : GS) (gq : GS) (kb1 : ((9, 11, b1) : Ky) ∈ keys) (h : F_X8_hour N b1 g = some gq) : CtV l D ad cy yX8_hour cX8_hour 2 5 [.ref (ad (8, 0, 0)), .ref (ad (9, 11, b1))] g gq := by
  refine CtV.of 0 hI (by decide +kernel) rfl (Nat.le_of_ble_eq_true rfl) (fun p e s m args below meth c X => ?_)
  unfold F_X8_hour at h
  show Vy _ _ _ _ _ _ _ _ _ _ _ _ _ _ _ 0 [some (.ref (ad (8, 0, 0))), some (.ref (ad (9, 11, b1)))] [] g
  refine v_aloadn X dX8_hour_0 rfl rfl ?_
  refine v_aloadn X dX8_hour_1 rfl rfl ?_
  refine v_aloadn X dX8_hour_2 rfl rfl ?_
  refine v_aloadn X dX8_hour_3 rfl rfl ?_
  refine v_iconst (v := 4) X dX8_hour_4 (by decide) ?_
  obtain ⟨jv1, qv2, h⟩ := bd1_some h
  obtain ⟨ejv1, ljv1⟩ := ix_spec qv2
  refine alM X (by assumption) jv1 ejv1 ljv1 dX8_hour_5 ?_
  obtain ⟨rv5, gv4, qv3, h⟩ := bd2_some h
  refine v_callSI (As := [.ref (ad (9, 11, b1)), .int (g 11 b1 jv1)]) (rest := [.ref (ad (9, 11, b1)), .ref (ad (8, 0, 0))]) X (c_X8_forceOf l D ad cy X.2.2.2.2.2.2.2.2.1 N b1 (g 11 b1 jv1) g rv5 gv4 (by assumption) qv3) mw_X8_forceOf ml_X8_180 (by decide) rfl rfl (Nat.le_of_ble_eq_true rfl) dX8_hour_6 ?_
  obtain ⟨gv7, qv6, h⟩ := bd1_some h
  refine v_callVV (As := [.ref (ad (9, 11, b1)), .int rv5]) (rest := []) X (c_X8_hourBy l D ad cy X.2.2.2.2.2.2.2.2.1 N b1 rv5 gv4 gv7 (by assumption) qv6) mw_X8_hourBy ml_X8_184 (by decide) (by decide +kernel) (by decide) rfl rfl rfl rfl (Nat.le_of_ble_eq_true rfl) dX8_hour_9 ?_
  exact v_vret X dX8_hour_12 (Option.some.inj h)
def L_X8_hoursOf_2 (N : Nat) (w1_1 : Nat) (z2 : Int32) : Nat → Int32 → GS → Option (Int32 × GS)
  | 0, _, _ => none
  | n + 1, y3, g => if z2 ≤ y3 then some (y3, g) else bd1 (F_X8_hour N w1_1 g) (fun gv3 => L_X8_hoursOf_2 N w1_1 z2 n (y3 + 1) gv3)
def F_X8_hoursOf (N : Nat) (b1 : Nat) (x2 : Int32) (g : GS) : Option GS := bd2 (L_X8_hoursOf_2 N b1 x2 N (0 : Int32) g) (fun xv4 gv5 => some gv5)
set_option maxRecDepth 100000 in
set_option maxHeartbeats 4000000 in
theorem w_X8_hoursOf_2 {p : Program} {l : Launch} {e : Env} {s : State} {m : MethodId} {args : Array Value} {below : List Frame} {meth : Method} {c : Code} {D : va_G} {ad : Ky → Nat} {cy : Nat → ClassId} {gq : GS} {N : Nat} (X : Cx p (rmd 6) s m args meth c RX8 cX8_hoursOf 4 none D ad cy) (w1_1 : Nat) (z2 : Int32) (hh0 : ((9, 11, w1_1) : Ky) ∈ keys) : ∀ (n : Nat) (y3 : Int32) (g : GS) (y3' : Int32) (g' : GS), L_X8_hoursOf_2 N w1_1 z2 n y3 g = some (y3', g') → Vy p l e (rmd 6) s m args below meth c 4 D ad cy (QV D ad cy below args s gq) 18 [some (.ref (ad (8, 0, 0))), some (.ref (ad (9, 11, w1_1))), some (.int z2), some (.int y3')] [] g' → Vy p l e (rmd 6) s m args below meth c 4 D ad cy (QV D ad cy below args s gq) 2 [some (.ref (ad (8, 0, 0))), some (.ref (ad (9, 11, w1_1))), some (.int z2), some (.int y3)] [] g := by
  intro n
  induction n with
  | zero => intro y3 g y3' g' h k; cases h
  | succ n ih =>
    intro y3 g y3' g' h k
    rw [L_X8_hoursOf_2] at h
    refine v_iloadn X dX8_hoursOf_2 rfl rfl ?_
    refine v_iloadn X dX8_hoursOf_3 rfl rfl ?_
    refine v_icmp_ge X 18 dX8_hoursOf_4 (by decide) (fun cv1 => ?_) (fun cv1 => ?_)
    · replace h := (if_pos cv1).symm.trans h
      cases h
      exact k
    · replace h := (if_neg cv1).symm.trans h
      refine v_aloadn X dX8_hoursOf_7 rfl rfl ?_
      refine v_aloadn X dX8_hoursOf_8 rfl rfl ?_
      obtain ⟨gv3, qv2, h⟩ := bd1_some h
      refine v_callVV (As := [.ref (ad (9, 11, w1_1))]) (rest := []) X (c_X8_hour l D ad cy X.2.2.2.2.2.2.2.2.1 N w1_1 g gv3 (by assumption) qv2) mw_X8_hour ml_X8_188 (by decide) (by decide +kernel) (by decide) rfl rfl rfl rfl (Nat.le_of_ble_eq_true rfl) dX8_hoursOf_9 ?_
      refine v_iinc (v := (y3 + 1)) (lc' := [some (.ref (ad (8, 0, 0))), some (.ref (ad (9, 11, w1_1))), some (.int z2), some (.int (y3 + 1))]) X dX8_hoursOf_12 rfl rfl (by decide) rfl rfl ?_
      refine v_goto X 2 dX8_hoursOf_15 (by decide) ?_
      exact ih (y3 + 1) gv3 _ _ h k
set_option maxRecDepth 100000 in
set_option maxHeartbeats 4000000 in
theorem c_X8_hoursOf (l : Launch) (D : va_G) (ad : Ky → Nat) (cy : Nat → ClassId) (hI : Inj ad) (N : Nat) (b1 : Nat) (x2 : Int32) (g : GS) (gq : GS) (kb1 : ((9, 11, b1) : Ky) ∈ keys) (h : F_X8_hoursOf N b1 x2 g = some gq) : CtV l D ad cy yX8_hoursOf cX8_hoursOf 4 6 [.ref (ad (8, 0, 0)), .ref (ad (9, 11, b1)), .int x2] g gq := by
  refine CtV.of 1 hI (by decide +kernel) rfl (Nat.le_of_ble_eq_true rfl) (fun p e s m args below meth c X => ?_)
  unfold F_X8_hoursOf at h
  show Vy _ _ _ _ _ _ _ _ _ _ _ _ _ _ _ 0 [some (.ref (ad (8, 0, 0))), some (.ref (ad (9, 11, b1))), some (.int x2), none] [] g
  refine v_iconst (v := 0) X dX8_hoursOf_0 (by decide) ?_
  refine v_istoren (lc' := [some (.ref (ad (8, 0, 0))), some (.ref (ad (9, 11, b1))), some (.int x2), some (.int (0 : Int32))]) X dX8_hoursOf_1 rfl (by decide) rfl rfl ?_
  obtain ⟨xv4, gv5, qv6, h⟩ := bd2_some h
  refine w_X8_hoursOf_2 X b1 x2 (by assumption) N (0 : Int32) g xv4 gv5 qv6 ?_
  exact v_vret X dX8_hoursOf_18 (Option.some.inj h)
def F_X8_in (N : Nat) (x0 : Int64) (x2 : Int64) (x4 : Int64) (g : GS) : Option (Int32 × GS) := if (lg_cmp x0 x2) < 0 then some ((0 : Int32), g) else if 0 < (lg_cmp x0 x4) then some ((0 : Int32), g) else some ((1 : Int32), g)
set_option maxRecDepth 100000 in
set_option maxHeartbeats 4000000 in
theorem c_X8_in (l : Launch) (D : va_G) (ad : Ky → Nat) (cy : Nat → ClassId) (hI : Inj ad) (N : Nat) (x0 : Int64) (x2 : Int64) (x4 : Int64) (g : GS) (r : Int32) (gq : GS) (h : F_X8_in N x0 x2 x4 g = some (r, gq)) : CtI l D ad cy yX8_in cX8_in 6 (some .boolean) 0 [.long x0, .long x2, .long x4] g r gq := by
  refine CtI.of 0 hI (by decide +kernel) rfl (Nat.le_of_ble_eq_true rfl) (fun p e s m args below meth c X => ?_)
  unfold F_X8_in at h
  show Vy _ _ _ _ _ _ _ _ _ _ _ _ _ _ _ 0 [some (.long x0), none, some (.long x2), none, some (.long x4), none] [] g
  refine v_lloadn X dX8_in_0 rfl rfl ?_
  refine v_lloadn X dX8_in_1 rfl rfl ?_
  refine v_lcmp X dX8_in_2 ?_
  refine v_if_lt X 17 dX8_in_3 (by decide) (fun cv1 => ?_) (fun cv1 => ?_)
  · replace h := (if_pos cv1).symm.trans h
    refine v_iconst (v := 0) X dX8_in_17 (by decide) ?_
    obtain ⟨er, eg⟩ := Prod.mk.inj (Option.some.inj h)
    exact v_zret X dX8_in_18 rfl er eg
  · replace h := (if_neg cv1).symm.trans h
    refine v_lloadn X dX8_in_6 rfl rfl ?_
    refine v_lload X dX8_in_7 rfl ?_
    refine v_lcmp X dX8_in_9 ?_
    refine v_if_gt X 17 dX8_in_10 (by decide) (fun cv2 => ?_) (fun cv2 => ?_)
    · replace h := (if_pos cv2).symm.trans h
      refine v_iconst (v := 0) X dX8_in_17 (by decide) ?_
      obtain ⟨er, eg⟩ := Prod.mk.inj (Option.some.inj h)
      exact v_zret X dX8_in_18 rfl er eg
    · replace h := (if_neg cv2).symm.trans h
      refine v_iconst (v := 1) X dX8_in_13 (by decide) ?_
      refine v_goto X 18 dX8_in_14 (by decide) ?_
      obtain ⟨er, eg⟩ := Prod.mk.inj (Option.some.inj h)
      exact v_zret X dX8_in_18 rfl er eg
def F_X8_isPaper (N : Nat) (x1 : Int32) (g : GS) : Option (Int32 × GS) := bd1 (ix (0 : Int32) 53) (fun jv1 => bd2 (F_X8_in N (x1.toInt64) (0 : Int64) (((g 11 5 jv1) - (1 : Int32)).toInt64) g) (fun rv5 gv4 => if rv5 = 0 ∨ rv5 = 1 then some (rv5, gv4) else none))
set_option maxRecDepth 100000 in
set_option maxHeartbeats 4000000 in
theorem c_X8_isPaper (l : Launch) (D : va_G) (ad : Ky → Nat) (cy : Nat → ClassId) (hI : Inj ad) (N : Nat) (x1 : Int32) (g : GS) (r : Int32) (gq : GS) (h : F_X8_isPaper N x1 g = some (r, gq)) : CtI l D ad cy yX8_isPaper cX8_isPaper 2 (some .boolean) 1 [.ref (ad (8, 0, 0)), .int x1] g r gq := by
  refine CtI.of 0 hI (by decide +kernel) rfl (Nat.le_of_ble_eq_true rfl) (fun p e s m args below meth c X => ?_)
  unfold F_X8_isPaper at h
  show Vy _ _ _ _ _ _ _ _ _ _ _ _ _ _ _ 0 [some (.ref (ad (8, 0, 0))), some (.int x1)] [] g
  refine v_iloadn X dX8_isPaper_0 rfl rfl ?_
  refine v_i2l X dX8_isPaper_1 ?_
  refine v_lconst (v := 0) X dX8_isPaper_2 (by decide) ?_
  refine v_aloadn X dX8_isPaper_3 rfl rfl ?_
  refine gf_X8_19 X dX8_isPaper_4 ?_
  refine v_iconst (v := 0) X dX8_isPaper_7 (by decide) ?_
  obtain ⟨jv1, qv2, h⟩ := bd1_some h
  obtain ⟨ejv1, ljv1⟩ := ix_spec qv2
  refine alM X (by decide +kernel) jv1 ejv1 ljv1 dX8_isPaper_8 ?_
  refine v_iconst (v := 1) X dX8_isPaper_9 (by decide) ?_
  refine v_isub X dX8_isPaper_10 ?_
  refine v_i2l X dX8_isPaper_11 ?_
  obtain ⟨rv5, gv4, qv3, h⟩ := bd2_some h
  refine v_callSI (As := [.long (x1.toInt64), .long (0 : Int64), .long (((g 11 5 jv1) - (1 : Int32)).toInt64)]) (rest := []) X (c_X8_in l D ad cy X.2.2.2.2.2.2.2.2.1 N (x1.toInt64) (0 : Int64) (((g 11 5 jv1) - (1 : Int32)).toInt64) g rv5 gv4  qv3) mw_X8_in ml_X8_60 (by decide) rfl rfl (Nat.le_of_ble_eq_true rfl) dX8_isPaper_12 ?_
  by_cases cv6 : rv5 = 0 ∨ rv5 = 1
  · replace h := (if_pos cv6).symm.trans h
    obtain ⟨er, eg⟩ := Prod.mk.inj (Option.some.inj h)
    exact v_zret X dX8_isPaper_15 (nb cv6) er eg
  · replace h := (if_neg cv6).symm.trans h
    cases h
def L_X8_layThen_2 (N : Nat) : Nat → Int32 → GS → Option (Int32 × GS)
  | 0, _, _ => none
  | n + 1, y1, g => if (53 : Int32) ≤ y1 then some (y1, g) else bd1 (ix y1 53) (fun jv2 => L_X8_layThen_2 N n (y1 + 1) (g3 g 11 7 jv2 (g 11 5 jv2)))
def F_X8_layThen (N : Nat) (g : GS) : Option GS := bd2 (L_X8_layThen_2 N N (0 : Int32) g) (fun xv4 gv5 => some gv5)
set_option maxRecDepth 100000 in
set_option maxHeartbeats 4000000 in
theorem w_X8_layThen_2 {p : Program} {l : Launch} {e : Env} {s : State} {m : MethodId} {args : Array Value} {below : List Frame} {meth : Method} {c : Code} {D : va_G} {ad : Ky → Nat} {cy : Nat → ClassId} {gq : GS} {N : Nat} (X : Cx p (rmd 0) s m args meth c RX8 cX8_layThen 2 none D ad cy) : ∀ (n : Nat) (y1 : Int32) (g : GS) (y1' : Int32) (g' : GS), L_X8_layThen_2 N n y1 g = some (y1', g') → Vy p l e (rmd 0) s m args below meth c 2 D ad cy (QV D ad cy below args s gq) 26 [some (.ref (ad (8, 0, 0))), some (.int y1')] [] g' → Vy p l e (rmd 0) s m args below meth c 2 D ad cy (QV D ad cy below args s gq) 2 [some (.ref (ad (8, 0, 0))), some (.int y1)] [] g := by
  intro n
  induction n with
  | zero => intro y1 g y1' g' h k; cases h
  | succ n ih =>
    intro y1 g y1' g' h k
    rw [L_X8_layThen_2] at h
    refine v_iloadn X dX8_layThen_2 rfl rfl ?_
    refine v_bipush (v := 53) X dX8_layThen_3 (by decide) ?_
    refine v_icmp_ge X 26 dX8_layThen_5 (by decide) (fun cv1 => ?_) (fun cv1 => ?_)
    · replace h := (if_pos cv1).symm.trans h
      cases h
      exact k
    · replace h := (if_neg cv1).symm.trans h
      refine v_aloadn X dX8_layThen_8 rfl rfl ?_
      refine gf_X8_25 X dX8_layThen_9 ?_
      refine v_iloadn X dX8_layThen_12 rfl rfl ?_
      refine v_aloadn X dX8_layThen_13 rfl rfl ?_
      refine gf_X8_19 X dX8_layThen_14 ?_
      refine v_iloadn X dX8_layThen_17 rfl rfl ?_
      obtain ⟨jv2, qv3, h⟩ := bd1_some h
      obtain ⟨ejv2, ljv2⟩ := ix_spec qv3
      refine alM X (by decide +kernel) jv2 ejv2 ljv2 dX8_layThen_18 ?_
      refine asM X (by decide +kernel) jv2 ejv2 ljv2 dX8_layThen_19 ?_
      refine v_iinc (v := (y1 + 1)) (lc' := [some (.ref (ad (8, 0, 0))), some (.int (y1 + 1))]) X dX8_layThen_20 rfl rfl (by decide) rfl rfl ?_
      refine v_goto X 2 dX8_layThen_23 (by decide) ?_
      exact ih (y1 + 1) (g3 g 11 7 jv2 (g 11 5 jv2)) _ _ h k
set_option maxRecDepth 100000 in
set_option maxHeartbeats 4000000 in
theorem c_X8_layThen (l : Launch) (D : va_G) (ad : Ky → Nat) (cy : Nat → ClassId) (hI : Inj ad) (N : Nat) (g : GS) (gq : GS) (h : F_X8_layThen N  g = some gq) : CtV l D ad cy yX8_layThen cX8_layThen 2 0 [.ref (ad (8, 0, 0))] g gq := by
  refine CtV.of 1 hI (by decide +kernel) rfl (Nat.le_of_ble_eq_true rfl) (fun p e s m args below meth c X => ?_)
  unfold F_X8_layThen at h
  show Vy _ _ _ _ _ _ _ _ _ _ _ _ _ _ _ 0 [some (.ref (ad (8, 0, 0))), none] [] g
  refine v_iconst (v := 0) X dX8_layThen_0 (by decide) ?_
  refine v_istoren (lc' := [some (.ref (ad (8, 0, 0))), some (.int (0 : Int32))]) X dX8_layThen_1 rfl (by decide) rfl rfl ?_
  obtain ⟨xv4, gv5, qv6, h⟩ := bd2_some h
  refine w_X8_layThen_2 X  N (0 : Int32) g xv4 gv5 qv6 ?_
  exact v_vret X dX8_layThen_26 (Option.some.inj h)
def F_X8_ahead (N : Nat) (x1 : Int32) (x2 : Int32) (x3 : Int32) (g : GS) : Option (Int32 × GS) := bd2 (F_X8_isPaper N x1 (g3 g 10 0 0 (0 : Int32))) (fun rv3 gv2 => if rv3 = 0 then some ((-1000001 : Int32), gv2) else bd2 (F_X8_in N (x2.toInt64) (0 : Int64) (60 : Int64) gv2) (fun rv7 gv6 => if rv7 = 0 then some ((-1000001 : Int32), gv6) else bd2 (F_X8_in N (x3.toInt64) (0 : Int64) (2 : Int64) gv6) (fun rv11 gv10 => if rv11 = 0 then some ((-1000001 : Int32), gv10) else bd1 (F_X8_layThen N  gv10) (fun gv14 => bd1 (F_X8_hoursOf N 7 x2 gv14) (fun gv16 => if x3 = 0 then bd2 (F_X8_of N 7 x1 (4 : Int32) gv16) (fun rv27 gv26 => some (rv27, gv26)) else if x3 = (1 : Int32) then bd2 (F_X8_of N 7 x1 (5 : Int32) gv16) (fun rv24 gv23 => some (rv24, gv23)) else bd2 (F_X8_cellOf N 7 x1 gv16) (fun rv21 gv20 => some (rv21, gv20)))))))
set_option maxRecDepth 100000 in
set_option maxHeartbeats 4000000 in
theorem c_X8_ahead (l : Launch) (D : va_G) (ad : Ky → Nat) (cy : Nat → ClassId) (hI : Inj ad) (N : Nat) (x1 : Int32) (x2 : Int32) (x3 : Int32) (g : GS) (r : Int32) (gq : GS) (h : F_X8_ahead N x1 x2 x3 g = some (r, gq)) : CtI l D ad cy yX8_ahead cX8_ahead 4 (some .int) 7 [.ref (ad (8, 0, 0)), .int x1, .int x2, .int x3] g r gq := by
  refine CtI.of 0 hI (by decide +kernel) rfl (Nat.le_of_ble_eq_true rfl) (fun p e s m args below meth c X => ?_)
  unfold F_X8_ahead at h
  show Vy _ _ _ _ _ _ _ _ _ _ _ _ _ _ _ 0 [some (.ref (ad (8, 0, 0))), some (.int x1), some (.int x2), some (.int x3)] [] g
  refine v_aloadn X dX8_ahead_0 rfl rfl ?_
  refine v_iconst (v := 0) X dX8_ahead_1 (by decide) ?_
  refine pf_X8_50 X dX8_ahead_2 ?_
  refine v_aloadn X dX8_ahead_5 rfl rfl ?_
  refine v_iloadn X dX8_ahead_6 rfl rfl ?_
  obtain ⟨rv3, gv2, qv1, h⟩ := bd2_some h
  refine v_callVI (As := [.int x1]) (rest := []) X (c_X8_isPaper l D ad cy X.2.2.2.2.2.2.2.2.1 N x1 (g3 g 10 0 0 (0 : Int32)) rv3 gv2  qv1) mw_X8_isPaper ml_X8_208 (by decide) (by decide +kernel) (by decide) rfl rfl rfl rfl (Nat.le_of_ble_eq_true rfl) dX8_ahead_7 ?_
  refine v_if_eq X 37 dX8_ahead_10 (by decide) (fun cv4 => ?_) (fun cv4 => ?_)
  · replace h := (if_pos cv4).symm.trans h
    refine v_ldc X kc_X8_70 dX8_ahead_37 ?_
    obtain ⟨er, eg⟩ := Prod.mk.inj (Option.some.inj h)
    exact v_iret X dX8_ahead_39 er eg
  · replace h := (if_neg cv4).symm.trans h
    refine v_iloadn X dX8_ahead_13 rfl rfl ?_
    refine v_i2l X dX8_ahead_14 ?_
    refine v_lconst (v := 0) X dX8_ahead_15 (by decide) ?_
    refine v_ldc2 X kl_X8_225 dX8_ahead_16 ?_
    obtain ⟨rv7, gv6, qv5, h⟩ := bd2_some h
    refine v_callSI (As := [.long (x2.toInt64), .long (0 : Int64), .long (60 : Int64)]) (rest := []) X (c_X8_in l D ad cy X.2.2.2.2.2.2.2.2.1 N (x2.toInt64) (0 : Int64) (60 : Int64) gv2 rv7 gv6  qv5) mw_X8_in ml_X8_60 (by decide) rfl rfl (Nat.le_of_ble_eq_true rfl) dX8_ahead_19 ?_
    refine v_if_eq X 37 dX8_ahead_22 (by decide) (fun cv8 => ?_) (fun cv8 => ?_)
    · replace h := (if_pos cv8).symm.trans h
      refine v_ldc X kc_X8_70 dX8_ahead_37 ?_
      obtain ⟨er, eg⟩ := Prod.mk.inj (Option.some.inj h)
      exact v_iret X dX8_ahead_39 er eg
    · replace h := (if_neg cv8).symm.trans h
      refine v_iloadn X dX8_ahead_25 rfl rfl ?_
      refine v_i2l X dX8_ahead_26 ?_
      refine v_lconst (v := 0) X dX8_ahead_27 (by decide) ?_
      refine v_ldc2 X kl_X8_68 dX8_ahead_28 ?_
      obtain ⟨rv11, gv10, qv9, h⟩ := bd2_some h
      refine v_callSI (As := [.long (x3.toInt64), .long (0 : Int64), .long (2 : Int64)]) (rest := []) X (c_X8_in l D ad cy X.2.2.2.2.2.2.2.2.1 N (x3.toInt64) (0 : Int64) (2 : Int64) gv6 rv11 gv10  qv9) mw_X8_in ml_X8_60 (by decide) rfl rfl (Nat.le_of_ble_eq_true rfl) dX8_ahead_31 ?_
      refine v_if_ne X 40 dX8_ahead_34 (by decide) (fun cv12 => ?_) (fun cv12 => ?_)
      · replace h := (if_neg cv12).symm.trans h
        refine v_aloadn X dX8_ahead_40 rfl rfl ?_
        obtain ⟨gv14, qv13, h⟩ := bd1_some h
        refine v_callVV (As := []) (rest := []) X (c_X8_layThen l D ad cy X.2.2.2.2.2.2.2.2.1 N  gv10 gv14  qv13) mw_X8_layThen ml_X8_232 (by decide) (by decide +kernel) (by decide) rfl rfl rfl rfl (Nat.le_of_ble_eq_true rfl) dX8_ahead_41 ?_
        refine v_aloadn X dX8_ahead_44 rfl rfl ?_
        refine v_aloadn X dX8_ahead_45 rfl rfl ?_
        refine gf_X8_25 X dX8_ahead_46 ?_
        refine v_iloadn X dX8_ahead_49 rfl rfl ?_
        obtain ⟨gv16, qv15, h⟩ := bd1_some h
        refine v_callVV (As := [.ref (ad (9, 11, 7)), .int x2]) (rest := []) X (c_X8_hoursOf l D ad cy X.2.2.2.2.2.2.2.2.1 N 7 x2 gv14 gv16 (by decide +kernel) qv15) mw_X8_hoursOf ml_X8_235 (by decide) (by decide +kernel) (by decide) rfl rfl rfl rfl (Nat.le_of_ble_eq_true rfl) dX8_ahead_50 ?_
        refine v_iloadn X dX8_ahead_53 rfl rfl ?_
        refine v_if_ne X 69 dX8_ahead_54 (by decide) (fun cv17 => ?_) (fun cv17 => ?_)
        · replace h := (if_neg cv17).symm.trans h
          refine v_iloadn X dX8_ahead_69 rfl rfl ?_
          refine v_iconst (v := 1) X dX8_ahead_70 (by decide) ?_
          refine v_icmp_ne X 86 dX8_ahead_71 (by decide) (fun cv18 => ?_) (fun cv18 => ?_)
          · replace h := (if_neg cv18).symm.trans h
            refine v_aloadn X dX8_ahead_86 rfl rfl ?_
            refine gf_X8_25 X dX8_ahead_87 ?_
            refine v_iloadn X dX8_ahead_90 rfl rfl ?_
            obtain ⟨rv21, gv20, qv19, h⟩ := bd2_some h
            refine v_callSI (As := [.ref (ad (9, 11, 7)), .int x1]) (rest := []) X (c_X8_cellOf l D ad cy X.2.2.2.2.2.2.2.2.1 N 7 x1 gv16 rv21 gv20 (by decide +kernel) qv19) mw_X8_cellOf ml_X8_229 (by decide) rfl rfl (Nat.le_of_ble_eq_true rfl) dX8_ahead_91 ?_
            obtain ⟨er, eg⟩ := Prod.mk.inj (Option.some.inj h)
            exact v_iret X dX8_ahead_94 er eg
          · replace h := (if_pos cv18).symm.trans h
            refine v_aloadn X dX8_ahead_74 rfl rfl ?_
            refine gf_X8_25 X dX8_ahead_75 ?_
            refine v_iloadn X dX8_ahead_78 rfl rfl ?_
            refine v_iconst (v := 5) X dX8_ahead_79 (by decide) ?_
            obtain ⟨rv24, gv23, qv22, h⟩ := bd2_some h
            refine v_callSI (As := [.ref (ad (9, 11, 7)), .int x1, .int (5 : Int32)]) (rest := []) X (c_X8_of l D ad cy X.2.2.2.2.2.2.2.2.1 N 7 x1 (5 : Int32) gv16 rv24 gv23 (by decide +kernel) qv22) mw_X8_of ml_X8_155 (by decide) rfl rfl (Nat.le_of_ble_eq_true rfl) dX8_ahead_80 ?_
            refine v_goto X 94 dX8_ahead_83 (by decide) ?_
            obtain ⟨er, eg⟩ := Prod.mk.inj (Option.some.inj h)
            exact v_iret X dX8_ahead_94 er eg
        · replace h := (if_pos cv17).symm.trans h
          refine v_aloadn X dX8_ahead_57 rfl rfl ?_
          refine gf_X8_25 X dX8_ahead_58 ?_
          refine v_iloadn X dX8_ahead_61 rfl rfl ?_
          refine v_iconst (v := 4) X dX8_ahead_62 (by decide) ?_
          obtain ⟨rv27, gv26, qv25, h⟩ := bd2_some h
          refine v_callSI (As := [.ref (ad (9, 11, 7)), .int x1, .int (4 : Int32)]) (rest := []) X (c_X8_of l D ad cy X.2.2.2.2.2.2.2.2.1 N 7 x1 (4 : Int32) gv16 rv27 gv26 (by decide +kernel) qv25) mw_X8_of ml_X8_155 (by decide) rfl rfl (Nat.le_of_ble_eq_true rfl) dX8_ahead_63 ?_
          refine v_goto X 94 dX8_ahead_66 (by decide) ?_
          obtain ⟨er, eg⟩ := Prod.mk.inj (Option.some.inj h)
          exact v_iret X dX8_ahead_94 er eg
      · replace h := (if_pos cv12).symm.trans h
        refine v_ldc X kc_X8_70 dX8_ahead_37 ?_
        obtain ⟨er, eg⟩ := Prod.mk.inj (Option.some.inj h)
        exact v_iret X dX8_ahead_39 er eg
def F_X8_finding (N : Nat) (x1 : Int32) (g : GS) : Option (Int32 × GS) := some (((-1000010 : Int32) - x1), (g3 g 10 0 1 x1))
set_option maxRecDepth 100000 in
set_option maxHeartbeats 4000000 in
theorem c_X8_finding (l : Launch) (D : va_G) (ad : Ky → Nat) (cy : Nat → ClassId) (hI : Inj ad) (N : Nat) (x1 : Int32) (g : GS) (r : Int32) (gq : GS) (h : F_X8_finding N x1 g = some (r, gq)) : CtI l D ad cy yX8_finding cX8_finding 2 (some .int) 0 [.ref (ad (8, 0, 0)), .int x1] g r gq := by
  refine CtI.of 0 hI (by decide +kernel) rfl (Nat.le_of_ble_eq_true rfl) (fun p e s m args below meth c X => ?_)
  unfold F_X8_finding at h
  show Vy _ _ _ _ _ _ _ _ _ _ _ _ _ _ _ 0 [some (.ref (ad (8, 0, 0))), some (.int x1)] [] g
  refine v_aloadn X dX8_finding_0 rfl rfl ?_
  refine v_iloadn X dX8_finding_1 rfl rfl ?_
  refine pf_X8_54 X dX8_finding_2 ?_
  refine v_ldc X kc_X8_57 dX8_finding_5 ?_
  refine v_iloadn X dX8_finding_7 rfl rfl ?_
  refine v_isub X dX8_finding_8 ?_
  obtain ⟨er, eg⟩ := Prod.mk.inj (Option.some.inj h)
  exact v_iret X dX8_finding_9 er eg
def F_X8_isOf (N : Nat) (x0 : Int32) (x1 : Int32) (g : GS) : Option (Int32 × GS) := if x1 = 0 then some ((1 : Int32), g) else if x0 = x1 then some ((1 : Int32), g) else if x1 = (1 : Int32) then if x0 < (4 : Int32) then some ((1 : Int32), g) else if x1 = (4 : Int32) then if x0 = (5 : Int32) then some ((1 : Int32), g) else some ((0 : Int32), g) else some ((0 : Int32), g) else if x1 = (4 : Int32) then if x0 = (5 : Int32) then some ((1 : Int32), g) else some ((0 : Int32), g) else some ((0 : Int32), g)
set_option maxRecDepth 100000 in
set_option maxHeartbeats 4000000 in
theorem c_X8_isOf (l : Launch) (D : va_G) (ad : Ky → Nat) (cy : Nat → ClassId) (hI : Inj ad) (N : Nat) (x0 : Int32) (x1 : Int32) (g : GS) (r : Int32) (gq : GS) (h : F_X8_isOf N x0 x1 g = some (r, gq)) : CtI l D ad cy yX8_isOf cX8_isOf 2 (some .boolean) 0 [.int x0, .int x1] g r gq := by
  refine CtI.of 0 hI (by decide +kernel) rfl (Nat.le_of_ble_eq_true rfl) (fun p e s m args below meth c X => ?_)
  unfold F_X8_isOf at h
  show Vy _ _ _ _ _ _ _ _ _ _ _ _ _ _ _ 0 [some (.int x0), some (.int x1)] [] g
  refine v_iloadn X dX8_isOf_0 rfl rfl ?_
  refine v_if_eq X 29 dX8_isOf_1 (by decide) (fun cv1 => ?_) (fun cv1 => ?_)
  · replace h := (if_pos cv1).symm.trans h
    refine v_iconst (v := 1) X dX8_isOf_29 (by decide) ?_
    refine v_goto X 34 dX8_isOf_30 (by decide) ?_
    obtain ⟨er, eg⟩ := Prod.mk.inj (Option.some.inj h)
    exact v_zret X dX8_isOf_34 rfl er eg
  · replace h := (if_neg cv1).symm.trans h
    refine v_iloadn X dX8_isOf_4 rfl rfl ?_
    refine v_iloadn X dX8_isOf_5 rfl rfl ?_
    refine v_icmp_eq X 29 dX8_isOf_6 (by decide) (fun cv2 => ?_) (fun cv2 => ?_)
    · replace h := (if_pos cv2).symm.trans h
      refine v_iconst (v := 1) X dX8_isOf_29 (by decide) ?_
      refine v_goto X 34 dX8_isOf_30 (by decide) ?_
      obtain ⟨er, eg⟩ := Prod.mk.inj (Option.some.inj h)
      exact v_zret X dX8_isOf_34 rfl er eg
    · replace h := (if_neg cv2).symm.trans h
      refine v_iloadn X dX8_isOf_9 rfl rfl ?_
      refine v_iconst (v := 1) X dX8_isOf_10 (by decide) ?_
      refine v_icmp_ne X 19 dX8_isOf_11 (by decide) (fun cv3 => ?_) (fun cv3 => ?_)
      · replace h := (if_neg cv3).symm.trans h
        refine v_iloadn X dX8_isOf_19 rfl rfl ?_
        refine v_iconst (v := 4) X dX8_isOf_20 (by decide) ?_
        refine v_icmp_ne X 33 dX8_isOf_21 (by decide) (fun cv4 => ?_) (fun cv4 => ?_)
        · replace h := (if_neg cv4).symm.trans h
          refine v_iconst (v := 0) X dX8_isOf_33 (by decide) ?_
          obtain ⟨er, eg⟩ := Prod.mk.inj (Option.some.inj h)
          exact v_zret X dX8_isOf_34 rfl er eg
        · replace h := (if_pos cv4).symm.trans h
          refine v_iloadn X dX8_isOf_24 rfl rfl ?_
          refine v_iconst (v := 5) X dX8_isOf_25 (by decide) ?_
          refine v_icmp_ne X 33 dX8_isOf_26 (by decide) (fun cv5 => ?_) (fun cv5 => ?_)
          · replace h := (if_neg cv5).symm.trans h
            refine v_iconst (v := 0) X dX8_isOf_33 (by decide) ?_
            obtain ⟨er, eg⟩ := Prod.mk.inj (Option.some.inj h)
            exact v_zret X dX8_isOf_34 rfl er eg
          · replace h := (if_pos cv5).symm.trans h
            refine v_iconst (v := 1) X dX8_isOf_29 (by decide) ?_
            refine v_goto X 34 dX8_isOf_30 (by decide) ?_
            obtain ⟨er, eg⟩ := Prod.mk.inj (Option.some.inj h)
            exact v_zret X dX8_isOf_34 rfl er eg
      · replace h := (if_pos cv3).symm.trans h
        refine v_iloadn X dX8_isOf_14 rfl rfl ?_
        refine v_iconst (v := 4) X dX8_isOf_15 (by decide) ?_
        refine v_icmp_lt X 29 dX8_isOf_16 (by decide) (fun cv6 => ?_) (fun cv6 => ?_)
        · replace h := (if_pos cv6).symm.trans h
          refine v_iconst (v := 1) X dX8_isOf_29 (by decide) ?_
          refine v_goto X 34 dX8_isOf_30 (by decide) ?_
          obtain ⟨er, eg⟩ := Prod.mk.inj (Option.some.inj h)
          exact v_zret X dX8_isOf_34 rfl er eg
        · replace h := (if_neg cv6).symm.trans h
          refine v_iloadn X dX8_isOf_19 rfl rfl ?_
          refine v_iconst (v := 4) X dX8_isOf_20 (by decide) ?_
          refine v_icmp_ne X 33 dX8_isOf_21 (by decide) (fun cv7 => ?_) (fun cv7 => ?_)
          · replace h := (if_neg cv7).symm.trans h
            refine v_iconst (v := 0) X dX8_isOf_33 (by decide) ?_
            obtain ⟨er, eg⟩ := Prod.mk.inj (Option.some.inj h)
            exact v_zret X dX8_isOf_34 rfl er eg
          · replace h := (if_pos cv7).symm.trans h
            refine v_iloadn X dX8_isOf_24 rfl rfl ?_
            refine v_iconst (v := 5) X dX8_isOf_25 (by decide) ?_
            refine v_icmp_ne X 33 dX8_isOf_26 (by decide) (fun cv8 => ?_) (fun cv8 => ?_)
            · replace h := (if_neg cv8).symm.trans h
              refine v_iconst (v := 0) X dX8_isOf_33 (by decide) ?_
              obtain ⟨er, eg⟩ := Prod.mk.inj (Option.some.inj h)
              exact v_zret X dX8_isOf_34 rfl er eg
            · replace h := (if_pos cv8).symm.trans h
              refine v_iconst (v := 1) X dX8_isOf_29 (by decide) ?_
              refine v_goto X 34 dX8_isOf_30 (by decide) ?_
              obtain ⟨er, eg⟩ := Prod.mk.inj (Option.some.inj h)
              exact v_zret X dX8_isOf_34 rfl er eg
def F_X8_as (N : Nat) (x1 : Int32) (x2 : Int32) (g : GS) : Option (Int32 × GS) := bd2 (F_X8_isPaper N x1 (g3 g 10 0 0 (0 : Int32))) (fun rv3 gv2 => if rv3 = 0 then some ((-1000001 : Int32), gv2) else bd2 (F_X8_in N (x2.toInt64) (0 : Int64) (5 : Int64) gv2) (fun rv7 gv6 => if rv7 = 0 then some ((-1000001 : Int32), gv6) else bd2 (F_X8_of N 5 x1 (0 : Int32) (g3 gv6 10 0 1 (0 : Int32))) (fun rv11 gv10 => bd2 (F_X8_isOf N rv11 x2 gv10) (fun rv14 gv13 => if rv14 = 0 then bd2 (F_X8_finding N (3 : Int32) gv13) (fun rv18 gv17 => some (rv18, gv17)) else some (x1, gv13)))))
set_option maxRecDepth 100000 in
set_option maxHeartbeats 4000000 in
theorem c_X8_as (l : Launch) (D : va_G) (ad : Ky → Nat) (cy : Nat → ClassId) (hI : Inj ad) (N : Nat) (x1 : Int32) (x2 : Int32) (g : GS) (r : Int32) (gq : GS) (h : F_X8_as N x1 x2 g = some (r, gq)) : CtI l D ad cy yX8_as cX8_as 3 (some .int) 2 [.ref (ad (8, 0, 0)), .int x1, .int x2] g r gq := by
  refine CtI.of 0 hI (by decide +kernel) rfl (Nat.le_of_ble_eq_true rfl) (fun p e s m args below meth c X => ?_)
  unfold F_X8_as at h
  show Vy _ _ _ _ _ _ _ _ _ _ _ _ _ _ _ 0 [some (.ref (ad (8, 0, 0))), some (.int x1), some (.int x2)] [] g
  refine v_aloadn X dX8_as_0 rfl rfl ?_
  refine v_iconst (v := 0) X dX8_as_1 (by decide) ?_
  refine pf_X8_50 X dX8_as_2 ?_
  refine v_aloadn X dX8_as_5 rfl rfl ?_
  refine v_iloadn X dX8_as_6 rfl rfl ?_
  obtain ⟨rv3, gv2, qv1, h⟩ := bd2_some h
  refine v_callVI (As := [.int x1]) (rest := []) X (c_X8_isPaper l D ad cy X.2.2.2.2.2.2.2.2.1 N x1 (g3 g 10 0 0 (0 : Int32)) rv3 gv2  qv1) mw_X8_isPaper ml_X8_208 (by decide) (by decide +kernel) (by decide) rfl rfl rfl rfl (Nat.le_of_ble_eq_true rfl) dX8_as_7 ?_
  refine v_if_eq X 25 dX8_as_10 (by decide) (fun cv4 => ?_) (fun cv4 => ?_)
  · replace h := (if_pos cv4).symm.trans h
    refine v_ldc X kc_X8_70 dX8_as_25 ?_
    obtain ⟨er, eg⟩ := Prod.mk.inj (Option.some.inj h)
    exact v_iret X dX8_as_27 er eg
  · replace h := (if_neg cv4).symm.trans h
    refine v_iloadn X dX8_as_13 rfl rfl ?_
    refine v_i2l X dX8_as_14 ?_
    refine v_lconst (v := 0) X dX8_as_15 (by decide) ?_
    refine v_ldc2 X kl_X8_274 dX8_as_16 ?_
    obtain ⟨rv7, gv6, qv5, h⟩ := bd2_some h
    refine v_callSI (As := [.long (x2.toInt64), .long (0 : Int64), .long (5 : Int64)]) (rest := []) X (c_X8_in l D ad cy X.2.2.2.2.2.2.2.2.1 N (x2.toInt64) (0 : Int64) (5 : Int64) gv2 rv7 gv6  qv5) mw_X8_in ml_X8_60 (by decide) rfl rfl (Nat.le_of_ble_eq_true rfl) dX8_as_19 ?_
    refine v_if_ne X 28 dX8_as_22 (by decide) (fun cv8 => ?_) (fun cv8 => ?_)
    · replace h := (if_neg cv8).symm.trans h
      refine v_aloadn X dX8_as_28 rfl rfl ?_
      refine v_iconst (v := 0) X dX8_as_29 (by decide) ?_
      refine pf_X8_54 X dX8_as_30 ?_
      refine v_aloadn X dX8_as_33 rfl rfl ?_
      refine gf_X8_19 X dX8_as_34 ?_
      refine v_iloadn X dX8_as_37 rfl rfl ?_
      refine v_iconst (v := 0) X dX8_as_38 (by decide) ?_
      obtain ⟨rv11, gv10, qv9, h⟩ := bd2_some h
      refine v_callSI (As := [.ref (ad (9, 11, 5)), .int x1, .int (0 : Int32)]) (rest := []) X (c_X8_of l D ad cy X.2.2.2.2.2.2.2.2.1 N 5 x1 (0 : Int32) (g3 gv6 10 0 1 (0 : Int32)) rv11 gv10 (by decide +kernel) qv9) mw_X8_of ml_X8_155 (by decide) rfl rfl (Nat.le_of_ble_eq_true rfl) dX8_as_39 ?_
      refine v_iloadn X dX8_as_42 rfl rfl ?_
      obtain ⟨rv14, gv13, qv12, h⟩ := bd2_some h
      refine v_callSI (As := [.int rv11, .int x2]) (rest := []) X (c_X8_isOf l D ad cy X.2.2.2.2.2.2.2.2.1 N rv11 x2 gv10 rv14 gv13  qv12) mw_X8_isOf ml_X8_276 (by decide) rfl rfl (Nat.le_of_ble_eq_true rfl) dX8_as_43 ?_
      refine v_if_eq X 53 dX8_as_46 (by decide) (fun cv15 => ?_) (fun cv15 => ?_)
      · replace h := (if_pos cv15).symm.trans h
        refine v_aloadn X dX8_as_53 rfl rfl ?_
        refine v_iconst (v := 3) X dX8_as_54 (by decide) ?_
        obtain ⟨rv18, gv17, qv16, h⟩ := bd2_some h
        refine v_callVI (As := [.int (3 : Int32)]) (rest := []) X (c_X8_finding l D ad cy X.2.2.2.2.2.2.2.2.1 N (3 : Int32) gv13 rv18 gv17  qv16) mw_X8_finding ml_X8_71 (by decide) (by decide +kernel) (by decide) rfl rfl rfl rfl (Nat.le_of_ble_eq_true rfl) dX8_as_55 ?_
        obtain ⟨er, eg⟩ := Prod.mk.inj (Option.some.inj h)
        exact v_iret X dX8_as_58 er eg
      · replace h := (if_neg cv15).symm.trans h
        refine v_iloadn X dX8_as_49 rfl rfl ?_
        refine v_goto X 58 dX8_as_50 (by decide) ?_
        obtain ⟨er, eg⟩ := Prod.mk.inj (Option.some.inj h)
        exact v_iret X dX8_as_58 er eg
    · replace h := (if_pos cv8).symm.trans h
      refine v_ldc X kc_X8_70 dX8_as_25 ?_
      obtain ⟨er, eg⟩ := Prod.mk.inj (Option.some.inj h)
      exact v_iret X dX8_as_27 er eg
def F_X8_began (N : Nat) (x1 : Int32) (g : GS) : Option GS := if (16 : Int32) ≤ (g 10 0 24) then some g else bd1 (ix (g 10 0 24) 16) (fun jv2 => some (g3 (g3 g 11 23 jv2 x1) 10 0 24 ((g 10 0 24) + (1 : Int32))))
set_option maxRecDepth 100000 in
set_option maxHeartbeats 4000000 in
theorem c_X8_began (l : Launch) (D : va_G) (ad : Ky → Nat) (cy : Nat → ClassId) (hI : Inj ad) (N : Nat) (x1 : Int32) (g : GS) (gq : GS) (h : F_X8_began N x1 g = some gq) : CtV l D ad cy yX8_began cX8_began 2 0 [.ref (ad (8, 0, 0)), .int x1] g gq := by
  refine CtV.of 0 hI (by decide +kernel) rfl (Nat.le_of_ble_eq_true rfl) (fun p e s m args below meth c X => ?_)
  unfold F_X8_began at h
  show Vy _ _ _ _ _ _ _ _ _ _ _ _ _ _ _ 0 [some (.ref (ad (8, 0, 0))), some (.int x1)] [] g
  refine v_aloadn X dX8_began_0 rfl rfl ?_
  refine gf_X8_279 X dX8_began_1 ?_
  refine v_bipush (v := 16) X dX8_began_4 (by decide) ?_
  refine v_icmp_ge X 29 dX8_began_6 (by decide) (fun cv1 => ?_) (fun cv1 => ?_)
  · replace h := (if_pos cv1).symm.trans h
    exact v_vret X dX8_began_29 (Option.some.inj h)
  · replace h := (if_neg cv1).symm.trans h
    refine v_aloadn X dX8_began_9 rfl rfl ?_
    refine gf_X8_47 X dX8_began_10 ?_
    refine v_aloadn X dX8_began_13 rfl rfl ?_
    refine gf_X8_279 X dX8_began_14 ?_
    refine v_iloadn X dX8_began_17 rfl rfl ?_
    obtain ⟨jv2, qv3, h⟩ := bd1_some h
    obtain ⟨ejv2, ljv2⟩ := ix_spec qv3
    refine asM X (by decide +kernel) jv2 ejv2 ljv2 dX8_began_18 ?_
    refine v_aloadn X dX8_began_19 rfl rfl ?_
    refine v_dup X dX8_began_20 rfl ?_
    refine gf_X8_279 X dX8_began_21 ?_
    refine v_vali (v2 := (g 10 0 24)) rfl ?_
    refine v_iconst (v := 1) X dX8_began_24 (by decide) ?_
    refine v_iadd X dX8_began_25 ?_
    refine pf_X8_279 X dX8_began_26 ?_
    exact v_vret X dX8_began_29 (Option.some.inj h)
def F_X8_plainSize (N : Nat) (x1 : Int32) (g : GS) : Option (Int32 × GS) := bd1 (F_X8_began N (10 : Int32) g) (fun gv2 => bd2 (F_X8_of N 5 x1 (2 : Int32) gv2) (fun rv5 gv4 => some (rv5, gv4)))
set_option maxRecDepth 100000 in
set_option maxHeartbeats 4000000 in
theorem c_X8_plainSize (l : Launch) (D : va_G) (ad : Ky → Nat) (cy : Nat → ClassId) (hI : Inj ad) (N : Nat) (x1 : Int32) (g : GS) (r : Int32) (gq : GS) (h : F_X8_plainSize N x1 g = some (r, gq)) : CtI l D ad cy yX8_plainSize cX8_plainSize 2 (some .int) 1 [.ref (ad (8, 0, 0)), .int x1] g r gq := by
  refine CtI.of 0 hI (by decide +kernel) rfl (Nat.le_of_ble_eq_true rfl) (fun p e s m args below meth c X => ?_)
  unfold F_X8_plainSize at h
  show Vy _ _ _ _ _ _ _ _ _ _ _ _ _ _ _ 0 [some (.ref (ad (8, 0, 0))), some (.int x1)] [] g
  refine v_aloadn X dX8_plainSize_0 rfl rfl ?_
  refine v_bipush (v := 10) X dX8_plainSize_1 (by decide) ?_
  obtain ⟨gv2, qv1, h⟩ := bd1_some h
  refine v_callVV (As := [.int (10 : Int32)]) (rest := []) X (c_X8_began l D ad cy X.2.2.2.2.2.2.2.2.1 N (10 : Int32) g gv2  qv1) mw_X8_began ml_X8_282 (by decide) (by decide +kernel) (by decide) rfl rfl rfl rfl (Nat.le_of_ble_eq_true rfl) dX8_plainSize_3 ?_
  refine v_aloadn X dX8_plainSize_6 rfl rfl ?_
  refine gf_X8_19 X dX8_plainSize_7 ?_
  refine v_iloadn X dX8_plainSize_10 rfl rfl ?_
  refine v_iconst (v := 2) X dX8_plainSize_11 (by decide) ?_
  obtain ⟨rv5, gv4, qv3, h⟩ := bd2_some h
  refine v_callSI (As := [.ref (ad (9, 11, 5)), .int x1, .int (2 : Int32)]) (rest := []) X (c_X8_of l D ad cy X.2.2.2.2.2.2.2.2.1 N 5 x1 (2 : Int32) gv2 rv5 gv4 (by decide +kernel) qv3) mw_X8_of ml_X8_155 (by decide) rfl rfl (Nat.le_of_ble_eq_true rfl) dX8_plainSize_12 ?_
  obtain ⟨er, eg⟩ := Prod.mk.inj (Option.some.inj h)
  exact v_iret X dX8_plainSize_15 er eg
def F_X8_leafSize (N : Nat) (x1 : Int32) (g : GS) : Option (Int32 × GS) := bd2 (F_X8_of N 5 x1 (0 : Int32) g) (fun rv3 gv2 => if rv3 = (5 : Int32) then if (1 : Int32) = 0 then bd1 (F_X8_began N (13 : Int32) gv2) (fun gv22 => bd2 (F_X8_plainSize N x1 gv22) (fun rv25 gv24 => if (1 : Int32) = 0 then some ((rv25 - (100 : Int32)), gv24) else some (((2 : Int32) * (rv25 - (100 : Int32))), gv24))) else bd1 (F_X8_began N (14 : Int32) gv2) (fun gv28 => bd1 (F_X8_began N (13 : Int32) gv28) (fun gv30 => bd2 (F_X8_plainSize N x1 gv30) (fun rv33 gv32 => if (1 : Int32) = 0 then some ((rv33 - (100 : Int32)), gv32) else some (((2 : Int32) * (rv33 - (100 : Int32))), gv32)))) else if (0 : Int32) = 0 then bd1 (F_X8_began N (13 : Int32) gv2) (fun gv7 => bd2 (F_X8_plainSize N x1 gv7) (fun rv10 gv9 => if (0 : Int32) = 0 then some ((rv10 - (100 : Int32)), gv9) else some (((2 : Int32) * (rv10 - (100 : Int32))), gv9))) else bd1 (F_X8_began N (14 : Int32) gv2) (fun gv13 => bd1 (F_X8_began N (13 : Int32) gv13) (fun gv15 => bd2 (F_X8_plainSize N x1 gv15) (fun rv18 gv17 => if (0 : Int32) = 0 then some ((rv18 - (100 : Int32)), gv17) else some (((2 : Int32) * (rv18 - (100 : Int32))), gv17)))))
set_option maxRecDepth 100000 in
set_option maxHeartbeats 4000000 in
theorem c_X8_leafSize (l : Launch) (D : va_G) (ad : Ky → Nat) (cy : Nat → ClassId) (hI : Inj ad) (N : Nat) (x1 : Int32) (g : GS) (r : Int32) (gq : GS) (h : F_X8_leafSize N x1 g = some (r, gq)) : CtI l D ad cy yX8_leafSize cX8_leafSize 4 (some .int) 2 [.ref (ad (8, 0, 0)), .int x1] g r gq := by
  refine CtI.of 2 hI (by decide +kernel) rfl (Nat.le_of_ble_eq_true rfl) (fun p e s m args below meth c X => ?_)
  unfold F_X8_leafSize at h
  show Vy _ _ _ _ _ _ _ _ _ _ _ _ _ _ _ 0 [some (.ref (ad (8, 0, 0))), some (.int x1), none, none] [] g
  refine v_aloadn X dX8_leafSize_0 rfl rfl ?_
  refine gf_X8_19 X dX8_leafSize_1 ?_
  refine v_iloadn X dX8_leafSize_4 rfl rfl ?_
  refine v_iconst (v := 0) X dX8_leafSize_5 (by decide) ?_
  obtain ⟨rv3, gv2, qv1, h⟩ := bd2_some h
  refine v_callSI (As := [.ref (ad (9, 11, 5)), .int x1, .int (0 : Int32)]) (rest := []) X (c_X8_of l D ad cy X.2.2.2.2.2.2.2.2.1 N 5 x1 (0 : Int32) g rv3 gv2 (by decide +kernel) qv1) mw_X8_of ml_X8_155 (by decide) rfl rfl (Nat.le_of_ble_eq_true rfl) dX8_leafSize_6 ?_
  refine v_iconst (v := 5) X dX8_leafSize_9 (by decide) ?_
  refine v_icmp_ne X 17 dX8_leafSize_10 (by decide) (fun cv4 => ?_) (fun cv4 => ?_)
  · replace h := (if_neg cv4).symm.trans h
    refine v_iconst (v := 0) X dX8_leafSize_17 (by decide) ?_
    refine v_istoren (lc' := [some (.ref (ad (8, 0, 0))), some (.int x1), some (.int (0 : Int32)), none]) X dX8_leafSize_18 rfl (by decide) rfl rfl ?_
    refine v_iloadn X dX8_leafSize_19 rfl rfl ?_
    refine v_if_eq X 29 dX8_leafSize_20 (by decide) (fun cv5 => ?_) (fun cv5 => ?_)
    · replace h := (if_pos cv5).symm.trans h
      refine v_aloadn X dX8_leafSize_29 rfl rfl ?_
      refine v_bipush (v := 13) X dX8_leafSize_30 (by decide) ?_
      obtain ⟨gv7, qv6, h⟩ := bd1_some h
      refine v_callVV (As := [.int (13 : Int32)]) (rest := []) X (c_X8_began l D ad cy X.2.2.2.2.2.2.2.2.1 N (13 : Int32) gv2 gv7  qv6) mw_X8_began ml_X8_282 (by decide) (by decide +kernel) (by decide) rfl rfl rfl rfl (Nat.le_of_ble_eq_true rfl) dX8_leafSize_32 ?_
      refine v_aloadn X dX8_leafSize_35 rfl rfl ?_
      refine v_iloadn X dX8_leafSize_36 rfl rfl ?_
      obtain ⟨rv10, gv9, qv8, h⟩ := bd2_some h
      refine v_callVI (As := [.int x1]) (rest := []) X (c_X8_plainSize l D ad cy X.2.2.2.2.2.2.2.2.1 N x1 gv7 rv10 gv9  qv8) mw_X8_plainSize ml_X8_285 (by decide) (by decide +kernel) (by decide) rfl rfl rfl rfl (Nat.le_of_ble_eq_true rfl) dX8_leafSize_37 ?_
      refine v_bipush (v := 100) X dX8_leafSize_40 (by decide) ?_
      refine v_isub X dX8_leafSize_42 ?_
      refine v_istoren (lc' := [some (.ref (ad (8, 0, 0))), some (.int x1), some (.int (0 : Int32)), some (.int (rv10 - (100 : Int32)))]) X dX8_leafSize_43 rfl (by decide) rfl rfl ?_
      refine v_iloadn X dX8_leafSize_44 rfl rfl ?_
      refine v_if_eq X 54 dX8_leafSize_45 (by decide) (fun cv11 => ?_) (fun cv11 => ?_)
      · replace h := (if_pos cv11).symm.trans h
        refine v_iloadn X dX8_leafSize_54 rfl rfl ?_
        obtain ⟨er, eg⟩ := Prod.mk.inj (Option.some.inj h)
        exact v_iret X dX8_leafSize_55 er eg
      · replace h := (if_neg cv11).symm.trans h
        refine v_iconst (v := 2) X dX8_leafSize_48 (by decide) ?_
        refine v_iloadn X dX8_leafSize_49 rfl rfl ?_
        refine v_imul X dX8_leafSize_50 ?_
        refine v_goto X 55 dX8_leafSize_51 (by decide) ?_
        obtain ⟨er, eg⟩ := Prod.mk.inj (Option.some.inj h)
        exact v_iret X dX8_leafSize_55 er eg
    · replace h := (if_neg cv5).symm.trans h
      refine v_aloadn X dX8_leafSize_23 rfl rfl ?_
      refine v_bipush (v := 14) X dX8_leafSize_24 (by decide) ?_
      obtain ⟨gv13, qv12, h⟩ := bd1_some h
      refine v_callVV (As := [.int (14 : Int32)]) (rest := []) X (c_X8_began l D ad cy X.2.2.2.2.2.2.2.2.1 N (14 : Int32) gv2 gv13  qv12) mw_X8_began ml_X8_282 (by decide) (by decide +kernel) (by decide) rfl rfl rfl rfl (Nat.le_of_ble_eq_true rfl) dX8_leafSize_26 ?_
      refine v_aloadn X dX8_leafSize_29 rfl rfl ?_
      refine v_bipush (v := 13) X dX8_leafSize_30 (by decide) ?_
      obtain ⟨gv15, qv14, h⟩ := bd1_some h
      refine v_callVV (As := [.int (13 : Int32)]) (rest := []) X (c_X8_began l D ad cy X.2.2.2.2.2.2.2.2.1 N (13 : Int32) gv13 gv15  qv14) mw_X8_began ml_X8_282 (by decide) (by decide +kernel) (by decide) rfl rfl rfl rfl (Nat.le_of_ble_eq_true rfl) dX8_leafSize_32 ?_
      refine v_aloadn X dX8_leafSize_35 rfl rfl ?_
      refine v_iloadn X dX8_leafSize_36 rfl rfl ?_
      obtain ⟨rv18, gv17, qv16, h⟩ := bd2_some h
      refine v_callVI (As := [.int x1]) (rest := []) X (c_X8_plainSize l D ad cy X.2.2.2.2.2.2.2.2.1 N x1 gv15 rv18 gv17  qv16) mw_X8_plainSize ml_X8_285 (by decide) (by decide +kernel) (by decide) rfl rfl rfl rfl (Nat.le_of_ble_eq_true rfl) dX8_leafSize_37 ?_
      refine v_bipush (v := 100) X dX8_leafSize_40 (by decide) ?_
      refine v_isub X dX8_leafSize_42 ?_
      refine v_istoren (lc' := [some (.ref (ad (8, 0, 0))), some (.int x1), some (.int (0 : Int32)), some (.int (rv18 - (100 : Int32)))]) X dX8_leafSize_43 rfl (by decide) rfl rfl ?_
      refine v_iloadn X dX8_leafSize_44 rfl rfl ?_
      refine v_if_eq X 54 dX8_leafSize_45 (by decide) (fun cv19 => ?_) (fun cv19 => ?_)
      · replace h := (if_pos cv19).symm.trans h
        refine v_iloadn X dX8_leafSize_54 rfl rfl ?_
        obtain ⟨er, eg⟩ := Prod.mk.inj (Option.some.inj h)
        exact v_iret X dX8_leafSize_55 er eg
      · replace h := (if_neg cv19).symm.trans h
        refine v_iconst (v := 2) X dX8_leafSize_48 (by decide) ?_
        refine v_iloadn X dX8_leafSize_49 rfl rfl ?_
        refine v_imul X dX8_leafSize_50 ?_
        refine v_goto X 55 dX8_leafSize_51 (by decide) ?_
        obtain ⟨er, eg⟩ := Prod.mk.inj (Option.some.inj h)
        exact v_iret X dX8_leafSize_55 er eg
  · replace h := (if_pos cv4).symm.trans h
    refine v_iconst (v := 1) X dX8_leafSize_13 (by decide) ?_
    refine v_goto X 18 dX8_leafSize_14 (by decide) ?_
    refine v_istoren (lc' := [some (.ref (ad (8, 0, 0))), some (.int x1), some (.int (1 : Int32)), none]) X dX8_leafSize_18 rfl (by decide) rfl rfl ?_
    refine v_iloadn X dX8_leafSize_19 rfl rfl ?_
    refine v_if_eq X 29 dX8_leafSize_20 (by decide) (fun cv20 => ?_) (fun cv20 => ?_)
    · replace h := (if_pos cv20).symm.trans h
      refine v_aloadn X dX8_leafSize_29 rfl rfl ?_
      refine v_bipush (v := 13) X dX8_leafSize_30 (by decide) ?_
      obtain ⟨gv22, qv21, h⟩ := bd1_some h
      refine v_callVV (As := [.int (13 : Int32)]) (rest := []) X (c_X8_began l D ad cy X.2.2.2.2.2.2.2.2.1 N (13 : Int32) gv2 gv22  qv21) mw_X8_began ml_X8_282 (by decide) (by decide +kernel) (by decide) rfl rfl rfl rfl (Nat.le_of_ble_eq_true rfl) dX8_leafSize_32 ?_
      refine v_aloadn X dX8_leafSize_35 rfl rfl ?_
      refine v_iloadn X dX8_leafSize_36 rfl rfl ?_
      obtain ⟨rv25, gv24, qv23, h⟩ := bd2_some h
      refine v_callVI (As := [.int x1]) (rest := []) X (c_X8_plainSize l D ad cy X.2.2.2.2.2.2.2.2.1 N x1 gv22 rv25 gv24  qv23) mw_X8_plainSize ml_X8_285 (by decide) (by decide +kernel) (by decide) rfl rfl rfl rfl (Nat.le_of_ble_eq_true rfl) dX8_leafSize_37 ?_
      refine v_bipush (v := 100) X dX8_leafSize_40 (by decide) ?_
      refine v_isub X dX8_leafSize_42 ?_
      refine v_istoren (lc' := [some (.ref (ad (8, 0, 0))), some (.int x1), some (.int (1 : Int32)), some (.int (rv25 - (100 : Int32)))]) X dX8_leafSize_43 rfl (by decide) rfl rfl ?_
      refine v_iloadn X dX8_leafSize_44 rfl rfl ?_
      refine v_if_eq X 54 dX8_leafSize_45 (by decide) (fun cv26 => ?_) (fun cv26 => ?_)
      · replace h := (if_pos cv26).symm.trans h
        refine v_iloadn X dX8_leafSize_54 rfl rfl ?_
        obtain ⟨er, eg⟩ := Prod.mk.inj (Option.some.inj h)
        exact v_iret X dX8_leafSize_55 er eg
      · replace h := (if_neg cv26).symm.trans h
        refine v_iconst (v := 2) X dX8_leafSize_48 (by decide) ?_
        refine v_iloadn X dX8_leafSize_49 rfl rfl ?_
        refine v_imul X dX8_leafSize_50 ?_
        refine v_goto X 55 dX8_leafSize_51 (by decide) ?_
        obtain ⟨er, eg⟩ := Prod.mk.inj (Option.some.inj h)
        exact v_iret X dX8_leafSize_55 er eg
    · replace h := (if_neg cv20).symm.trans h
      refine v_aloadn X dX8_leafSize_23 rfl rfl ?_
      refine v_bipush (v := 14) X dX8_leafSize_24 (by decide) ?_
      obtain ⟨gv28, qv27, h⟩ := bd1_some h
      refine v_callVV (As := [.int (14 : Int32)]) (rest := []) X (c_X8_began l D ad cy X.2.2.2.2.2.2.2.2.1 N (14 : Int32) gv2 gv28  qv27) mw_X8_began ml_X8_282 (by decide) (by decide +kernel) (by decide) rfl rfl rfl rfl (Nat.le_of_ble_eq_true rfl) dX8_leafSize_26 ?_
      refine v_aloadn X dX8_leafSize_29 rfl rfl ?_
      refine v_bipush (v := 13) X dX8_leafSize_30 (by decide) ?_
      obtain ⟨gv30, qv29, h⟩ := bd1_some h
      refine v_callVV (As := [.int (13 : Int32)]) (rest := []) X (c_X8_began l D ad cy X.2.2.2.2.2.2.2.2.1 N (13 : Int32) gv28 gv30  qv29) mw_X8_began ml_X8_282 (by decide) (by decide +kernel) (by decide) rfl rfl rfl rfl (Nat.le_of_ble_eq_true rfl) dX8_leafSize_32 ?_
      refine v_aloadn X dX8_leafSize_35 rfl rfl ?_
      refine v_iloadn X dX8_leafSize_36 rfl rfl ?_
      obtain ⟨rv33, gv32, qv31, h⟩ := bd2_some h
      refine v_callVI (As := [.int x1]) (rest := []) X (c_X8_plainSize l D ad cy X.2.2.2.2.2.2.2.2.1 N x1 gv30 rv33 gv32  qv31) mw_X8_plainSize ml_X8_285 (by decide) (by decide +kernel) (by decide) rfl rfl rfl rfl (Nat.le_of_ble_eq_true rfl) dX8_leafSize_37 ?_
      refine v_bipush (v := 100) X dX8_leafSize_40 (by decide) ?_
      refine v_isub X dX8_leafSize_42 ?_
      refine v_istoren (lc' := [some (.ref (ad (8, 0, 0))), some (.int x1), some (.int (1 : Int32)), some (.int (rv33 - (100 : Int32)))]) X dX8_leafSize_43 rfl (by decide) rfl rfl ?_
      refine v_iloadn X dX8_leafSize_44 rfl rfl ?_
      refine v_if_eq X 54 dX8_leafSize_45 (by decide) (fun cv34 => ?_) (fun cv34 => ?_)
      · replace h := (if_pos cv34).symm.trans h
        refine v_iloadn X dX8_leafSize_54 rfl rfl ?_
        obtain ⟨er, eg⟩ := Prod.mk.inj (Option.some.inj h)
        exact v_iret X dX8_leafSize_55 er eg
      · replace h := (if_neg cv34).symm.trans h
        refine v_iconst (v := 2) X dX8_leafSize_48 (by decide) ?_
        refine v_iloadn X dX8_leafSize_49 rfl rfl ?_
        refine v_imul X dX8_leafSize_50 ?_
        refine v_goto X 55 dX8_leafSize_51 (by decide) ?_
        obtain ⟨er, eg⟩ := Prod.mk.inj (Option.some.inj h)
        exact v_iret X dX8_leafSize_55 er eg
def F_X8_markOf (N : Nat) (x1 : Int32) (g : GS) : Option (Int32 × GS) := bd2 (F_X8_of N 5 x1 (0 : Int32) g) (fun rv3 gv2 => if rv3 < (4 : Int32) then if rv3 = (1 : Int32) then bd1 (F_X8_began N (21 : Int32) gv2) (fun gv7 => bd1 (F_X8_began N (20 : Int32) gv7) (fun gv9 => bd2 (F_X8_of N 5 x1 (4 : Int32) gv9) (fun rv12 gv11 => if rv3 = (1 : Int32) then some ((x1 + rv12), gv11) else if rv3 = (3 : Int32) then some (((x1 + rv12) - (1000 : Int32)), gv11) else some (((2 : Int32) * (x1 + rv12)), gv11)))) else if rv3 = (3 : Int32) then bd1 (F_X8_began N (22 : Int32) gv2) (fun gv28 => bd1 (F_X8_began N (21 : Int32) gv28) (fun gv30 => bd1 (F_X8_began N (20 : Int32) gv30) (fun gv32 => bd2 (F_X8_of N 5 x1 (4 : Int32) gv32) (fun rv35 gv34 => if rv3 = (1 : Int32) then some ((x1 + rv35), gv34) else if rv3 = (3 : Int32) then some (((x1 + rv35) - (1000 : Int32)), gv34) else some (((2 : Int32) * (x1 + rv35)), gv34))))) else bd1 (F_X8_began N (24 : Int32) gv2) (fun gv17 => bd1 (F_X8_began N (21 : Int32) gv17) (fun gv19 => bd1 (F_X8_began N (20 : Int32) gv19) (fun gv21 => bd2 (F_X8_of N 5 x1 (4 : Int32) gv21) (fun rv24 gv23 => if rv3 = (1 : Int32) then some ((x1 + rv24), gv23) else if rv3 = (3 : Int32) then some (((x1 + rv24) - (1000 : Int32)), gv23) else some (((2 : Int32) * (x1 + rv24)), gv23))))) else bd1 (F_X8_began N (23 : Int32) gv2) (fun gv39 => bd1 (F_X8_began N (20 : Int32) gv39) (fun gv41 => bd2 (F_X8_leafSize N x1 gv41) (fun rv44 gv43 => some ((x1 - rv44), gv43)))))
set_option maxRecDepth 100000 in
set_option maxHeartbeats 4000000 in
theorem c_X8_markOf (l : Launch) (D : va_G) (ad : Ky → Nat) (cy : Nat → ClassId) (hI : Inj ad) (N : Nat) (x1 : Int32) (g : GS) (r : Int32) (gq : GS) (h : F_X8_markOf N x1 g = some (r, gq)) : CtI l D ad cy yX8_markOf cX8_markOf 4 (some .int) 3 [.ref (ad (8, 0, 0)), .int x1] g r gq := by
  refine CtI.of 2 hI (by decide +kernel) rfl (Nat.le_of_ble_eq_true rfl) (fun p e s m args below meth c X => ?_)
  unfold F_X8_markOf at h
  show Vy _ _ _ _ _ _ _ _ _ _ _ _ _ _ _ 0 [some (.ref (ad (8, 0, 0))), some (.int x1), none, none] [] g
  refine v_aloadn X dX8_markOf_0 rfl rfl ?_
  refine gf_X8_19 X dX8_markOf_1 ?_
  refine v_iloadn X dX8_markOf_4 rfl rfl ?_
  refine v_iconst (v := 0) X dX8_markOf_5 (by decide) ?_
  obtain ⟨rv3, gv2, qv1, h⟩ := bd2_some h
  refine v_callSI (As := [.ref (ad (9, 11, 5)), .int x1, .int (0 : Int32)]) (rest := []) X (c_X8_of l D ad cy X.2.2.2.2.2.2.2.2.1 N 5 x1 (0 : Int32) g rv3 gv2 (by decide +kernel) qv1) mw_X8_of ml_X8_155 (by decide) rfl rfl (Nat.le_of_ble_eq_true rfl) dX8_markOf_6 ?_
  refine v_istoren (lc' := [some (.ref (ad (8, 0, 0))), some (.int x1), some (.int rv3), none]) X dX8_markOf_9 rfl (by decide) rfl rfl ?_
  refine v_iloadn X dX8_markOf_10 rfl rfl ?_
  refine v_iconst (v := 4) X dX8_markOf_11 (by decide) ?_
  refine v_icmp_lt X 35 dX8_markOf_12 (by decide) (fun cv4 => ?_) (fun cv4 => ?_)
  · replace h := (if_pos cv4).symm.trans h
    refine v_iloadn X dX8_markOf_35 rfl rfl ?_
    refine v_iconst (v := 1) X dX8_markOf_36 (by decide) ?_
    refine v_icmp_eq X 56 dX8_markOf_37 (by decide) (fun cv5 => ?_) (fun cv5 => ?_)
    · replace h := (if_pos cv5).symm.trans h
      refine v_aloadn X dX8_markOf_56 rfl rfl ?_
      refine v_bipush (v := 21) X dX8_markOf_57 (by decide) ?_
      obtain ⟨gv7, qv6, h⟩ := bd1_some h
      refine v_callVV (As := [.int (21 : Int32)]) (rest := []) X (c_X8_began l D ad cy X.2.2.2.2.2.2.2.2.1 N (21 : Int32) gv2 gv7  qv6) mw_X8_began ml_X8_282 (by decide) (by decide +kernel) (by decide) rfl rfl rfl rfl (Nat.le_of_ble_eq_true rfl) dX8_markOf_59 ?_
      refine v_aloadn X dX8_markOf_62 rfl rfl ?_
      refine v_bipush (v := 20) X dX8_markOf_63 (by decide) ?_
      obtain ⟨gv9, qv8, h⟩ := bd1_some h
      refine v_callVV (As := [.int (20 : Int32)]) (rest := []) X (c_X8_began l D ad cy X.2.2.2.2.2.2.2.2.1 N (20 : Int32) gv7 gv9  qv8) mw_X8_began ml_X8_282 (by decide) (by decide +kernel) (by decide) rfl rfl rfl rfl (Nat.le_of_ble_eq_true rfl) dX8_markOf_65 ?_
      refine v_iloadn X dX8_markOf_68 rfl rfl ?_
      refine v_aloadn X dX8_markOf_69 rfl rfl ?_
      refine gf_X8_19 X dX8_markOf_70 ?_
      refine v_iloadn X dX8_markOf_73 rfl rfl ?_
      refine v_iconst (v := 4) X dX8_markOf_74 (by decide) ?_
      obtain ⟨rv12, gv11, qv10, h⟩ := bd2_some h
      refine v_callSI (As := [.ref (ad (9, 11, 5)), .int x1, .int (4 : Int32)]) (rest := [.int x1]) X (c_X8_of l D ad cy X.2.2.2.2.2.2.2.2.1 N 5 x1 (4 : Int32) gv9 rv12 gv11 (by decide +kernel) qv10) mw_X8_of ml_X8_155 (by decide) rfl rfl (Nat.le_of_ble_eq_true rfl) dX8_markOf_75 ?_
      refine v_iadd X dX8_markOf_78 ?_
      refine v_istoren (lc' := [some (.ref (ad (8, 0, 0))), some (.int x1), some (.int rv3), some (.int (x1 + rv12))]) X dX8_markOf_79 rfl (by decide) rfl rfl ?_
      refine v_iloadn X dX8_markOf_80 rfl rfl ?_
      refine v_iconst (v := 1) X dX8_markOf_81 (by decide) ?_
      refine v_icmp_ne X 89 dX8_markOf_82 (by decide) (fun cv13 => ?_) (fun cv13 => ?_)
      · replace h := (if_neg cv13).symm.trans h
        refine v_iloadn X dX8_markOf_89 rfl rfl ?_
        refine v_iconst (v := 3) X dX8_markOf_90 (by decide) ?_
        refine v_icmp_ne X 102 dX8_markOf_91 (by decide) (fun cv14 => ?_) (fun cv14 => ?_)
        · replace h := (if_neg cv14).symm.trans h
          refine v_iconst (v := 2) X dX8_markOf_102 (by decide) ?_
          refine v_iloadn X dX8_markOf_103 rfl rfl ?_
          refine v_imul X dX8_markOf_104 ?_
          obtain ⟨er, eg⟩ := Prod.mk.inj (Option.some.inj h)
          exact v_iret X dX8_markOf_105 er eg
        · replace h := (if_pos cv14).symm.trans h
          refine v_iloadn X dX8_markOf_94 rfl rfl ?_
          refine v_sipush (v := 1000) X dX8_markOf_95 (by decide) ?_
          refine v_isub X dX8_markOf_98 ?_
          refine v_goto X 105 dX8_markOf_99 (by decide) ?_
          obtain ⟨er, eg⟩ := Prod.mk.inj (Option.some.inj h)
          exact v_iret X dX8_markOf_105 er eg
      · replace h := (if_pos cv13).symm.trans h
        refine v_iloadn X dX8_markOf_85 rfl rfl ?_
        refine v_goto X 105 dX8_markOf_86 (by decide) ?_
        obtain ⟨er, eg⟩ := Prod.mk.inj (Option.some.inj h)
        exact v_iret X dX8_markOf_105 er eg
    · replace h := (if_neg cv5).symm.trans h
      refine v_aloadn X dX8_markOf_40 rfl rfl ?_
      refine v_iloadn X dX8_markOf_41 rfl rfl ?_
      refine v_iconst (v := 3) X dX8_markOf_42 (by decide) ?_
      refine v_icmp_ne X 51 dX8_markOf_43 (by decide) (fun cv15 => ?_) (fun cv15 => ?_)
      · replace h := (if_neg cv15).symm.trans h
        refine v_bipush (v := 24) X dX8_markOf_51 (by decide) ?_
        obtain ⟨gv17, qv16, h⟩ := bd1_some h
        refine v_callVV (As := [.int (24 : Int32)]) (rest := []) X (c_X8_began l D ad cy X.2.2.2.2.2.2.2.2.1 N (24 : Int32) gv2 gv17  qv16) mw_X8_began ml_X8_282 (by decide) (by decide +kernel) (by decide) rfl rfl rfl rfl (Nat.le_of_ble_eq_true rfl) dX8_markOf_53 ?_
        refine v_aloadn X dX8_markOf_56 rfl rfl ?_
        refine v_bipush (v := 21) X dX8_markOf_57 (by decide) ?_
        obtain ⟨gv19, qv18, h⟩ := bd1_some h
        refine v_callVV (As := [.int (21 : Int32)]) (rest := []) X (c_X8_began l D ad cy X.2.2.2.2.2.2.2.2.1 N (21 : Int32) gv17 gv19  qv18) mw_X8_began ml_X8_282 (by decide) (by decide +kernel) (by decide) rfl rfl rfl rfl (Nat.le_of_ble_eq_true rfl) dX8_markOf_59 ?_
        refine v_aloadn X dX8_markOf_62 rfl rfl ?_
        refine v_bipush (v := 20) X dX8_markOf_63 (by decide) ?_
        obtain ⟨gv21, qv20, h⟩ := bd1_some h
        refine v_callVV (As := [.int (20 : Int32)]) (rest := []) X (c_X8_began l D ad cy X.2.2.2.2.2.2.2.2.1 N (20 : Int32) gv19 gv21  qv20) mw_X8_began ml_X8_282 (by decide) (by decide +kernel) (by decide) rfl rfl rfl rfl (Nat.le_of_ble_eq_true rfl) dX8_markOf_65 ?_
        refine v_iloadn X dX8_markOf_68 rfl rfl ?_
        refine v_aloadn X dX8_markOf_69 rfl rfl ?_
        refine gf_X8_19 X dX8_markOf_70 ?_
        refine v_iloadn X dX8_markOf_73 rfl rfl ?_
        refine v_iconst (v := 4) X dX8_markOf_74 (by decide) ?_
        obtain ⟨rv24, gv23, qv22, h⟩ := bd2_some h
        refine v_callSI (As := [.ref (ad (9, 11, 5)), .int x1, .int (4 : Int32)]) (rest := [.int x1]) X (c_X8_of l D ad cy X.2.2.2.2.2.2.2.2.1 N 5 x1 (4 : Int32) gv21 rv24 gv23 (by decide +kernel) qv22) mw_X8_of ml_X8_155 (by decide) rfl rfl (Nat.le_of_ble_eq_true rfl) dX8_markOf_75 ?_
        refine v_iadd X dX8_markOf_78 ?_
        refine v_istoren (lc' := [some (.ref (ad (8, 0, 0))), some (.int x1), some (.int rv3), some (.int (x1 + rv24))]) X dX8_markOf_79 rfl (by decide) rfl rfl ?_
        refine v_iloadn X dX8_markOf_80 rfl rfl ?_
        refine v_iconst (v := 1) X dX8_markOf_81 (by decide) ?_
        refine v_icmp_ne X 89 dX8_markOf_82 (by decide) (fun cv25 => ?_) (fun cv25 => ?_)
        · replace h := (if_neg cv25).symm.trans h
          refine v_iloadn X dX8_markOf_89 rfl rfl ?_
          refine v_iconst (v := 3) X dX8_markOf_90 (by decide) ?_
          refine v_icmp_ne X 102 dX8_markOf_91 (by decide) (fun cv26 => ?_) (fun cv26 => ?_)
          · replace h := (if_neg cv26).symm.trans h
            refine v_iconst (v := 2) X dX8_markOf_102 (by decide) ?_
            refine v_iloadn X dX8_markOf_103 rfl rfl ?_
            refine v_imul X dX8_markOf_104 ?_
            obtain ⟨er, eg⟩ := Prod.mk.inj (Option.some.inj h)
            exact v_iret X dX8_markOf_105 er eg
          · replace h := (if_pos cv26).symm.trans h
            refine v_iloadn X dX8_markOf_94 rfl rfl ?_
            refine v_sipush (v := 1000) X dX8_markOf_95 (by decide) ?_
            refine v_isub X dX8_markOf_98 ?_
            refine v_goto X 105 dX8_markOf_99 (by decide) ?_
            obtain ⟨er, eg⟩ := Prod.mk.inj (Option.some.inj h)
            exact v_iret X dX8_markOf_105 er eg
        · replace h := (if_pos cv25).symm.trans h
          refine v_iloadn X dX8_markOf_85 rfl rfl ?_
          refine v_goto X 105 dX8_markOf_86 (by decide) ?_
          obtain ⟨er, eg⟩ := Prod.mk.inj (Option.some.inj h)
          exact v_iret X dX8_markOf_105 er eg
      · replace h := (if_pos cv15).symm.trans h
        refine v_bipush (v := 22) X dX8_markOf_46 (by decide) ?_
        refine v_goto X 53 dX8_markOf_48 (by decide) ?_
        obtain ⟨gv28, qv27, h⟩ := bd1_some h
        refine v_callVV (As := [.int (22 : Int32)]) (rest := []) X (c_X8_began l D ad cy X.2.2.2.2.2.2.2.2.1 N (22 : Int32) gv2 gv28  qv27) mw_X8_began ml_X8_282 (by decide) (by decide +kernel) (by decide) rfl rfl rfl rfl (Nat.le_of_ble_eq_true rfl) dX8_markOf_53 ?_
        refine v_aloadn X dX8_markOf_56 rfl rfl ?_
        refine v_bipush (v := 21) X dX8_markOf_57 (by decide) ?_
        obtain ⟨gv30, qv29, h⟩ := bd1_some h
        refine v_callVV (As := [.int (21 : Int32)]) (rest := []) X (c_X8_began l D ad cy X.2.2.2.2.2.2.2.2.1 N (21 : Int32) gv28 gv30  qv29) mw_X8_began ml_X8_282 (by decide) (by decide +kernel) (by decide) rfl rfl rfl rfl (Nat.le_of_ble_eq_true rfl) dX8_markOf_59 ?_
        refine v_aloadn X dX8_markOf_62 rfl rfl ?_
        refine v_bipush (v := 20) X dX8_markOf_63 (by decide) ?_
        obtain ⟨gv32, qv31, h⟩ := bd1_some h
        refine v_callVV (As := [.int (20 : Int32)]) (rest := []) X (c_X8_began l D ad cy X.2.2.2.2.2.2.2.2.1 N (20 : Int32) gv30 gv32  qv31) mw_X8_began ml_X8_282 (by decide) (by decide +kernel) (by decide) rfl rfl rfl rfl (Nat.le_of_ble_eq_true rfl) dX8_markOf_65 ?_
        refine v_iloadn X dX8_markOf_68 rfl rfl ?_
        refine v_aloadn X dX8_markOf_69 rfl rfl ?_
        refine gf_X8_19 X dX8_markOf_70 ?_
        refine v_iloadn X dX8_markOf_73 rfl rfl ?_
        refine v_iconst (v := 4) X dX8_markOf_74 (by decide) ?_
        obtain ⟨rv35, gv34, qv33, h⟩ := bd2_some h
        refine v_callSI (As := [.ref (ad (9, 11, 5)), .int x1, .int (4 : Int32)]) (rest := [.int x1]) X (c_X8_of l D ad cy X.2.2.2.2.2.2.2.2.1 N 5 x1 (4 : Int32) gv32 rv35 gv34 (by decide +kernel) qv33) mw_X8_of ml_X8_155 (by decide) rfl rfl (Nat.le_of_ble_eq_true rfl) dX8_markOf_75 ?_
        refine v_iadd X dX8_markOf_78 ?_
        refine v_istoren (lc' := [some (.ref (ad (8, 0, 0))), some (.int x1), some (.int rv3), some (.int (x1 + rv35))]) X dX8_markOf_79 rfl (by decide) rfl rfl ?_
        refine v_iloadn X dX8_markOf_80 rfl rfl ?_
        refine v_iconst (v := 1) X dX8_markOf_81 (by decide) ?_
        refine v_icmp_ne X 89 dX8_markOf_82 (by decide) (fun cv36 => ?_) (fun cv36 => ?_)
        · replace h := (if_neg cv36).symm.trans h
          refine v_iloadn X dX8_markOf_89 rfl rfl ?_
          refine v_iconst (v := 3) X dX8_markOf_90 (by decide) ?_
          refine v_icmp_ne X 102 dX8_markOf_91 (by decide) (fun cv37 => ?_) (fun cv37 => ?_)
          · replace h := (if_neg cv37).symm.trans h
            refine v_iconst (v := 2) X dX8_markOf_102 (by decide) ?_
            refine v_iloadn X dX8_markOf_103 rfl rfl ?_
            refine v_imul X dX8_markOf_104 ?_
            obtain ⟨er, eg⟩ := Prod.mk.inj (Option.some.inj h)
            exact v_iret X dX8_markOf_105 er eg
          · replace h := (if_pos cv37).symm.trans h
            refine v_iloadn X dX8_markOf_94 rfl rfl ?_
            refine v_sipush (v := 1000) X dX8_markOf_95 (by decide) ?_
            refine v_isub X dX8_markOf_98 ?_
            refine v_goto X 105 dX8_markOf_99 (by decide) ?_
            obtain ⟨er, eg⟩ := Prod.mk.inj (Option.some.inj h)
            exact v_iret X dX8_markOf_105 er eg
        · replace h := (if_pos cv36).symm.trans h
          refine v_iloadn X dX8_markOf_85 rfl rfl ?_
          refine v_goto X 105 dX8_markOf_86 (by decide) ?_
          obtain ⟨er, eg⟩ := Prod.mk.inj (Option.some.inj h)
          exact v_iret X dX8_markOf_105 er eg
  · replace h := (if_neg cv4).symm.trans h
    refine v_aloadn X dX8_markOf_15 rfl rfl ?_
    refine v_bipush (v := 23) X dX8_markOf_16 (by decide) ?_
    obtain ⟨gv39, qv38, h⟩ := bd1_some h
    refine v_callVV (As := [.int (23 : Int32)]) (rest := []) X (c_X8_began l D ad cy X.2.2.2.2.2.2.2.2.1 N (23 : Int32) gv2 gv39  qv38) mw_X8_began ml_X8_282 (by decide) (by decide +kernel) (by decide) rfl rfl rfl rfl (Nat.le_of_ble_eq_true rfl) dX8_markOf_18 ?_
    refine v_aloadn X dX8_markOf_21 rfl rfl ?_
    refine v_bipush (v := 20) X dX8_markOf_22 (by decide) ?_
    obtain ⟨gv41, qv40, h⟩ := bd1_some h
    refine v_callVV (As := [.int (20 : Int32)]) (rest := []) X (c_X8_began l D ad cy X.2.2.2.2.2.2.2.2.1 N (20 : Int32) gv39 gv41  qv40) mw_X8_began ml_X8_282 (by decide) (by decide +kernel) (by decide) rfl rfl rfl rfl (Nat.le_of_ble_eq_true rfl) dX8_markOf_24 ?_
    refine v_iloadn X dX8_markOf_27 rfl rfl ?_
    refine v_aloadn X dX8_markOf_28 rfl rfl ?_
    refine v_iloadn X dX8_markOf_29 rfl rfl ?_
    obtain ⟨rv44, gv43, qv42, h⟩ := bd2_some h
    refine v_callVI (As := [.int x1]) (rest := [.int x1]) X (c_X8_leafSize l D ad cy X.2.2.2.2.2.2.2.2.1 N x1 gv41 rv44 gv43  qv42) mw_X8_leafSize ml_X8_288 (by decide) (by decide +kernel) (by decide) rfl rfl rfl rfl (Nat.le_of_ble_eq_true rfl) dX8_markOf_30 ?_
    refine v_isub X dX8_markOf_33 ?_
    obtain ⟨er, eg⟩ := Prod.mk.inj (Option.some.inj h)
    exact v_iret X dX8_markOf_34 er eg
def F_X8_sizeOf (N : Nat) (x1 : Int32) (g : GS) : Option (Int32 × GS) := bd2 (F_X8_of N 5 x1 (0 : Int32) g) (fun rv3 gv2 => if rv3 < (4 : Int32) then if rv3 = (2 : Int32) then bd1 (F_X8_began N (12 : Int32) gv2) (fun gv16 => bd1 (F_X8_began N (11 : Int32) gv16) (fun gv18 => bd2 (F_X8_plainSize N x1 gv18) (fun rv21 gv20 => bd2 (F_X8_markOf N x1 gv20) (fun rv24 gv23 => if rv3 = (2 : Int32) then some ((-(rv21 + rv24)), gv23) else some ((rv21 + rv24), gv23))))) else bd1 (F_X8_began N (11 : Int32) gv2) (fun gv7 => bd2 (F_X8_plainSize N x1 gv7) (fun rv10 gv9 => bd2 (F_X8_markOf N x1 gv9) (fun rv13 gv12 => if rv3 = (2 : Int32) then some ((-(rv10 + rv13)), gv12) else some ((rv10 + rv13), gv12)))) else bd2 (F_X8_leafSize N x1 gv2) (fun rv28 gv27 => some (rv28, gv27)))
set_option maxRecDepth 100000 in
set_option maxHeartbeats 4000000 in
theorem c_X8_sizeOf (l : Launch) (D : va_G) (ad : Ky → Nat) (cy : Nat → ClassId) (hI : Inj ad) (N : Nat) (x1 : Int32) (g : GS) (r : Int32) (gq : GS) (h : F_X8_sizeOf N x1 g = some (r, gq)) : CtI l D ad cy yX8_sizeOf cX8_sizeOf 4 (some .int) 4 [.ref (ad (8, 0, 0)), .int x1] g r gq := by
  refine CtI.of 2 hI (by decide +kernel) rfl (Nat.le_of_ble_eq_true rfl) (fun p e s m args below meth c X => ?_)
  unfold F_X8_sizeOf at h
  show Vy _ _ _ _ _ _ _ _ _ _ _ _ _ _ _ 0 [some (.ref (ad (8, 0, 0))), some (.int x1), none, none] [] g
  refine v_aloadn X dX8_sizeOf_0 rfl rfl ?_
  refine gf_X8_19 X dX8_sizeOf_1 ?_
  refine v_iloadn X dX8_sizeOf_4 rfl rfl ?_
  refine v_iconst (v := 0) X dX8_sizeOf_5 (by decide) ?_
  obtain ⟨rv3, gv2, qv1, h⟩ := bd2_some h
  refine v_callSI (As := [.ref (ad (9, 11, 5)), .int x1, .int (0 : Int32)]) (rest := []) X (c_X8_of l D ad cy X.2.2.2.2.2.2.2.2.1 N 5 x1 (0 : Int32) g rv3 gv2 (by decide +kernel) qv1) mw_X8_of ml_X8_155 (by decide) rfl rfl (Nat.le_of_ble_eq_true rfl) dX8_sizeOf_6 ?_
  refine v_istoren (lc' := [some (.ref (ad (8, 0, 0))), some (.int x1), some (.int rv3), none]) X dX8_sizeOf_9 rfl (by decide) rfl rfl ?_
  refine v_iloadn X dX8_sizeOf_10 rfl rfl ?_
  refine v_iconst (v := 4) X dX8_sizeOf_11 (by decide) ?_
  refine v_icmp_lt X 21 dX8_sizeOf_12 (by decide) (fun cv4 => ?_) (fun cv4 => ?_)
  · replace h := (if_pos cv4).symm.trans h
    refine v_iloadn X dX8_sizeOf_21 rfl rfl ?_
    refine v_iconst (v := 2) X dX8_sizeOf_22 (by decide) ?_
    refine v_icmp_ne X 32 dX8_sizeOf_23 (by decide) (fun cv5 => ?_) (fun cv5 => ?_)
    · replace h := (if_neg cv5).symm.trans h
      refine v_aloadn X dX8_sizeOf_32 rfl rfl ?_
      refine v_bipush (v := 11) X dX8_sizeOf_33 (by decide) ?_
      obtain ⟨gv7, qv6, h⟩ := bd1_some h
      refine v_callVV (As := [.int (11 : Int32)]) (rest := []) X (c_X8_began l D ad cy X.2.2.2.2.2.2.2.2.1 N (11 : Int32) gv2 gv7  qv6) mw_X8_began ml_X8_282 (by decide) (by decide +kernel) (by decide) rfl rfl rfl rfl (Nat.le_of_ble_eq_true rfl) dX8_sizeOf_35 ?_
      refine v_aloadn X dX8_sizeOf_38 rfl rfl ?_
      refine v_iloadn X dX8_sizeOf_39 rfl rfl ?_
      obtain ⟨rv10, gv9, qv8, h⟩ := bd2_some h
      refine v_callVI (As := [.int x1]) (rest := []) X (c_X8_plainSize l D ad cy X.2.2.2.2.2.2.2.2.1 N x1 gv7 rv10 gv9  qv8) mw_X8_plainSize ml_X8_285 (by decide) (by decide +kernel) (by decide) rfl rfl rfl rfl (Nat.le_of_ble_eq_true rfl) dX8_sizeOf_40 ?_
      refine v_istoren (lc' := [some (.ref (ad (8, 0, 0))), some (.int x1), some (.int rv3), some (.int rv10)]) X dX8_sizeOf_43 rfl (by decide) rfl rfl ?_
      refine v_iloadn X dX8_sizeOf_44 rfl rfl ?_
      refine v_aloadn X dX8_sizeOf_45 rfl rfl ?_
      refine v_iloadn X dX8_sizeOf_46 rfl rfl ?_
      obtain ⟨rv13, gv12, qv11, h⟩ := bd2_some h
      refine v_callVI (As := [.int x1]) (rest := [.int rv10]) X (c_X8_markOf l D ad cy X.2.2.2.2.2.2.2.2.1 N x1 gv9 rv13 gv12  qv11) mw_X8_markOf ml_X8_291 (by decide) (by decide +kernel) (by decide) rfl rfl rfl rfl (Nat.le_of_ble_eq_true rfl) dX8_sizeOf_47 ?_
      refine v_iadd X dX8_sizeOf_50 ?_
      refine v_istoren (lc' := [some (.ref (ad (8, 0, 0))), some (.int x1), some (.int rv3), some (.int (rv10 + rv13))]) X dX8_sizeOf_51 rfl (by decide) rfl rfl ?_
      refine v_iloadn X dX8_sizeOf_52 rfl rfl ?_
      refine v_iconst (v := 2) X dX8_sizeOf_53 (by decide) ?_
      refine v_icmp_ne X 62 dX8_sizeOf_54 (by decide) (fun cv14 => ?_) (fun cv14 => ?_)
      · replace h := (if_neg cv14).symm.trans h
        refine v_iloadn X dX8_sizeOf_62 rfl rfl ?_
        obtain ⟨er, eg⟩ := Prod.mk.inj (Option.some.inj h)
        exact v_iret X dX8_sizeOf_63 er eg
      · replace h := (if_pos cv14).symm.trans h
        refine v_iloadn X dX8_sizeOf_57 rfl rfl ?_
        refine v_ineg X dX8_sizeOf_58 ?_
        refine v_goto X 63 dX8_sizeOf_59 (by decide) ?_
        obtain ⟨er, eg⟩ := Prod.mk.inj (Option.some.inj h)
        exact v_iret X dX8_sizeOf_63 er eg
    · replace h := (if_pos cv5).symm.trans h
      refine v_aloadn X dX8_sizeOf_26 rfl rfl ?_
      refine v_bipush (v := 12) X dX8_sizeOf_27 (by decide) ?_
      obtain ⟨gv16, qv15, h⟩ := bd1_some h
      refine v_callVV (As := [.int (12 : Int32)]) (rest := []) X (c_X8_began l D ad cy X.2.2.2.2.2.2.2.2.1 N (12 : Int32) gv2 gv16  qv15) mw_X8_began ml_X8_282 (by decide) (by decide +kernel) (by decide) rfl rfl rfl rfl (Nat.le_of_ble_eq_true rfl) dX8_sizeOf_29 ?_
      refine v_aloadn X dX8_sizeOf_32 rfl rfl ?_
      refine v_bipush (v := 11) X dX8_sizeOf_33 (by decide) ?_
      obtain ⟨gv18, qv17, h⟩ := bd1_some h
      refine v_callVV (As := [.int (11 : Int32)]) (rest := []) X (c_X8_began l D ad cy X.2.2.2.2.2.2.2.2.1 N (11 : Int32) gv16 gv18  qv17) mw_X8_began ml_X8_282 (by decide) (by decide +kernel) (by decide) rfl rfl rfl rfl (Nat.le_of_ble_eq_true rfl) dX8_sizeOf_35 ?_
      refine v_aloadn X dX8_sizeOf_38 rfl rfl ?_
      refine v_iloadn X dX8_sizeOf_39 rfl rfl ?_
      obtain ⟨rv21, gv20, qv19, h⟩ := bd2_some h
      refine v_callVI (As := [.int x1]) (rest := []) X (c_X8_plainSize l D ad cy X.2.2.2.2.2.2.2.2.1 N x1 gv18 rv21 gv20  qv19) mw_X8_plainSize ml_X8_285 (by decide) (by decide +kernel) (by decide) rfl rfl rfl rfl (Nat.le_of_ble_eq_true rfl) dX8_sizeOf_40 ?_
      refine v_istoren (lc' := [some (.ref (ad (8, 0, 0))), some (.int x1), some (.int rv3), some (.int rv21)]) X dX8_sizeOf_43 rfl (by decide) rfl rfl ?_
      refine v_iloadn X dX8_sizeOf_44 rfl rfl ?_
      refine v_aloadn X dX8_sizeOf_45 rfl rfl ?_
      refine v_iloadn X dX8_sizeOf_46 rfl rfl ?_
      obtain ⟨rv24, gv23, qv22, h⟩ := bd2_some h
      refine v_callVI (As := [.int x1]) (rest := [.int rv21]) X (c_X8_markOf l D ad cy X.2.2.2.2.2.2.2.2.1 N x1 gv20 rv24 gv23  qv22) mw_X8_markOf ml_X8_291 (by decide) (by decide +kernel) (by decide) rfl rfl rfl rfl (Nat.le_of_ble_eq_true rfl) dX8_sizeOf_47 ?_
      refine v_iadd X dX8_sizeOf_50 ?_
      refine v_istoren (lc' := [some (.ref (ad (8, 0, 0))), some (.int x1), some (.int rv3), some (.int (rv21 + rv24))]) X dX8_sizeOf_51 rfl (by decide) rfl rfl ?_
      refine v_iloadn X dX8_sizeOf_52 rfl rfl ?_
      refine v_iconst (v := 2) X dX8_sizeOf_53 (by decide) ?_
      refine v_icmp_ne X 62 dX8_sizeOf_54 (by decide) (fun cv25 => ?_) (fun cv25 => ?_)
      · replace h := (if_neg cv25).symm.trans h
        refine v_iloadn X dX8_sizeOf_62 rfl rfl ?_
        obtain ⟨er, eg⟩ := Prod.mk.inj (Option.some.inj h)
        exact v_iret X dX8_sizeOf_63 er eg
      · replace h := (if_pos cv25).symm.trans h
        refine v_iloadn X dX8_sizeOf_57 rfl rfl ?_
        refine v_ineg X dX8_sizeOf_58 ?_
        refine v_goto X 63 dX8_sizeOf_59 (by decide) ?_
        obtain ⟨er, eg⟩ := Prod.mk.inj (Option.some.inj h)
        exact v_iret X dX8_sizeOf_63 er eg
  · replace h := (if_neg cv4).symm.trans h
    refine v_aloadn X dX8_sizeOf_15 rfl rfl ?_
    refine v_iloadn X dX8_sizeOf_16 rfl rfl ?_
    obtain ⟨rv28, gv27, qv26, h⟩ := bd2_some h
    refine v_callVI (As := [.int x1]) (rest := []) X (c_X8_leafSize l D ad cy X.2.2.2.2.2.2.2.2.1 N x1 gv2 rv28 gv27  qv26) mw_X8_leafSize ml_X8_288 (by decide) (by decide +kernel) (by decide) rfl rfl rfl rfl (Nat.le_of_ble_eq_true rfl) dX8_sizeOf_17 ?_
    obtain ⟨er, eg⟩ := Prod.mk.inj (Option.some.inj h)
    exact v_iret X dX8_sizeOf_20 er eg
def F_X8_ask (N : Nat) (x1 : Int32) (x2 : Int32) (g : GS) : Option (Int32 × GS) := bd2 (F_X8_isPaper N x1 (g3 g 10 0 0 (0 : Int32))) (fun rv3 gv2 => if rv3 = 0 then some ((-1000001 : Int32), gv2) else bd2 (F_X8_in N (x2.toInt64) (0 : Int64) (1 : Int64) gv2) (fun rv7 gv6 => if rv7 = 0 then some ((-1000001 : Int32), gv6) else if x2 = 0 then bd2 (F_X8_sizeOf N x1 (g3 gv6 10 0 24 (0 : Int32))) (fun rv15 gv14 => some (rv15, gv14)) else bd2 (F_X8_markOf N x1 (g3 gv6 10 0 24 (0 : Int32))) (fun rv12 gv11 => some (rv12, gv11))))
set_option maxRecDepth 100000 in
set_option maxHeartbeats 4000000 in
theorem c_X8_ask (l : Launch) (D : va_G) (ad : Ky → Nat) (cy : Nat → ClassId) (hI : Inj ad) (N : Nat) (x1 : Int32) (x2 : Int32) (g : GS) (r : Int32) (gq : GS) (h : F_X8_ask N x1 x2 g = some (r, gq)) : CtI l D ad cy yX8_ask cX8_ask 3 (some .int) 5 [.ref (ad (8, 0, 0)), .int x1, .int x2] g r gq := by
  refine CtI.of 0 hI (by decide +kernel) rfl (Nat.le_of_ble_eq_true rfl) (fun p e s m args below meth c X => ?_)
  unfold F_X8_ask at h
  show Vy _ _ _ _ _ _ _ _ _ _ _ _ _ _ _ 0 [some (.ref (ad (8, 0, 0))), some (.int x1), some (.int x2)] [] g
  refine v_aloadn X dX8_ask_0 rfl rfl ?_
  refine v_iconst (v := 0) X dX8_ask_1 (by decide) ?_
  refine pf_X8_50 X dX8_ask_2 ?_
  refine v_aloadn X dX8_ask_5 rfl rfl ?_
  refine v_iloadn X dX8_ask_6 rfl rfl ?_
  obtain ⟨rv3, gv2, qv1, h⟩ := bd2_some h
  refine v_callVI (As := [.int x1]) (rest := []) X (c_X8_isPaper l D ad cy X.2.2.2.2.2.2.2.2.1 N x1 (g3 g 10 0 0 (0 : Int32)) rv3 gv2  qv1) mw_X8_isPaper ml_X8_208 (by decide) (by decide +kernel) (by decide) rfl rfl rfl rfl (Nat.le_of_ble_eq_true rfl) dX8_ask_7 ?_
  refine v_if_eq X 23 dX8_ask_10 (by decide) (fun cv4 => ?_) (fun cv4 => ?_)
  · replace h := (if_pos cv4).symm.trans h
    refine v_ldc X kc_X8_70 dX8_ask_23 ?_
    obtain ⟨er, eg⟩ := Prod.mk.inj (Option.some.inj h)
    exact v_iret X dX8_ask_25 er eg
  · replace h := (if_neg cv4).symm.trans h
    refine v_iloadn X dX8_ask_13 rfl rfl ?_
    refine v_i2l X dX8_ask_14 ?_
    refine v_lconst (v := 0) X dX8_ask_15 (by decide) ?_
    refine v_lconst (v := 1) X dX8_ask_16 (by decide) ?_
    obtain ⟨rv7, gv6, qv5, h⟩ := bd2_some h
    refine v_callSI (As := [.long (x2.toInt64), .long (0 : Int64), .long (1 : Int64)]) (rest := []) X (c_X8_in l D ad cy X.2.2.2.2.2.2.2.2.1 N (x2.toInt64) (0 : Int64) (1 : Int64) gv2 rv7 gv6  qv5) mw_X8_in ml_X8_60 (by decide) rfl rfl (Nat.le_of_ble_eq_true rfl) dX8_ask_17 ?_
    refine v_if_ne X 26 dX8_ask_20 (by decide) (fun cv8 => ?_) (fun cv8 => ?_)
    · replace h := (if_neg cv8).symm.trans h
      refine v_aloadn X dX8_ask_26 rfl rfl ?_
      refine v_iconst (v := 0) X dX8_ask_27 (by decide) ?_
      refine pf_X8_279 X dX8_ask_28 ?_
      refine v_iloadn X dX8_ask_31 rfl rfl ?_
      refine v_if_ne X 43 dX8_ask_32 (by decide) (fun cv9 => ?_) (fun cv9 => ?_)
      · replace h := (if_neg cv9).symm.trans h
        refine v_aloadn X dX8_ask_43 rfl rfl ?_
        refine v_iloadn X dX8_ask_44 rfl rfl ?_
        obtain ⟨rv12, gv11, qv10, h⟩ := bd2_some h
        refine v_callVI (As := [.int x1]) (rest := []) X (c_X8_markOf l D ad cy X.2.2.2.2.2.2.2.2.1 N x1 (g3 gv6 10 0 24 (0 : Int32)) rv12 gv11  qv10) mw_X8_markOf ml_X8_291 (by decide) (by decide +kernel) (by decide) rfl rfl rfl rfl (Nat.le_of_ble_eq_true rfl) dX8_ask_45 ?_
        obtain ⟨er, eg⟩ := Prod.mk.inj (Option.some.inj h)
        exact v_iret X dX8_ask_48 er eg
      · replace h := (if_pos cv9).symm.trans h
        refine v_aloadn X dX8_ask_35 rfl rfl ?_
        refine v_iloadn X dX8_ask_36 rfl rfl ?_
        obtain ⟨rv15, gv14, qv13, h⟩ := bd2_some h
        refine v_callVI (As := [.int x1]) (rest := []) X (c_X8_sizeOf l D ad cy X.2.2.2.2.2.2.2.2.1 N x1 (g3 gv6 10 0 24 (0 : Int32)) rv15 gv14  qv13) mw_X8_sizeOf ml_X8_294 (by decide) (by decide +kernel) (by decide) rfl rfl rfl rfl (Nat.le_of_ble_eq_true rfl) dX8_ask_37 ?_
        refine v_goto X 48 dX8_ask_40 (by decide) ?_
        obtain ⟨er, eg⟩ := Prod.mk.inj (Option.some.inj h)
        exact v_iret X dX8_ask_48 er eg
    · replace h := (if_pos cv8).symm.trans h
      refine v_ldc X kc_X8_70 dX8_ask_23 ?_
      obtain ⟨er, eg⟩ := Prod.mk.inj (Option.some.inj h)
      exact v_iret X dX8_ask_25 er eg
def F_X8_bad (N : Nat) (x1 : Int32) (g : GS) : Option GS := if (g 10 0 17) = 0 then some (g3 (g3 g 10 0 17 x1) 10 0 18 (g 10 0 14)) else some g
set_option maxRecDepth 100000 in
set_option maxHeartbeats 4000000 in
theorem c_X8_bad (l : Launch) (D : va_G) (ad : Ky → Nat) (cy : Nat → ClassId) (hI : Inj ad) (N : Nat) (x1 : Int32) (g : GS) (gq : GS) (h : F_X8_bad N x1 g = some gq) : CtV l D ad cy yX8_bad cX8_bad 2 0 [.ref (ad (8, 0, 0)), .int x1] g gq := by
  refine CtV.of 0 hI (by decide +kernel) rfl (Nat.le_of_ble_eq_true rfl) (fun p e s m args below meth c X => ?_)
  unfold F_X8_bad at h
  show Vy _ _ _ _ _ _ _ _ _ _ _ _ _ _ _ 0 [some (.ref (ad (8, 0, 0))), some (.int x1)] [] g
  refine v_aloadn X dX8_bad_0 rfl rfl ?_
  refine gf_X8_81 X dX8_bad_1 ?_
  refine v_if_ne X 20 dX8_bad_4 (by decide) (fun cv1 => ?_) (fun cv1 => ?_)
  · replace h := (if_neg cv1).symm.trans h
    exact v_vret X dX8_bad_20 (Option.some.inj h)
  · replace h := (if_pos cv1).symm.trans h
    refine v_aloadn X dX8_bad_7 rfl rfl ?_
    refine v_iloadn X dX8_bad_8 rfl rfl ?_
    refine pf_X8_81 X dX8_bad_9 ?_
    refine v_aloadn X dX8_bad_12 rfl rfl ?_
    refine v_aloadn X dX8_bad_13 rfl rfl ?_
    refine gf_X8_84 X dX8_bad_14 ?_
    refine v_vali (v2 := (g 10 0 14)) rfl ?_
    refine pf_X8_87 X dX8_bad_17 ?_
    exact v_vret X dX8_bad_20 (Option.some.inj h)
def L_X8_nextToken_165 (N : Nat) : Nat → GS → Option (GS)
  | 0, _ => none
  | n + 1, g => if (g 10 0 12) ≤ (g 10 0 13) then some (g) else bd1 (ix (g 10 0 13) 100) (fun jv15 => bd2 (F_X8_in N ((g 11 11 jv15).toInt64) (48 : Int64) (57 : Int64) g) (fun rv19 gv18 => if rv19 = 0 then some (gv18) else if (2 : Int32) ≤ ((gv18 10 0 13) - (gv18 10 0 14)) then L_X8_nextToken_165 N n  (g3 (g3 gv18 10 0 16 (gv18 10 0 16)) 10 0 13 ((gv18 10 0 13) + (1 : Int32))) else bd1 (ix (gv18 10 0 13) 100) (fun jv22 => L_X8_nextToken_165 N n  (g3 (g3 gv18 10 0 16 ((((10 : Int32) * (gv18 10 0 16)) + (gv18 11 11 jv22)) - (48 : Int32))) 10 0 13 ((gv18 10 0 13) + (1 : Int32))))))
def F_X8_nextToken (N : Nat) (g : GS) : Option GS := if (g 10 0 12) ≤ (g 10 0 13) then if (g 10 0 13) = (g 10 0 12) then if (g 10 0 12) ≤ (g 10 0 13) then if (1 : Int32) = (3 : Int32) then bd1 (L_X8_nextToken_165 N N  (g3 (g3 (g3 (g3 (g3 g 10 0 14 (g 10 0 13)) 10 0 16 (-1000000 : Int32)) 10 0 15 (1 : Int32)) 10 0 13 ((g 10 0 13) + (0 : Int32))) 10 0 16 ((-1000000 : Int32) - (48 : Int32)))) (fun gv70 => if ((gv70 10 0 13) - (gv70 10 0 14)) ≤ (2 : Int32) then some (g3 gv70 10 0 15 (3 : Int32)) else some (g3 gv70 10 0 15 (0 : Int32))) else some (g3 (g3 (g3 (g3 g 10 0 14 (g 10 0 13)) 10 0 16 (-1000000 : Int32)) 10 0 15 (1 : Int32)) 10 0 13 ((g 10 0 13) + (0 : Int32))) else if (1 : Int32) = (3 : Int32) then bd1 (L_X8_nextToken_165 N N  (g3 (g3 (g3 (g3 (g3 g 10 0 14 (g 10 0 13)) 10 0 16 (-1000000 : Int32)) 10 0 15 (1 : Int32)) 10 0 13 ((g 10 0 13) + (1 : Int32))) 10 0 16 ((-1000000 : Int32) - (48 : Int32)))) (fun gv74 => if ((gv74 10 0 13) - (gv74 10 0 14)) ≤ (2 : Int32) then some (g3 gv74 10 0 15 (3 : Int32)) else some (g3 gv74 10 0 15 (0 : Int32))) else some (g3 (g3 (g3 (g3 g 10 0 14 (g 10 0 13)) 10 0 16 (-1000000 : Int32)) 10 0 15 (1 : Int32)) 10 0 13 ((g 10 0 13) + (1 : Int32))) else bd2 (F_X8_in N ((-1000000 : Int32).toInt64) (97 : Int64) (122 : Int64) (g3 (g3 g 10 0 14 (g 10 0 13)) 10 0 16 (-1000000 : Int32))) (fun rv5 gv4 => if rv5 = 0 then bd2 (F_X8_in N ((gv4 10 0 16).toInt64) (48 : Int64) (57 : Int64) gv4) (fun rv9 gv8 => if rv9 = 0 then if (gv8 10 0 16) = (44 : Int32) then if (gv8 10 0 12) ≤ (gv8 10 0 13) then if (4 : Int32) = (3 : Int32) then bd1 (L_X8_nextToken_165 N N  (g3 (g3 (g3 gv8 10 0 15 (4 : Int32)) 10 0 13 ((gv8 10 0 13) + (0 : Int32))) 10 0 16 ((gv8 10 0 16) - (48 : Int32)))) (fun gv24 => if ((gv24 10 0 13) - (gv24 10 0 14)) ≤ (2 : Int32) then some (g3 gv24 10 0 15 (3 : Int32)) else some (g3 gv24 10 0 15 (0 : Int32))) else some (g3 (g3 gv8 10 0 15 (4 : Int32)) 10 0 13 ((gv8 10 0 13) + (0 : Int32))) else if (4 : Int32) = (3 : Int32) then bd1 (L_X8_nextToken_165 N N  (g3 (g3 (g3 gv8 10 0 15 (4 : Int32)) 10 0 13 ((gv8 10 0 13) + (1 : Int32))) 10 0 16 ((gv8 10 0 16) - (48 : Int32)))) (fun gv28 => if ((gv28 10 0 13) - (gv28 10 0 14)) ≤ (2 : Int32) then some (g3 gv28 10 0 15 (3 : Int32)) else some (g3 gv28 10 0 15 (0 : Int32))) else some (g3 (g3 gv8 10 0 15 (4 : Int32)) 10 0 13 ((gv8 10 0 13) + (1 : Int32))) else if (gv8 10 0 16) = (59 : Int32) then if (gv8 10 0 12) ≤ (gv8 10 0 13) then if (4 : Int32) = (3 : Int32) then bd1 (L_X8_nextToken_165 N N  (g3 (g3 (g3 gv8 10 0 15 (4 : Int32)) 10 0 13 ((gv8 10 0 13) + (0 : Int32))) 10 0 16 ((gv8 10 0 16) - (48 : Int32)))) (fun gv43 => if ((gv43 10 0 13) - (gv43 10 0 14)) ≤ (2 : Int32) then some (g3 gv43 10 0 15 (3 : Int32)) else some (g3 gv43 10 0 15 (0 : Int32))) else some (g3 (g3 gv8 10 0 15 (4 : Int32)) 10 0 13 ((gv8 10 0 13) + (0 : Int32))) else if (4 : Int32) = (3 : Int32) then bd1 (L_X8_nextToken_165 N N  (g3 (g3 (g3 gv8 10 0 15 (4 : Int32)) 10 0 13 ((gv8 10 0 13) + (1 : Int32))) 10 0 16 ((gv8 10 0 16) - (48 : Int32)))) (fun gv47 => if ((gv47 10 0 13) - (gv47 10 0 14)) ≤ (2 : Int32) then some (g3 gv47 10 0 15 (3 : Int32)) else some (g3 gv47 10 0 15 (0 : Int32))) else some (g3 (g3 gv8 10 0 15 (4 : Int32)) 10 0 13 ((gv8 10 0 13) + (1 : Int32))) else if (gv8 10 0 12) ≤ (gv8 10 0 13) then if (0 : Int32) = (3 : Int32) then bd1 (L_X8_nextToken_165 N N  (g3 (g3 (g3 gv8 10 0 15 (0 : Int32)) 10 0 13 ((gv8 10 0 13) + (0 : Int32))) 10 0 16 ((gv8 10 0 16) - (48 : Int32)))) (fun gv34 => if ((gv34 10 0 13) - (gv34 10 0 14)) ≤ (2 : Int32) then some (g3 gv34 10 0 15 (3 : Int32)) else some (g3 gv34 10 0 15 (0 : Int32))) else some (g3 (g3 gv8 10 0 15 (0 : Int32)) 10 0 13 ((gv8 10 0 13) + (0 : Int32))) else if (0 : Int32) = (3 : Int32) then bd1 (L_X8_nextToken_165 N N  (g3 (g3 (g3 gv8 10 0 15 (0 : Int32)) 10 0 13 ((gv8 10 0 13) + (1 : Int32))) 10 0 16 ((gv8 10 0 16) - (48 : Int32)))) (fun gv38 => if ((gv38 10 0 13) - (gv38 10 0 14)) ≤ (2 : Int32) then some (g3 gv38 10 0 15 (3 : Int32)) else some (g3 gv38 10 0 15 (0 : Int32))) else some (g3 (g3 gv8 10 0 15 (0 : Int32)) 10 0 13 ((gv8 10 0 13) + (1 : Int32))) else if (gv8 10 0 12) ≤ (gv8 10 0 13) then if (3 : Int32) = (3 : Int32) then bd1 (L_X8_nextToken_165 N N  (g3 (g3 (g3 gv8 10 0 15 (3 : Int32)) 10 0 13 ((gv8 10 0 13) + (0 : Int32))) 10 0 16 ((gv8 10 0 16) - (48 : Int32)))) (fun gv52 => if ((gv52 10 0 13) - (gv52 10 0 14)) ≤ (2 : Int32) then some (g3 gv52 10 0 15 (3 : Int32)) else some (g3 gv52 10 0 15 (0 : Int32))) else some (g3 (g3 gv8 10 0 15 (3 : Int32)) 10 0 13 ((gv8 10 0 13) + (0 : Int32))) else if (3 : Int32) = (3 : Int32) then bd1 (L_X8_nextToken_165 N N  (g3 (g3 (g3 gv8 10 0 15 (3 : Int32)) 10 0 13 ((gv8 10 0 13) + (1 : Int32))) 10 0 16 ((gv8 10 0 16) - (48 : Int32)))) (fun gv56 => if ((gv56 10 0 13) - (gv56 10 0 14)) ≤ (2 : Int32) then some (g3 gv56 10 0 15 (3 : Int32)) else some (g3 gv56 10 0 15 (0 : Int32))) else some (g3 (g3 gv8 10 0 15 (3 : Int32)) 10 0 13 ((gv8 10 0 13) + (1 : Int32)))) else if (gv4 10 0 12) ≤ (gv4 10 0 13) then if (2 : Int32) = (3 : Int32) then bd1 (L_X8_nextToken_165 N N  (g3 (g3 (g3 gv4 10 0 15 (2 : Int32)) 10 0 13 ((gv4 10 0 13) + (0 : Int32))) 10 0 16 ((gv4 10 0 16) - (48 : Int32)))) (fun gv61 => if ((gv61 10 0 13) - (gv61 10 0 14)) ≤ (2 : Int32) then some (g3 gv61 10 0 15 (3 : Int32)) else some (g3 gv61 10 0 15 (0 : Int32))) else some (g3 (g3 gv4 10 0 15 (2 : Int32)) 10 0 13 ((gv4 10 0 13) + (0 : Int32))) else if (2 : Int32) = (3 : Int32) then bd1 (L_X8_nextToken_165 N N  (g3 (g3 (g3 gv4 10 0 15 (2 : Int32)) 10 0 13 ((gv4 10 0 13) + (1 : Int32))) 10 0 16 ((gv4 10 0 16) - (48 : Int32)))) (fun gv65 => if ((gv65 10 0 13) - (gv65 10 0 14)) ≤ (2 : Int32) then some (g3 gv65 10 0 15 (3 : Int32)) else some (g3 gv65 10 0 15 (0 : Int32))) else some (g3 (g3 gv4 10 0 15 (2 : Int32)) 10 0 13 ((gv4 10 0 13) + (1 : Int32)))) else bd1 (ix (g 10 0 13) 100) (fun jv77 => if (g 10 0 13) = (g 10 0 12) then if (g 10 0 12) ≤ (g 10 0 13) then if (1 : Int32) = (3 : Int32) then bd1 (L_X8_nextToken_165 N N  (g3 (g3 (g3 (g3 (g3 g 10 0 14 (g 10 0 13)) 10 0 16 (g 11 11 jv77)) 10 0 15 (1 : Int32)) 10 0 13 ((g 10 0 13) + (0 : Int32))) 10 0 16 ((g 11 11 jv77) - (48 : Int32)))) (fun gv137 => if ((gv137 10 0 13) - (gv137 10 0 14)) ≤ (2 : Int32) then some (g3 gv137 10 0 15 (3 : Int32)) else some (g3 gv137 10 0 15 (0 : Int32))) else some (g3 (g3 (g3 (g3 g 10 0 14 (g 10 0 13)) 10 0 16 (g 11 11 jv77)) 10 0 15 (1 : Int32)) 10 0 13 ((g 10 0 13) + (0 : Int32))) else if (1 : Int32) = (3 : Int32) then bd1 (L_X8_nextToken_165 N N  (g3 (g3 (g3 (g3 (g3 g 10 0 14 (g 10 0 13)) 10 0 16 (g 11 11 jv77)) 10 0 15 (1 : Int32)) 10 0 13 ((g 10 0 13) + (1 : Int32))) 10 0 16 ((g 11 11 jv77) - (48 : Int32)))) (fun gv141 => if ((gv141 10 0 13) - (gv141 10 0 14)) ≤ (2 : Int32) then some (g3 gv141 10 0 15 (3 : Int32)) else some (g3 gv141 10 0 15 (0 : Int32))) else some (g3 (g3 (g3 (g3 g 10 0 14 (g 10 0 13)) 10 0 16 (g 11 11 jv77)) 10 0 15 (1 : Int32)) 10 0 13 ((g 10 0 13) + (1 : Int32))) else bd2 (F_X8_in N ((g 11 11 jv77).toInt64) (97 : Int64) (122 : Int64) (g3 (g3 g 10 0 14 (g 10 0 13)) 10 0 16 (g 11 11 jv77))) (fun rv82 gv81 => if rv82 = 0 then bd2 (F_X8_in N ((gv81 10 0 16).toInt64) (48 : Int64) (57 : Int64) gv81) (fun rv86 gv85 => if rv86 = 0 then if (gv85 10 0 16) = (44 : Int32) then if (gv85 10 0 12) ≤ (gv85 10 0 13) then if (4 : Int32) = (3 : Int32) then bd1 (L_X8_nextToken_165 N N  (g3 (g3 (g3 gv85 10 0 15 (4 : Int32)) 10 0 13 ((gv85 10 0 13) + (0 : Int32))) 10 0 16 ((gv85 10 0 16) - (48 : Int32)))) (fun gv91 => if ((gv91 10 0 13) - (gv91 10 0 14)) ≤ (2 : Int32) then some (g3 gv91 10 0 15 (3 : Int32)) else some (g3 gv91 10 0 15 (0 : Int32))) else some (g3 (g3 gv85 10 0 15 (4 : Int32)) 10 0 13 ((gv85 10 0 13) + (0 : Int32))) else if (4 : Int32) = (3 : Int32) then bd1 (L_X8_nextToken_165 N N  (g3 (g3 (g3 gv85 10 0 15 (4 : Int32)) 10 0 13 ((gv85 10 0 13) + (1 : Int32))) 10 0 16 ((gv85 10 0 16) - (48 : Int32)))) (fun gv95 => if ((gv95 10 0 13) - (gv95 10 0 14)) ≤ (2 : Int32) then some (g3 gv95 10 0 15 (3 : Int32)) else some (g3 gv95 10 0 15 (0 : Int32))) else some (g3 (g3 gv85 10 0 15 (4 : Int32)) 10 0 13 ((gv85 10 0 13) + (1 : Int32))) else if (gv85 10 0 16) = (59 : Int32) then if (gv85 10 0 12) ≤ (gv85 10 0 13) then if (4 : Int32) = (3 : Int32) then bd1 (L_X8_nextToken_165 N N  (g3 (g3 (g3 gv85 10 0 15 (4 : Int32)) 10 0 13 ((gv85 10 0 13) + (0 : Int32))) 10 0 16 ((gv85 10 0 16) - (48 : Int32)))) (fun gv110 => if ((gv110 10 0 13) - (gv110 10 0 14)) ≤ (2 : Int32) then some (g3 gv110 10 0 15 (3 : Int32)) else some (g3 gv110 10 0 15 (0 : Int32))) else some (g3 (g3 gv85 10 0 15 (4 : Int32)) 10 0 13 ((gv85 10 0 13) + (0 : Int32))) else if (4 : Int32) = (3 : Int32) then bd1 (L_X8_nextToken_165 N N  (g3 (g3 (g3 gv85 10 0 15 (4 : Int32)) 10 0 13 ((gv85 10 0 13) + (1 : Int32))) 10 0 16 ((gv85 10 0 16) - (48 : Int32)))) (fun gv114 => if ((gv114 10 0 13) - (gv114 10 0 14)) ≤ (2 : Int32) then some (g3 gv114 10 0 15 (3 : Int32)) else some (g3 gv114 10 0 15 (0 : Int32))) else some (g3 (g3 gv85 10 0 15 (4 : Int32)) 10 0 13 ((gv85 10 0 13) + (1 : Int32))) else if (gv85 10 0 12) ≤ (gv85 10 0 13) then if (0 : Int32) = (3 : Int32) then bd1 (L_X8_nextToken_165 N N  (g3 (g3 (g3 gv85 10 0 15 (0 : Int32)) 10 0 13 ((gv85 10 0 13) + (0 : Int32))) 10 0 16 ((gv85 10 0 16) - (48 : Int32)))) (fun gv101 => if ((gv101 10 0 13) - (gv101 10 0 14)) ≤ (2 : Int32) then some (g3 gv101 10 0 15 (3 : Int32)) else some (g3 gv101 10 0 15 (0 : Int32))) else some (g3 (g3 gv85 10 0 15 (0 : Int32)) 10 0 13 ((gv85 10 0 13) + (0 : Int32))) else if (0 : Int32) = (3 : Int32) then bd1 (L_X8_nextToken_165 N N  (g3 (g3 (g3 gv85 10 0 15 (0 : Int32)) 10 0 13 ((gv85 10 0 13) + (1 : Int32))) 10 0 16 ((gv85 10 0 16) - (48 : Int32)))) (fun gv105 => if ((gv105 10 0 13) - (gv105 10 0 14)) ≤ (2 : Int32) then some (g3 gv105 10 0 15 (3 : Int32)) else some (g3 gv105 10 0 15 (0 : Int32))) else some (g3 (g3 gv85 10 0 15 (0 : Int32)) 10 0 13 ((gv85 10 0 13) + (1 : Int32))) else if (gv85 10 0 12) ≤ (gv85 10 0 13) then if (3 : Int32) = (3 : Int32) then bd1 (L_X8_nextToken_165 N N  (g3 (g3 (g3 gv85 10 0 15 (3 : Int32)) 10 0 13 ((gv85 10 0 13) + (0 : Int32))) 10 0 16 ((gv85 10 0 16) - (48 : Int32)))) (fun gv119 => if ((gv119 10 0 13) - (gv119 10 0 14)) ≤ (2 : Int32) then some (g3 gv119 10 0 15 (3 : Int32)) else some (g3 gv119 10 0 15 (0 : Int32))) else some (g3 (g3 gv85 10 0 15 (3 : Int32)) 10 0 13 ((gv85 10 0 13) + (0 : Int32))) else if (3 : Int32) = (3 : Int32) then bd1 (L_X8_nextToken_165 N N  (g3 (g3 (g3 gv85 10 0 15 (3 : Int32)) 10 0 13 ((gv85 10 0 13) + (1 : Int32))) 10 0 16 ((gv85 10 0 16) - (48 : Int32)))) (fun gv123 => if ((gv123 10 0 13) - (gv123 10 0 14)) ≤ (2 : Int32) then some (g3 gv123 10 0 15 (3 : Int32)) else some (g3 gv123 10 0 15 (0 : Int32))) else some (g3 (g3 gv85 10 0 15 (3 : Int32)) 10 0 13 ((gv85 10 0 13) + (1 : Int32)))) else if (gv81 10 0 12) ≤ (gv81 10 0 13) then if (2 : Int32) = (3 : Int32) then bd1 (L_X8_nextToken_165 N N  (g3 (g3 (g3 gv81 10 0 15 (2 : Int32)) 10 0 13 ((gv81 10 0 13) + (0 : Int32))) 10 0 16 ((gv81 10 0 16) - (48 : Int32)))) (fun gv128 => if ((gv128 10 0 13) - (gv128 10 0 14)) ≤ (2 : Int32) then some (g3 gv128 10 0 15 (3 : Int32)) else some (g3 gv128 10 0 15 (0 : Int32))) else some (g3 (g3 gv81 10 0 15 (2 : Int32)) 10 0 13 ((gv81 10 0 13) + (0 : Int32))) else if (2 : Int32) = (3 : Int32) then bd1 (L_X8_nextToken_165 N N  (g3 (g3 (g3 gv81 10 0 15 (2 : Int32)) 10 0 13 ((gv81 10 0 13) + (1 : Int32))) 10 0 16 ((gv81 10 0 16) - (48 : Int32)))) (fun gv132 => if ((gv132 10 0 13) - (gv132 10 0 14)) ≤ (2 : Int32) then some (g3 gv132 10 0 15 (3 : Int32)) else some (g3 gv132 10 0 15 (0 : Int32))) else some (g3 (g3 gv81 10 0 15 (2 : Int32)) 10 0 13 ((gv81 10 0 13) + (1 : Int32)))))
set_option maxRecDepth 100000 in
set_option maxHeartbeats 4000000 in
theorem w_X8_nextToken_165 {p : Program} {l : Launch} {e : Env} {s : State} {m : MethodId} {args : Array Value} {below : List Frame} {meth : Method} {c : Code} {D : va_G} {ad : Ky → Nat} {cy : Nat → ClassId} {gq : GS} {N : Nat} (X : Cx p (rmd 1) s m args meth c RX8 cX8_nextToken 1 none D ad cy) : ∀ (n : Nat)  (g : GS)  (g' : GS), L_X8_nextToken_165 N n  g = some (g') → Vy p l e (rmd 1) s m args below meth c 1 D ad cy (QV D ad cy below args s gq) 255 [some (.ref (ad (8, 0, 0)))] [] g' → Vy p l e (rmd 1) s m args below meth c 1 D ad cy (QV D ad cy below args s gq) 165 [some (.ref (ad (8, 0, 0)))] [] g := by
  intro n
  induction n with
  | zero => intro g g' h k; cases h
  | succ n ih =>
    intro g g' h k
    rw [L_X8_nextToken_165] at h
    refine v_aloadn X dX8_nextToken_165 rfl rfl ?_
    refine gf_X8_90 X dX8_nextToken_166 ?_
    refine v_aloadn X dX8_nextToken_169 rfl rfl ?_
    refine gf_X8_77 X dX8_nextToken_170 ?_
    refine v_icmp_ge X 255 dX8_nextToken_173 (by decide) (fun cv14 => ?_) (fun cv14 => ?_)
    · replace h := (if_pos cv14).symm.trans h
      cases h
      exact k
    · replace h := (if_neg cv14).symm.trans h
      refine v_aloadn X dX8_nextToken_176 rfl rfl ?_
      refine gf_X8_34 X dX8_nextToken_177 ?_
      refine v_aloadn X dX8_nextToken_180 rfl rfl ?_
      refine gf_X8_90 X dX8_nextToken_181 ?_
      obtain ⟨jv15, qv16, h⟩ := bd1_some h
      obtain ⟨ejv15, ljv15⟩ := ix_spec qv16
      refine alM X (by decide +kernel) jv15 ejv15 ljv15 dX8_nextToken_184 ?_
      refine v_i2l X dX8_nextToken_185 ?_
      refine v_ldc2 X kl_X8_101 dX8_nextToken_186 ?_
      refine v_ldc2 X kl_X8_103 dX8_nextToken_189 ?_
      obtain ⟨rv19, gv18, qv17, h⟩ := bd2_some h
      refine v_callSI (As := [.long ((g 11 11 jv15).toInt64), .long (48 : Int64), .long (57 : Int64)]) (rest := []) X (c_X8_in l D ad cy X.2.2.2.2.2.2.2.2.1 N ((g 11 11 jv15).toInt64) (48 : Int64) (57 : Int64) g rv19 gv18  qv17) mw_X8_in ml_X8_60 (by decide) rfl rfl (Nat.le_of_ble_eq_true rfl) dX8_nextToken_192 ?_
      refine v_if_eq X 255 dX8_nextToken_195 (by decide) (fun cv20 => ?_) (fun cv20 => ?_)
      · replace h := (if_pos cv20).symm.trans h
        cases h
        exact k
      · replace h := (if_neg cv20).symm.trans h
        refine v_aloadn X dX8_nextToken_198 rfl rfl ?_
        refine v_aloadn X dX8_nextToken_199 rfl rfl ?_
        refine gf_X8_90 X dX8_nextToken_200 ?_
        refine v_aloadn X dX8_nextToken_203 rfl rfl ?_
        refine gf_X8_84 X dX8_nextToken_204 ?_
        refine v_isub X dX8_nextToken_207 ?_
        refine v_iconst (v := 2) X dX8_nextToken_208 (by decide) ?_
        refine v_icmp_ge X 235 dX8_nextToken_209 (by decide) (fun cv21 => ?_) (fun cv21 => ?_)
        · replace h := (if_pos cv21).symm.trans h
          refine v_aloadn X dX8_nextToken_235 rfl rfl ?_
          refine gf_X8_94 X dX8_nextToken_236 ?_
          refine pf_X8_94 X dX8_nextToken_239 ?_
          refine v_aloadn X dX8_nextToken_242 rfl rfl ?_
          refine v_dup X dX8_nextToken_243 rfl ?_
          refine gf_X8_90 X dX8_nextToken_244 ?_
          refine v_vali (v2 := (gv18 10 0 13)) rfl ?_
          refine v_iconst (v := 1) X dX8_nextToken_247 (by decide) ?_
          refine v_iadd X dX8_nextToken_248 ?_
          refine pf_X8_90 X dX8_nextToken_249 ?_
          refine v_goto X 165 dX8_nextToken_252 (by decide) ?_
          exact ih  (g3 (g3 gv18 10 0 16 (gv18 10 0 16)) 10 0 13 ((gv18 10 0 13) + (1 : Int32))) _ h k
        · replace h := (if_neg cv21).symm.trans h
          refine v_bipush (v := 10) X dX8_nextToken_212 (by decide) ?_
          refine v_aloadn X dX8_nextToken_214 rfl rfl ?_
          refine gf_X8_94 X dX8_nextToken_215 ?_
          refine v_imul X dX8_nextToken_218 ?_
          refine v_aloadn X dX8_nextToken_219 rfl rfl ?_
          refine gf_X8_34 X dX8_nextToken_220 ?_
          refine v_aloadn X dX8_nextToken_223 rfl rfl ?_
          refine gf_X8_90 X dX8_nextToken_224 ?_
          obtain ⟨jv22, qv23, h⟩ := bd1_some h
          obtain ⟨ejv22, ljv22⟩ := ix_spec qv23
          refine alM X (by decide +kernel) jv22 ejv22 ljv22 dX8_nextToken_227 ?_
          refine v_iadd X dX8_nextToken_228 ?_
          refine v_bipush (v := 48) X dX8_nextToken_229 (by decide) ?_
          refine v_isub X dX8_nextToken_231 ?_
          refine v_goto X 239 dX8_nextToken_232 (by decide) ?_
          refine pf_X8_94 X dX8_nextToken_239 ?_
          refine v_aloadn X dX8_nextToken_242 rfl rfl ?_
          refine v_dup X dX8_nextToken_243 rfl ?_
          refine gf_X8_90 X dX8_nextToken_244 ?_
          refine v_vali (v2 := (gv18 10 0 13)) rfl ?_
          refine v_iconst (v := 1) X dX8_nextToken_247 (by decide) ?_
          refine v_iadd X dX8_nextToken_248 ?_
          refine pf_X8_90 X dX8_nextToken_249 ?_
          refine v_goto X 165 dX8_nextToken_252 (by decide) ?_
          exact ih  (g3 (g3 gv18 10 0 16 ((((10 : Int32) * (gv18 10 0 16)) + (gv18 11 11 jv22)) - (48 : Int32))) 10 0 13 ((gv18 10 0 13) + (1 : Int32))) _ h k
set_option maxRecDepth 100000 in
set_option maxHeartbeats 4000000 in
theorem c_X8_nextToken (l : Launch) (D : va_G) (ad : Ky → Nat) (cy : Nat → ClassId) (hI : Inj ad) (N : Nat) (g : GS) (gq : GS) (h : F_X8_nextToken N  g = some gq) : CtV l D ad cy yX8_nextToken cX8_nextToken 1 1 [.ref (ad (8, 0, 0))] g gq := by
  refine CtV.of 0 hI (by decide +kernel) rfl (Nat.le_of_ble_eq_true rfl) (fun p e s m args below meth c X => ?_)
  unfold F_X8_nextToken at h
  show Vy _ _ _ _ _ _ _ _ _ _ _ _ _ _ _ 0 [some (.ref (ad (8, 0, 0)))] [] g
  refine v_aloadn X dX8_nextToken_0 rfl rfl ?_
  refine v_aloadn X dX8_nextToken_1 rfl rfl ?_
  refine gf_X8_90 X dX8_nextToken_2 ?_
  refine pf_X8_84 X dX8_nextToken_5 ?_
  refine v_aloadn X dX8_nextToken_8 rfl rfl ?_
  refine v_aloadn X dX8_nextToken_9 rfl rfl ?_
  refine gf_X8_90 X dX8_nextToken_10 ?_
  refine v_vali (v2 := (g 10 0 13)) rfl ?_
  refine v_aloadn X dX8_nextToken_13 rfl rfl ?_
  refine gf_X8_77 X dX8_nextToken_14 ?_
  refine v_vali (v2 := (g 10 0 12)) rfl ?_
  refine v_icmp_ge X 32 dX8_nextToken_17 (by decide) (fun cv1 => ?_) (fun cv1 => ?_)
  · replace h := (if_pos cv1).symm.trans h
    refine v_ldc X kc_X8_93 dX8_nextToken_32 ?_
    refine pf_X8_94 X dX8_nextToken_34 ?_
    refine v_aloadn X dX8_nextToken_37 rfl rfl ?_
    refine v_aloadn X dX8_nextToken_38 rfl rfl ?_
    refine gf_X8_90 X dX8_nextToken_39 ?_
    refine v_vali (v2 := (g 10 0 13)) rfl ?_
    refine v_aloadn X dX8_nextToken_42 rfl rfl ?_
    refine gf_X8_77 X dX8_nextToken_43 ?_
    refine v_vali (v2 := (g 10 0 12)) rfl ?_
    refine v_icmp_ne X 53 dX8_nextToken_46 (by decide) (fun cv2 => ?_) (fun cv2 => ?_)
    · replace h := (if_neg cv2).symm.trans h
      refine v_aloadn X dX8_nextToken_53 rfl rfl ?_
      refine gf_X8_94 X dX8_nextToken_54 ?_
      refine v_vali (v2 := (-1000000 : Int32)) rfl ?_
      refine v_i2l X dX8_nextToken_57 ?_
      refine v_ldc2 X kl_X8_97 dX8_nextToken_58 ?_
      refine v_ldc2 X kl_X8_99 dX8_nextToken_61 ?_
      obtain ⟨rv5, gv4, qv3, h⟩ := bd2_some h
      refine v_callSI (As := [.long ((-1000000 : Int32).toInt64), .long (97 : Int64), .long (122 : Int64)]) (rest := [.ref (ad (8, 0, 0))]) X (c_X8_in l D ad cy X.2.2.2.2.2.2.2.2.1 N ((-1000000 : Int32).toInt64) (97 : Int64) (122 : Int64) (g3 (g3 g 10 0 14 (g 10 0 13)) 10 0 16 (-1000000 : Int32)) rv5 gv4  qv3) mw_X8_in ml_X8_60 (by decide) rfl rfl (Nat.le_of_ble_eq_true rfl) dX8_nextToken_64 ?_
      refine v_if_eq X 74 dX8_nextToken_67 (by decide) (fun cv6 => ?_) (fun cv6 => ?_)
      · replace h := (if_pos cv6).symm.trans h
        refine v_aloadn X dX8_nextToken_74 rfl rfl ?_
        refine gf_X8_94 X dX8_nextToken_75 ?_
        refine v_i2l X dX8_nextToken_78 ?_
        refine v_ldc2 X kl_X8_101 dX8_nextToken_79 ?_
        refine v_ldc2 X kl_X8_103 dX8_nextToken_82 ?_
        obtain ⟨rv9, gv8, qv7, h⟩ := bd2_some h
        refine v_callSI (As := [.long ((gv4 10 0 16).toInt64), .long (48 : Int64), .long (57 : Int64)]) (rest := [.ref (ad (8, 0, 0))]) X (c_X8_in l D ad cy X.2.2.2.2.2.2.2.2.1 N ((gv4 10 0 16).toInt64) (48 : Int64) (57 : Int64) gv4 rv9 gv8  qv7) mw_X8_in ml_X8_60 (by decide) rfl rfl (Nat.le_of_ble_eq_true rfl) dX8_nextToken_85 ?_
        refine v_if_eq X 95 dX8_nextToken_88 (by decide) (fun cv10 => ?_) (fun cv10 => ?_)
        · replace h := (if_pos cv10).symm.trans h
          refine v_aloadn X dX8_nextToken_95 rfl rfl ?_
          refine gf_X8_94 X dX8_nextToken_96 ?_
          refine v_bipush (v := 44) X dX8_nextToken_99 (by decide) ?_
          refine v_icmp_eq X 113 dX8_nextToken_101 (by decide) (fun cv11 => ?_) (fun cv11 => ?_)
          · replace h := (if_pos cv11).symm.trans h
            refine v_iconst (v := 4) X dX8_nextToken_113 (by decide) ?_
            refine v_goto X 118 dX8_nextToken_114 (by decide) ?_
            refine pf_X8_105 X dX8_nextToken_118 ?_
            refine v_aloadn X dX8_nextToken_121 rfl rfl ?_
            refine v_dup X dX8_nextToken_122 rfl ?_
            refine gf_X8_90 X dX8_nextToken_123 ?_
            refine v_vali (v2 := (gv8 10 0 13)) rfl ?_
            refine v_aloadn X dX8_nextToken_126 rfl rfl ?_
            refine gf_X8_90 X dX8_nextToken_127 ?_
            refine v_vali (v2 := (gv8 10 0 13)) rfl ?_
            refine v_aloadn X dX8_nextToken_130 rfl rfl ?_
            refine gf_X8_77 X dX8_nextToken_131 ?_
            refine v_vali (v2 := (gv8 10 0 12)) rfl ?_
            refine v_icmp_ge X 141 dX8_nextToken_134 (by decide) (fun cv12 => ?_) (fun cv12 => ?_)
            · replace h := (if_pos cv12).symm.trans h
              refine v_iconst (v := 0) X dX8_nextToken_141 (by decide) ?_
              refine v_iadd X dX8_nextToken_142 ?_
              refine pf_X8_90 X dX8_nextToken_143 ?_
              refine v_aloadn X dX8_nextToken_146 rfl rfl ?_
              refine gf_X8_105 X dX8_nextToken_147 ?_
              refine v_vali (v2 := (4 : Int32)) rfl ?_
              refine v_iconst (v := 3) X dX8_nextToken_150 (by decide) ?_
              refine v_icmp_ne X 277 dX8_nextToken_151 (by decide) (fun cv13 => ?_) (fun cv13 => ?_)
              · replace h := (if_neg cv13).symm.trans h
                exact v_vret X dX8_nextToken_277 (Option.some.inj h)
              · replace h := (if_pos cv13).symm.trans h
                refine v_aloadn X dX8_nextToken_154 rfl rfl ?_
                refine v_dup X dX8_nextToken_155 rfl ?_
                refine gf_X8_94 X dX8_nextToken_156 ?_
                refine v_vali (v2 := (gv8 10 0 16)) rfl ?_
                refine v_bipush (v := 48) X dX8_nextToken_159 (by decide) ?_
                refine v_isub X dX8_nextToken_161 ?_
                refine pf_X8_94 X dX8_nextToken_162 ?_
                obtain ⟨gv24, qv25, h⟩ := bd1_some h
                refine w_X8_nextToken_165 X  N  (g3 (g3 (g3 gv8 10 0 15 (4 : Int32)) 10 0 13 ((gv8 10 0 13) + (0 : Int32))) 10 0 16 ((gv8 10 0 16) - (48 : Int32))) gv24 qv25 ?_
                refine v_aloadn X dX8_nextToken_255 rfl rfl ?_
                refine v_aloadn X dX8_nextToken_256 rfl rfl ?_
                refine gf_X8_90 X dX8_nextToken_257 ?_
                refine v_aloadn X dX8_nextToken_260 rfl rfl ?_
                refine gf_X8_84 X dX8_nextToken_261 ?_
                refine v_isub X dX8_nextToken_264 ?_
                refine v_iconst (v := 2) X dX8_nextToken_265 (by decide) ?_
                refine v_icmp_le X 273 dX8_nextToken_266 (by decide) (fun cv26 => ?_) (fun cv26 => ?_)
                · replace h := (if_pos cv26).symm.trans h
                  refine v_iconst (v := 3) X dX8_nextToken_273 (by decide) ?_
                  refine pf_X8_105 X dX8_nextToken_274 ?_
                  exact v_vret X dX8_nextToken_277 (Option.some.inj h)
                · replace h := (if_neg cv26).symm.trans h
                  refine v_iconst (v := 0) X dX8_nextToken_269 (by decide) ?_
                  refine v_goto X 274 dX8_nextToken_270 (by decide) ?_
                  refine pf_X8_105 X dX8_nextToken_274 ?_
                  exact v_vret X dX8_nextToken_277 (Option.some.inj h)
            · replace h := (if_neg cv12).symm.trans h
              refine v_iconst (v := 1) X dX8_nextToken_137 (by decide) ?_
              refine v_goto X 142 dX8_nextToken_138 (by decide) ?_
              refine v_iadd X dX8_nextToken_142 ?_
              refine pf_X8_90 X dX8_nextToken_143 ?_
              refine v_aloadn X dX8_nextToken_146 rfl rfl ?_
              refine gf_X8_105 X dX8_nextToken_147 ?_
              refine v_vali (v2 := (4 : Int32)) rfl ?_
              refine v_iconst (v := 3) X dX8_nextToken_150 (by decide) ?_
              refine v_icmp_ne X 277 dX8_nextToken_151 (by decide) (fun cv27 => ?_) (fun cv27 => ?_)
              · replace h := (if_neg cv27).symm.trans h
                exact v_vret X dX8_nextToken_277 (Option.some.inj h)
              · replace h := (if_pos cv27).symm.trans h
                refine v_aloadn X dX8_nextToken_154 rfl rfl ?_
                refine v_dup X dX8_nextToken_155 rfl ?_
                refine gf_X8_94 X dX8_nextToken_156 ?_
                refine v_vali (v2 := (gv8 10 0 16)) rfl ?_
                refine v_bipush (v := 48) X dX8_nextToken_159 (by decide) ?_
                refine v_isub X dX8_nextToken_161 ?_
                refine pf_X8_94 X dX8_nextToken_162 ?_
                obtain ⟨gv28, qv29, h⟩ := bd1_some h
                refine w_X8_nextToken_165 X  N  (g3 (g3 (g3 gv8 10 0 15 (4 : Int32)) 10 0 13 ((gv8 10 0 13) + (1 : Int32))) 10 0 16 ((gv8 10 0 16) - (48 : Int32))) gv28 qv29 ?_
                refine v_aloadn X dX8_nextToken_255 rfl rfl ?_
                refine v_aloadn X dX8_nextToken_256 rfl rfl ?_
                refine gf_X8_90 X dX8_nextToken_257 ?_
                refine v_aloadn X dX8_nextToken_260 rfl rfl ?_
                refine gf_X8_84 X dX8_nextToken_261 ?_
                refine v_isub X dX8_nextToken_264 ?_
                refine v_iconst (v := 2) X dX8_nextToken_265 (by decide) ?_
                refine v_icmp_le X 273 dX8_nextToken_266 (by decide) (fun cv30 => ?_) (fun cv30 => ?_)
                · replace h := (if_pos cv30).symm.trans h
                  refine v_iconst (v := 3) X dX8_nextToken_273 (by decide) ?_
                  refine pf_X8_105 X dX8_nextToken_274 ?_
                  exact v_vret X dX8_nextToken_277 (Option.some.inj h)
                · replace h := (if_neg cv30).symm.trans h
                  refine v_iconst (v := 0) X dX8_nextToken_269 (by decide) ?_
                  refine v_goto X 274 dX8_nextToken_270 (by decide) ?_
                  refine pf_X8_105 X dX8_nextToken_274 ?_
                  exact v_vret X dX8_nextToken_277 (Option.some.inj h)
          · replace h := (if_neg cv11).symm.trans h
            refine v_aloadn X dX8_nextToken_104 rfl rfl ?_
            refine gf_X8_94 X dX8_nextToken_105 ?_
            refine v_bipush (v := 59) X dX8_nextToken_108 (by decide) ?_
            refine v_icmp_ne X 117 dX8_nextToken_110 (by decide) (fun cv31 => ?_) (fun cv31 => ?_)
            · replace h := (if_neg cv31).symm.trans h
              refine v_iconst (v := 0) X dX8_nextToken_117 (by decide) ?_
              refine pf_X8_105 X dX8_nextToken_118 ?_
              refine v_aloadn X dX8_nextToken_121 rfl rfl ?_
              refine v_dup X dX8_nextToken_122 rfl ?_
              refine gf_X8_90 X dX8_nextToken_123 ?_
              refine v_vali (v2 := (gv8 10 0 13)) rfl ?_
              refine v_aloadn X dX8_nextToken_126 rfl rfl ?_
              refine gf_X8_90 X dX8_nextToken_127 ?_
              refine v_vali (v2 := (gv8 10 0 13)) rfl ?_
              refine v_aloadn X dX8_nextToken_130 rfl rfl ?_
              refine gf_X8_77 X dX8_nextToken_131 ?_
              refine v_vali (v2 := (gv8 10 0 12)) rfl ?_
              refine v_icmp_ge X 141 dX8_nextToken_134 (by decide) (fun cv32 => ?_) (fun cv32 => ?_)
              · replace h := (if_pos cv32).symm.trans h
                refine v_iconst (v := 0) X dX8_nextToken_141 (by decide) ?_
                refine v_iadd X dX8_nextToken_142 ?_
                refine pf_X8_90 X dX8_nextToken_143 ?_
                refine v_aloadn X dX8_nextToken_146 rfl rfl ?_
                refine gf_X8_105 X dX8_nextToken_147 ?_
                refine v_vali (v2 := (0 : Int32)) rfl ?_
                refine v_iconst (v := 3) X dX8_nextToken_150 (by decide) ?_
                refine v_icmp_ne X 277 dX8_nextToken_151 (by decide) (fun cv33 => ?_) (fun cv33 => ?_)
                · replace h := (if_neg cv33).symm.trans h
                  exact v_vret X dX8_nextToken_277 (Option.some.inj h)
                · replace h := (if_pos cv33).symm.trans h
                  refine v_aloadn X dX8_nextToken_154 rfl rfl ?_
                  refine v_dup X dX8_nextToken_155 rfl ?_
                  refine gf_X8_94 X dX8_nextToken_156 ?_
                  refine v_vali (v2 := (gv8 10 0 16)) rfl ?_
                  refine v_bipush (v := 48) X dX8_nextToken_159 (by decide) ?_
                  refine v_isub X dX8_nextToken_161 ?_
                  refine pf_X8_94 X dX8_nextToken_162 ?_
                  obtain ⟨gv34, qv35, h⟩ := bd1_some h
                  refine w_X8_nextToken_165 X  N  (g3 (g3 (g3 gv8 10 0 15 (0 : Int32)) 10 0 13 ((gv8 10 0 13) + (0 : Int32))) 10 0 16 ((gv8 10 0 16) - (48 : Int32))) gv34 qv35 ?_
                  refine v_aloadn X dX8_nextToken_255 rfl rfl ?_
                  refine v_aloadn X dX8_nextToken_256 rfl rfl ?_
                  refine gf_X8_90 X dX8_nextToken_257 ?_
                  refine v_aloadn X dX8_nextToken_260 rfl rfl ?_
                  refine gf_X8_84 X dX8_nextToken_261 ?_
                  refine v_isub X dX8_nextToken_264 ?_
                  refine v_iconst (v := 2) X dX8_nextToken_265 (by decide) ?_
                  refine v_icmp_le X 273 dX8_nextToken_266 (by decide) (fun cv36 => ?_) (fun cv36 => ?_)
                  · replace h := (if_pos cv36).symm.trans h
                    refine v_iconst (v := 3) X dX8_nextToken_273 (by decide) ?_
                    refine pf_X8_105 X dX8_nextToken_274 ?_
                    exact v_vret X dX8_nextToken_277 (Option.some.inj h)
                  · replace h := (if_neg cv36).symm.trans h
                    refine v_iconst (v := 0) X dX8_nextToken_269 (by decide) ?_
                    refine v_goto X 274 dX8_nextToken_270 (by decide) ?_
                    refine pf_X8_105 X dX8_nextToken_274 ?_
                    exact v_vret X dX8_nextToken_277 (Option.some.inj h)
              · replace h := (if_neg cv32).symm.trans h
                refine v_iconst (v := 1) X dX8_nextToken_137 (by decide) ?_
                refine v_goto X 142 dX8_nextToken_138 (by decide) ?_
                refine v_iadd X dX8_nextToken_142 ?_
                refine pf_X8_90 X dX8_nextToken_143 ?_
                refine v_aloadn X dX8_nextToken_146 rfl rfl ?_
                refine gf_X8_105 X dX8_nextToken_147 ?_
                refine v_vali (v2 := (0 : Int32)) rfl ?_
                refine v_iconst (v := 3) X dX8_nextToken_150 (by decide) ?_
                refine v_icmp_ne X 277 dX8_nextToken_151 (by decide) (fun cv37 => ?_) (fun cv37 => ?_)
                · replace h := (if_neg cv37).symm.trans h
                  exact v_vret X dX8_nextToken_277 (Option.some.inj h)
                · replace h := (if_pos cv37).symm.trans h
                  refine v_aloadn X dX8_nextToken_154 rfl rfl ?_
                  refine v_dup X dX8_nextToken_155 rfl ?_
                  refine gf_X8_94 X dX8_nextToken_156 ?_
                  refine v_vali (v2 := (gv8 10 0 16)) rfl ?_
                  refine v_bipush (v := 48) X dX8_nextToken_159 (by decide) ?_
                  refine v_isub X dX8_nextToken_161 ?_
                  refine pf_X8_94 X dX8_nextToken_162 ?_
                  obtain ⟨gv38, qv39, h⟩ := bd1_some h
                  refine w_X8_nextToken_165 X  N  (g3 (g3 (g3 gv8 10 0 15 (0 : Int32)) 10 0 13 ((gv8 10 0 13) + (1 : Int32))) 10 0 16 ((gv8 10 0 16) - (48 : Int32))) gv38 qv39 ?_
                  refine v_aloadn X dX8_nextToken_255 rfl rfl ?_
                  refine v_aloadn X dX8_nextToken_256 rfl rfl ?_
                  refine gf_X8_90 X dX8_nextToken_257 ?_
                  refine v_aloadn X dX8_nextToken_260 rfl rfl ?_
                  refine gf_X8_84 X dX8_nextToken_261 ?_
                  refine v_isub X dX8_nextToken_264 ?_
                  refine v_iconst (v := 2) X dX8_nextToken_265 (by decide) ?_
                  refine v_icmp_le X 273 dX8_nextToken_266 (by decide) (fun cv40 => ?_) (fun cv40 => ?_)
                  · replace h := (if_pos cv40).symm.trans h
                    refine v_iconst (v := 3) X dX8_nextToken_273 (by decide) ?_
                    refine pf_X8_105 X dX8_nextToken_274 ?_
                    exact v_vret X dX8_nextToken_277 (Option.some.inj h)
                  · replace h := (if_neg cv40).symm.trans h
                    refine v_iconst (v := 0) X dX8_nextToken_269 (by decide) ?_
                    refine v_goto X 274 dX8_nextToken_270 (by decide) ?_
                    refine pf_X8_105 X dX8_nextToken_274 ?_
                    exact v_vret X dX8_nextToken_277 (Option.some.inj h)
            · replace h := (if_pos cv31).symm.trans h
              refine v_iconst (v := 4) X dX8_nextToken_113 (by decide) ?_
              refine v_goto X 118 dX8_nextToken_114 (by decide) ?_
              refine pf_X8_105 X dX8_nextToken_118 ?_
              refine v_aloadn X dX8_nextToken_121 rfl rfl ?_
              refine v_dup X dX8_nextToken_122 rfl ?_
              refine gf_X8_90 X dX8_nextToken_123 ?_
              refine v_vali (v2 := (gv8 10 0 13)) rfl ?_
              refine v_aloadn X dX8_nextToken_126 rfl rfl ?_
              refine gf_X8_90 X dX8_nextToken_127 ?_
              refine v_vali (v2 := (gv8 10 0 13)) rfl ?_
              refine v_aloadn X dX8_nextToken_130 rfl rfl ?_
              refine gf_X8_77 X dX8_nextToken_131 ?_
              refine v_vali (v2 := (gv8 10 0 12)) rfl ?_
              refine v_icmp_ge X 141 dX8_nextToken_134 (by decide) (fun cv41 => ?_) (fun cv41 => ?_)
              · replace h := (if_pos cv41).symm.trans h
                refine v_iconst (v := 0) X dX8_nextToken_141 (by decide) ?_
                refine v_iadd X dX8_nextToken_142 ?_
                refine pf_X8_90 X dX8_nextToken_143 ?_
                refine v_aloadn X dX8_nextToken_146 rfl rfl ?_
                refine gf_X8_105 X dX8_nextToken_147 ?_
                refine v_vali (v2 := (4 : Int32)) rfl ?_
                refine v_iconst (v := 3) X dX8_nextToken_150 (by decide) ?_
                refine v_icmp_ne X 277 dX8_nextToken_151 (by decide) (fun cv42 => ?_) (fun cv42 => ?_)
                · replace h := (if_neg cv42).symm.trans h
                  exact v_vret X dX8_nextToken_277 (Option.some.inj h)
                · replace h := (if_pos cv42).symm.trans h
                  refine v_aloadn X dX8_nextToken_154 rfl rfl ?_
                  refine v_dup X dX8_nextToken_155 rfl ?_
                  refine gf_X8_94 X dX8_nextToken_156 ?_
                  refine v_vali (v2 := (gv8 10 0 16)) rfl ?_
                  refine v_bipush (v := 48) X dX8_nextToken_159 (by decide) ?_
                  refine v_isub X dX8_nextToken_161 ?_
                  refine pf_X8_94 X dX8_nextToken_162 ?_
                  obtain ⟨gv43, qv44, h⟩ := bd1_some h
                  refine w_X8_nextToken_165 X  N  (g3 (g3 (g3 gv8 10 0 15 (4 : Int32)) 10 0 13 ((gv8 10 0 13) + (0 : Int32))) 10 0 16 ((gv8 10 0 16) - (48 : Int32))) gv43 qv44 ?_
                  refine v_aloadn X dX8_nextToken_255 rfl rfl ?_
                  refine v_aloadn X dX8_nextToken_256 rfl rfl ?_
                  refine gf_X8_90 X dX8_nextToken_257 ?_
                  refine v_aloadn X dX8_nextToken_260 rfl rfl ?_
                  refine gf_X8_84 X dX8_nextToken_261 ?_
                  refine v_isub X dX8_nextToken_264 ?_
                  refine v_iconst (v := 2) X dX8_nextToken_265 (by decide) ?_
                  refine v_icmp_le X 273 dX8_nextToken_266 (by decide) (fun cv45 => ?_) (fun cv45 => ?_)
                  · replace h := (if_pos cv45).symm.trans h
                    refine v_iconst (v := 3) X dX8_nextToken_273 (by decide) ?_
                    refine pf_X8_105 X dX8_nextToken_274 ?_
                    exact v_vret X dX8_nextToken_277 (Option.some.inj h)
                  · replace h := (if_neg cv45).symm.trans h
                    refine v_iconst (v := 0) X dX8_nextToken_269 (by decide) ?_
                    refine v_goto X 274 dX8_nextToken_270 (by decide) ?_
                    refine pf_X8_105 X dX8_nextToken_274 ?_
                    exact v_vret X dX8_nextToken_277 (Option.some.inj h)
              · replace h := (if_neg cv41).symm.trans h
                refine v_iconst (v := 1) X dX8_nextToken_137 (by decide) ?_
                refine v_goto X 142 dX8_nextToken_138 (by decide) ?_
                refine v_iadd X dX8_nextToken_142 ?_
                refine pf_X8_90 X dX8_nextToken_143 ?_
                refine v_aloadn X dX8_nextToken_146 rfl rfl ?_
                refine gf_X8_105 X dX8_nextToken_147 ?_
                refine v_vali (v2 := (4 : Int32)) rfl ?_
                refine v_iconst (v := 3) X dX8_nextToken_150 (by decide) ?_
                refine v_icmp_ne X 277 dX8_nextToken_151 (by decide) (fun cv46 => ?_) (fun cv46 => ?_)
                · replace h := (if_neg cv46).symm.trans h
                  exact v_vret X dX8_nextToken_277 (Option.some.inj h)
                · replace h := (if_pos cv46).symm.trans h
                  refine v_aloadn X dX8_nextToken_154 rfl rfl ?_
                  refine v_dup X dX8_nextToken_155 rfl ?_
                  refine gf_X8_94 X dX8_nextToken_156 ?_
                  refine v_vali (v2 := (gv8 10 0 16)) rfl ?_
                  refine v_bipush (v := 48) X dX8_nextToken_159 (by decide) ?_
                  refine v_isub X dX8_nextToken_161 ?_
                  refine pf_X8_94 X dX8_nextToken_162 ?_
                  obtain ⟨gv47, qv48, h⟩ := bd1_some h
                  refine w_X8_nextToken_165 X  N  (g3 (g3 (g3 gv8 10 0 15 (4 : Int32)) 10 0 13 ((gv8 10 0 13) + (1 : Int32))) 10 0 16 ((gv8 10 0 16) - (48 : Int32))) gv47 qv48 ?_
                  refine v_aloadn X dX8_nextToken_255 rfl rfl ?_
                  refine v_aloadn X dX8_nextToken_256 rfl rfl ?_
                  refine gf_X8_90 X dX8_nextToken_257 ?_
                  refine v_aloadn X dX8_nextToken_260 rfl rfl ?_
                  refine gf_X8_84 X dX8_nextToken_261 ?_
                  refine v_isub X dX8_nextToken_264 ?_
                  refine v_iconst (v := 2) X dX8_nextToken_265 (by decide) ?_
                  refine v_icmp_le X 273 dX8_nextToken_266 (by decide) (fun cv49 => ?_) (fun cv49 => ?_)
                  · replace h := (if_pos cv49).symm.trans h
                    refine v_iconst (v := 3) X dX8_nextToken_273 (by decide) ?_
                    refine pf_X8_105 X dX8_nextToken_274 ?_
                    exact v_vret X dX8_nextToken_277 (Option.some.inj h)
                  · replace h := (if_neg cv49).symm.trans h
                    refine v_iconst (v := 0) X dX8_nextToken_269 (by decide) ?_
                    refine v_goto X 274 dX8_nextToken_270 (by decide) ?_
                    refine pf_X8_105 X dX8_nextToken_274 ?_
                    exact v_vret X dX8_nextToken_277 (Option.some.inj h)
        · replace h := (if_neg cv10).symm.trans h
          refine v_iconst (v := 3) X dX8_nextToken_91 (by decide) ?_
          refine v_goto X 118 dX8_nextToken_92 (by decide) ?_
          refine pf_X8_105 X dX8_nextToken_118 ?_
          refine v_aloadn X dX8_nextToken_121 rfl rfl ?_
          refine v_dup X dX8_nextToken_122 rfl ?_
          refine gf_X8_90 X dX8_nextToken_123 ?_
          refine v_vali (v2 := (gv8 10 0 13)) rfl ?_
          refine v_aloadn X dX8_nextToken_126 rfl rfl ?_
          refine gf_X8_90 X dX8_nextToken_127 ?_
          refine v_vali (v2 := (gv8 10 0 13)) rfl ?_
          refine v_aloadn X dX8_nextToken_130 rfl rfl ?_
          refine gf_X8_77 X dX8_nextToken_131 ?_
          refine v_vali (v2 := (gv8 10 0 12)) rfl ?_
          refine v_icmp_ge X 141 dX8_nextToken_134 (by decide) (fun cv50 => ?_) (fun cv50 => ?_)
          · replace h := (if_pos cv50).symm.trans h
            refine v_iconst (v := 0) X dX8_nextToken_141 (by decide) ?_
            refine v_iadd X dX8_nextToken_142 ?_
            refine pf_X8_90 X dX8_nextToken_143 ?_
            refine v_aloadn X dX8_nextToken_146 rfl rfl ?_
            refine gf_X8_105 X dX8_nextToken_147 ?_
            refine v_vali (v2 := (3 : Int32)) rfl ?_
            refine v_iconst (v := 3) X dX8_nextToken_150 (by decide) ?_
            refine v_icmp_ne X 277 dX8_nextToken_151 (by decide) (fun cv51 => ?_) (fun cv51 => ?_)
            · replace h := (if_neg cv51).symm.trans h
              exact v_vret X dX8_nextToken_277 (Option.some.inj h)
            · replace h := (if_pos cv51).symm.trans h
              refine v_aloadn X dX8_nextToken_154 rfl rfl ?_
              refine v_dup X dX8_nextToken_155 rfl ?_
              refine gf_X8_94 X dX8_nextToken_156 ?_
              refine v_vali (v2 := (gv8 10 0 16)) rfl ?_
              refine v_bipush (v := 48) X dX8_nextToken_159 (by decide) ?_
              refine v_isub X dX8_nextToken_161 ?_
              refine pf_X8_94 X dX8_nextToken_162 ?_
              obtain ⟨gv52, qv53, h⟩ := bd1_some h
              refine w_X8_nextToken_165 X  N  (g3 (g3 (g3 gv8 10 0 15 (3 : Int32)) 10 0 13 ((gv8 10 0 13) + (0 : Int32))) 10 0 16 ((gv8 10 0 16) - (48 : Int32))) gv52 qv53 ?_
              refine v_aloadn X dX8_nextToken_255 rfl rfl ?_
              refine v_aloadn X dX8_nextToken_256 rfl rfl ?_
              refine gf_X8_90 X dX8_nextToken_257 ?_
              refine v_aloadn X dX8_nextToken_260 rfl rfl ?_
              refine gf_X8_84 X dX8_nextToken_261 ?_
              refine v_isub X dX8_nextToken_264 ?_
              refine v_iconst (v := 2) X dX8_nextToken_265 (by decide) ?_
              refine v_icmp_le X 273 dX8_nextToken_266 (by decide) (fun cv54 => ?_) (fun cv54 => ?_)
              · replace h := (if_pos cv54).symm.trans h
                refine v_iconst (v := 3) X dX8_nextToken_273 (by decide) ?_
                refine pf_X8_105 X dX8_nextToken_274 ?_
                exact v_vret X dX8_nextToken_277 (Option.some.inj h)
              · replace h := (if_neg cv54).symm.trans h
                refine v_iconst (v := 0) X dX8_nextToken_269 (by decide) ?_
                refine v_goto X 274 dX8_nextToken_270 (by decide) ?_
                refine pf_X8_105 X dX8_nextToken_274 ?_
                exact v_vret X dX8_nextToken_277 (Option.some.inj h)
          · replace h := (if_neg cv50).symm.trans h
            refine v_iconst (v := 1) X dX8_nextToken_137 (by decide) ?_
            refine v_goto X 142 dX8_nextToken_138 (by decide) ?_
            refine v_iadd X dX8_nextToken_142 ?_
            refine pf_X8_90 X dX8_nextToken_143 ?_
            refine v_aloadn X dX8_nextToken_146 rfl rfl ?_
            refine gf_X8_105 X dX8_nextToken_147 ?_
            refine v_vali (v2 := (3 : Int32)) rfl ?_
            refine v_iconst (v := 3) X dX8_nextToken_150 (by decide) ?_
            refine v_icmp_ne X 277 dX8_nextToken_151 (by decide) (fun cv55 => ?_) (fun cv55 => ?_)
            · replace h := (if_neg cv55).symm.trans h
              exact v_vret X dX8_nextToken_277 (Option.some.inj h)
            · replace h := (if_pos cv55).symm.trans h
              refine v_aloadn X dX8_nextToken_154 rfl rfl ?_
              refine v_dup X dX8_nextToken_155 rfl ?_
              refine gf_X8_94 X dX8_nextToken_156 ?_
              refine v_vali (v2 := (gv8 10 0 16)) rfl ?_
              refine v_bipush (v := 48) X dX8_nextToken_159 (by decide) ?_
              refine v_isub X dX8_nextToken_161 ?_
              refine pf_X8_94 X dX8_nextToken_162 ?_
              obtain ⟨gv56, qv57, h⟩ := bd1_some h
              refine w_X8_nextToken_165 X  N  (g3 (g3 (g3 gv8 10 0 15 (3 : Int32)) 10 0 13 ((gv8 10 0 13) + (1 : Int32))) 10 0 16 ((gv8 10 0 16) - (48 : Int32))) gv56 qv57 ?_
              refine v_aloadn X dX8_nextToken_255 rfl rfl ?_
              refine v_aloadn X dX8_nextToken_256 rfl rfl ?_
              refine gf_X8_90 X dX8_nextToken_257 ?_
              refine v_aloadn X dX8_nextToken_260 rfl rfl ?_
              refine gf_X8_84 X dX8_nextToken_261 ?_
              refine v_isub X dX8_nextToken_264 ?_
              refine v_iconst (v := 2) X dX8_nextToken_265 (by decide) ?_
              refine v_icmp_le X 273 dX8_nextToken_266 (by decide) (fun cv58 => ?_) (fun cv58 => ?_)
              · replace h := (if_pos cv58).symm.trans h
                refine v_iconst (v := 3) X dX8_nextToken_273 (by decide) ?_
                refine pf_X8_105 X dX8_nextToken_274 ?_
                exact v_vret X dX8_nextToken_277 (Option.some.inj h)
              · replace h := (if_neg cv58).symm.trans h
                refine v_iconst (v := 0) X dX8_nextToken_269 (by decide) ?_
                refine v_goto X 274 dX8_nextToken_270 (by decide) ?_
                refine pf_X8_105 X dX8_nextToken_274 ?_
                exact v_vret X dX8_nextToken_277 (Option.some.inj h)
      · replace h := (if_neg cv6).symm.trans h
        refine v_iconst (v := 2) X dX8_nextToken_70 (by decide) ?_
        refine v_goto X 118 dX8_nextToken_71 (by decide) ?_
        refine pf_X8_105 X dX8_nextToken_118 ?_
        refine v_aloadn X dX8_nextToken_121 rfl rfl ?_
        refine v_dup X dX8_nextToken_122 rfl ?_
        refine gf_X8_90 X dX8_nextToken_123 ?_
        refine v_vali (v2 := (gv4 10 0 13)) rfl ?_
        refine v_aloadn X dX8_nextToken_126 rfl rfl ?_
        refine gf_X8_90 X dX8_nextToken_127 ?_
        refine v_vali (v2 := (gv4 10 0 13)) rfl ?_
        refine v_aloadn X dX8_nextToken_130 rfl rfl ?_
        refine gf_X8_77 X dX8_nextToken_131 ?_
        refine v_vali (v2 := (gv4 10 0 12)) rfl ?_
        refine v_icmp_ge X 141 dX8_nextToken_134 (by decide) (fun cv59 => ?_) (fun cv59 => ?_)
        · replace h := (if_pos cv59).symm.trans h
          refine v_iconst (v := 0) X dX8_nextToken_141 (by decide) ?_
          refine v_iadd X dX8_nextToken_142 ?_
          refine pf_X8_90 X dX8_nextToken_143 ?_
          refine v_aloadn X dX8_nextToken_146 rfl rfl ?_
          refine gf_X8_105 X dX8_nextToken_147 ?_
          refine v_vali (v2 := (2 : Int32)) rfl ?_
          refine v_iconst (v := 3) X dX8_nextToken_150 (by decide) ?_
          refine v_icmp_ne X 277 dX8_nextToken_151 (by decide) (fun cv60 => ?_) (fun cv60 => ?_)
          · replace h := (if_neg cv60).symm.trans h
            exact v_vret X dX8_nextToken_277 (Option.some.inj h)
          · replace h := (if_pos cv60).symm.trans h
            refine v_aloadn X dX8_nextToken_154 rfl rfl ?_
            refine v_dup X dX8_nextToken_155 rfl ?_
            refine gf_X8_94 X dX8_nextToken_156 ?_
            refine v_vali (v2 := (gv4 10 0 16)) rfl ?_
            refine v_bipush (v := 48) X dX8_nextToken_159 (by decide) ?_
            refine v_isub X dX8_nextToken_161 ?_
            refine pf_X8_94 X dX8_nextToken_162 ?_
            obtain ⟨gv61, qv62, h⟩ := bd1_some h
            refine w_X8_nextToken_165 X  N  (g3 (g3 (g3 gv4 10 0 15 (2 : Int32)) 10 0 13 ((gv4 10 0 13) + (0 : Int32))) 10 0 16 ((gv4 10 0 16) - (48 : Int32))) gv61 qv62 ?_
            refine v_aloadn X dX8_nextToken_255 rfl rfl ?_
            refine v_aloadn X dX8_nextToken_256 rfl rfl ?_
            refine gf_X8_90 X dX8_nextToken_257 ?_
            refine v_aloadn X dX8_nextToken_260 rfl rfl ?_
            refine gf_X8_84 X dX8_nextToken_261 ?_
            refine v_isub X dX8_nextToken_264 ?_
            refine v_iconst (v := 2) X dX8_nextToken_265 (by decide) ?_
            refine v_icmp_le X 273 dX8_nextToken_266 (by decide) (fun cv63 => ?_) (fun cv63 => ?_)
            · replace h := (if_pos cv63).symm.trans h
              refine v_iconst (v := 3) X dX8_nextToken_273 (by decide) ?_
              refine pf_X8_105 X dX8_nextToken_274 ?_
              exact v_vret X dX8_nextToken_277 (Option.some.inj h)
            · replace h := (if_neg cv63).symm.trans h
              refine v_iconst (v := 0) X dX8_nextToken_269 (by decide) ?_
              refine v_goto X 274 dX8_nextToken_270 (by decide) ?_
              refine pf_X8_105 X dX8_nextToken_274 ?_
              exact v_vret X dX8_nextToken_277 (Option.some.inj h)
        · replace h := (if_neg cv59).symm.trans h
          refine v_iconst (v := 1) X dX8_nextToken_137 (by decide) ?_
          refine v_goto X 142 dX8_nextToken_138 (by decide) ?_
          refine v_iadd X dX8_nextToken_142 ?_
          refine pf_X8_90 X dX8_nextToken_143 ?_
          refine v_aloadn X dX8_nextToken_146 rfl rfl ?_
          refine gf_X8_105 X dX8_nextToken_147 ?_
          refine v_vali (v2 := (2 : Int32)) rfl ?_
          refine v_iconst (v := 3) X dX8_nextToken_150 (by decide) ?_
          refine v_icmp_ne X 277 dX8_nextToken_151 (by decide) (fun cv64 => ?_) (fun cv64 => ?_)
          · replace h := (if_neg cv64).symm.trans h
            exact v_vret X dX8_nextToken_277 (Option.some.inj h)
          · replace h := (if_pos cv64).symm.trans h
            refine v_aloadn X dX8_nextToken_154 rfl rfl ?_
            refine v_dup X dX8_nextToken_155 rfl ?_
            refine gf_X8_94 X dX8_nextToken_156 ?_
            refine v_vali (v2 := (gv4 10 0 16)) rfl ?_
            refine v_bipush (v := 48) X dX8_nextToken_159 (by decide) ?_
            refine v_isub X dX8_nextToken_161 ?_
            refine pf_X8_94 X dX8_nextToken_162 ?_
            obtain ⟨gv65, qv66, h⟩ := bd1_some h
            refine w_X8_nextToken_165 X  N  (g3 (g3 (g3 gv4 10 0 15 (2 : Int32)) 10 0 13 ((gv4 10 0 13) + (1 : Int32))) 10 0 16 ((gv4 10 0 16) - (48 : Int32))) gv65 qv66 ?_
            refine v_aloadn X dX8_nextToken_255 rfl rfl ?_
            refine v_aloadn X dX8_nextToken_256 rfl rfl ?_
            refine gf_X8_90 X dX8_nextToken_257 ?_
            refine v_aloadn X dX8_nextToken_260 rfl rfl ?_
            refine gf_X8_84 X dX8_nextToken_261 ?_
            refine v_isub X dX8_nextToken_264 ?_
            refine v_iconst (v := 2) X dX8_nextToken_265 (by decide) ?_
            refine v_icmp_le X 273 dX8_nextToken_266 (by decide) (fun cv67 => ?_) (fun cv67 => ?_)
            · replace h := (if_pos cv67).symm.trans h
              refine v_iconst (v := 3) X dX8_nextToken_273 (by decide) ?_
              refine pf_X8_105 X dX8_nextToken_274 ?_
              exact v_vret X dX8_nextToken_277 (Option.some.inj h)
            · replace h := (if_neg cv67).symm.trans h
              refine v_iconst (v := 0) X dX8_nextToken_269 (by decide) ?_
              refine v_goto X 274 dX8_nextToken_270 (by decide) ?_
              refine pf_X8_105 X dX8_nextToken_274 ?_
              exact v_vret X dX8_nextToken_277 (Option.some.inj h)
    · replace h := (if_pos cv2).symm.trans h
      refine v_iconst (v := 1) X dX8_nextToken_49 (by decide) ?_
      refine v_goto X 118 dX8_nextToken_50 (by decide) ?_
      refine pf_X8_105 X dX8_nextToken_118 ?_
      refine v_aloadn X dX8_nextToken_121 rfl rfl ?_
      refine v_dup X dX8_nextToken_122 rfl ?_
      refine gf_X8_90 X dX8_nextToken_123 ?_
      refine v_vali (v2 := (g 10 0 13)) rfl ?_
      refine v_aloadn X dX8_nextToken_126 rfl rfl ?_
      refine gf_X8_90 X dX8_nextToken_127 ?_
      refine v_vali (v2 := (g 10 0 13)) rfl ?_
      refine v_aloadn X dX8_nextToken_130 rfl rfl ?_
      refine gf_X8_77 X dX8_nextToken_131 ?_
      refine v_vali (v2 := (g 10 0 12)) rfl ?_
      refine v_icmp_ge X 141 dX8_nextToken_134 (by decide) (fun cv68 => ?_) (fun cv68 => ?_)
      · replace h := (if_pos cv68).symm.trans h
        refine v_iconst (v := 0) X dX8_nextToken_141 (by decide) ?_
        refine v_iadd X dX8_nextToken_142 ?_
        refine pf_X8_90 X dX8_nextToken_143 ?_
        refine v_aloadn X dX8_nextToken_146 rfl rfl ?_
        refine gf_X8_105 X dX8_nextToken_147 ?_
        refine v_vali (v2 := (1 : Int32)) rfl ?_
        refine v_iconst (v := 3) X dX8_nextToken_150 (by decide) ?_
        refine v_icmp_ne X 277 dX8_nextToken_151 (by decide) (fun cv69 => ?_) (fun cv69 => ?_)
        · replace h := (if_neg cv69).symm.trans h
          exact v_vret X dX8_nextToken_277 (Option.some.inj h)
        · replace h := (if_pos cv69).symm.trans h
          refine v_aloadn X dX8_nextToken_154 rfl rfl ?_
          refine v_dup X dX8_nextToken_155 rfl ?_
          refine gf_X8_94 X dX8_nextToken_156 ?_
          refine v_vali (v2 := (-1000000 : Int32)) rfl ?_
          refine v_bipush (v := 48) X dX8_nextToken_159 (by decide) ?_
          refine v_isub X dX8_nextToken_161 ?_
          refine pf_X8_94 X dX8_nextToken_162 ?_
          obtain ⟨gv70, qv71, h⟩ := bd1_some h
          refine w_X8_nextToken_165 X  N  (g3 (g3 (g3 (g3 (g3 g 10 0 14 (g 10 0 13)) 10 0 16 (-1000000 : Int32)) 10 0 15 (1 : Int32)) 10 0 13 ((g 10 0 13) + (0 : Int32))) 10 0 16 ((-1000000 : Int32) - (48 : Int32))) gv70 qv71 ?_
          refine v_aloadn X dX8_nextToken_255 rfl rfl ?_
          refine v_aloadn X dX8_nextToken_256 rfl rfl ?_
          refine gf_X8_90 X dX8_nextToken_257 ?_
          refine v_aloadn X dX8_nextToken_260 rfl rfl ?_
          refine gf_X8_84 X dX8_nextToken_261 ?_
          refine v_isub X dX8_nextToken_264 ?_
          refine v_iconst (v := 2) X dX8_nextToken_265 (by decide) ?_
          refine v_icmp_le X 273 dX8_nextToken_266 (by decide) (fun cv72 => ?_) (fun cv72 => ?_)
          · replace h := (if_pos cv72).symm.trans h
            refine v_iconst (v := 3) X dX8_nextToken_273 (by decide) ?_
            refine pf_X8_105 X dX8_nextToken_274 ?_
            exact v_vret X dX8_nextToken_277 (Option.some.inj h)
          · replace h := (if_neg cv72).symm.trans h
            refine v_iconst (v := 0) X dX8_nextToken_269 (by decide) ?_
            refine v_goto X 274 dX8_nextToken_270 (by decide) ?_
            refine pf_X8_105 X dX8_nextToken_274 ?_
            exact v_vret X dX8_nextToken_277 (Option.some.inj h)
      · replace h := (if_neg cv68).symm.trans h
        refine v_iconst (v := 1) X dX8_nextToken_137 (by decide) ?_
        refine v_goto X 142 dX8_nextToken_138 (by decide) ?_
        refine v_iadd X dX8_nextToken_142 ?_
        refine pf_X8_90 X dX8_nextToken_143 ?_
        refine v_aloadn X dX8_nextToken_146 rfl rfl ?_
        refine gf_X8_105 X dX8_nextToken_147 ?_
        refine v_vali (v2 := (1 : Int32)) rfl ?_
        refine v_iconst (v := 3) X dX8_nextToken_150 (by decide) ?_
        refine v_icmp_ne X 277 dX8_nextToken_151 (by decide) (fun cv73 => ?_) (fun cv73 => ?_)
        · replace h := (if_neg cv73).symm.trans h
          exact v_vret X dX8_nextToken_277 (Option.some.inj h)
        · replace h := (if_pos cv73).symm.trans h
          refine v_aloadn X dX8_nextToken_154 rfl rfl ?_
          refine v_dup X dX8_nextToken_155 rfl ?_
          refine gf_X8_94 X dX8_nextToken_156 ?_
          refine v_vali (v2 := (-1000000 : Int32)) rfl ?_
          refine v_bipush (v := 48) X dX8_nextToken_159 (by decide) ?_
          refine v_isub X dX8_nextToken_161 ?_
          refine pf_X8_94 X dX8_nextToken_162 ?_
          obtain ⟨gv74, qv75, h⟩ := bd1_some h
          refine w_X8_nextToken_165 X  N  (g3 (g3 (g3 (g3 (g3 g 10 0 14 (g 10 0 13)) 10 0 16 (-1000000 : Int32)) 10 0 15 (1 : Int32)) 10 0 13 ((g 10 0 13) + (1 : Int32))) 10 0 16 ((-1000000 : Int32) - (48 : Int32))) gv74 qv75 ?_
          refine v_aloadn X dX8_nextToken_255 rfl rfl ?_
          refine v_aloadn X dX8_nextToken_256 rfl rfl ?_
          refine gf_X8_90 X dX8_nextToken_257 ?_
          refine v_aloadn X dX8_nextToken_260 rfl rfl ?_
          refine gf_X8_84 X dX8_nextToken_261 ?_
          refine v_isub X dX8_nextToken_264 ?_
          refine v_iconst (v := 2) X dX8_nextToken_265 (by decide) ?_
          refine v_icmp_le X 273 dX8_nextToken_266 (by decide) (fun cv76 => ?_) (fun cv76 => ?_)
          · replace h := (if_pos cv76).symm.trans h
            refine v_iconst (v := 3) X dX8_nextToken_273 (by decide) ?_
            refine pf_X8_105 X dX8_nextToken_274 ?_
            exact v_vret X dX8_nextToken_277 (Option.some.inj h)
          · replace h := (if_neg cv76).symm.trans h
            refine v_iconst (v := 0) X dX8_nextToken_269 (by decide) ?_
            refine v_goto X 274 dX8_nextToken_270 (by decide) ?_
            refine pf_X8_105 X dX8_nextToken_274 ?_
            exact v_vret X dX8_nextToken_277 (Option.some.inj h)
  · replace h := (if_neg cv1).symm.trans h
    refine v_aloadn X dX8_nextToken_20 rfl rfl ?_
    refine gf_X8_34 X dX8_nextToken_21 ?_
    refine v_aloadn X dX8_nextToken_24 rfl rfl ?_
    refine gf_X8_90 X dX8_nextToken_25 ?_
    refine v_vali (v2 := (g 10 0 13)) rfl ?_
    obtain ⟨jv77, qv78, h⟩ := bd1_some h
    obtain ⟨ejv77, ljv77⟩ := ix_spec qv78
    refine alM X (by decide +kernel) jv77 ejv77 ljv77 dX8_nextToken_28 ?_
    refine v_vali (v2 := (g 11 11 jv77)) rfl ?_
    refine v_goto X 34 dX8_nextToken_29 (by decide) ?_
    refine pf_X8_94 X dX8_nextToken_34 ?_
    refine v_aloadn X dX8_nextToken_37 rfl rfl ?_
    refine v_aloadn X dX8_nextToken_38 rfl rfl ?_
    refine gf_X8_90 X dX8_nextToken_39 ?_
    refine v_vali (v2 := (g 10 0 13)) rfl ?_
    refine v_aloadn X dX8_nextToken_42 rfl rfl ?_
    refine gf_X8_77 X dX8_nextToken_43 ?_
    refine v_vali (v2 := (g 10 0 12)) rfl ?_
    refine v_icmp_ne X 53 dX8_nextToken_46 (by decide) (fun cv79 => ?_) (fun cv79 => ?_)
    · replace h := (if_neg cv79).symm.trans h
      refine v_aloadn X dX8_nextToken_53 rfl rfl ?_
      refine gf_X8_94 X dX8_nextToken_54 ?_
      refine v_vali (v2 := (g 11 11 jv77)) rfl ?_
      refine v_i2l X dX8_nextToken_57 ?_
      refine v_ldc2 X kl_X8_97 dX8_nextToken_58 ?_
      refine v_ldc2 X kl_X8_99 dX8_nextToken_61 ?_
      obtain ⟨rv82, gv81, qv80, h⟩ := bd2_some h
      refine v_callSI (As := [.long ((g 11 11 jv77).toInt64), .long (97 : Int64), .long (122 : Int64)]) (rest := [.ref (ad (8, 0, 0))]) X (c_X8_in l D ad cy X.2.2.2.2.2.2.2.2.1 N ((g 11 11 jv77).toInt64) (97 : Int64) (122 : Int64) (g3 (g3 g 10 0 14 (g 10 0 13)) 10 0 16 (g 11 11 jv77)) rv82 gv81  qv80) mw_X8_in ml_X8_60 (by decide) rfl rfl (Nat.le_of_ble_eq_true rfl) dX8_nextToken_64 ?_
      refine v_if_eq X 74 dX8_nextToken_67 (by decide) (fun cv83 => ?_) (fun cv83 => ?_)
      · replace h := (if_pos cv83).symm.trans h
        refine v_aloadn X dX8_nextToken_74 rfl rfl ?_
        refine gf_X8_94 X dX8_nextToken_75 ?_
        refine v_i2l X dX8_nextToken_78 ?_
        refine v_ldc2 X kl_X8_101 dX8_nextToken_79 ?_
        refine v_ldc2 X kl_X8_103 dX8_nextToken_82 ?_
        obtain ⟨rv86, gv85, qv84, h⟩ := bd2_some h
        refine v_callSI (As := [.long ((gv81 10 0 16).toInt64), .long (48 : Int64), .long (57 : Int64)]) (rest := [.ref (ad (8, 0, 0))]) X (c_X8_in l D ad cy X.2.2.2.2.2.2.2.2.1 N ((gv81 10 0 16).toInt64) (48 : Int64) (57 : Int64) gv81 rv86 gv85  qv84) mw_X8_in ml_X8_60 (by decide) rfl rfl (Nat.le_of_ble_eq_true rfl) dX8_nextToken_85 ?_
        refine v_if_eq X 95 dX8_nextToken_88 (by decide) (fun cv87 => ?_) (fun cv87 => ?_)
        · replace h := (if_pos cv87).symm.trans h
          refine v_aloadn X dX8_nextToken_95 rfl rfl ?_
          refine gf_X8_94 X dX8_nextToken_96 ?_
          refine v_bipush (v := 44) X dX8_nextToken_99 (by decide) ?_
          refine v_icmp_eq X 113 dX8_nextToken_101 (by decide) (fun cv88 => ?_) (fun cv88 => ?_)
          · replace h := (if_pos cv88).symm.trans h
            refine v_iconst (v := 4) X dX8_nextToken_113 (by decide) ?_
            refine v_goto X 118 dX8_nextToken_114 (by decide) ?_
            refine pf_X8_105 X dX8_nextToken_118 ?_
            refine v_aloadn X dX8_nextToken_121 rfl rfl ?_
            refine v_dup X dX8_nextToken_122 rfl ?_
            refine gf_X8_90 X dX8_nextToken_123 ?_
            refine v_vali (v2 := (gv85 10 0 13)) rfl ?_
            refine v_aloadn X dX8_nextToken_126 rfl rfl ?_
            refine gf_X8_90 X dX8_nextToken_127 ?_
            refine v_vali (v2 := (gv85 10 0 13)) rfl ?_
            refine v_aloadn X dX8_nextToken_130 rfl rfl ?_
            refine gf_X8_77 X dX8_nextToken_131 ?_
            refine v_vali (v2 := (gv85 10 0 12)) rfl ?_
            refine v_icmp_ge X 141 dX8_nextToken_134 (by decide) (fun cv89 => ?_) (fun cv89 => ?_)
            · replace h := (if_pos cv89).symm.trans h
              refine v_iconst (v := 0) X dX8_nextToken_141 (by decide) ?_
              refine v_iadd X dX8_nextToken_142 ?_
              refine pf_X8_90 X dX8_nextToken_143 ?_
              refine v_aloadn X dX8_nextToken_146 rfl rfl ?_
              refine gf_X8_105 X dX8_nextToken_147 ?_
              refine v_vali (v2 := (4 : Int32)) rfl ?_
              refine v_iconst (v := 3) X dX8_nextToken_150 (by decide) ?_
              refine v_icmp_ne X 277 dX8_nextToken_151 (by decide) (fun cv90 => ?_) (fun cv90 => ?_)
              · replace h := (if_neg cv90).symm.trans h
                exact v_vret X dX8_nextToken_277 (Option.some.inj h)
              · replace h := (if_pos cv90).symm.trans h
                refine v_aloadn X dX8_nextToken_154 rfl rfl ?_
                refine v_dup X dX8_nextToken_155 rfl ?_
                refine gf_X8_94 X dX8_nextToken_156 ?_
                refine v_vali (v2 := (gv85 10 0 16)) rfl ?_
                refine v_bipush (v := 48) X dX8_nextToken_159 (by decide) ?_
                refine v_isub X dX8_nextToken_161 ?_
                refine pf_X8_94 X dX8_nextToken_162 ?_
                obtain ⟨gv91, qv92, h⟩ := bd1_some h
                refine w_X8_nextToken_165 X  N  (g3 (g3 (g3 gv85 10 0 15 (4 : Int32)) 10 0 13 ((gv85 10 0 13) + (0 : Int32))) 10 0 16 ((gv85 10 0 16) - (48 : Int32))) gv91 qv92 ?_
                refine v_aloadn X dX8_nextToken_255 rfl rfl ?_
                refine v_aloadn X dX8_nextToken_256 rfl rfl ?_
                refine gf_X8_90 X dX8_nextToken_257 ?_
                refine v_aloadn X dX8_nextToken_260 rfl rfl ?_
                refine gf_X8_84 X dX8_nextToken_261 ?_
                refine v_isub X dX8_nextToken_264 ?_
                refine v_iconst (v := 2) X dX8_nextToken_265 (by decide) ?_
                refine v_icmp_le X 273 dX8_nextToken_266 (by decide) (fun cv93 => ?_) (fun cv93 => ?_)
                · replace h := (if_pos cv93).symm.trans h
                  refine v_iconst (v := 3) X dX8_nextToken_273 (by decide) ?_
                  refine pf_X8_105 X dX8_nextToken_274 ?_
                  exact v_vret X dX8_nextToken_277 (Option.some.inj h)
                · replace h := (if_neg cv93).symm.trans h
                  refine v_iconst (v := 0) X dX8_nextToken_269 (by decide) ?_
                  refine v_goto X 274 dX8_nextToken_270 (by decide) ?_
                  refine pf_X8_105 X dX8_nextToken_274 ?_
                  exact v_vret X dX8_nextToken_277 (Option.some.inj h)
            · replace h := (if_neg cv89).symm.trans h
              refine v_iconst (v := 1) X dX8_nextToken_137 (by decide) ?_
              refine v_goto X 142 dX8_nextToken_138 (by decide) ?_
              refine v_iadd X dX8_nextToken_142 ?_
              refine pf_X8_90 X dX8_nextToken_143 ?_
              refine v_aloadn X dX8_nextToken_146 rfl rfl ?_
              refine gf_X8_105 X dX8_nextToken_147 ?_
              refine v_vali (v2 := (4 : Int32)) rfl ?_
              refine v_iconst (v := 3) X dX8_nextToken_150 (by decide) ?_
              refine v_icmp_ne X 277 dX8_nextToken_151 (by decide) (fun cv94 => ?_) (fun cv94 => ?_)
              · replace h := (if_neg cv94).symm.trans h
                exact v_vret X dX8_nextToken_277 (Option.some.inj h)
              · replace h := (if_pos cv94).symm.trans h
                refine v_aloadn X dX8_nextToken_154 rfl rfl ?_
                refine v_dup X dX8_nextToken_155 rfl ?_
                refine gf_X8_94 X dX8_nextToken_156 ?_
                refine v_vali (v2 := (gv85 10 0 16)) rfl ?_
                refine v_bipush (v := 48) X dX8_nextToken_159 (by decide) ?_
                refine v_isub X dX8_nextToken_161 ?_
                refine pf_X8_94 X dX8_nextToken_162 ?_
                obtain ⟨gv95, qv96, h⟩ := bd1_some h
                refine w_X8_nextToken_165 X  N  (g3 (g3 (g3 gv85 10 0 15 (4 : Int32)) 10 0 13 ((gv85 10 0 13) + (1 : Int32))) 10 0 16 ((gv85 10 0 16) - (48 : Int32))) gv95 qv96 ?_
                refine v_aloadn X dX8_nextToken_255 rfl rfl ?_
                refine v_aloadn X dX8_nextToken_256 rfl rfl ?_
                refine gf_X8_90 X dX8_nextToken_257 ?_
                refine v_aloadn X dX8_nextToken_260 rfl rfl ?_
                refine gf_X8_84 X dX8_nextToken_261 ?_
                refine v_isub X dX8_nextToken_264 ?_
                refine v_iconst (v := 2) X dX8_nextToken_265 (by decide) ?_
                refine v_icmp_le X 273 dX8_nextToken_266 (by decide) (fun cv97 => ?_) (fun cv97 => ?_)
                · replace h := (if_pos cv97).symm.trans h
                  refine v_iconst (v := 3) X dX8_nextToken_273 (by decide) ?_
                  refine pf_X8_105 X dX8_nextToken_274 ?_
                  exact v_vret X dX8_nextToken_277 (Option.some.inj h)
                · replace h := (if_neg cv97).symm.trans h
                  refine v_iconst (v := 0) X dX8_nextToken_269 (by decide) ?_
                  refine v_goto X 274 dX8_nextToken_270 (by decide) ?_
                  refine pf_X8_105 X dX8_nextToken_274 ?_
                  exact v_vret X dX8_nextToken_277 (Option.some.inj h)
          · replace h := (if_neg cv88).symm.trans h
            refine v_aloadn X dX8_nextToken_104 rfl rfl ?_
            refine gf_X8_94 X dX8_nextToken_105 ?_
            refine v_bipush (v := 59) X dX8_nextToken_108 (by decide) ?_
            refine v_icmp_ne X 117 dX8_nextToken_110 (by decide) (fun cv98 => ?_) (fun cv98 => ?_)
            · replace h := (if_neg cv98).symm.trans h
              refine v_iconst (v := 0) X dX8_nextToken_117 (by decide) ?_
              refine pf_X8_105 X dX8_nextToken_118 ?_
              refine v_aloadn X dX8_nextToken_121 rfl rfl ?_
              refine v_dup X dX8_nextToken_122 rfl ?_
              refine gf_X8_90 X dX8_nextToken_123 ?_
              refine v_vali (v2 := (gv85 10 0 13)) rfl ?_
              refine v_aloadn X dX8_nextToken_126 rfl rfl ?_
              refine gf_X8_90 X dX8_nextToken_127 ?_
              refine v_vali (v2 := (gv85 10 0 13)) rfl ?_
              refine v_aloadn X dX8_nextToken_130 rfl rfl ?_
              refine gf_X8_77 X dX8_nextToken_131 ?_
              refine v_vali (v2 := (gv85 10 0 12)) rfl ?_
              refine v_icmp_ge X 141 dX8_nextToken_134 (by decide) (fun cv99 => ?_) (fun cv99 => ?_)
              · replace h := (if_pos cv99).symm.trans h
                refine v_iconst (v := 0) X dX8_nextToken_141 (by decide) ?_
                refine v_iadd X dX8_nextToken_142 ?_
                refine pf_X8_90 X dX8_nextToken_143 ?_
                refine v_aloadn X dX8_nextToken_146 rfl rfl ?_
                refine gf_X8_105 X dX8_nextToken_147 ?_
                refine v_vali (v2 := (0 : Int32)) rfl ?_
                refine v_iconst (v := 3) X dX8_nextToken_150 (by decide) ?_
                refine v_icmp_ne X 277 dX8_nextToken_151 (by decide) (fun cv100 => ?_) (fun cv100 => ?_)
                · replace h := (if_neg cv100).symm.trans h
                  exact v_vret X dX8_nextToken_277 (Option.some.inj h)
                · replace h := (if_pos cv100).symm.trans h
                  refine v_aloadn X dX8_nextToken_154 rfl rfl ?_
                  refine v_dup X dX8_nextToken_155 rfl ?_
                  refine gf_X8_94 X dX8_nextToken_156 ?_
                  refine v_vali (v2 := (gv85 10 0 16)) rfl ?_
                  refine v_bipush (v := 48) X dX8_nextToken_159 (by decide) ?_
                  refine v_isub X dX8_nextToken_161 ?_
                  refine pf_X8_94 X dX8_nextToken_162 ?_
                  obtain ⟨gv101, qv102, h⟩ := bd1_some h
                  refine w_X8_nextToken_165 X  N  (g3 (g3 (g3 gv85 10 0 15 (0 : Int32)) 10 0 13 ((gv85 10 0 13) + (0 : Int32))) 10 0 16 ((gv85 10 0 16) - (48 : Int32))) gv101 qv102 ?_
                  refine v_aloadn X dX8_nextToken_255 rfl rfl ?_
                  refine v_aloadn X dX8_nextToken_256 rfl rfl ?_
                  refine gf_X8_90 X dX8_nextToken_257 ?_
                  refine v_aloadn X dX8_nextToken_260 rfl rfl ?_
                  refine gf_X8_84 X dX8_nextToken_261 ?_
                  refine v_isub X dX8_nextToken_264 ?_
                  refine v_iconst (v := 2) X dX8_nextToken_265 (by decide) ?_
                  refine v_icmp_le X 273 dX8_nextToken_266 (by decide) (fun cv103 => ?_) (fun cv103 => ?_)
                  · replace h := (if_pos cv103).symm.trans h
                    refine v_iconst (v := 3) X dX8_nextToken_273 (by decide) ?_
                    refine pf_X8_105 X dX8_nextToken_274 ?_
                    exact v_vret X dX8_nextToken_277 (Option.some.inj h)
                  · replace h := (if_neg cv103).symm.trans h
                    refine v_iconst (v := 0) X dX8_nextToken_269 (by decide) ?_
                    refine v_goto X 274 dX8_nextToken_270 (by decide) ?_
                    refine pf_X8_105 X dX8_nextToken_274 ?_
                    exact v_vret X dX8_nextToken_277 (Option.some.inj h)
              · replace h := (if_neg cv99).symm.trans h
                refine v_iconst (v := 1) X dX8_nextToken_137 (by decide) ?_
                refine v_goto X 142 dX8_nextToken_138 (by decide) ?_
                refine v_iadd X dX8_nextToken_142 ?_
                refine pf_X8_90 X dX8_nextToken_143 ?_
                refine v_aloadn X dX8_nextToken_146 rfl rfl ?_
                refine gf_X8_105 X dX8_nextToken_147 ?_
                refine v_vali (v2 := (0 : Int32)) rfl ?_
                refine v_iconst (v := 3) X dX8_nextToken_150 (by decide) ?_
                refine v_icmp_ne X 277 dX8_nextToken_151 (by decide) (fun cv104 => ?_) (fun cv104 => ?_)
                · replace h := (if_neg cv104).symm.trans h
                  exact v_vret X dX8_nextToken_277 (Option.some.inj h)
                · replace h := (if_pos cv104).symm.trans h
                  refine v_aloadn X dX8_nextToken_154 rfl rfl ?_
                  refine v_dup X dX8_nextToken_155 rfl ?_
                  refine gf_X8_94 X dX8_nextToken_156 ?_
                  refine v_vali (v2 := (gv85 10 0 16)) rfl ?_
                  refine v_bipush (v := 48) X dX8_nextToken_159 (by decide) ?_
                  refine v_isub X dX8_nextToken_161 ?_
                  refine pf_X8_94 X dX8_nextToken_162 ?_
                  obtain ⟨gv105, qv106, h⟩ := bd1_some h
                  refine w_X8_nextToken_165 X  N  (g3 (g3 (g3 gv85 10 0 15 (0 : Int32)) 10 0 13 ((gv85 10 0 13) + (1 : Int32))) 10 0 16 ((gv85 10 0 16) - (48 : Int32))) gv105 qv106 ?_
                  refine v_aloadn X dX8_nextToken_255 rfl rfl ?_
                  refine v_aloadn X dX8_nextToken_256 rfl rfl ?_
                  refine gf_X8_90 X dX8_nextToken_257 ?_
                  refine v_aloadn X dX8_nextToken_260 rfl rfl ?_
                  refine gf_X8_84 X dX8_nextToken_261 ?_
                  refine v_isub X dX8_nextToken_264 ?_
                  refine v_iconst (v := 2) X dX8_nextToken_265 (by decide) ?_
                  refine v_icmp_le X 273 dX8_nextToken_266 (by decide) (fun cv107 => ?_) (fun cv107 => ?_)
                  · replace h := (if_pos cv107).symm.trans h
                    refine v_iconst (v := 3) X dX8_nextToken_273 (by decide) ?_
                    refine pf_X8_105 X dX8_nextToken_274 ?_
                    exact v_vret X dX8_nextToken_277 (Option.some.inj h)
                  · replace h := (if_neg cv107).symm.trans h
                    refine v_iconst (v := 0) X dX8_nextToken_269 (by decide) ?_
                    refine v_goto X 274 dX8_nextToken_270 (by decide) ?_
                    refine pf_X8_105 X dX8_nextToken_274 ?_
                    exact v_vret X dX8_nextToken_277 (Option.some.inj h)
            · replace h := (if_pos cv98).symm.trans h
              refine v_iconst (v := 4) X dX8_nextToken_113 (by decide) ?_
              refine v_goto X 118 dX8_nextToken_114 (by decide) ?_
              refine pf_X8_105 X dX8_nextToken_118 ?_
              refine v_aloadn X dX8_nextToken_121 rfl rfl ?_
              refine v_dup X dX8_nextToken_122 rfl ?_
              refine gf_X8_90 X dX8_nextToken_123 ?_
              refine v_vali (v2 := (gv85 10 0 13)) rfl ?_
              refine v_aloadn X dX8_nextToken_126 rfl rfl ?_
              refine gf_X8_90 X dX8_nextToken_127 ?_
              refine v_vali (v2 := (gv85 10 0 13)) rfl ?_
              refine v_aloadn X dX8_nextToken_130 rfl rfl ?_
              refine gf_X8_77 X dX8_nextToken_131 ?_
              refine v_vali (v2 := (gv85 10 0 12)) rfl ?_
              refine v_icmp_ge X 141 dX8_nextToken_134 (by decide) (fun cv108 => ?_) (fun cv108 => ?_)
              · replace h := (if_pos cv108).symm.trans h
                refine v_iconst (v := 0) X dX8_nextToken_141 (by decide) ?_
                refine v_iadd X dX8_nextToken_142 ?_
                refine pf_X8_90 X dX8_nextToken_143 ?_
                refine v_aloadn X dX8_nextToken_146 rfl rfl ?_
                refine gf_X8_105 X dX8_nextToken_147 ?_
                refine v_vali (v2 := (4 : Int32)) rfl ?_
                refine v_iconst (v := 3) X dX8_nextToken_150 (by decide) ?_
                refine v_icmp_ne X 277 dX8_nextToken_151 (by decide) (fun cv109 => ?_) (fun cv109 => ?_)
                · replace h := (if_neg cv109).symm.trans h
                  exact v_vret X dX8_nextToken_277 (Option.some.inj h)
                · replace h := (if_pos cv109).symm.trans h
                  refine v_aloadn X dX8_nextToken_154 rfl rfl ?_
                  refine v_dup X dX8_nextToken_155 rfl ?_
                  refine gf_X8_94 X dX8_nextToken_156 ?_
                  refine v_vali (v2 := (gv85 10 0 16)) rfl ?_
                  refine v_bipush (v := 48) X dX8_nextToken_159 (by decide) ?_
                  refine v_isub X dX8_nextToken_161 ?_
                  refine pf_X8_94 X dX8_nextToken_162 ?_
                  obtain ⟨gv110, qv111, h⟩ := bd1_some h
                  refine w_X8_nextToken_165 X  N  (g3 (g3 (g3 gv85 10 0 15 (4 : Int32)) 10 0 13 ((gv85 10 0 13) + (0 : Int32))) 10 0 16 ((gv85 10 0 16) - (48 : Int32))) gv110 qv111 ?_
                  refine v_aloadn X dX8_nextToken_255 rfl rfl ?_
                  refine v_aloadn X dX8_nextToken_256 rfl rfl ?_
                  refine gf_X8_90 X dX8_nextToken_257 ?_
                  refine v_aloadn X dX8_nextToken_260 rfl rfl ?_
                  refine gf_X8_84 X dX8_nextToken_261 ?_
                  refine v_isub X dX8_nextToken_264 ?_
                  refine v_iconst (v := 2) X dX8_nextToken_265 (by decide) ?_
                  refine v_icmp_le X 273 dX8_nextToken_266 (by decide) (fun cv112 => ?_) (fun cv112 => ?_)
                  · replace h := (if_pos cv112).symm.trans h
                    refine v_iconst (v := 3) X dX8_nextToken_273 (by decide) ?_
                    refine pf_X8_105 X dX8_nextToken_274 ?_
                    exact v_vret X dX8_nextToken_277 (Option.some.inj h)
                  · replace h := (if_neg cv112).symm.trans h
                    refine v_iconst (v := 0) X dX8_nextToken_269 (by decide) ?_
                    refine v_goto X 274 dX8_nextToken_270 (by decide) ?_
                    refine pf_X8_105 X dX8_nextToken_274 ?_
                    exact v_vret X dX8_nextToken_277 (Option.some.inj h)
              · replace h := (if_neg cv108).symm.trans h
                refine v_iconst (v := 1) X dX8_nextToken_137 (by decide) ?_
                refine v_goto X 142 dX8_nextToken_138 (by decide) ?_
                refine v_iadd X dX8_nextToken_142 ?_
                refine pf_X8_90 X dX8_nextToken_143 ?_
                refine v_aloadn X dX8_nextToken_146 rfl rfl ?_
                refine gf_X8_105 X dX8_nextToken_147 ?_
                refine v_vali (v2 := (4 : Int32)) rfl ?_
                refine v_iconst (v := 3) X dX8_nextToken_150 (by decide) ?_
                refine v_icmp_ne X 277 dX8_nextToken_151 (by decide) (fun cv113 => ?_) (fun cv113 => ?_)
                · replace h := (if_neg cv113).symm.trans h
                  exact v_vret X dX8_nextToken_277 (Option.some.inj h)
                · replace h := (if_pos cv113).symm.trans h
                  refine v_aloadn X dX8_nextToken_154 rfl rfl ?_
                  refine v_dup X dX8_nextToken_155 rfl ?_
                  refine gf_X8_94 X dX8_nextToken_156 ?_
                  refine v_vali (v2 := (gv85 10 0 16)) rfl ?_
                  refine v_bipush (v := 48) X dX8_nextToken_159 (by decide) ?_
                  refine v_isub X dX8_nextToken_161 ?_
                  refine pf_X8_94 X dX8_nextToken_162 ?_
                  obtain ⟨gv114, qv115, h⟩ := bd1_some h
                  refine w_X8_nextToken_165 X  N  (g3 (g3 (g3 gv85 10 0 15 (4 : Int32)) 10 0 13 ((gv85 10 0 13) + (1 : Int32))) 10 0 16 ((gv85 10 0 16) - (48 : Int32))) gv114 qv115 ?_
                  refine v_aloadn X dX8_nextToken_255 rfl rfl ?_
                  refine v_aloadn X dX8_nextToken_256 rfl rfl ?_
                  refine gf_X8_90 X dX8_nextToken_257 ?_
                  refine v_aloadn X dX8_nextToken_260 rfl rfl ?_
                  refine gf_X8_84 X dX8_nextToken_261 ?_
                  refine v_isub X dX8_nextToken_264 ?_
                  refine v_iconst (v := 2) X dX8_nextToken_265 (by decide) ?_
                  refine v_icmp_le X 273 dX8_nextToken_266 (by decide) (fun cv116 => ?_) (fun cv116 => ?_)
                  · replace h := (if_pos cv116).symm.trans h
                    refine v_iconst (v := 3) X dX8_nextToken_273 (by decide) ?_
                    refine pf_X8_105 X dX8_nextToken_274 ?_
                    exact v_vret X dX8_nextToken_277 (Option.some.inj h)
                  · replace h := (if_neg cv116).symm.trans h
                    refine v_iconst (v := 0) X dX8_nextToken_269 (by decide) ?_
                    refine v_goto X 274 dX8_nextToken_270 (by decide) ?_
                    refine pf_X8_105 X dX8_nextToken_274 ?_
                    exact v_vret X dX8_nextToken_277 (Option.some.inj h)
        · replace h := (if_neg cv87).symm.trans h
          refine v_iconst (v := 3) X dX8_nextToken_91 (by decide) ?_
          refine v_goto X 118 dX8_nextToken_92 (by decide) ?_
          refine pf_X8_105 X dX8_nextToken_118 ?_
          refine v_aloadn X dX8_nextToken_121 rfl rfl ?_
          refine v_dup X dX8_nextToken_122 rfl ?_
          refine gf_X8_90 X dX8_nextToken_123 ?_
          refine v_vali (v2 := (gv85 10 0 13)) rfl ?_
          refine v_aloadn X dX8_nextToken_126 rfl rfl ?_
          refine gf_X8_90 X dX8_nextToken_127 ?_
          refine v_vali (v2 := (gv85 10 0 13)) rfl ?_
          refine v_aloadn X dX8_nextToken_130 rfl rfl ?_
          refine gf_X8_77 X dX8_nextToken_131 ?_
          refine v_vali (v2 := (gv85 10 0 12)) rfl ?_
          refine v_icmp_ge X 141 dX8_nextToken_134 (by decide) (fun cv117 => ?_) (fun cv117 => ?_)
          · replace h := (if_pos cv117).symm.trans h
            refine v_iconst (v := 0) X dX8_nextToken_141 (by decide) ?_
            refine v_iadd X dX8_nextToken_142 ?_
            refine pf_X8_90 X dX8_nextToken_143 ?_
            refine v_aloadn X dX8_nextToken_146 rfl rfl ?_
            refine gf_X8_105 X dX8_nextToken_147 ?_
            refine v_vali (v2 := (3 : Int32)) rfl ?_
            refine v_iconst (v := 3) X dX8_nextToken_150 (by decide) ?_
            refine v_icmp_ne X 277 dX8_nextToken_151 (by decide) (fun cv118 => ?_) (fun cv118 => ?_)
            · replace h := (if_neg cv118).symm.trans h
              exact v_vret X dX8_nextToken_277 (Option.some.inj h)
            · replace h := (if_pos cv118).symm.trans h
              refine v_aloadn X dX8_nextToken_154 rfl rfl ?_
              refine v_dup X dX8_nextToken_155 rfl ?_
              refine gf_X8_94 X dX8_nextToken_156 ?_
              refine v_vali (v2 := (gv85 10 0 16)) rfl ?_
              refine v_bipush (v := 48) X dX8_nextToken_159 (by decide) ?_
              refine v_isub X dX8_nextToken_161 ?_
              refine pf_X8_94 X dX8_nextToken_162 ?_
              obtain ⟨gv119, qv120, h⟩ := bd1_some h
              refine w_X8_nextToken_165 X  N  (g3 (g3 (g3 gv85 10 0 15 (3 : Int32)) 10 0 13 ((gv85 10 0 13) + (0 : Int32))) 10 0 16 ((gv85 10 0 16) - (48 : Int32))) gv119 qv120 ?_
              refine v_aloadn X dX8_nextToken_255 rfl rfl ?_
              refine v_aloadn X dX8_nextToken_256 rfl rfl ?_
              refine gf_X8_90 X dX8_nextToken_257 ?_
              refine v_aloadn X dX8_nextToken_260 rfl rfl ?_
              refine gf_X8_84 X dX8_nextToken_261 ?_
              refine v_isub X dX8_nextToken_264 ?_
              refine v_iconst (v := 2) X dX8_nextToken_265 (by decide) ?_
              refine v_icmp_le X 273 dX8_nextToken_266 (by decide) (fun cv121 => ?_) (fun cv121 => ?_)
              · replace h := (if_pos cv121).symm.trans h
                refine v_iconst (v := 3) X dX8_nextToken_273 (by decide) ?_
                refine pf_X8_105 X dX8_nextToken_274 ?_
                exact v_vret X dX8_nextToken_277 (Option.some.inj h)
              · replace h := (if_neg cv121).symm.trans h
                refine v_iconst (v := 0) X dX8_nextToken_269 (by decide) ?_
                refine v_goto X 274 dX8_nextToken_270 (by decide) ?_
                refine pf_X8_105 X dX8_nextToken_274 ?_
                exact v_vret X dX8_nextToken_277 (Option.some.inj h)
          · replace h := (if_neg cv117).symm.trans h
            refine v_iconst (v := 1) X dX8_nextToken_137 (by decide) ?_
            refine v_goto X 142 dX8_nextToken_138 (by decide) ?_
            refine v_iadd X dX8_nextToken_142 ?_
            refine pf_X8_90 X dX8_nextToken_143 ?_
            refine v_aloadn X dX8_nextToken_146 rfl rfl ?_
            refine gf_X8_105 X dX8_nextToken_147 ?_
            refine v_vali (v2 := (3 : Int32)) rfl ?_
            refine v_iconst (v := 3) X dX8_nextToken_150 (by decide) ?_
            refine v_icmp_ne X 277 dX8_nextToken_151 (by decide) (fun cv122 => ?_) (fun cv122 => ?_)
            · replace h := (if_neg cv122).symm.trans h
              exact v_vret X dX8_nextToken_277 (Option.some.inj h)
            · replace h := (if_pos cv122).symm.trans h
              refine v_aloadn X dX8_nextToken_154 rfl rfl ?_
              refine v_dup X dX8_nextToken_155 rfl ?_
              refine gf_X8_94 X dX8_nextToken_156 ?_
              refine v_vali (v2 := (gv85 10 0 16)) rfl ?_
              refine v_bipush (v := 48) X dX8_nextToken_159 (by decide) ?_
              refine v_isub X dX8_nextToken_161 ?_
              refine pf_X8_94 X dX8_nextToken_162 ?_
              obtain ⟨gv123, qv124, h⟩ := bd1_some h
              refine w_X8_nextToken_165 X  N  (g3 (g3 (g3 gv85 10 0 15 (3 : Int32)) 10 0 13 ((gv85 10 0 13) + (1 : Int32))) 10 0 16 ((gv85 10 0 16) - (48 : Int32))) gv123 qv124 ?_
              refine v_aloadn X dX8_nextToken_255 rfl rfl ?_
              refine v_aloadn X dX8_nextToken_256 rfl rfl ?_
              refine gf_X8_90 X dX8_nextToken_257 ?_
              refine v_aloadn X dX8_nextToken_260 rfl rfl ?_
              refine gf_X8_84 X dX8_nextToken_261 ?_
              refine v_isub X dX8_nextToken_264 ?_
              refine v_iconst (v := 2) X dX8_nextToken_265 (by decide) ?_
              refine v_icmp_le X 273 dX8_nextToken_266 (by decide) (fun cv125 => ?_) (fun cv125 => ?_)
              · replace h := (if_pos cv125).symm.trans h
                refine v_iconst (v := 3) X dX8_nextToken_273 (by decide) ?_
                refine pf_X8_105 X dX8_nextToken_274 ?_
                exact v_vret X dX8_nextToken_277 (Option.some.inj h)
              · replace h := (if_neg cv125).symm.trans h
                refine v_iconst (v := 0) X dX8_nextToken_269 (by decide) ?_
                refine v_goto X 274 dX8_nextToken_270 (by decide) ?_
                refine pf_X8_105 X dX8_nextToken_274 ?_
                exact v_vret X dX8_nextToken_277 (Option.some.inj h)
      · replace h := (if_neg cv83).symm.trans h
        refine v_iconst (v := 2) X dX8_nextToken_70 (by decide) ?_
        refine v_goto X 118 dX8_nextToken_71 (by decide) ?_
        refine pf_X8_105 X dX8_nextToken_118 ?_
        refine v_aloadn X dX8_nextToken_121 rfl rfl ?_
        refine v_dup X dX8_nextToken_122 rfl ?_
        refine gf_X8_90 X dX8_nextToken_123 ?_
        refine v_vali (v2 := (gv81 10 0 13)) rfl ?_
        refine v_aloadn X dX8_nextToken_126 rfl rfl ?_
        refine gf_X8_90 X dX8_nextToken_127 ?_
        refine v_vali (v2 := (gv81 10 0 13)) rfl ?_
        refine v_aloadn X dX8_nextToken_130 rfl rfl ?_
        refine gf_X8_77 X dX8_nextToken_131 ?_
        refine v_vali (v2 := (gv81 10 0 12)) rfl ?_
        refine v_icmp_ge X 141 dX8_nextToken_134 (by decide) (fun cv126 => ?_) (fun cv126 => ?_)
        · replace h := (if_pos cv126).symm.trans h
          refine v_iconst (v := 0) X dX8_nextToken_141 (by decide) ?_
          refine v_iadd X dX8_nextToken_142 ?_
          refine pf_X8_90 X dX8_nextToken_143 ?_
          refine v_aloadn X dX8_nextToken_146 rfl rfl ?_
          refine gf_X8_105 X dX8_nextToken_147 ?_
          refine v_vali (v2 := (2 : Int32)) rfl ?_
          refine v_iconst (v := 3) X dX8_nextToken_150 (by decide) ?_
          refine v_icmp_ne X 277 dX8_nextToken_151 (by decide) (fun cv127 => ?_) (fun cv127 => ?_)
          · replace h := (if_neg cv127).symm.trans h
            exact v_vret X dX8_nextToken_277 (Option.some.inj h)
          · replace h := (if_pos cv127).symm.trans h
            refine v_aloadn X dX8_nextToken_154 rfl rfl ?_
            refine v_dup X dX8_nextToken_155 rfl ?_
            refine gf_X8_94 X dX8_nextToken_156 ?_
            refine v_vali (v2 := (gv81 10 0 16)) rfl ?_
            refine v_bipush (v := 48) X dX8_nextToken_159 (by decide) ?_
            refine v_isub X dX8_nextToken_161 ?_
            refine pf_X8_94 X dX8_nextToken_162 ?_
            obtain ⟨gv128, qv129, h⟩ := bd1_some h
            refine w_X8_nextToken_165 X  N  (g3 (g3 (g3 gv81 10 0 15 (2 : Int32)) 10 0 13 ((gv81 10 0 13) + (0 : Int32))) 10 0 16 ((gv81 10 0 16) - (48 : Int32))) gv128 qv129 ?_
            refine v_aloadn X dX8_nextToken_255 rfl rfl ?_
            refine v_aloadn X dX8_nextToken_256 rfl rfl ?_
            refine gf_X8_90 X dX8_nextToken_257 ?_
            refine v_aloadn X dX8_nextToken_260 rfl rfl ?_
            refine gf_X8_84 X dX8_nextToken_261 ?_
            refine v_isub X dX8_nextToken_264 ?_
            refine v_iconst (v := 2) X dX8_nextToken_265 (by decide) ?_
            refine v_icmp_le X 273 dX8_nextToken_266 (by decide) (fun cv130 => ?_) (fun cv130 => ?_)
            · replace h := (if_pos cv130).symm.trans h
              refine v_iconst (v := 3) X dX8_nextToken_273 (by decide) ?_
              refine pf_X8_105 X dX8_nextToken_274 ?_
              exact v_vret X dX8_nextToken_277 (Option.some.inj h)
            · replace h := (if_neg cv130).symm.trans h
              refine v_iconst (v := 0) X dX8_nextToken_269 (by decide) ?_
              refine v_goto X 274 dX8_nextToken_270 (by decide) ?_
              refine pf_X8_105 X dX8_nextToken_274 ?_
              exact v_vret X dX8_nextToken_277 (Option.some.inj h)
        · replace h := (if_neg cv126).symm.trans h
          refine v_iconst (v := 1) X dX8_nextToken_137 (by decide) ?_
          refine v_goto X 142 dX8_nextToken_138 (by decide) ?_
          refine v_iadd X dX8_nextToken_142 ?_
          refine pf_X8_90 X dX8_nextToken_143 ?_
          refine v_aloadn X dX8_nextToken_146 rfl rfl ?_
          refine gf_X8_105 X dX8_nextToken_147 ?_
          refine v_vali (v2 := (2 : Int32)) rfl ?_
          refine v_iconst (v := 3) X dX8_nextToken_150 (by decide) ?_
          refine v_icmp_ne X 277 dX8_nextToken_151 (by decide) (fun cv131 => ?_) (fun cv131 => ?_)
          · replace h := (if_neg cv131).symm.trans h
            exact v_vret X dX8_nextToken_277 (Option.some.inj h)
          · replace h := (if_pos cv131).symm.trans h
            refine v_aloadn X dX8_nextToken_154 rfl rfl ?_
            refine v_dup X dX8_nextToken_155 rfl ?_
            refine gf_X8_94 X dX8_nextToken_156 ?_
            refine v_vali (v2 := (gv81 10 0 16)) rfl ?_
            refine v_bipush (v := 48) X dX8_nextToken_159 (by decide) ?_
            refine v_isub X dX8_nextToken_161 ?_
            refine pf_X8_94 X dX8_nextToken_162 ?_
            obtain ⟨gv132, qv133, h⟩ := bd1_some h
            refine w_X8_nextToken_165 X  N  (g3 (g3 (g3 gv81 10 0 15 (2 : Int32)) 10 0 13 ((gv81 10 0 13) + (1 : Int32))) 10 0 16 ((gv81 10 0 16) - (48 : Int32))) gv132 qv133 ?_
            refine v_aloadn X dX8_nextToken_255 rfl rfl ?_
            refine v_aloadn X dX8_nextToken_256 rfl rfl ?_
            refine gf_X8_90 X dX8_nextToken_257 ?_
            refine v_aloadn X dX8_nextToken_260 rfl rfl ?_
            refine gf_X8_84 X dX8_nextToken_261 ?_
            refine v_isub X dX8_nextToken_264 ?_
            refine v_iconst (v := 2) X dX8_nextToken_265 (by decide) ?_
            refine v_icmp_le X 273 dX8_nextToken_266 (by decide) (fun cv134 => ?_) (fun cv134 => ?_)
            · replace h := (if_pos cv134).symm.trans h
              refine v_iconst (v := 3) X dX8_nextToken_273 (by decide) ?_
              refine pf_X8_105 X dX8_nextToken_274 ?_
              exact v_vret X dX8_nextToken_277 (Option.some.inj h)
            · replace h := (if_neg cv134).symm.trans h
              refine v_iconst (v := 0) X dX8_nextToken_269 (by decide) ?_
              refine v_goto X 274 dX8_nextToken_270 (by decide) ?_
              refine pf_X8_105 X dX8_nextToken_274 ?_
              exact v_vret X dX8_nextToken_277 (Option.some.inj h)
    · replace h := (if_pos cv79).symm.trans h
      refine v_iconst (v := 1) X dX8_nextToken_49 (by decide) ?_
      refine v_goto X 118 dX8_nextToken_50 (by decide) ?_
      refine pf_X8_105 X dX8_nextToken_118 ?_
      refine v_aloadn X dX8_nextToken_121 rfl rfl ?_
      refine v_dup X dX8_nextToken_122 rfl ?_
      refine gf_X8_90 X dX8_nextToken_123 ?_
      refine v_vali (v2 := (g 10 0 13)) rfl ?_
      refine v_aloadn X dX8_nextToken_126 rfl rfl ?_
      refine gf_X8_90 X dX8_nextToken_127 ?_
      refine v_vali (v2 := (g 10 0 13)) rfl ?_
      refine v_aloadn X dX8_nextToken_130 rfl rfl ?_
      refine gf_X8_77 X dX8_nextToken_131 ?_
      refine v_vali (v2 := (g 10 0 12)) rfl ?_
      refine v_icmp_ge X 141 dX8_nextToken_134 (by decide) (fun cv135 => ?_) (fun cv135 => ?_)
      · replace h := (if_pos cv135).symm.trans h
        refine v_iconst (v := 0) X dX8_nextToken_141 (by decide) ?_
        refine v_iadd X dX8_nextToken_142 ?_
        refine pf_X8_90 X dX8_nextToken_143 ?_
        refine v_aloadn X dX8_nextToken_146 rfl rfl ?_
        refine gf_X8_105 X dX8_nextToken_147 ?_
        refine v_vali (v2 := (1 : Int32)) rfl ?_
        refine v_iconst (v := 3) X dX8_nextToken_150 (by decide) ?_
        refine v_icmp_ne X 277 dX8_nextToken_151 (by decide) (fun cv136 => ?_) (fun cv136 => ?_)
        · replace h := (if_neg cv136).symm.trans h
          exact v_vret X dX8_nextToken_277 (Option.some.inj h)
        · replace h := (if_pos cv136).symm.trans h
          refine v_aloadn X dX8_nextToken_154 rfl rfl ?_
          refine v_dup X dX8_nextToken_155 rfl ?_
          refine gf_X8_94 X dX8_nextToken_156 ?_
          refine v_vali (v2 := (g 11 11 jv77)) rfl ?_
          refine v_bipush (v := 48) X dX8_nextToken_159 (by decide) ?_
          refine v_isub X dX8_nextToken_161 ?_
          refine pf_X8_94 X dX8_nextToken_162 ?_
          obtain ⟨gv137, qv138, h⟩ := bd1_some h
          refine w_X8_nextToken_165 X  N  (g3 (g3 (g3 (g3 (g3 g 10 0 14 (g 10 0 13)) 10 0 16 (g 11 11 jv77)) 10 0 15 (1 : Int32)) 10 0 13 ((g 10 0 13) + (0 : Int32))) 10 0 16 ((g 11 11 jv77) - (48 : Int32))) gv137 qv138 ?_
          refine v_aloadn X dX8_nextToken_255 rfl rfl ?_
          refine v_aloadn X dX8_nextToken_256 rfl rfl ?_
          refine gf_X8_90 X dX8_nextToken_257 ?_
          refine v_aloadn X dX8_nextToken_260 rfl rfl ?_
          refine gf_X8_84 X dX8_nextToken_261 ?_
          refine v_isub X dX8_nextToken_264 ?_
          refine v_iconst (v := 2) X dX8_nextToken_265 (by decide) ?_
          refine v_icmp_le X 273 dX8_nextToken_266 (by decide) (fun cv139 => ?_) (fun cv139 => ?_)
          · replace h := (if_pos cv139).symm.trans h
            refine v_iconst (v := 3) X dX8_nextToken_273 (by decide) ?_
            refine pf_X8_105 X dX8_nextToken_274 ?_
            exact v_vret X dX8_nextToken_277 (Option.some.inj h)
          · replace h := (if_neg cv139).symm.trans h
            refine v_iconst (v := 0) X dX8_nextToken_269 (by decide) ?_
            refine v_goto X 274 dX8_nextToken_270 (by decide) ?_
            refine pf_X8_105 X dX8_nextToken_274 ?_
            exact v_vret X dX8_nextToken_277 (Option.some.inj h)
      · replace h := (if_neg cv135).symm.trans h
        refine v_iconst (v := 1) X dX8_nextToken_137 (by decide) ?_
        refine v_goto X 142 dX8_nextToken_138 (by decide) ?_
        refine v_iadd X dX8_nextToken_142 ?_
        refine pf_X8_90 X dX8_nextToken_143 ?_
        refine v_aloadn X dX8_nextToken_146 rfl rfl ?_
        refine gf_X8_105 X dX8_nextToken_147 ?_
        refine v_vali (v2 := (1 : Int32)) rfl ?_
        refine v_iconst (v := 3) X dX8_nextToken_150 (by decide) ?_
        refine v_icmp_ne X 277 dX8_nextToken_151 (by decide) (fun cv140 => ?_) (fun cv140 => ?_)
        · replace h := (if_neg cv140).symm.trans h
          exact v_vret X dX8_nextToken_277 (Option.some.inj h)
        · replace h := (if_pos cv140).symm.trans h
          refine v_aloadn X dX8_nextToken_154 rfl rfl ?_
          refine v_dup X dX8_nextToken_155 rfl ?_
          refine gf_X8_94 X dX8_nextToken_156 ?_
          refine v_vali (v2 := (g 11 11 jv77)) rfl ?_
          refine v_bipush (v := 48) X dX8_nextToken_159 (by decide) ?_
          refine v_isub X dX8_nextToken_161 ?_
          refine pf_X8_94 X dX8_nextToken_162 ?_
          obtain ⟨gv141, qv142, h⟩ := bd1_some h
          refine w_X8_nextToken_165 X  N  (g3 (g3 (g3 (g3 (g3 g 10 0 14 (g 10 0 13)) 10 0 16 (g 11 11 jv77)) 10 0 15 (1 : Int32)) 10 0 13 ((g 10 0 13) + (1 : Int32))) 10 0 16 ((g 11 11 jv77) - (48 : Int32))) gv141 qv142 ?_
          refine v_aloadn X dX8_nextToken_255 rfl rfl ?_
          refine v_aloadn X dX8_nextToken_256 rfl rfl ?_
          refine gf_X8_90 X dX8_nextToken_257 ?_
          refine v_aloadn X dX8_nextToken_260 rfl rfl ?_
          refine gf_X8_84 X dX8_nextToken_261 ?_
          refine v_isub X dX8_nextToken_264 ?_
          refine v_iconst (v := 2) X dX8_nextToken_265 (by decide) ?_
          refine v_icmp_le X 273 dX8_nextToken_266 (by decide) (fun cv143 => ?_) (fun cv143 => ?_)
          · replace h := (if_pos cv143).symm.trans h
            refine v_iconst (v := 3) X dX8_nextToken_273 (by decide) ?_
            refine pf_X8_105 X dX8_nextToken_274 ?_
            exact v_vret X dX8_nextToken_277 (Option.some.inj h)
          · replace h := (if_neg cv143).symm.trans h
            refine v_iconst (v := 0) X dX8_nextToken_269 (by decide) ?_
            refine v_goto X 274 dX8_nextToken_270 (by decide) ?_
            refine pf_X8_105 X dX8_nextToken_274 ?_
            exact v_vret X dX8_nextToken_277 (Option.some.inj h)
def F_X8_begin (N : Nat) (g : GS) : Option GS := bd1 (F_X8_nextToken N  (g3 (g3 g 10 0 13 (0 : Int32)) 10 0 17 (0 : Int32))) (fun gv2 => some gv2)
set_option maxRecDepth 100000 in
set_option maxHeartbeats 4000000 in
theorem c_X8_begin (l : Launch) (D : va_G) (ad : Ky → Nat) (cy : Nat → ClassId) (hI : Inj ad) (N : Nat) (g : GS) (gq : GS) (h : F_X8_begin N  g = some gq) : CtV l D ad cy yX8_begin cX8_begin 1 2 [.ref (ad (8, 0, 0))] g gq := by
  refine CtV.of 0 hI (by decide +kernel) rfl (Nat.le_of_ble_eq_true rfl) (fun p e s m args below meth c X => ?_)
  unfold F_X8_begin at h
  show Vy _ _ _ _ _ _ _ _ _ _ _ _ _ _ _ 0 [some (.ref (ad (8, 0, 0)))] [] g
  refine v_aloadn X dX8_begin_0 rfl rfl ?_
  refine v_iconst (v := 0) X dX8_begin_1 (by decide) ?_
  refine pf_X8_90 X dX8_begin_2 ?_
  refine v_aloadn X dX8_begin_5 rfl rfl ?_
  refine v_iconst (v := 0) X dX8_begin_6 (by decide) ?_
  refine pf_X8_81 X dX8_begin_7 ?_
  refine v_aloadn X dX8_begin_10 rfl rfl ?_
  obtain ⟨gv2, qv1, h⟩ := bd1_some h
  refine v_callVV (As := []) (rest := []) X (c_X8_nextToken l D ad cy X.2.2.2.2.2.2.2.2.1 N  (g3 (g3 g 10 0 13 (0 : Int32)) 10 0 17 (0 : Int32)) gv2  qv1) mw_X8_nextToken ml_X8_112 (by decide) (by decide +kernel) (by decide) rfl rfl rfl rfl (Nat.le_of_ble_eq_true rfl) dX8_begin_11 ?_
  exact v_vret X dX8_begin_14 (Option.some.inj h)
def L_X8_bits_4 (N : Nat) (z0 : Int32) : Nat → Int32 → Int32 → GS → Option (Int32 × Int32 × GS)
  | 0, _, _, _ => none
  | n + 1, y1, y2, g => if (6 : Int32) ≤ y2 then some (y1, y2, g) else L_X8_bits_4 N z0 n (y1 + ((z0 >>> (y2 &&& 31)) &&& (1 : Int32))) (y2 + 1) g
def F_X8_bits (N : Nat) (x0 : Int32) (g : GS) : Option (Int32 × GS) := bd3 (L_X8_bits_4 N x0 N (0 : Int32) (0 : Int32) g) (fun xv2 xv3 gv4 => some (xv2, gv4))
set_option maxRecDepth 100000 in
set_option maxHeartbeats 4000000 in
theorem w_X8_bits_4 {p : Program} {l : Launch} {e : Env} {s : State} {m : MethodId} {args : Array Value} {below : List Frame} {meth : Method} {c : Code} {D : va_G} {ad : Ky → Nat} {cy : Nat → ClassId} {r : Int32} {gq : GS} {N : Nat} (X : Cx p (rmd 0) s m args meth c RX8 cX8_bits 3 (some .int) D ad cy) (z0 : Int32) : ∀ (n : Nat) (y1 : Int32) (y2 : Int32) (g : GS) (y1' : Int32) (y2' : Int32) (g' : GS), L_X8_bits_4 N z0 n y1 y2 g = some (y1', y2', g') → Vy p l e (rmd 0) s m args below meth c 3 D ad cy (QI D ad cy below args s r gq) 24 [some (.int z0), some (.int y1'), some (.int y2')] [] g' → Vy p l e (rmd 0) s m args below meth c 3 D ad cy (QI D ad cy below args s r gq) 4 [some (.int z0), some (.int y1), some (.int y2)] [] g := by
  intro n
  induction n with
  | zero => intro y1 y2 g y1' y2' g' h k; cases h
  | succ n ih =>
    intro y1 y2 g y1' y2' g' h k
    rw [L_X8_bits_4] at h
    refine v_iloadn X dX8_bits_4 rfl rfl ?_
    refine v_bipush (v := 6) X dX8_bits_5 (by decide) ?_
    refine v_icmp_ge X 24 dX8_bits_7 (by decide) (fun cv1 => ?_) (fun cv1 => ?_)
    · replace h := (if_pos cv1).symm.trans h
      cases h
      exact k
    · replace h := (if_neg cv1).symm.trans h
      refine v_iloadn X dX8_bits_10 rfl rfl ?_
      refine v_iloadn X dX8_bits_11 rfl rfl ?_
      refine v_iloadn X dX8_bits_12 rfl rfl ?_
      refine v_ishr X dX8_bits_13 ?_
      refine v_iconst (v := 1) X dX8_bits_14 (by decide) ?_
      refine v_iand X dX8_bits_15 ?_
      refine v_iadd X dX8_bits_16 ?_
      refine v_istoren (lc' := [some (.int z0), some (.int (y1 + ((z0 >>> (y2 &&& 31)) &&& (1 : Int32)))), some (.int y2)]) X dX8_bits_17 rfl (by decide) rfl rfl ?_
      refine v_iinc (v := (y2 + 1)) (lc' := [some (.int z0), some (.int (y1 + ((z0 >>> (y2 &&& 31)) &&& (1 : Int32)))), some (.int (y2 + 1))]) X dX8_bits_18 rfl rfl (by decide) rfl rfl ?_
      refine v_goto X 4 dX8_bits_21 (by decide) ?_
      exact ih (y1 + ((z0 >>> (y2 &&& 31)) &&& (1 : Int32))) (y2 + 1) g _ _ _ h k
set_option maxRecDepth 100000 in
set_option maxHeartbeats 4000000 in
theorem c_X8_bits (l : Launch) (D : va_G) (ad : Ky → Nat) (cy : Nat → ClassId) (hI : Inj ad) (N : Nat) (x0 : Int32) (g : GS) (r : Int32) (gq : GS) (h : F_X8_bits N x0 g = some (r, gq)) : CtI l D ad cy yX8_bits cX8_bits 3 (some .int) 0 [.int x0] g r gq := by
  refine CtI.of 2 hI (by decide +kernel) rfl (Nat.le_of_ble_eq_true rfl) (fun p e s m args below meth c X => ?_)
  unfold F_X8_bits at h
  show Vy _ _ _ _ _ _ _ _ _ _ _ _ _ _ _ 0 [some (.int x0), none, none] [] g
  refine v_iconst (v := 0) X dX8_bits_0 (by decide) ?_
  refine v_istoren (lc' := [some (.int x0), some (.int (0 : Int32)), none]) X dX8_bits_1 rfl (by decide) rfl rfl ?_
  refine v_iconst (v := 0) X dX8_bits_2 (by decide) ?_
  refine v_istoren (lc' := [some (.int x0), some (.int (0 : Int32)), some (.int (0 : Int32))]) X dX8_bits_3 rfl (by decide) rfl rfl ?_
  obtain ⟨xv2, xv3, gv4, qv5, h⟩ := bd3_some h
  refine w_X8_bits_4 X x0 N (0 : Int32) (0 : Int32) g xv2 xv3 gv4 qv5 ?_
  refine v_iloadn X dX8_bits_24 rfl rfl ?_
  obtain ⟨er, eg⟩ := Prod.mk.inj (Option.some.inj h)
  exact v_iret X dX8_bits_25 er eg
def L_X8_keep_51 (N : Nat) : Nat → Int32 → GS → Option (Int32 × GS)
  | 0, _, _ => none
  | n + 1, y1, g => if (53 : Int32) ≤ y1 then some (y1, g) else bd1 (ix y1 53) (fun jv3 => bd1 (ix (((53 : Int32) * (g 10 0 10)) + y1) 1272) (fun jv5 => L_X8_keep_51 N n (y1 + 1) (g3 g 11 9 jv5 (g 11 5 jv3))))
def L_X8_keep_11 (N : Nat) : Nat → Int32 → GS → Option (Int32 × GS)
  | 0, _, _ => none
  | n + 1, y1, g => if (1219 : Int32) ≤ y1 then some (y1, g) else bd1 (ix (y1 + (53 : Int32)) 1272) (fun jv11 => bd1 (ix y1 1272) (fun jv13 => L_X8_keep_11 N n (y1 + 1) (g3 g 11 9 jv13 (g 11 9 jv11))))
def F_X8_keep (N : Nat) (g : GS) : Option GS := if (g 10 0 10) = (24 : Int32) then bd2 (L_X8_keep_11 N N (0 : Int32) g) (fun xv15 gv16 => bd2 (L_X8_keep_51 N N (0 : Int32) (g3 gv16 10 0 10 ((gv16 10 0 10) - (1 : Int32)))) (fun xv18 gv19 => some (g3 gv19 10 0 10 ((gv19 10 0 10) + (1 : Int32))))) else bd2 (L_X8_keep_51 N N (0 : Int32) g) (fun xv7 gv8 => some (g3 gv8 10 0 10 ((gv8 10 0 10) + (1 : Int32))))
set_option maxRecDepth 100000 in
set_option maxHeartbeats 4000000 in
theorem w_X8_keep_51 {p : Program} {l : Launch} {e : Env} {s : State} {m : MethodId} {args : Array Value} {below : List Frame} {meth : Method} {c : Code} {D : va_G} {ad : Ky → Nat} {cy : Nat → ClassId} {gq : GS} {N : Nat} (X : Cx p (rmd 0) s m args meth c RX8 cX8_keep 2 none D ad cy) : ∀ (n : Nat) (y1 : Int32) (g : GS) (y1' : Int32) (g' : GS), L_X8_keep_51 N n y1 g = some (y1', g') → Vy p l e (rmd 0) s m args below meth c 2 D ad cy (QV D ad cy below args s gq) 83 [some (.ref (ad (8, 0, 0))), some (.int y1')] [] g' → Vy p l e (rmd 0) s m args below meth c 2 D ad cy (QV D ad cy below args s gq) 51 [some (.ref (ad (8, 0, 0))), some (.int y1)] [] g := by
  intro n
  induction n with
  | zero => intro y1 g y1' g' h k; cases h
  | succ n ih =>
    intro y1 g y1' g' h k
    rw [L_X8_keep_51] at h
    refine v_iloadn X dX8_keep_51 rfl rfl ?_
    refine v_bipush (v := 53) X dX8_keep_52 (by decide) ?_
    refine v_icmp_ge X 83 dX8_keep_54 (by decide) (fun cv2 => ?_) (fun cv2 => ?_)
    · replace h := (if_pos cv2).symm.trans h
      cases h
      exact k
    · replace h := (if_neg cv2).symm.trans h
      refine v_aloadn X dX8_keep_57 rfl rfl ?_
      refine gf_X8_31 X dX8_keep_58 ?_
      refine v_bipush (v := 53) X dX8_keep_61 (by decide) ?_
      refine v_aloadn X dX8_keep_63 rfl rfl ?_
      refine gf_X8_152 X dX8_keep_64 ?_
      refine v_imul X dX8_keep_67 ?_
      refine v_iloadn X dX8_keep_68 rfl rfl ?_
      refine v_iadd X dX8_keep_69 ?_
      refine v_aloadn X dX8_keep_70 rfl rfl ?_
      refine gf_X8_19 X dX8_keep_71 ?_
      refine v_iloadn X dX8_keep_74 rfl rfl ?_
      obtain ⟨jv3, qv4, h⟩ := bd1_some h
      obtain ⟨ejv3, ljv3⟩ := ix_spec qv4
      refine alM X (by decide +kernel) jv3 ejv3 ljv3 dX8_keep_75 ?_
      obtain ⟨jv5, qv6, h⟩ := bd1_some h
      obtain ⟨ejv5, ljv5⟩ := ix_spec qv6
      refine asM X (by decide +kernel) jv5 ejv5 ljv5 dX8_keep_76 ?_
      refine v_iinc (v := (y1 + 1)) (lc' := [some (.ref (ad (8, 0, 0))), some (.int (y1 + 1))]) X dX8_keep_77 rfl rfl (by decide) rfl rfl ?_
      refine v_goto X 51 dX8_keep_80 (by decide) ?_
      exact ih (y1 + 1) (g3 g 11 9 jv5 (g 11 5 jv3)) _ _ h k
set_option maxRecDepth 100000 in
set_option maxHeartbeats 4000000 in
theorem w_X8_keep_11 {p : Program} {l : Launch} {e : Env} {s : State} {m : MethodId} {args : Array Value} {below : List Frame} {meth : Method} {c : Code} {D : va_G} {ad : Ky → Nat} {cy : Nat → ClassId} {gq : GS} {N : Nat} (X : Cx p (rmd 0) s m args meth c RX8 cX8_keep 2 none D ad cy) : ∀ (n : Nat) (y1 : Int32) (g : GS) (y1' : Int32) (g' : GS), L_X8_keep_11 N n y1 g = some (y1', g') → Vy p l e (rmd 0) s m args below meth c 2 D ad cy (QV D ad cy below args s gq) 39 [some (.ref (ad (8, 0, 0))), some (.int y1')] [] g' → Vy p l e (rmd 0) s m args below meth c 2 D ad cy (QV D ad cy below args s gq) 11 [some (.ref (ad (8, 0, 0))), some (.int y1)] [] g := by
  intro n
  induction n with
  | zero => intro y1 g y1' g' h k; cases h
  | succ n ih =>
    intro y1 g y1' g' h k
    rw [L_X8_keep_11] at h
    refine v_iloadn X dX8_keep_11 rfl rfl ?_
    refine v_sipush (v := 1219) X dX8_keep_12 (by decide) ?_
    refine v_icmp_ge X 39 dX8_keep_15 (by decide) (fun cv10 => ?_) (fun cv10 => ?_)
    · replace h := (if_pos cv10).symm.trans h
      cases h
      exact k
    · replace h := (if_neg cv10).symm.trans h
      refine v_aloadn X dX8_keep_18 rfl rfl ?_
      refine gf_X8_31 X dX8_keep_19 ?_
      refine v_iloadn X dX8_keep_22 rfl rfl ?_
      refine v_aloadn X dX8_keep_23 rfl rfl ?_
      refine gf_X8_31 X dX8_keep_24 ?_
      refine v_iloadn X dX8_keep_27 rfl rfl ?_
      refine v_bipush (v := 53) X dX8_keep_28 (by decide) ?_
      refine v_iadd X dX8_keep_30 ?_
      obtain ⟨jv11, qv12, h⟩ := bd1_some h
      obtain ⟨ejv11, ljv11⟩ := ix_spec qv12
      refine alM X (by decide +kernel) jv11 ejv11 ljv11 dX8_keep_31 ?_
      obtain ⟨jv13, qv14, h⟩ := bd1_some h
      obtain ⟨ejv13, ljv13⟩ := ix_spec qv14
      refine asM X (by decide +kernel) jv13 ejv13 ljv13 dX8_keep_32 ?_
      refine v_iinc (v := (y1 + 1)) (lc' := [some (.ref (ad (8, 0, 0))), some (.int (y1 + 1))]) X dX8_keep_33 rfl rfl (by decide) rfl rfl ?_
      refine v_goto X 11 dX8_keep_36 (by decide) ?_
      exact ih (y1 + 1) (g3 g 11 9 jv13 (g 11 9 jv11)) _ _ h k
set_option maxRecDepth 100000 in
set_option maxHeartbeats 4000000 in
theorem c_X8_keep (l : Launch) (D : va_G) (ad : Ky → Nat) (cy : Nat → ClassId) (hI : Inj ad) (N : Nat) (g : GS) (gq : GS) (h : F_X8_keep N  g = some gq) : CtV l D ad cy yX8_keep cX8_keep 2 0 [.ref (ad (8, 0, 0))] g gq := by
  refine CtV.of 1 hI (by decide +kernel) rfl (Nat.le_of_ble_eq_true rfl) (fun p e s m args below meth c X => ?_)
  unfold F_X8_keep at h
  show Vy _ _ _ _ _ _ _ _ _ _ _ _ _ _ _ 0 [some (.ref (ad (8, 0, 0))), none] [] g
  refine v_aloadn X dX8_keep_0 rfl rfl ?_
  refine gf_X8_152 X dX8_keep_1 ?_
  refine v_bipush (v := 24) X dX8_keep_4 (by decide) ?_
  refine v_icmp_ne X 49 dX8_keep_6 (by decide) (fun cv1 => ?_) (fun cv1 => ?_)
  · replace h := (if_neg cv1).symm.trans h
    refine v_iconst (v := 0) X dX8_keep_49 (by decide) ?_
    refine v_istoren (lc' := [some (.ref (ad (8, 0, 0))), some (.int (0 : Int32))]) X dX8_keep_50 rfl (by decide) rfl rfl ?_
    obtain ⟨xv7, gv8, qv9, h⟩ := bd2_some h
    refine w_X8_keep_51 X  N (0 : Int32) g xv7 gv8 qv9 ?_
    refine v_aloadn X dX8_keep_83 rfl rfl ?_
    refine v_dup X dX8_keep_84 rfl ?_
    refine gf_X8_152 X dX8_keep_85 ?_
    refine v_iconst (v := 1) X dX8_keep_88 (by decide) ?_
    refine v_iadd X dX8_keep_89 ?_
    refine pf_X8_152 X dX8_keep_90 ?_
    exact v_vret X dX8_keep_93 (Option.some.inj h)
  · replace h := (if_pos cv1).symm.trans h
    refine v_iconst (v := 0) X dX8_keep_9 (by decide) ?_
    refine v_istoren (lc' := [some (.ref (ad (8, 0, 0))), some (.int (0 : Int32))]) X dX8_keep_10 rfl (by decide) rfl rfl ?_
    obtain ⟨xv15, gv16, qv17, h⟩ := bd2_some h
    refine w_X8_keep_11 X  N (0 : Int32) g xv15 gv16 qv17 ?_
    refine v_aloadn X dX8_keep_39 rfl rfl ?_
    refine v_dup X dX8_keep_40 rfl ?_
    refine gf_X8_152 X dX8_keep_41 ?_
    refine v_iconst (v := 1) X dX8_keep_44 (by decide) ?_
    refine v_isub X dX8_keep_45 ?_
    refine pf_X8_152 X dX8_keep_46 ?_
    refine v_iconst (v := 0) X dX8_keep_49 (by decide) ?_
    refine v_istoren (lc' := [some (.ref (ad (8, 0, 0))), some (.int (0 : Int32))]) X dX8_keep_50 rfl (by decide) rfl rfl ?_
    obtain ⟨xv18, gv19, qv20, h⟩ := bd2_some h
    refine w_X8_keep_51 X  N (0 : Int32) (g3 gv16 10 0 10 ((gv16 10 0 10) - (1 : Int32))) xv18 gv19 qv20 ?_
    refine v_aloadn X dX8_keep_83 rfl rfl ?_
    refine v_dup X dX8_keep_84 rfl ?_
    refine gf_X8_152 X dX8_keep_85 ?_
    refine v_iconst (v := 1) X dX8_keep_88 (by decide) ?_
    refine v_iadd X dX8_keep_89 ?_
    refine pf_X8_152 X dX8_keep_90 ?_
    exact v_vret X dX8_keep_93 (Option.some.inj h)
def F_X8_blow (N : Nat) (x1 : Int32) (x2 : Int32) (g : GS) : Option (Int32 × GS) := bd1 (ix (1 : Int32) 53) (fun jv1 => bd2 (F_X8_in N (x1.toInt64) (0 : Int64) (((g 11 5 jv1) - (1 : Int32)).toInt64) (g3 g 10 0 0 (0 : Int32))) (fun rv5 gv4 => if rv5 = 0 then some ((-1000001 : Int32), gv4) else bd2 (F_X8_in N (x2.toInt64) (0 : Int64) (9 : Int64) gv4) (fun rv9 gv8 => if rv9 = 0 then some ((-1000001 : Int32), gv8) else bd1 (F_X8_keep N  gv8) (fun gv12 => bd1 (ix ((5 : Int32) + x1) 53) (fun jv13 => some ((gv12 11 5 jv13), (g3 gv12 11 5 jv13 x2)))))))
set_option maxRecDepth 100000 in
set_option maxHeartbeats 4000000 in
theorem c_X8_blow (l : Launch) (D : va_G) (ad : Ky → Nat) (cy : Nat → ClassId) (hI : Inj ad) (N : Nat) (x1 : Int32) (x2 : Int32) (g : GS) (r : Int32) (gq : GS) (h : F_X8_blow N x1 x2 g = some (r, gq)) : CtI l D ad cy yX8_blow cX8_blow 4 (some .int) 1 [.ref (ad (8, 0, 0)), .int x1, .int x2] g r gq := by
  refine CtI.of 1 hI (by decide +kernel) rfl (Nat.le_of_ble_eq_true rfl) (fun p e s m args below meth c X => ?_)
  unfold F_X8_blow at h
  show Vy _ _ _ _ _ _ _ _ _ _ _ _ _ _ _ 0 [some (.ref (ad (8, 0, 0))), some (.int x1), some (.int x2), none] [] g
  refine v_aloadn X dX8_blow_0 rfl rfl ?_
  refine v_iconst (v := 0) X dX8_blow_1 (by decide) ?_
  refine pf_X8_50 X dX8_blow_2 ?_
  refine v_iloadn X dX8_blow_5 rfl rfl ?_
  refine v_i2l X dX8_blow_6 ?_
  refine v_lconst (v := 0) X dX8_blow_7 (by decide) ?_
  refine v_aloadn X dX8_blow_8 rfl rfl ?_
  refine gf_X8_19 X dX8_blow_9 ?_
  refine v_iconst (v := 1) X dX8_blow_12 (by decide) ?_
  obtain ⟨jv1, qv2, h⟩ := bd1_some h
  obtain ⟨ejv1, ljv1⟩ := ix_spec qv2
  refine alM X (by decide +kernel) jv1 ejv1 ljv1 dX8_blow_13 ?_
  refine v_vali (v2 := (g 11 5 jv1)) rfl ?_
  refine v_iconst (v := 1) X dX8_blow_14 (by decide) ?_
  refine v_isub X dX8_blow_15 ?_
  refine v_i2l X dX8_blow_16 ?_
  obtain ⟨rv5, gv4, qv3, h⟩ := bd2_some h
  refine v_callSI (As := [.long (x1.toInt64), .long (0 : Int64), .long (((g 11 5 jv1) - (1 : Int32)).toInt64)]) (rest := []) X (c_X8_in l D ad cy X.2.2.2.2.2.2.2.2.1 N (x1.toInt64) (0 : Int64) (((g 11 5 jv1) - (1 : Int32)).toInt64) (g3 g 10 0 0 (0 : Int32)) rv5 gv4  qv3) mw_X8_in ml_X8_60 (by decide) rfl rfl (Nat.le_of_ble_eq_true rfl) dX8_blow_17 ?_
  refine v_if_eq X 35 dX8_blow_20 (by decide) (fun cv6 => ?_) (fun cv6 => ?_)
  · replace h := (if_pos cv6).symm.trans h
    refine v_ldc X kc_X8_70 dX8_blow_35 ?_
    obtain ⟨er, eg⟩ := Prod.mk.inj (Option.some.inj h)
    exact v_iret X dX8_blow_37 er eg
  · replace h := (if_neg cv6).symm.trans h
    refine v_iloadn X dX8_blow_23 rfl rfl ?_
    refine v_i2l X dX8_blow_24 ?_
    refine v_lconst (v := 0) X dX8_blow_25 (by decide) ?_
    refine v_ldc2 X kl_X8_227 dX8_blow_26 ?_
    obtain ⟨rv9, gv8, qv7, h⟩ := bd2_some h
    refine v_callSI (As := [.long (x2.toInt64), .long (0 : Int64), .long (9 : Int64)]) (rest := []) X (c_X8_in l D ad cy X.2.2.2.2.2.2.2.2.1 N (x2.toInt64) (0 : Int64) (9 : Int64) gv4 rv9 gv8  qv7) mw_X8_in ml_X8_60 (by decide) rfl rfl (Nat.le_of_ble_eq_true rfl) dX8_blow_29 ?_
    refine v_if_ne X 38 dX8_blow_32 (by decide) (fun cv10 => ?_) (fun cv10 => ?_)
    · replace h := (if_neg cv10).symm.trans h
      refine v_aloadn X dX8_blow_38 rfl rfl ?_
      obtain ⟨gv12, qv11, h⟩ := bd1_some h
      refine v_callVV (As := []) (rest := []) X (c_X8_keep l D ad cy X.2.2.2.2.2.2.2.2.1 N  gv8 gv12  qv11) mw_X8_keep ml_X8_201 (by decide) (by decide +kernel) (by decide) rfl rfl rfl rfl (Nat.le_of_ble_eq_true rfl) dX8_blow_39 ?_
      refine v_aloadn X dX8_blow_42 rfl rfl ?_
      refine gf_X8_19 X dX8_blow_43 ?_
      refine v_iconst (v := 5) X dX8_blow_46 (by decide) ?_
      refine v_iloadn X dX8_blow_47 rfl rfl ?_
      refine v_iadd X dX8_blow_48 ?_
      obtain ⟨jv13, qv14, h⟩ := bd1_some h
      obtain ⟨ejv13, ljv13⟩ := ix_spec qv14
      refine alM X (by decide +kernel) jv13 ejv13 ljv13 dX8_blow_49 ?_
      refine v_istoren (lc' := [some (.ref (ad (8, 0, 0))), some (.int x1), some (.int x2), some (.int (gv12 11 5 jv13))]) X dX8_blow_50 rfl (by decide) rfl rfl ?_
      refine v_aloadn X dX8_blow_51 rfl rfl ?_
      refine gf_X8_19 X dX8_blow_52 ?_
      refine v_iconst (v := 5) X dX8_blow_55 (by decide) ?_
      refine v_iloadn X dX8_blow_56 rfl rfl ?_
      refine v_iadd X dX8_blow_57 ?_
      refine v_iloadn X dX8_blow_58 rfl rfl ?_
      refine asM X (by decide +kernel) jv13 ejv13 ljv13 dX8_blow_59 ?_
      refine v_iloadn X dX8_blow_60 rfl rfl ?_
      obtain ⟨er, eg⟩ := Prod.mk.inj (Option.some.inj h)
      exact v_iret X dX8_blow_61 er eg
    · replace h := (if_pos cv10).symm.trans h
      refine v_ldc X kc_X8_70 dX8_blow_35 ?_
      obtain ⟨er, eg⟩ := Prod.mk.inj (Option.some.inj h)
      exact v_iret X dX8_blow_37 er eg
def F_X8_isPolicy (N : Nat) (b0 : Nat) (x1 : Int32) (g : GS) : Option (Int32 × GS) := bd2 (F_X8_isUp N b0 x1 g) (fun rv3 gv2 => if rv3 = 0 then some ((0 : Int32), gv2) else bd2 (F_X8_of N b0 x1 (4 : Int32) gv2) (fun rv7 gv6 => bd1 (ix (2 : Int32) (lenM b0)) (fun jv8 => if rv7 < (gv6 11 b0 jv8) then some ((0 : Int32), gv6) else some ((1 : Int32), gv6))))
set_option maxRecDepth 100000 in
set_option maxHeartbeats 4000000 in
theorem c_X8_isPolicy (l : Launch) (D : va_G) (ad : Ky → Nat) (cy : Nat → ClassId) (hI : Inj ad) (N : Nat) (b0 : Nat) (x1 : Int32) (g : GS) (r : Int32) (gq : GS) (kb0 : ((9, 11, b0) : Ky) ∈ keys) (h : F_X8_isPolicy N b0 x1 g = some (r, gq)) : CtI l D ad cy yX8_isPolicy cX8_isPolicy 2 (some .boolean) 2 [.ref (ad (9, 11, b0)), .int x1] g r gq := by
  refine CtI.of 0 hI (by decide +kernel) rfl (Nat.le_of_ble_eq_true rfl) (fun p e s m args below meth c X => ?_)
  unfold F_X8_isPolicy at h
  show Vy _ _ _ _ _ _ _ _ _ _ _ _ _ _ _ 0 [some (.ref (ad (9, 11, b0))), some (.int x1)] [] g
  refine v_aloadn X dX8_isPolicy_0 rfl rfl ?_
  refine v_iloadn X dX8_isPolicy_1 rfl rfl ?_
  obtain ⟨rv3, gv2, qv1, h⟩ := bd2_some h
  refine v_callSI (As := [.ref (ad (9, 11, b0)), .int x1]) (rest := []) X (c_X8_isUp l D ad cy X.2.2.2.2.2.2.2.2.1 N b0 x1 g rv3 gv2 (by assumption) qv1) mw_X8_isUp ml_X8_159 (by decide) rfl rfl (Nat.le_of_ble_eq_true rfl) dX8_isPolicy_2 ?_
  refine v_if_eq X 24 dX8_isPolicy_5 (by decide) (fun cv4 => ?_) (fun cv4 => ?_)
  · replace h := (if_pos cv4).symm.trans h
    refine v_iconst (v := 0) X dX8_isPolicy_24 (by decide) ?_
    obtain ⟨er, eg⟩ := Prod.mk.inj (Option.some.inj h)
    exact v_zret X dX8_isPolicy_25 rfl er eg
  · replace h := (if_neg cv4).symm.trans h
    refine v_aloadn X dX8_isPolicy_8 rfl rfl ?_
    refine v_iloadn X dX8_isPolicy_9 rfl rfl ?_
    refine v_iconst (v := 4) X dX8_isPolicy_10 (by decide) ?_
    obtain ⟨rv7, gv6, qv5, h⟩ := bd2_some h
    refine v_callSI (As := [.ref (ad (9, 11, b0)), .int x1, .int (4 : Int32)]) (rest := []) X (c_X8_of l D ad cy X.2.2.2.2.2.2.2.2.1 N b0 x1 (4 : Int32) gv2 rv7 gv6 (by assumption) qv5) mw_X8_of ml_X8_155 (by decide) rfl rfl (Nat.le_of_ble_eq_true rfl) dX8_isPolicy_11 ?_
    refine v_aloadn X dX8_isPolicy_14 rfl rfl ?_
    refine v_iconst (v := 2) X dX8_isPolicy_15 (by decide) ?_
    obtain ⟨jv8, qv9, h⟩ := bd1_some h
    obtain ⟨ejv8, ljv8⟩ := ix_spec qv9
    refine alM X (by assumption) jv8 ejv8 ljv8 dX8_isPolicy_16 ?_
    refine v_icmp_lt X 24 dX8_isPolicy_17 (by decide) (fun cv10 => ?_) (fun cv10 => ?_)
    · replace h := (if_pos cv10).symm.trans h
      refine v_iconst (v := 0) X dX8_isPolicy_24 (by decide) ?_
      obtain ⟨er, eg⟩ := Prod.mk.inj (Option.some.inj h)
      exact v_zret X dX8_isPolicy_25 rfl er eg
    · replace h := (if_neg cv10).symm.trans h
      refine v_iconst (v := 1) X dX8_isPolicy_20 (by decide) ?_
      refine v_goto X 25 dX8_isPolicy_21 (by decide) ?_
      obtain ⟨er, eg⟩ := Prod.mk.inj (Option.some.inj h)
      exact v_zret X dX8_isPolicy_25 rfl er eg
def L_X8_calm_79 (N : Nat) (z1 : Int32) (z2 : Int32) (z3 : Int32) (z4 : Int32) (z5 : Int64) (z7 : Int64) (z9 : Int32) : Nat → Int64 → Int32 → GS → Option (Int64 × Int32 × GS)
  | 0, _, _, _ => none
  | n + 1, y10, y12, g => if z2 ≤ y12 then some (y10, y12, g) else if ((z9 >>> (y12 &&& 31)) &&& (1 : Int32)) = (1 : Int32) then if ((z9 >>> (y12 &&& 31)) &&& (1 : Int32)) = (1 : Int32) then bd1 (F_X8_hourBy N 7 (0 : Int32) g) (fun gv41 => L_X8_calm_79 N z1 z2 z3 z4 z5 z7 z9 n (y10 * (z3.toInt64)) (y12 + 1) gv41) else bd1 (ix (4 : Int32) 53) (fun jv33 => bd2 (F_X8_forceOf N 7 (g 11 7 jv33) g) (fun rv37 gv36 => bd1 (F_X8_hourBy N 7 rv37 gv36) (fun gv39 => L_X8_calm_79 N z1 z2 z3 z4 z5 z7 z9 n (y10 * (z3.toInt64)) (y12 + 1) gv39))) else if ((z9 >>> (y12 &&& 31)) &&& (1 : Int32)) = (1 : Int32) then bd1 (F_X8_hourBy N 7 (0 : Int32) g) (fun gv31 => L_X8_calm_79 N z1 z2 z3 z4 z5 z7 z9 n (y10 * ((10 : Int64) - (z3.toInt64))) (y12 + 1) gv31) else bd1 (ix (4 : Int32) 53) (fun jv23 => bd2 (F_X8_forceOf N 7 (g 11 7 jv23) g) (fun rv27 gv26 => bd1 (F_X8_hourBy N 7 rv27 gv26) (fun gv29 => L_X8_calm_79 N z1 z2 z3 z4 z5 z7 z9 n (y10 * ((10 : Int64) - (z3.toInt64))) (y12 + 1) gv29)))
def L_X8_calm_61 (N : Nat) (z1 : Int32) (z2 : Int32) (z3 : Int32) (z4 : Int32) : Nat → Int64 → Int64 → Int32 → GS → Option (Int64 × Int64 × Int32 × GS)
  | 0, _, _, _, _ => none
  | n + 1, y5, y7, y9, g => if ((1 : Int32) <<< (z2 &&& 31)) ≤ y9 then some (y5, y7, y9, g) else bd1 (F_X8_layThen N  g) (fun gv19 => bd3 (L_X8_calm_79 N z1 z2 z3 z4 y5 y7 y9 N (1 : Int64) (0 : Int32) gv19) (fun xv42 xv43 gv44 => bd2 (F_X8_isPolicy N 7 z1 gv44) (fun rv48 gv47 => if rv48 = 0 then L_X8_calm_61 N z1 z2 z3 z4 n (y5 + (0 : Int64)) (y7 + xv42) (y9 + 1) gv47 else L_X8_calm_61 N z1 z2 z3 z4 n (y5 + xv42) (y7 + xv42) (y9 + 1) gv47)))
def L_X8_calm_197 (N : Nat) (z1 : Int32) (z2 : Int32) (z3 : Int32) (z4 : Int32) (z5 : Int64) (z7 : Int64) : Nat → Int64 → Int64 → GS → Option (Int64 × Int64 × GS)
  | 0, _, _, _ => none
  | n + 1, y9, y11, g => if (lg_cmp y11 (0 : Int64)) = 0 then some (y9, y11, g) else if y11 = 0 then none else L_X8_calm_197 N z1 z2 z3 z4 z5 z7 n y11 (y9 - y9 / y11 * y11) g
def F_X8_calm (N : Nat) (x1 : Int32) (x2 : Int32) (x3 : Int32) (x4 : Int32) (g : GS) : Option (Int64 × GS) := bd2 (F_X8_isPaper N x1 (g3 g 10 0 0 (0 : Int32))) (fun rv3 gv2 => if rv3 = 0 then some ((-1000001 : Int64), gv2) else bd2 (F_X8_in N (x2.toInt64) (0 : Int64) (8 : Int64) gv2) (fun rv7 gv6 => if rv7 = 0 then some ((-1000001 : Int64), gv6) else bd2 (F_X8_in N (x3.toInt64) (0 : Int64) (10 : Int64) gv6) (fun rv11 gv10 => if rv11 = 0 then some ((-1000001 : Int64), gv10) else bd2 (F_X8_in N (x4.toInt64) (0 : Int64) (1 : Int64) gv10) (fun rv15 gv14 => if rv15 = 0 then some ((-1000001 : Int64), gv14) else bd4 (L_X8_calm_61 N x1 x2 x3 x4 N (0 : Int64) (0 : Int64) (0 : Int32) gv14) (fun xv50 xv51 xv52 gv53 => bd3 (L_X8_calm_197 N x1 x2 x3 x4 xv50 xv51 N xv50 xv51 gv53) (fun xv57 xv58 gv59 => if x4 = 0 then if xv57 = 0 then none else some ((xv50 / xv57), gv59) else if xv57 = 0 then none else some ((xv51 / xv57), gv59)))))))
set_option maxRecDepth 100000 in
set_option maxHeartbeats 4000000 in
theorem w_X8_calm_79 {p : Program} {l : Launch} {e : Env} {s : State} {m : MethodId} {args : Array Value} {below : List Frame} {meth : Method} {c : Code} {D : va_G} {ad : Ky → Nat} {cy : Nat → ClassId} {r : Int64} {gq : GS} {N : Nat} (X : Cx p (rmd 5) s m args meth c RX8 cX8_calm 15 (some .long) D ad cy) (z1 : Int32) (z2 : Int32) (z3 : Int32) (z4 : Int32) (z5 : Int64) (z7 : Int64) (z9 : Int32) : ∀ (n : Nat) (y10 : Int64) (y12 : Int32) (g : GS) (y10' : Int64) (y12' : Int32) (g' : GS), L_X8_calm_79 N z1 z2 z3 z4 z5 z7 z9 n y10 y12 g = some (y10', y12', g') → Vy p l e (rmd 5) s m args below meth c 15 D ad cy (QL D ad cy below args s r gq) 154 [some (.ref (ad (8, 0, 0))), some (.int z1), some (.int z2), some (.int z3), some (.int z4), some (.long z5), none, some (.long z7), none, some (.int z9), some (.long y10'), none, some (.int y12'), none, none] [] g' → Vy p l e (rmd 5) s m args below meth c 15 D ad cy (QL D ad cy below args s r gq) 79 [some (.ref (ad (8, 0, 0))), some (.int z1), some (.int z2), some (.int z3), some (.int z4), some (.long z5), none, some (.long z7), none, some (.int z9), some (.long y10), none, some (.int y12), none, none] [] g := by
  intro n
  induction n with
  | zero => intro y10 y12 g y10' y12' g' h k; cases h
  | succ n ih =>
    intro y10 y12 g y10' y12' g' h k
    rw [L_X8_calm_79] at h
    refine v_iload X dX8_calm_79 rfl ?_
    refine v_iloadn X dX8_calm_81 rfl rfl ?_
    refine v_icmp_ge X 154 dX8_calm_82 (by decide) (fun cv20 => ?_) (fun cv20 => ?_)
    · replace h := (if_pos cv20).symm.trans h
      cases h
      exact k
    · replace h := (if_neg cv20).symm.trans h
      refine v_lload X dX8_calm_85 rfl ?_
      refine v_iload X dX8_calm_87 rfl ?_
      refine v_iload X dX8_calm_89 rfl ?_
      refine v_ishr X dX8_calm_91 ?_
      refine v_iconst (v := 1) X dX8_calm_92 (by decide) ?_
      refine v_iand X dX8_calm_93 ?_
      refine v_iconst (v := 1) X dX8_calm_94 (by decide) ?_
      refine v_icmp_ne X 103 dX8_calm_95 (by decide) (fun cv21 => ?_) (fun cv21 => ?_)
      · replace h := (if_neg cv21).symm.trans h
        refine v_ldc2 X kl_X8_264 dX8_calm_103 ?_
        refine v_iloadn X dX8_calm_106 rfl rfl ?_
        refine v_i2l X dX8_calm_107 ?_
        refine v_lsub X dX8_calm_108 ?_
        refine v_lmul X dX8_calm_109 ?_
        refine v_lstore (lc' := [some (.ref (ad (8, 0, 0))), some (.int z1), some (.int z2), some (.int z3), some (.int z4), some (.long z5), none, some (.long z7), none, some (.int z9), some (.long (y10 * ((10 : Int64) - (z3.toInt64)))), none, some (.int y12), none, none]) X dX8_calm_110 (by decide) rfl rfl ?_
        refine v_aloadn X dX8_calm_112 rfl rfl ?_
        refine v_aloadn X dX8_calm_113 rfl rfl ?_
        refine gf_X8_25 X dX8_calm_114 ?_
        refine v_iload X dX8_calm_117 rfl ?_
        refine v_iload X dX8_calm_119 rfl ?_
        refine v_ishr X dX8_calm_121 ?_
        refine v_iconst (v := 1) X dX8_calm_122 (by decide) ?_
        refine v_iand X dX8_calm_123 ?_
        refine v_iconst (v := 1) X dX8_calm_124 (by decide) ?_
        refine v_icmp_ne X 132 dX8_calm_125 (by decide) (fun cv22 => ?_) (fun cv22 => ?_)
        · replace h := (if_neg cv22).symm.trans h
          refine v_aloadn X dX8_calm_132 rfl rfl ?_
          refine gf_X8_25 X dX8_calm_133 ?_
          refine v_aloadn X dX8_calm_136 rfl rfl ?_
          refine gf_X8_25 X dX8_calm_137 ?_
          refine v_iconst (v := 4) X dX8_calm_140 (by decide) ?_
          obtain ⟨jv23, qv24, h⟩ := bd1_some h
          obtain ⟨ejv23, ljv23⟩ := ix_spec qv24
          refine alM X (by decide +kernel) jv23 ejv23 ljv23 dX8_calm_141 ?_
          obtain ⟨rv27, gv26, qv25, h⟩ := bd2_some h
          refine v_callSI (As := [.ref (ad (9, 11, 7)), .int (g 11 7 jv23)]) (rest := [.ref (ad (9, 11, 7)), .ref (ad (8, 0, 0))]) X (c_X8_forceOf l D ad cy X.2.2.2.2.2.2.2.2.1 N 7 (g 11 7 jv23) g rv27 gv26 (by decide +kernel) qv25) mw_X8_forceOf ml_X8_180 (by decide) rfl rfl (Nat.le_of_ble_eq_true rfl) dX8_calm_142 ?_
          obtain ⟨gv29, qv28, h⟩ := bd1_some h
          refine v_callVV (As := [.ref (ad (9, 11, 7)), .int rv27]) (rest := []) X (c_X8_hourBy l D ad cy X.2.2.2.2.2.2.2.2.1 N 7 rv27 gv26 gv29 (by decide +kernel) qv28) mw_X8_hourBy ml_X8_184 (by decide) (by decide +kernel) (by decide) rfl rfl rfl rfl (Nat.le_of_ble_eq_true rfl) dX8_calm_145 ?_
          refine v_iinc (v := (y12 + 1)) (lc' := [some (.ref (ad (8, 0, 0))), some (.int z1), some (.int z2), some (.int z3), some (.int z4), some (.long z5), none, some (.long z7), none, some (.int z9), some (.long (y10 * ((10 : Int64) - (z3.toInt64)))), none, some (.int (y12 + 1)), none, none]) X dX8_calm_148 rfl rfl (by decide) rfl rfl ?_
          refine v_goto X 79 dX8_calm_151 (by decide) ?_
          exact ih (y10 * ((10 : Int64) - (z3.toInt64))) (y12 + 1) gv29 _ _ _ h k
        · replace h := (if_pos cv22).symm.trans h
          refine v_iconst (v := 0) X dX8_calm_128 (by decide) ?_
          refine v_goto X 145 dX8_calm_129 (by decide) ?_
          obtain ⟨gv31, qv30, h⟩ := bd1_some h
          refine v_callVV (As := [.ref (ad (9, 11, 7)), .int (0 : Int32)]) (rest := []) X (c_X8_hourBy l D ad cy X.2.2.2.2.2.2.2.2.1 N 7 (0 : Int32) g gv31 (by decide +kernel) qv30) mw_X8_hourBy ml_X8_184 (by decide) (by decide +kernel) (by decide) rfl rfl rfl rfl (Nat.le_of_ble_eq_true rfl) dX8_calm_145 ?_
          refine v_iinc (v := (y12 + 1)) (lc' := [some (.ref (ad (8, 0, 0))), some (.int z1), some (.int z2), some (.int z3), some (.int z4), some (.long z5), none, some (.long z7), none, some (.int z9), some (.long (y10 * ((10 : Int64) - (z3.toInt64)))), none, some (.int (y12 + 1)), none, none]) X dX8_calm_148 rfl rfl (by decide) rfl rfl ?_
          refine v_goto X 79 dX8_calm_151 (by decide) ?_
          exact ih (y10 * ((10 : Int64) - (z3.toInt64))) (y12 + 1) gv31 _ _ _ h k
      · replace h := (if_pos cv21).symm.trans h
        refine v_iloadn X dX8_calm_98 rfl rfl ?_
        refine v_i2l X dX8_calm_99 ?_
        refine v_goto X 109 dX8_calm_100 (by decide) ?_
        refine v_lmul X dX8_calm_109 ?_
        refine v_lstore (lc' := [some (.ref (ad (8, 0, 0))), some (.int z1), some (.int z2), some (.int z3), some (.int z4), some (.long z5), none, some (.long z7), none, some (.int z9), some (.long (y10 * (z3.toInt64))), none, some (.int y12), none, none]) X dX8_calm_110 (by decide) rfl rfl ?_
        refine v_aloadn X dX8_calm_112 rfl rfl ?_
        refine v_aloadn X dX8_calm_113 rfl rfl ?_
        refine gf_X8_25 X dX8_calm_114 ?_
        refine v_iload X dX8_calm_117 rfl ?_
        refine v_iload X dX8_calm_119 rfl ?_
        refine v_ishr X dX8_calm_121 ?_
        refine v_iconst (v := 1) X dX8_calm_122 (by decide) ?_
        refine v_iand X dX8_calm_123 ?_
        refine v_iconst (v := 1) X dX8_calm_124 (by decide) ?_
        refine v_icmp_ne X 132 dX8_calm_125 (by decide) (fun cv32 => ?_) (fun cv32 => ?_)
        · replace h := (if_neg cv32).symm.trans h
          refine v_aloadn X dX8_calm_132 rfl rfl ?_
          refine gf_X8_25 X dX8_calm_133 ?_
          refine v_aloadn X dX8_calm_136 rfl rfl ?_
          refine gf_X8_25 X dX8_calm_137 ?_
          refine v_iconst (v := 4) X dX8_calm_140 (by decide) ?_
          obtain ⟨jv33, qv34, h⟩ := bd1_some h
          obtain ⟨ejv33, ljv33⟩ := ix_spec qv34
          refine alM X (by decide +kernel) jv33 ejv33 ljv33 dX8_calm_141 ?_
          obtain ⟨rv37, gv36, qv35, h⟩ := bd2_some h
          refine v_callSI (As := [.ref (ad (9, 11, 7)), .int (g 11 7 jv33)]) (rest := [.ref (ad (9, 11, 7)), .ref (ad (8, 0, 0))]) X (c_X8_forceOf l D ad cy X.2.2.2.2.2.2.2.2.1 N 7 (g 11 7 jv33) g rv37 gv36 (by decide +kernel) qv35) mw_X8_forceOf ml_X8_180 (by decide) rfl rfl (Nat.le_of_ble_eq_true rfl) dX8_calm_142 ?_
          obtain ⟨gv39, qv38, h⟩ := bd1_some h
          refine v_callVV (As := [.ref (ad (9, 11, 7)), .int rv37]) (rest := []) X (c_X8_hourBy l D ad cy X.2.2.2.2.2.2.2.2.1 N 7 rv37 gv36 gv39 (by decide +kernel) qv38) mw_X8_hourBy ml_X8_184 (by decide) (by decide +kernel) (by decide) rfl rfl rfl rfl (Nat.le_of_ble_eq_true rfl) dX8_calm_145 ?_
          refine v_iinc (v := (y12 + 1)) (lc' := [some (.ref (ad (8, 0, 0))), some (.int z1), some (.int z2), some (.int z3), some (.int z4), some (.long z5), none, some (.long z7), none, some (.int z9), some (.long (y10 * (z3.toInt64))), none, some (.int (y12 + 1)), none, none]) X dX8_calm_148 rfl rfl (by decide) rfl rfl ?_
          refine v_goto X 79 dX8_calm_151 (by decide) ?_
          exact ih (y10 * (z3.toInt64)) (y12 + 1) gv39 _ _ _ h k
        · replace h := (if_pos cv32).symm.trans h
          refine v_iconst (v := 0) X dX8_calm_128 (by decide) ?_
          refine v_goto X 145 dX8_calm_129 (by decide) ?_
          obtain ⟨gv41, qv40, h⟩ := bd1_some h
          refine v_callVV (As := [.ref (ad (9, 11, 7)), .int (0 : Int32)]) (rest := []) X (c_X8_hourBy l D ad cy X.2.2.2.2.2.2.2.2.1 N 7 (0 : Int32) g gv41 (by decide +kernel) qv40) mw_X8_hourBy ml_X8_184 (by decide) (by decide +kernel) (by decide) rfl rfl rfl rfl (Nat.le_of_ble_eq_true rfl) dX8_calm_145 ?_
          refine v_iinc (v := (y12 + 1)) (lc' := [some (.ref (ad (8, 0, 0))), some (.int z1), some (.int z2), some (.int z3), some (.int z4), some (.long z5), none, some (.long z7), none, some (.int z9), some (.long (y10 * (z3.toInt64))), none, some (.int (y12 + 1)), none, none]) X dX8_calm_148 rfl rfl (by decide) rfl rfl ?_
          refine v_goto X 79 dX8_calm_151 (by decide) ?_
          exact ih (y10 * (z3.toInt64)) (y12 + 1) gv41 _ _ _ h k
set_option maxRecDepth 100000 in
set_option maxHeartbeats 4000000 in
theorem w_X8_calm_61 {p : Program} {l : Launch} {e : Env} {s : State} {m : MethodId} {args : Array Value} {below : List Frame} {meth : Method} {c : Code} {D : va_G} {ad : Ky → Nat} {cy : Nat → ClassId} {r : Int64} {gq : GS} {N : Nat} (X : Cx p (rmd 5) s m args meth c RX8 cX8_calm 15 (some .long) D ad cy) (z1 : Int32) (z2 : Int32) (z3 : Int32) (z4 : Int32) : ∀ (n : Nat) (y5 : Int64) (y7 : Int64) (y9 : Int32) (g : GS) (y5' : Int64) (y7' : Int64) (y9' : Int32) (g' : GS), L_X8_calm_61 N z1 z2 z3 z4 n y5 y7 y9 g = some (y5', y7', y9', g') → Vy p l e (rmd 5) s m args below meth c 15 D ad cy (QL D ad cy below args s r gq) 189 [some (.ref (ad (8, 0, 0))), some (.int z1), some (.int z2), some (.int z3), some (.int z4), some (.long y5'), none, some (.long y7'), none, some (.int y9'), none, none, none, none, none] [] g' → Vy p l e (rmd 5) s m args below meth c 15 D ad cy (QL D ad cy below args s r gq) 61 [some (.ref (ad (8, 0, 0))), some (.int z1), some (.int z2), some (.int z3), some (.int z4), some (.long y5), none, some (.long y7), none, some (.int y9), none, none, none, none, none] [] g := by
  intro n
  induction n with
  | zero => intro y5 y7 y9 g y5' y7' y9' g' h k; cases h
  | succ n ih =>
    intro y5 y7 y9 g y5' y7' y9' g' h k
    rw [L_X8_calm_61] at h
    refine v_iload X dX8_calm_61 rfl ?_
    refine v_iconst (v := 1) X dX8_calm_63 (by decide) ?_
    refine v_iloadn X dX8_calm_64 rfl rfl ?_
    refine v_ishl X dX8_calm_65 ?_
    refine v_icmp_ge X 189 dX8_calm_66 (by decide) (fun cv17 => ?_) (fun cv17 => ?_)
    · replace h := (if_pos cv17).symm.trans h
      cases h
      exact k
    · replace h := (if_neg cv17).symm.trans h
      refine v_lconst (v := 1) X dX8_calm_69 (by decide) ?_
      refine v_lstore (lc' := [some (.ref (ad (8, 0, 0))), some (.int z1), some (.int z2), some (.int z3), some (.int z4), some (.long y5), none, some (.long y7), none, some (.int y9), some (.long (1 : Int64)), none, none, none, none]) X dX8_calm_70 (by decide) rfl rfl ?_
      refine v_aloadn X dX8_calm_72 rfl rfl ?_
      obtain ⟨gv19, qv18, h⟩ := bd1_some h
      refine v_callVV (As := []) (rest := []) X (c_X8_layThen l D ad cy X.2.2.2.2.2.2.2.2.1 N  g gv19  qv18) mw_X8_layThen ml_X8_232 (by decide) (by decide +kernel) (by decide) rfl rfl rfl rfl (Nat.le_of_ble_eq_true rfl) dX8_calm_73 ?_
      refine v_iconst (v := 0) X dX8_calm_76 (by decide) ?_
      refine v_istore (lc' := [some (.ref (ad (8, 0, 0))), some (.int z1), some (.int z2), some (.int z3), some (.int z4), some (.long y5), none, some (.long y7), none, some (.int y9), some (.long (1 : Int64)), none, some (.int (0 : Int32)), none, none]) X dX8_calm_77 (by decide) rfl rfl ?_
      obtain ⟨xv42, xv43, gv44, qv45, h⟩ := bd3_some h
      refine w_X8_calm_79 X z1 z2 z3 z4 y5 y7 y9 N (1 : Int64) (0 : Int32) gv19 xv42 xv43 gv44 qv45 ?_
      refine v_lload X dX8_calm_154 rfl ?_
      refine v_lload X dX8_calm_156 rfl ?_
      refine v_ladd X dX8_calm_158 ?_
      refine v_lstore (lc' := [some (.ref (ad (8, 0, 0))), some (.int z1), some (.int z2), some (.int z3), some (.int z4), some (.long y5), none, some (.long (y7 + xv42)), none, some (.int y9), some (.long xv42), none, some (.int xv43), none, none]) X dX8_calm_159 (by decide) rfl rfl ?_
      refine v_lload X dX8_calm_161 rfl ?_
      refine v_aloadn X dX8_calm_163 rfl rfl ?_
      refine gf_X8_25 X dX8_calm_164 ?_
      refine v_iloadn X dX8_calm_167 rfl rfl ?_
      obtain ⟨rv48, gv47, qv46, h⟩ := bd2_some h
      refine v_callSI (As := [.ref (ad (9, 11, 7)), .int z1]) (rest := [.long y5]) X (c_X8_isPolicy l D ad cy X.2.2.2.2.2.2.2.2.1 N 7 z1 gv44 rv48 gv47 (by decide +kernel) qv46) mw_X8_isPolicy ml_X8_192 (by decide) rfl rfl (Nat.le_of_ble_eq_true rfl) dX8_calm_168 ?_
      refine v_if_eq X 179 dX8_calm_171 (by decide) (fun cv49 => ?_) (fun cv49 => ?_)
      · replace h := (if_pos cv49).symm.trans h
        refine v_lconst (v := 0) X dX8_calm_179 (by decide) ?_
        refine v_ladd X dX8_calm_180 ?_
        refine v_lstore (lc' := [some (.ref (ad (8, 0, 0))), some (.int z1), some (.int z2), some (.int z3), some (.int z4), some (.long (y5 + (0 : Int64))), none, some (.long (y7 + xv42)), none, some (.int y9), some (.long xv42), none, some (.int xv43), none, none]) X dX8_calm_181 (by decide) rfl rfl ?_
        refine v_iinc (v := (y9 + 1)) (lc' := [some (.ref (ad (8, 0, 0))), some (.int z1), some (.int z2), some (.int z3), some (.int z4), some (.long (y5 + (0 : Int64))), none, some (.long (y7 + xv42)), none, some (.int (y9 + 1)), some (.long xv42), none, some (.int xv43), none, none]) X dX8_calm_183 rfl rfl (by decide) rfl rfl ?_
        refine v_goto X 61 dX8_calm_186 (by decide) ?_
        refine v_weak (lc2 := [some (.ref (ad (8, 0, 0))), some (.int z1), some (.int z2), some (.int z3), some (.int z4), some (.long (y5 + (0 : Int64))), none, some (.long (y7 + xv42)), none, some (.int (y9 + 1)), none, none, none, none, none]) ⟨rfl, rfl, rfl, rfl, rfl, rfl, rfl, rfl, trivial⟩ ?_
        exact ih (y5 + (0 : Int64)) (y7 + xv42) (y9 + 1) gv47 _ _ _ _ h k
      · replace h := (if_neg cv49).symm.trans h
        refine v_lload X dX8_calm_174 rfl ?_
        refine v_goto X 180 dX8_calm_176 (by decide) ?_
        refine v_ladd X dX8_calm_180 ?_
        refine v_lstore (lc' := [some (.ref (ad (8, 0, 0))), some (.int z1), some (.int z2), some (.int z3), some (.int z4), some (.long (y5 + xv42)), none, some (.long (y7 + xv42)), none, some (.int y9), some (.long xv42), none, some (.int xv43), none, none]) X dX8_calm_181 (by decide) rfl rfl ?_
        refine v_iinc (v := (y9 + 1)) (lc' := [some (.ref (ad (8, 0, 0))), some (.int z1), some (.int z2), some (.int z3), some (.int z4), some (.long (y5 + xv42)), none, some (.long (y7 + xv42)), none, some (.int (y9 + 1)), some (.long xv42), none, some (.int xv43), none, none]) X dX8_calm_183 rfl rfl (by decide) rfl rfl ?_
        refine v_goto X 61 dX8_calm_186 (by decide) ?_
        refine v_weak (lc2 := [some (.ref (ad (8, 0, 0))), some (.int z1), some (.int z2), some (.int z3), some (.int z4), some (.long (y5 + xv42)), none, some (.long (y7 + xv42)), none, some (.int (y9 + 1)), none, none, none, none, none]) ⟨rfl, rfl, rfl, rfl, rfl, rfl, rfl, rfl, trivial⟩ ?_
        exact ih (y5 + xv42) (y7 + xv42) (y9 + 1) gv47 _ _ _ _ h k
set_option maxRecDepth 100000 in
set_option maxHeartbeats 4000000 in
theorem w_X8_calm_197 {p : Program} {l : Launch} {e : Env} {s : State} {m : MethodId} {args : Array Value} {below : List Frame} {meth : Method} {c : Code} {D : va_G} {ad : Ky → Nat} {cy : Nat → ClassId} {r : Int64} {gq : GS} {N : Nat} (X : Cx p (rmd 5) s m args meth c RX8 cX8_calm 15 (some .long) D ad cy) (z1 : Int32) (z2 : Int32) (z3 : Int32) (z4 : Int32) (z5 : Int64) (z7 : Int64) : ∀ (n : Nat) (y9 : Int64) (y11 : Int64) (g : GS) (y9' : Int64) (y11' : Int64) (g' : GS), L_X8_calm_197 N z1 z2 z3 z4 z5 z7 n y9 y11 g = some (y9', y11', g') → Vy p l e (rmd 5) s m args below meth c 15 D ad cy (QL D ad cy below args s r gq) 222 [some (.ref (ad (8, 0, 0))), some (.int z1), some (.int z2), some (.int z3), some (.int z4), some (.long z5), none, some (.long z7), none, some (.long y9'), none, some (.long y11'), none, none, none] [] g' → Vy p l e (rmd 5) s m args below meth c 15 D ad cy (QL D ad cy below args s r gq) 197 [some (.ref (ad (8, 0, 0))), some (.int z1), some (.int z2), some (.int z3), some (.int z4), some (.long z5), none, some (.long z7), none, some (.long y9), none, some (.long y11), none, none, none] [] g := by
  intro n
  induction n with
  | zero => intro y9 y11 g y9' y11' g' h k; cases h
  | succ n ih =>
    intro y9 y11 g y9' y11' g' h k
    rw [L_X8_calm_197] at h
    refine v_lload X dX8_calm_197 rfl ?_
    refine v_lconst (v := 0) X dX8_calm_199 (by decide) ?_
    refine v_lcmp X dX8_calm_200 ?_
    refine v_if_eq X 222 dX8_calm_201 (by decide) (fun cv55 => ?_) (fun cv55 => ?_)
    · replace h := (if_pos cv55).symm.trans h
      cases h
      exact k
    · replace h := (if_neg cv55).symm.trans h
      refine v_lload X dX8_calm_204 rfl ?_
      refine v_lload X dX8_calm_206 rfl ?_
      by_cases cv56 : y11 = 0
      · replace h := (if_pos cv56).symm.trans h
        cases h
      replace h := (if_neg cv56).symm.trans h
      refine v_lrem X dX8_calm_208 cv56 ?_
      refine v_lstore (lc' := [some (.ref (ad (8, 0, 0))), some (.int z1), some (.int z2), some (.int z3), some (.int z4), some (.long z5), none, some (.long z7), none, some (.long y9), none, some (.long y11), none, some (.long (y9 - y9 / y11 * y11)), none]) X dX8_calm_209 (by decide) rfl rfl ?_
      refine v_lload X dX8_calm_211 rfl ?_
      refine v_lstore (lc' := [some (.ref (ad (8, 0, 0))), some (.int z1), some (.int z2), some (.int z3), some (.int z4), some (.long z5), none, some (.long z7), none, some (.long y11), none, some (.long y11), none, some (.long (y9 - y9 / y11 * y11)), none]) X dX8_calm_213 (by decide) rfl rfl ?_
      refine v_lload X dX8_calm_215 rfl ?_
      refine v_lstore (lc' := [some (.ref (ad (8, 0, 0))), some (.int z1), some (.int z2), some (.int z3), some (.int z4), some (.long z5), none, some (.long z7), none, some (.long y11), none, some (.long (y9 - y9 / y11 * y11)), none, some (.long (y9 - y9 / y11 * y11)), none]) X dX8_calm_217 (by decide) rfl rfl ?_
      refine v_goto X 197 dX8_calm_219 (by decide) ?_
      refine v_weak (lc2 := [some (.ref (ad (8, 0, 0))), some (.int z1), some (.int z2), some (.int z3), some (.int z4), some (.long z5), none, some (.long z7), none, some (.long y11), none, some (.long (y9 - y9 / y11 * y11)), none, none, none]) ⟨rfl, rfl, rfl, rfl, rfl, rfl, rfl, rfl, rfl, trivial⟩ ?_
      exact ih y11 (y9 - y9 / y11 * y11) g _ _ _ h k
set_option maxRecDepth 100000 in
set_option maxHeartbeats 4000000 in
theorem c_X8_calm (l : Launch) (D : va_G) (ad : Ky → Nat) (cy : Nat → ClassId) (hI : Inj ad) (N : Nat) (x1 : Int32) (x2 : Int32) (x3 : Int32) (x4 : Int32) (g : GS) (r : Int64) (gq : GS) (h : F_X8_calm N x1 x2 x3 x4 g = some (r, gq)) : CtL l D ad cy yX8_calm cX8_calm 15 5 [.ref (ad (8, 0, 0)), .int x1, .int x2, .int x3, .int x4] g r gq := by
  refine CtL.of 10 hI (by decide +kernel) rfl (Nat.le_of_ble_eq_true rfl) (fun p e s m args below meth c X => ?_)
  unfold F_X8_calm at h
  show Vy _ _ _ _ _ _ _ _ _ _ _ _ _ _ _ 0 [some (.ref (ad (8, 0, 0))), some (.int x1), some (.int x2), some (.int x3), some (.int x4), none, none, none, none, none, none, none, none, none, none] [] g
  refine v_aloadn X dX8_calm_0 rfl rfl ?_
  refine v_iconst (v := 0) X dX8_calm_1 (by decide) ?_
  refine pf_X8_50 X dX8_calm_2 ?_
  refine v_aloadn X dX8_calm_5 rfl rfl ?_
  refine v_iloadn X dX8_calm_6 rfl rfl ?_
  obtain ⟨rv3, gv2, qv1, h⟩ := bd2_some h
  refine v_callVI (As := [.int x1]) (rest := []) X (c_X8_isPaper l D ad cy X.2.2.2.2.2.2.2.2.1 N x1 (g3 g 10 0 0 (0 : Int32)) rv3 gv2  qv1) mw_X8_isPaper ml_X8_208 (by decide) (by decide +kernel) (by decide) rfl rfl rfl rfl (Nat.le_of_ble_eq_true rfl) dX8_calm_7 ?_
  refine v_if_eq X 48 dX8_calm_10 (by decide) (fun cv4 => ?_) (fun cv4 => ?_)
  · replace h := (if_pos cv4).symm.trans h
    refine v_ldc2 X kl_X8_266 dX8_calm_48 ?_
    obtain ⟨er, eg⟩ := Prod.mk.inj (Option.some.inj h)
    exact v_lret X dX8_calm_51 er eg
  · replace h := (if_neg cv4).symm.trans h
    refine v_iloadn X dX8_calm_13 rfl rfl ?_
    refine v_i2l X dX8_calm_14 ?_
    refine v_lconst (v := 0) X dX8_calm_15 (by decide) ?_
    refine v_ldc2 X kl_X8_262 dX8_calm_16 ?_
    obtain ⟨rv7, gv6, qv5, h⟩ := bd2_some h
    refine v_callSI (As := [.long (x2.toInt64), .long (0 : Int64), .long (8 : Int64)]) (rest := []) X (c_X8_in l D ad cy X.2.2.2.2.2.2.2.2.1 N (x2.toInt64) (0 : Int64) (8 : Int64) gv2 rv7 gv6  qv5) mw_X8_in ml_X8_60 (by decide) rfl rfl (Nat.le_of_ble_eq_true rfl) dX8_calm_19 ?_
    refine v_if_eq X 48 dX8_calm_22 (by decide) (fun cv8 => ?_) (fun cv8 => ?_)
    · replace h := (if_pos cv8).symm.trans h
      refine v_ldc2 X kl_X8_266 dX8_calm_48 ?_
      obtain ⟨er, eg⟩ := Prod.mk.inj (Option.some.inj h)
      exact v_lret X dX8_calm_51 er eg
    · replace h := (if_neg cv8).symm.trans h
      refine v_iloadn X dX8_calm_25 rfl rfl ?_
      refine v_i2l X dX8_calm_26 ?_
      refine v_lconst (v := 0) X dX8_calm_27 (by decide) ?_
      refine v_ldc2 X kl_X8_264 dX8_calm_28 ?_
      obtain ⟨rv11, gv10, qv9, h⟩ := bd2_some h
      refine v_callSI (As := [.long (x3.toInt64), .long (0 : Int64), .long (10 : Int64)]) (rest := []) X (c_X8_in l D ad cy X.2.2.2.2.2.2.2.2.1 N (x3.toInt64) (0 : Int64) (10 : Int64) gv6 rv11 gv10  qv9) mw_X8_in ml_X8_60 (by decide) rfl rfl (Nat.le_of_ble_eq_true rfl) dX8_calm_31 ?_
      refine v_if_eq X 48 dX8_calm_34 (by decide) (fun cv12 => ?_) (fun cv12 => ?_)
      · replace h := (if_pos cv12).symm.trans h
        refine v_ldc2 X kl_X8_266 dX8_calm_48 ?_
        obtain ⟨er, eg⟩ := Prod.mk.inj (Option.some.inj h)
        exact v_lret X dX8_calm_51 er eg
      · replace h := (if_neg cv12).symm.trans h
        refine v_iload X dX8_calm_37 rfl ?_
        refine v_i2l X dX8_calm_39 ?_
        refine v_lconst (v := 0) X dX8_calm_40 (by decide) ?_
        refine v_lconst (v := 1) X dX8_calm_41 (by decide) ?_
        obtain ⟨rv15, gv14, qv13, h⟩ := bd2_some h
        refine v_callSI (As := [.long (x4.toInt64), .long (0 : Int64), .long (1 : Int64)]) (rest := []) X (c_X8_in l D ad cy X.2.2.2.2.2.2.2.2.1 N (x4.toInt64) (0 : Int64) (1 : Int64) gv10 rv15 gv14  qv13) mw_X8_in ml_X8_60 (by decide) rfl rfl (Nat.le_of_ble_eq_true rfl) dX8_calm_42 ?_
        refine v_if_ne X 52 dX8_calm_45 (by decide) (fun cv16 => ?_) (fun cv16 => ?_)
        · replace h := (if_neg cv16).symm.trans h
          refine v_lconst (v := 0) X dX8_calm_52 (by decide) ?_
          refine v_lstore (lc' := [some (.ref (ad (8, 0, 0))), some (.int x1), some (.int x2), some (.int x3), some (.int x4), some (.long (0 : Int64)), none, none, none, none, none, none, none, none, none]) X dX8_calm_53 (by decide) rfl rfl ?_
          refine v_lconst (v := 0) X dX8_calm_55 (by decide) ?_
          refine v_lstore (lc' := [some (.ref (ad (8, 0, 0))), some (.int x1), some (.int x2), some (.int x3), some (.int x4), some (.long (0 : Int64)), none, some (.long (0 : Int64)), none, none, none, none, none, none, none]) X dX8_calm_56 (by decide) rfl rfl ?_
          refine v_iconst (v := 0) X dX8_calm_58 (by decide) ?_
          refine v_istore (lc' := [some (.ref (ad (8, 0, 0))), some (.int x1), some (.int x2), some (.int x3), some (.int x4), some (.long (0 : Int64)), none, some (.long (0 : Int64)), none, some (.int (0 : Int32)), none, none, none, none, none]) X dX8_calm_59 (by decide) rfl rfl ?_
          obtain ⟨xv50, xv51, xv52, gv53, qv54, h⟩ := bd4_some h
          refine w_X8_calm_61 X x1 x2 x3 x4 N (0 : Int64) (0 : Int64) (0 : Int32) gv14 xv50 xv51 xv52 gv53 qv54 ?_
          refine v_lload X dX8_calm_189 rfl ?_
          refine v_lstore (lc' := [some (.ref (ad (8, 0, 0))), some (.int x1), some (.int x2), some (.int x3), some (.int x4), some (.long xv50), none, some (.long xv51), none, some (.long xv50), none, none, none, none, none]) X dX8_calm_191 (by decide) rfl rfl ?_
          refine v_lload X dX8_calm_193 rfl ?_
          refine v_lstore (lc' := [some (.ref (ad (8, 0, 0))), some (.int x1), some (.int x2), some (.int x3), some (.int x4), some (.long xv50), none, some (.long xv51), none, some (.long xv50), none, some (.long xv51), none, none, none]) X dX8_calm_195 (by decide) rfl rfl ?_
          obtain ⟨xv57, xv58, gv59, qv60, h⟩ := bd3_some h
          refine w_X8_calm_197 X x1 x2 x3 x4 xv50 xv51 N xv50 xv51 gv53 xv57 xv58 gv59 qv60 ?_
          refine v_iload X dX8_calm_222 rfl ?_
          refine v_if_ne X 232 dX8_calm_224 (by decide) (fun cv61 => ?_) (fun cv61 => ?_)
          · replace h := (if_neg cv61).symm.trans h
            refine v_lload X dX8_calm_232 rfl ?_
            refine v_lload X dX8_calm_234 rfl ?_
            by_cases cv62 : xv57 = 0
            · replace h := (if_pos cv62).symm.trans h
              cases h
            replace h := (if_neg cv62).symm.trans h
            refine v_ldiv X dX8_calm_236 cv62 ?_
            obtain ⟨er, eg⟩ := Prod.mk.inj (Option.some.inj h)
            exact v_lret X dX8_calm_237 er eg
          · replace h := (if_pos cv61).symm.trans h
            refine v_lload X dX8_calm_227 rfl ?_
            refine v_goto X 234 dX8_calm_229 (by decide) ?_
            refine v_lload X dX8_calm_234 rfl ?_
            by_cases cv63 : xv57 = 0
            · replace h := (if_pos cv63).symm.trans h
              cases h
            replace h := (if_neg cv63).symm.trans h
            refine v_ldiv X dX8_calm_236 cv63 ?_
            obtain ⟨er, eg⟩ := Prod.mk.inj (Option.some.inj h)
            exact v_lret X dX8_calm_237 er eg
        · replace h := (if_pos cv16).symm.trans h
          refine v_ldc2 X kl_X8_266 dX8_calm_48 ?_
          obtain ⟨er, eg⟩ := Prod.mk.inj (Option.some.inj h)
          exact v_lret X dX8_calm_51 er eg
def F_X8_isRow (N : Nat) (x0 : Int32) (g : GS) : Option (Int32 × GS) := bd2 (F_X8_in N (x0.toInt64) (0 : Int64) (7 : Int64) g) (fun rv3 gv2 => if rv3 = 0 ∨ rv3 = 1 then some (rv3, gv2) else none)
set_option maxRecDepth 100000 in
set_option maxHeartbeats 4000000 in
theorem c_X8_isRow (l : Launch) (D : va_G) (ad : Ky → Nat) (cy : Nat → ClassId) (hI : Inj ad) (N : Nat) (x0 : Int32) (g : GS) (r : Int32) (gq : GS) (h : F_X8_isRow N x0 g = some (r, gq)) : CtI l D ad cy yX8_isRow cX8_isRow 1 (some .boolean) 1 [.int x0] g r gq := by
  refine CtI.of 0 hI (by decide +kernel) rfl (Nat.le_of_ble_eq_true rfl) (fun p e s m args below meth c X => ?_)
  unfold F_X8_isRow at h
  show Vy _ _ _ _ _ _ _ _ _ _ _ _ _ _ _ 0 [some (.int x0)] [] g
  refine v_iloadn X dX8_isRow_0 rfl rfl ?_
  refine v_i2l X dX8_isRow_1 ?_
  refine v_lconst (v := 0) X dX8_isRow_2 (by decide) ?_
  refine v_ldc2 X kl_X8_58 dX8_isRow_3 ?_
  obtain ⟨rv3, gv2, qv1, h⟩ := bd2_some h
  refine v_callSI (As := [.long (x0.toInt64), .long (0 : Int64), .long (7 : Int64)]) (rest := []) X (c_X8_in l D ad cy X.2.2.2.2.2.2.2.2.1 N (x0.toInt64) (0 : Int64) (7 : Int64) g rv3 gv2  qv1) mw_X8_in ml_X8_60 (by decide) rfl rfl (Nat.le_of_ble_eq_true rfl) dX8_isRow_6 ?_
  by_cases cv4 : rv3 = 0 ∨ rv3 = 1
  · replace h := (if_pos cv4).symm.trans h
    obtain ⟨er, eg⟩ := Prod.mk.inj (Option.some.inj h)
    exact v_zret X dX8_isRow_9 (nb cv4) er eg
  · replace h := (if_neg cv4).symm.trans h
    cases h
def L_X8_copy_143 (N : Nat) (z1 : Int32) (z2 : Int32) (z3 : Int32) (z4 : Int32) (z5 : Int32) (z6 : Int32) : Nat → Int32 → GS → Option (Int32 × GS)
  | 0, _, _ => none
  | n + 1, y7, g => if z5 ≤ y7 then some (y7, g) else if z6 = 0 then bd1 (ix ((((40 : Int32) * z1) + z2) + ((z5 - (1 : Int32)) - y7)) 320) (fun jv39 => bd1 (ix ((((40 : Int32) * z3) + z4) + ((z5 - (1 : Int32)) - y7)) 320) (fun jv41 => L_X8_copy_143 N z1 z2 z3 z4 z5 z6 n (y7 + 1) (g3 g 11 4 jv41 (g 11 4 jv39)))) else bd1 (ix ((((40 : Int32) * z1) + z2) + y7) 320) (fun jv43 => bd1 (ix ((((40 : Int32) * z3) + z4) + y7) 320) (fun jv45 => L_X8_copy_143 N z1 z2 z3 z4 z5 z6 n (y7 + 1) (g3 g 11 4 jv45 (g 11 4 jv43))))
def F_X8_copy (N : Nat) (x1 : Int32) (x2 : Int32) (x3 : Int32) (x4 : Int32) (x5 : Int32) (g : GS) : Option (Int32 × GS) := bd2 (F_X8_isRow N x1 (g3 g 10 0 0 (0 : Int32))) (fun rv3 gv2 => if rv3 = 0 then some ((-1000001 : Int32), gv2) else bd2 (F_X8_isRow N x3 gv2) (fun rv7 gv6 => if rv7 = 0 then some ((-1000001 : Int32), gv6) else bd1 (ix x1 8) (fun jv9 => if (gv6 11 2 jv9) < 0 then bd2 (F_X8_finding N (1 : Int32) (g3 gv6 10 0 1 (0 : Int32))) (fun rv14 gv13 => some (rv14, gv13)) else bd1 (ix x3 8) (fun jv15 => if 0 ≤ (gv6 11 2 jv15) then if (gv6 11 2 jv9) = (gv6 11 2 jv15) then if x2 < 0 then bd2 (F_X8_finding N (2 : Int32) (g3 gv6 10 0 1 (0 : Int32))) (fun rv22 gv21 => some (rv22, gv21)) else if x4 < 0 then bd2 (F_X8_finding N (2 : Int32) (g3 gv6 10 0 1 (0 : Int32))) (fun rv26 gv25 => some (rv26, gv25)) else if x5 < 0 then bd2 (F_X8_finding N (2 : Int32) (g3 gv6 10 0 1 (0 : Int32))) (fun rv30 gv29 => some (rv30, gv29)) else if 0 < (lg_cmp ((x2.toInt64) + (x5.toInt64)) ((gv6 11 3 jv9).toInt64)) then bd2 (F_X8_finding N (2 : Int32) (g3 gv6 10 0 1 (0 : Int32))) (fun rv34 gv33 => some (rv34, gv33)) else if (lg_cmp ((x4.toInt64) + (x5.toInt64)) ((gv6 11 3 jv15).toInt64)) ≤ 0 then if x2 < x4 then bd2 (L_X8_copy_143 N x1 x2 x3 x4 x5 (0 : Int32) N (0 : Int32) (g3 gv6 10 0 1 (0 : Int32))) (fun xv47 gv48 => some (x5, gv48)) else bd2 (L_X8_copy_143 N x1 x2 x3 x4 x5 (1 : Int32) N (0 : Int32) (g3 gv6 10 0 1 (0 : Int32))) (fun xv50 gv51 => some (x5, gv51)) else bd2 (F_X8_finding N (2 : Int32) (g3 gv6 10 0 1 (0 : Int32))) (fun rv55 gv54 => some (rv55, gv54)) else bd2 (F_X8_finding N (5 : Int32) (g3 gv6 10 0 1 (0 : Int32))) (fun rv58 gv57 => some (rv58, gv57)) else bd2 (F_X8_finding N (1 : Int32) (g3 gv6 10 0 1 (0 : Int32))) (fun rv61 gv60 => some (rv61, gv60))))))
set_option maxRecDepth 100000 in
set_option maxHeartbeats 4000000 in
theorem w_X8_copy_143 {p : Program} {l : Launch} {e : Env} {s : State} {m : MethodId} {args : Array Value} {below : List Frame} {meth : Method} {c : Code} {D : va_G} {ad : Ky → Nat} {cy : Nat → ClassId} {r : Int32} {gq : GS} {N : Nat} (X : Cx p (rmd 2) s m args meth c RX8 cX8_copy 9 (some .int) D ad cy) (z1 : Int32) (z2 : Int32) (z3 : Int32) (z4 : Int32) (z5 : Int32) (z6 : Int32) : ∀ (n : Nat) (y7 : Int32) (g : GS) (y7' : Int32) (g' : GS), L_X8_copy_143 N z1 z2 z3 z4 z5 z6 n y7 g = some (y7', g') → Vy p l e (rmd 2) s m args below meth c 9 D ad cy (QI D ad cy below args s r gq) 204 [some (.ref (ad (8, 0, 0))), some (.int z1), some (.int z2), some (.int z3), some (.int z4), some (.int z5), some (.int z6), some (.int y7'), none] [] g' → Vy p l e (rmd 2) s m args below meth c 9 D ad cy (QI D ad cy below args s r gq) 143 [some (.ref (ad (8, 0, 0))), some (.int z1), some (.int z2), some (.int z3), some (.int z4), some (.int z5), some (.int z6), some (.int y7), none] [] g := by
  intro n
  induction n with
  | zero => intro y7 g y7' g' h k; cases h
  | succ n ih =>
    intro y7 g y7' g' h k
    rw [L_X8_copy_143] at h
    refine v_iload X dX8_copy_143 rfl ?_
    refine v_iload X dX8_copy_145 rfl ?_
    refine v_icmp_ge X 204 dX8_copy_147 (by decide) (fun cv37 => ?_) (fun cv37 => ?_)
    · replace h := (if_pos cv37).symm.trans h
      cases h
      exact k
    · replace h := (if_neg cv37).symm.trans h
      refine v_iload X dX8_copy_150 rfl ?_
      refine v_if_eq X 160 dX8_copy_152 (by decide) (fun cv38 => ?_) (fun cv38 => ?_)
      · replace h := (if_pos cv38).symm.trans h
        refine v_iload X dX8_copy_160 rfl ?_
        refine v_iconst (v := 1) X dX8_copy_162 (by decide) ?_
        refine v_isub X dX8_copy_163 ?_
        refine v_iload X dX8_copy_164 rfl ?_
        refine v_isub X dX8_copy_166 ?_
        refine v_istore (lc' := [some (.ref (ad (8, 0, 0))), some (.int z1), some (.int z2), some (.int z3), some (.int z4), some (.int z5), some (.int z6), some (.int y7), some (.int ((z5 - (1 : Int32)) - y7))]) X dX8_copy_167 (by decide) rfl rfl ?_
        refine v_aloadn X dX8_copy_169 rfl rfl ?_
        refine gf_X8_16 X dX8_copy_170 ?_
        refine v_bipush (v := 40) X dX8_copy_173 (by decide) ?_
        refine v_iloadn X dX8_copy_175 rfl rfl ?_
        refine v_imul X dX8_copy_176 ?_
        refine v_iload X dX8_copy_177 rfl ?_
        refine v_iadd X dX8_copy_179 ?_
        refine v_iload X dX8_copy_180 rfl ?_
        refine v_iadd X dX8_copy_182 ?_
        refine v_aloadn X dX8_copy_183 rfl rfl ?_
        refine gf_X8_16 X dX8_copy_184 ?_
        refine v_bipush (v := 40) X dX8_copy_187 (by decide) ?_
        refine v_iloadn X dX8_copy_189 rfl rfl ?_
        refine v_imul X dX8_copy_190 ?_
        refine v_iloadn X dX8_copy_191 rfl rfl ?_
        refine v_iadd X dX8_copy_192 ?_
        refine v_iload X dX8_copy_193 rfl ?_
        refine v_iadd X dX8_copy_195 ?_
        obtain ⟨jv39, qv40, h⟩ := bd1_some h
        obtain ⟨ejv39, ljv39⟩ := ix_spec qv40
        refine alM X (by decide +kernel) jv39 ejv39 ljv39 dX8_copy_196 ?_
        obtain ⟨jv41, qv42, h⟩ := bd1_some h
        obtain ⟨ejv41, ljv41⟩ := ix_spec qv42
        refine asM X (by decide +kernel) jv41 ejv41 ljv41 dX8_copy_197 ?_
        refine v_iinc (v := (y7 + 1)) (lc' := [some (.ref (ad (8, 0, 0))), some (.int z1), some (.int z2), some (.int z3), some (.int z4), some (.int z5), some (.int z6), some (.int (y7 + 1)), some (.int ((z5 - (1 : Int32)) - y7))]) X dX8_copy_198 rfl rfl (by decide) rfl rfl ?_
        refine v_goto X 143 dX8_copy_201 (by decide) ?_
        refine v_weak (lc2 := [some (.ref (ad (8, 0, 0))), some (.int z1), some (.int z2), some (.int z3), some (.int z4), some (.int z5), some (.int z6), some (.int (y7 + 1)), none]) ⟨rfl, rfl, rfl, rfl, rfl, rfl, rfl, rfl, trivial⟩ ?_
        exact ih (y7 + 1) (g3 g 11 4 jv41 (g 11 4 jv39)) _ _ h k
      · replace h := (if_neg cv38).symm.trans h
        refine v_iload X dX8_copy_155 rfl ?_
        refine v_goto X 167 dX8_copy_157 (by decide) ?_
        refine v_istore (lc' := [some (.ref (ad (8, 0, 0))), some (.int z1), some (.int z2), some (.int z3), some (.int z4), some (.int z5), some (.int z6), some (.int y7), some (.int y7)]) X dX8_copy_167 (by decide) rfl rfl ?_
        refine v_aloadn X dX8_copy_169 rfl rfl ?_
        refine gf_X8_16 X dX8_copy_170 ?_
        refine v_bipush (v := 40) X dX8_copy_173 (by decide) ?_
        refine v_iloadn X dX8_copy_175 rfl rfl ?_
        refine v_imul X dX8_copy_176 ?_
        refine v_iload X dX8_copy_177 rfl ?_
        refine v_iadd X dX8_copy_179 ?_
        refine v_iload X dX8_copy_180 rfl ?_
        refine v_iadd X dX8_copy_182 ?_
        refine v_aloadn X dX8_copy_183 rfl rfl ?_
        refine gf_X8_16 X dX8_copy_184 ?_
        refine v_bipush (v := 40) X dX8_copy_187 (by decide) ?_
        refine v_iloadn X dX8_copy_189 rfl rfl ?_
        refine v_imul X dX8_copy_190 ?_
        refine v_iloadn X dX8_copy_191 rfl rfl ?_
        refine v_iadd X dX8_copy_192 ?_
        refine v_iload X dX8_copy_193 rfl ?_
        refine v_iadd X dX8_copy_195 ?_
        obtain ⟨jv43, qv44, h⟩ := bd1_some h
        obtain ⟨ejv43, ljv43⟩ := ix_spec qv44
        refine alM X (by decide +kernel) jv43 ejv43 ljv43 dX8_copy_196 ?_
        obtain ⟨jv45, qv46, h⟩ := bd1_some h
        obtain ⟨ejv45, ljv45⟩ := ix_spec qv46
        refine asM X (by decide +kernel) jv45 ejv45 ljv45 dX8_copy_197 ?_
        refine v_iinc (v := (y7 + 1)) (lc' := [some (.ref (ad (8, 0, 0))), some (.int z1), some (.int z2), some (.int z3), some (.int z4), some (.int z5), some (.int z6), some (.int (y7 + 1)), some (.int y7)]) X dX8_copy_198 rfl rfl (by decide) rfl rfl ?_
        refine v_goto X 143 dX8_copy_201 (by decide) ?_
        refine v_weak (lc2 := [some (.ref (ad (8, 0, 0))), some (.int z1), some (.int z2), some (.int z3), some (.int z4), some (.int z5), some (.int z6), some (.int (y7 + 1)), none]) ⟨rfl, rfl, rfl, rfl, rfl, rfl, rfl, rfl, trivial⟩ ?_
        exact ih (y7 + 1) (g3 g 11 4 jv45 (g 11 4 jv43)) _ _ h k
set_option maxRecDepth 100000 in
set_option maxHeartbeats 4000000 in
theorem c_X8_copy (l : Launch) (D : va_G) (ad : Ky → Nat) (cy : Nat → ClassId) (hI : Inj ad) (N : Nat) (x1 : Int32) (x2 : Int32) (x3 : Int32) (x4 : Int32) (x5 : Int32) (g : GS) (r : Int32) (gq : GS) (h : F_X8_copy N x1 x2 x3 x4 x5 g = some (r, gq)) : CtI l D ad cy yX8_copy cX8_copy 9 (some .int) 2 [.ref (ad (8, 0, 0)), .int x1, .int x2, .int x3, .int x4, .int x5] g r gq := by
  refine CtI.of 3 hI (by decide +kernel) rfl (Nat.le_of_ble_eq_true rfl) (fun p e s m args below meth c X => ?_)
  unfold F_X8_copy at h
  show Vy _ _ _ _ _ _ _ _ _ _ _ _ _ _ _ 0 [some (.ref (ad (8, 0, 0))), some (.int x1), some (.int x2), some (.int x3), some (.int x4), some (.int x5), none, none, none] [] g
  refine v_aloadn X dX8_copy_0 rfl rfl ?_
  refine v_iconst (v := 0) X dX8_copy_1 (by decide) ?_
  refine pf_X8_50 X dX8_copy_2 ?_
  refine v_iloadn X dX8_copy_5 rfl rfl ?_
  obtain ⟨rv3, gv2, qv1, h⟩ := bd2_some h
  refine v_callSI (As := [.int x1]) (rest := []) X (c_X8_isRow l D ad cy X.2.2.2.2.2.2.2.2.1 N x1 (g3 g 10 0 0 (0 : Int32)) rv3 gv2  qv1) mw_X8_isRow ml_X8_64 (by decide) rfl rfl (Nat.le_of_ble_eq_true rfl) dX8_copy_6 ?_
  refine v_if_eq X 19 dX8_copy_9 (by decide) (fun cv4 => ?_) (fun cv4 => ?_)
  · replace h := (if_pos cv4).symm.trans h
    refine v_ldc X kc_X8_70 dX8_copy_19 ?_
    obtain ⟨er, eg⟩ := Prod.mk.inj (Option.some.inj h)
    exact v_iret X dX8_copy_21 er eg
  · replace h := (if_neg cv4).symm.trans h
    refine v_iloadn X dX8_copy_12 rfl rfl ?_
    obtain ⟨rv7, gv6, qv5, h⟩ := bd2_some h
    refine v_callSI (As := [.int x3]) (rest := []) X (c_X8_isRow l D ad cy X.2.2.2.2.2.2.2.2.1 N x3 gv2 rv7 gv6  qv5) mw_X8_isRow ml_X8_64 (by decide) rfl rfl (Nat.le_of_ble_eq_true rfl) dX8_copy_13 ?_
    refine v_if_ne X 22 dX8_copy_16 (by decide) (fun cv8 => ?_) (fun cv8 => ?_)
    · replace h := (if_neg cv8).symm.trans h
      refine v_aloadn X dX8_copy_22 rfl rfl ?_
      refine v_iconst (v := 0) X dX8_copy_23 (by decide) ?_
      refine pf_X8_54 X dX8_copy_24 ?_
      refine v_aloadn X dX8_copy_27 rfl rfl ?_
      refine gf_X8_7 X dX8_copy_28 ?_
      refine v_iloadn X dX8_copy_31 rfl rfl ?_
      obtain ⟨jv9, qv10, h⟩ := bd1_some h
      obtain ⟨ejv9, ljv9⟩ := ix_spec qv10
      refine alM X (by decide +kernel) jv9 ejv9 ljv9 dX8_copy_32 ?_
      refine v_vali (v2 := (gv6 11 2 jv9)) rfl ?_
      refine v_if_lt X 45 dX8_copy_33 (by decide) (fun cv11 => ?_) (fun cv11 => ?_)
      · replace h := (if_pos cv11).symm.trans h
        refine v_aloadn X dX8_copy_45 rfl rfl ?_
        refine v_iconst (v := 1) X dX8_copy_46 (by decide) ?_
        obtain ⟨rv14, gv13, qv12, h⟩ := bd2_some h
        refine v_callVI (As := [.int (1 : Int32)]) (rest := []) X (c_X8_finding l D ad cy X.2.2.2.2.2.2.2.2.1 N (1 : Int32) (g3 gv6 10 0 1 (0 : Int32)) rv14 gv13  qv12) mw_X8_finding ml_X8_71 (by decide) (by decide +kernel) (by decide) rfl rfl rfl rfl (Nat.le_of_ble_eq_true rfl) dX8_copy_47 ?_
        obtain ⟨er, eg⟩ := Prod.mk.inj (Option.some.inj h)
        exact v_iret X dX8_copy_50 er eg
      · replace h := (if_neg cv11).symm.trans h
        refine v_aloadn X dX8_copy_36 rfl rfl ?_
        refine gf_X8_7 X dX8_copy_37 ?_
        refine v_iloadn X dX8_copy_40 rfl rfl ?_
        obtain ⟨jv15, qv16, h⟩ := bd1_some h
        obtain ⟨ejv15, ljv15⟩ := ix_spec qv16
        refine alM X (by decide +kernel) jv15 ejv15 ljv15 dX8_copy_41 ?_
        refine v_vali (v2 := (gv6 11 2 jv15)) rfl ?_
        refine v_if_ge X 51 dX8_copy_42 (by decide) (fun cv17 => ?_) (fun cv17 => ?_)
        · replace h := (if_pos cv17).symm.trans h
          refine v_aloadn X dX8_copy_51 rfl rfl ?_
          refine gf_X8_7 X dX8_copy_52 ?_
          refine v_iloadn X dX8_copy_55 rfl rfl ?_
          refine alM X (by decide +kernel) jv9 ejv9 ljv9 dX8_copy_56 ?_
          refine v_vali (v2 := (gv6 11 2 jv9)) rfl ?_
          refine v_aloadn X dX8_copy_57 rfl rfl ?_
          refine gf_X8_7 X dX8_copy_58 ?_
          refine v_iloadn X dX8_copy_61 rfl rfl ?_
          refine alM X (by decide +kernel) jv15 ejv15 ljv15 dX8_copy_62 ?_
          refine v_vali (v2 := (gv6 11 2 jv15)) rfl ?_
          refine v_icmp_eq X 72 dX8_copy_63 (by decide) (fun cv18 => ?_) (fun cv18 => ?_)
          · replace h := (if_pos cv18).symm.trans h
            refine v_iloadn X dX8_copy_72 rfl rfl ?_
            refine v_if_lt X 121 dX8_copy_73 (by decide) (fun cv19 => ?_) (fun cv19 => ?_)
            · replace h := (if_pos cv19).symm.trans h
              refine v_aloadn X dX8_copy_121 rfl rfl ?_
              refine v_iconst (v := 2) X dX8_copy_122 (by decide) ?_
              obtain ⟨rv22, gv21, qv20, h⟩ := bd2_some h
              refine v_callVI (As := [.int (2 : Int32)]) (rest := []) X (c_X8_finding l D ad cy X.2.2.2.2.2.2.2.2.1 N (2 : Int32) (g3 gv6 10 0 1 (0 : Int32)) rv22 gv21  qv20) mw_X8_finding ml_X8_71 (by decide) (by decide +kernel) (by decide) rfl rfl rfl rfl (Nat.le_of_ble_eq_true rfl) dX8_copy_123 ?_
              obtain ⟨er, eg⟩ := Prod.mk.inj (Option.some.inj h)
              exact v_iret X dX8_copy_126 er eg
            · replace h := (if_neg cv19).symm.trans h
              refine v_iload X dX8_copy_76 rfl ?_
              refine v_if_lt X 121 dX8_copy_78 (by decide) (fun cv23 => ?_) (fun cv23 => ?_)
              · replace h := (if_pos cv23).symm.trans h
                refine v_aloadn X dX8_copy_121 rfl rfl ?_
                refine v_iconst (v := 2) X dX8_copy_122 (by decide) ?_
                obtain ⟨rv26, gv25, qv24, h⟩ := bd2_some h
                refine v_callVI (As := [.int (2 : Int32)]) (rest := []) X (c_X8_finding l D ad cy X.2.2.2.2.2.2.2.2.1 N (2 : Int32) (g3 gv6 10 0 1 (0 : Int32)) rv26 gv25  qv24) mw_X8_finding ml_X8_71 (by decide) (by decide +kernel) (by decide) rfl rfl rfl rfl (Nat.le_of_ble_eq_true rfl) dX8_copy_123 ?_
                obtain ⟨er, eg⟩ := Prod.mk.inj (Option.some.inj h)
                exact v_iret X dX8_copy_126 er eg
              · replace h := (if_neg cv23).symm.trans h
                refine v_iload X dX8_copy_81 rfl ?_
                refine v_if_lt X 121 dX8_copy_83 (by decide) (fun cv27 => ?_) (fun cv27 => ?_)
                · replace h := (if_pos cv27).symm.trans h
                  refine v_aloadn X dX8_copy_121 rfl rfl ?_
                  refine v_iconst (v := 2) X dX8_copy_122 (by decide) ?_
                  obtain ⟨rv30, gv29, qv28, h⟩ := bd2_some h
                  refine v_callVI (As := [.int (2 : Int32)]) (rest := []) X (c_X8_finding l D ad cy X.2.2.2.2.2.2.2.2.1 N (2 : Int32) (g3 gv6 10 0 1 (0 : Int32)) rv30 gv29  qv28) mw_X8_finding ml_X8_71 (by decide) (by decide +kernel) (by decide) rfl rfl rfl rfl (Nat.le_of_ble_eq_true rfl) dX8_copy_123 ?_
                  obtain ⟨er, eg⟩ := Prod.mk.inj (Option.some.inj h)
                  exact v_iret X dX8_copy_126 er eg
                · replace h := (if_neg cv27).symm.trans h
                  refine v_iloadn X dX8_copy_86 rfl rfl ?_
                  refine v_i2l X dX8_copy_87 ?_
                  refine v_iload X dX8_copy_88 rfl ?_
                  refine v_i2l X dX8_copy_90 ?_
                  refine v_ladd X dX8_copy_91 ?_
                  refine v_aloadn X dX8_copy_92 rfl rfl ?_
                  refine gf_X8_13 X dX8_copy_93 ?_
                  refine v_iloadn X dX8_copy_96 rfl rfl ?_
                  refine alM X (by decide +kernel) jv9 ejv9 ljv9 dX8_copy_97 ?_
                  refine v_vali (v2 := (gv6 11 3 jv9)) rfl ?_
                  refine v_i2l X dX8_copy_98 ?_
                  refine v_lcmp X dX8_copy_99 ?_
                  refine v_if_gt X 121 dX8_copy_100 (by decide) (fun cv31 => ?_) (fun cv31 => ?_)
                  · replace h := (if_pos cv31).symm.trans h
                    refine v_aloadn X dX8_copy_121 rfl rfl ?_
                    refine v_iconst (v := 2) X dX8_copy_122 (by decide) ?_
                    obtain ⟨rv34, gv33, qv32, h⟩ := bd2_some h
                    refine v_callVI (As := [.int (2 : Int32)]) (rest := []) X (c_X8_finding l D ad cy X.2.2.2.2.2.2.2.2.1 N (2 : Int32) (g3 gv6 10 0 1 (0 : Int32)) rv34 gv33  qv32) mw_X8_finding ml_X8_71 (by decide) (by decide +kernel) (by decide) rfl rfl rfl rfl (Nat.le_of_ble_eq_true rfl) dX8_copy_123 ?_
                    obtain ⟨er, eg⟩ := Prod.mk.inj (Option.some.inj h)
                    exact v_iret X dX8_copy_126 er eg
                  · replace h := (if_neg cv31).symm.trans h
                    refine v_iload X dX8_copy_103 rfl ?_
                    refine v_i2l X dX8_copy_105 ?_
                    refine v_iload X dX8_copy_106 rfl ?_
                    refine v_i2l X dX8_copy_108 ?_
                    refine v_ladd X dX8_copy_109 ?_
                    refine v_aloadn X dX8_copy_110 rfl rfl ?_
                    refine gf_X8_13 X dX8_copy_111 ?_
                    refine v_iloadn X dX8_copy_114 rfl rfl ?_
                    refine alM X (by decide +kernel) jv15 ejv15 ljv15 dX8_copy_115 ?_
                    refine v_vali (v2 := (gv6 11 3 jv15)) rfl ?_
                    refine v_i2l X dX8_copy_116 ?_
                    refine v_lcmp X dX8_copy_117 ?_
                    refine v_if_le X 127 dX8_copy_118 (by decide) (fun cv35 => ?_) (fun cv35 => ?_)
                    · replace h := (if_pos cv35).symm.trans h
                      refine v_iloadn X dX8_copy_127 rfl rfl ?_
                      refine v_iload X dX8_copy_128 rfl ?_
                      refine v_icmp_lt X 137 dX8_copy_130 (by decide) (fun cv36 => ?_) (fun cv36 => ?_)
                      · replace h := (if_pos cv36).symm.trans h
                        refine v_iconst (v := 0) X dX8_copy_137 (by decide) ?_
                        refine v_istore (lc' := [some (.ref (ad (8, 0, 0))), some (.int x1), some (.int x2), some (.int x3), some (.int x4), some (.int x5), some (.int (0 : Int32)), none, none]) X dX8_copy_138 (by decide) rfl rfl ?_
                        refine v_iconst (v := 0) X dX8_copy_140 (by decide) ?_
                        refine v_istore (lc' := [some (.ref (ad (8, 0, 0))), some (.int x1), some (.int x2), some (.int x3), some (.int x4), some (.int x5), some (.int (0 : Int32)), some (.int (0 : Int32)), none]) X dX8_copy_141 (by decide) rfl rfl ?_
                        obtain ⟨xv47, gv48, qv49, h⟩ := bd2_some h
                        refine w_X8_copy_143 X x1 x2 x3 x4 x5 (0 : Int32) N (0 : Int32) (g3 gv6 10 0 1 (0 : Int32)) xv47 gv48 qv49 ?_
                        refine v_iload X dX8_copy_204 rfl ?_
                        obtain ⟨er, eg⟩ := Prod.mk.inj (Option.some.inj h)
                        exact v_iret X dX8_copy_206 er eg
                      · replace h := (if_neg cv36).symm.trans h
                        refine v_iconst (v := 1) X dX8_copy_133 (by decide) ?_
                        refine v_goto X 138 dX8_copy_134 (by decide) ?_
                        refine v_istore (lc' := [some (.ref (ad (8, 0, 0))), some (.int x1), some (.int x2), some (.int x3), some (.int x4), some (.int x5), some (.int (1 : Int32)), none, none]) X dX8_copy_138 (by decide) rfl rfl ?_
                        refine v_iconst (v := 0) X dX8_copy_140 (by decide) ?_
                        refine v_istore (lc' := [some (.ref (ad (8, 0, 0))), some (.int x1), some (.int x2), some (.int x3), some (.int x4), some (.int x5), some (.int (1 : Int32)), some (.int (0 : Int32)), none]) X dX8_copy_141 (by decide) rfl rfl ?_
                        obtain ⟨xv50, gv51, qv52, h⟩ := bd2_some h
                        refine w_X8_copy_143 X x1 x2 x3 x4 x5 (1 : Int32) N (0 : Int32) (g3 gv6 10 0 1 (0 : Int32)) xv50 gv51 qv52 ?_
                        refine v_iload X dX8_copy_204 rfl ?_
                        obtain ⟨er, eg⟩ := Prod.mk.inj (Option.some.inj h)
                        exact v_iret X dX8_copy_206 er eg
                    · replace h := (if_neg cv35).symm.trans h
                      refine v_aloadn X dX8_copy_121 rfl rfl ?_
                      refine v_iconst (v := 2) X dX8_copy_122 (by decide) ?_
                      obtain ⟨rv55, gv54, qv53, h⟩ := bd2_some h
                      refine v_callVI (As := [.int (2 : Int32)]) (rest := []) X (c_X8_finding l D ad cy X.2.2.2.2.2.2.2.2.1 N (2 : Int32) (g3 gv6 10 0 1 (0 : Int32)) rv55 gv54  qv53) mw_X8_finding ml_X8_71 (by decide) (by decide +kernel) (by decide) rfl rfl rfl rfl (Nat.le_of_ble_eq_true rfl) dX8_copy_123 ?_
                      obtain ⟨er, eg⟩ := Prod.mk.inj (Option.some.inj h)
                      exact v_iret X dX8_copy_126 er eg
          · replace h := (if_neg cv18).symm.trans h
            refine v_aloadn X dX8_copy_66 rfl rfl ?_
            refine v_iconst (v := 5) X dX8_copy_67 (by decide) ?_
            obtain ⟨rv58, gv57, qv56, h⟩ := bd2_some h
            refine v_callVI (As := [.int (5 : Int32)]) (rest := []) X (c_X8_finding l D ad cy X.2.2.2.2.2.2.2.2.1 N (5 : Int32) (g3 gv6 10 0 1 (0 : Int32)) rv58 gv57  qv56) mw_X8_finding ml_X8_71 (by decide) (by decide +kernel) (by decide) rfl rfl rfl rfl (Nat.le_of_ble_eq_true rfl) dX8_copy_68 ?_
            obtain ⟨er, eg⟩ := Prod.mk.inj (Option.some.inj h)
            exact v_iret X dX8_copy_71 er eg
        · replace h := (if_neg cv17).symm.trans h
          refine v_aloadn X dX8_copy_45 rfl rfl ?_
          refine v_iconst (v := 1) X dX8_copy_46 (by decide) ?_
          obtain ⟨rv61, gv60, qv59, h⟩ := bd2_some h
          refine v_callVI (As := [.int (1 : Int32)]) (rest := []) X (c_X8_finding l D ad cy X.2.2.2.2.2.2.2.2.1 N (1 : Int32) (g3 gv6 10 0 1 (0 : Int32)) rv61 gv60  qv59) mw_X8_finding ml_X8_71 (by decide) (by decide +kernel) (by decide) rfl rfl rfl rfl (Nat.le_of_ble_eq_true rfl) dX8_copy_47 ?_
          obtain ⟨er, eg⟩ := Prod.mk.inj (Option.some.inj h)
          exact v_iret X dX8_copy_50 er eg
    · replace h := (if_pos cv8).symm.trans h
      refine v_ldc X kc_X8_70 dX8_copy_19 ?_
      obtain ⟨er, eg⟩ := Prod.mk.inj (Option.some.inj h)
      exact v_iret X dX8_copy_21 er eg
def L_X8_those_4 (N : Nat) (w0_1 : Nat) (z1 : Int32) : Nat → Int32 → Int32 → GS → Option (Int32 × Int32 × GS)
  | 0, _, _, _ => none
  | n + 1, y2, y3, g => bd1 (ix (0 : Int32) (lenM w0_1)) (fun jv1 => if (g 11 w0_1 jv1) ≤ y3 then some (y2, y3, g) else bd2 (F_X8_of N w0_1 y3 (3 : Int32) g) (fun rv6 gv5 => if rv6 = z1 then L_X8_those_4 N w0_1 z1 n (y2 ||| ((1 : Int32) <<< (y3 &&& 31))) (y3 + 1) gv5 else L_X8_those_4 N w0_1 z1 n (y2 ||| (0 : Int32)) (y3 + 1) gv5))
def F_X8_those (N : Nat) (b0 : Nat) (x1 : Int32) (g : GS) : Option (Int32 × GS) := bd3 (L_X8_those_4 N b0 x1 N (0 : Int32) (0 : Int32) g) (fun xv8 xv9 gv10 => some (xv8, gv10))
set_option maxRecDepth 100000 in
set_option maxHeartbeats 4000000 in
theorem w_X8_those_4 {p : Program} {l : Launch} {e : Env} {s : State} {m : MethodId} {args : Array Value} {below : List Frame} {meth : Method} {c : Code} {D : va_G} {ad : Ky → Nat} {cy : Nat → ClassId} {r : Int32} {gq : GS} {N : Nat} (X : Cx p (rmd 1) s m args meth c RX8 cX8_those 4 (some .int) D ad cy) (w0_1 : Nat) (z1 : Int32) (hh0 : ((9, 11, w0_1) : Ky) ∈ keys) : ∀ (n : Nat) (y2 : Int32) (y3 : Int32) (g : GS) (y2' : Int32) (y3' : Int32) (g' : GS), L_X8_those_4 N w0_1 z1 n y2 y3 g = some (y2', y3', g') → Vy p l e (rmd 1) s m args below meth c 4 D ad cy (QI D ad cy below args s r gq) 37 [some (.ref (ad (9, 11, w0_1))), some (.int z1), some (.int y2'), some (.int y3')] [] g' → Vy p l e (rmd 1) s m args below meth c 4 D ad cy (QI D ad cy below args s r gq) 4 [some (.ref (ad (9, 11, w0_1))), some (.int z1), some (.int y2), some (.int y3)] [] g := by
  intro n
  induction n with
  | zero => intro y2 y3 g y2' y3' g' h k; cases h
  | succ n ih =>
    intro y2 y3 g y2' y3' g' h k
    rw [L_X8_those_4] at h
    refine v_iloadn X dX8_those_4 rfl rfl ?_
    refine v_aloadn X dX8_those_5 rfl rfl ?_
    refine v_iconst (v := 0) X dX8_those_6 (by decide) ?_
    obtain ⟨jv1, qv2, h⟩ := bd1_some h
    obtain ⟨ejv1, ljv1⟩ := ix_spec qv2
    refine alM X (by assumption) jv1 ejv1 ljv1 dX8_those_7 ?_
    refine v_icmp_ge X 37 dX8_those_8 (by decide) (fun cv3 => ?_) (fun cv3 => ?_)
    · replace h := (if_pos cv3).symm.trans h
      cases h
      exact k
    · replace h := (if_neg cv3).symm.trans h
      refine v_iloadn X dX8_those_11 rfl rfl ?_
      refine v_aloadn X dX8_those_12 rfl rfl ?_
      refine v_iloadn X dX8_those_13 rfl rfl ?_
      refine v_iconst (v := 3) X dX8_those_14 (by decide) ?_
      obtain ⟨rv6, gv5, qv4, h⟩ := bd2_some h
      refine v_callSI (As := [.ref (ad (9, 11, w0_1)), .int y3, .int (3 : Int32)]) (rest := [.int y2]) X (c_X8_of l D ad cy X.2.2.2.2.2.2.2.2.1 N w0_1 y3 (3 : Int32) g rv6 gv5 (by assumption) qv4) mw_X8_of ml_X8_155 (by decide) rfl rfl (Nat.le_of_ble_eq_true rfl) dX8_those_15 ?_
      refine v_iloadn X dX8_those_18 rfl rfl ?_
      refine v_icmp_ne X 28 dX8_those_19 (by decide) (fun cv7 => ?_) (fun cv7 => ?_)
      · replace h := (if_neg cv7).symm.trans h
        refine v_iconst (v := 0) X dX8_those_28 (by decide) ?_
        refine v_ior X dX8_those_29 ?_
        refine v_istoren (lc' := [some (.ref (ad (9, 11, w0_1))), some (.int z1), some (.int (y2 ||| (0 : Int32))), some (.int y3)]) X dX8_those_30 rfl (by decide) rfl rfl ?_
        refine v_iinc (v := (y3 + 1)) (lc' := [some (.ref (ad (9, 11, w0_1))), some (.int z1), some (.int (y2 ||| (0 : Int32))), some (.int (y3 + 1))]) X dX8_those_31 rfl rfl (by decide) rfl rfl ?_
        refine v_goto X 4 dX8_those_34 (by decide) ?_
        exact ih (y2 ||| (0 : Int32)) (y3 + 1) gv5 _ _ _ h k
      · replace h := (if_pos cv7).symm.trans h
        refine v_iconst (v := 1) X dX8_those_22 (by decide) ?_
        refine v_iloadn X dX8_those_23 rfl rfl ?_
        refine v_ishl X dX8_those_24 ?_
        refine v_goto X 29 dX8_those_25 (by decide) ?_
        refine v_ior X dX8_those_29 ?_
        refine v_istoren (lc' := [some (.ref (ad (9, 11, w0_1))), some (.int z1), some (.int (y2 ||| ((1 : Int32) <<< (y3 &&& 31)))), some (.int y3)]) X dX8_those_30 rfl (by decide) rfl rfl ?_
        refine v_iinc (v := (y3 + 1)) (lc' := [some (.ref (ad (9, 11, w0_1))), some (.int z1), some (.int (y2 ||| ((1 : Int32) <<< (y3 &&& 31)))), some (.int (y3 + 1))]) X dX8_those_31 rfl rfl (by decide) rfl rfl ?_
        refine v_goto X 4 dX8_those_34 (by decide) ?_
        exact ih (y2 ||| ((1 : Int32) <<< (y3 &&& 31))) (y3 + 1) gv5 _ _ _ h k
set_option maxRecDepth 100000 in
set_option maxHeartbeats 4000000 in
theorem c_X8_those (l : Launch) (D : va_G) (ad : Ky → Nat) (cy : Nat → ClassId) (hI : Inj ad) (N : Nat) (b0 : Nat) (x1 : Int32) (g : GS) (r : Int32) (gq : GS) (kb0 : ((9, 11, b0) : Ky) ∈ keys) (h : F_X8_those N b0 x1 g = some (r, gq)) : CtI l D ad cy yX8_those cX8_those 4 (some .int) 1 [.ref (ad (9, 11, b0)), .int x1] g r gq := by
  refine CtI.of 2 hI (by decide +kernel) rfl (Nat.le_of_ble_eq_true rfl) (fun p e s m args below meth c X => ?_)
  unfold F_X8_those at h
  show Vy _ _ _ _ _ _ _ _ _ _ _ _ _ _ _ 0 [some (.ref (ad (9, 11, b0))), some (.int x1), none, none] [] g
  refine v_iconst (v := 0) X dX8_those_0 (by decide) ?_
  refine v_istoren (lc' := [some (.ref (ad (9, 11, b0))), some (.int x1), some (.int (0 : Int32)), none]) X dX8_those_1 rfl (by decide) rfl rfl ?_
  refine v_iconst (v := 0) X dX8_those_2 (by decide) ?_
  refine v_istoren (lc' := [some (.ref (ad (9, 11, b0))), some (.int x1), some (.int (0 : Int32)), some (.int (0 : Int32))]) X dX8_those_3 rfl (by decide) rfl rfl ?_
  obtain ⟨xv8, xv9, gv10, qv11, h⟩ := bd3_some h
  refine w_X8_those_4 X b0 x1 (by assumption) N (0 : Int32) (0 : Int32) g xv8 xv9 gv10 qv11 ?_
  refine v_iloadn X dX8_those_37 rfl rfl ?_
  obtain ⟨er, eg⟩ := Prod.mk.inj (Option.some.inj h)
  exact v_iret X dX8_those_38 er eg
def L_X8_count_58 (N : Nat) (z1 : Int32) : Nat → Int32 → Int32 → GS → Option (Int32 × Int32 × GS)
  | 0, _, _, _ => none
  | n + 1, y2, y3, g => if (8 : Int32) ≤ y3 then some (y2, y3, g) else bd1 (ix y3 8) (fun jv3 => if (g 11 2 jv3) < 0 then L_X8_count_58 N z1 n (y2 + (0 : Int32)) (y3 + 1) g else L_X8_count_58 N z1 n (y2 + (1 : Int32)) (y3 + 1) g)
def F_X8_count (N : Nat) (x1 : Int32) (g : GS) : Option (Int32 × GS) := if x1 = 0 then bd3 (L_X8_count_58 N x1 N (0 : Int32) (0 : Int32) (g3 g 10 0 0 (0 : Int32))) (fun xv6 xv7 gv8 => some (xv6, gv8)) else if x1 = 1 then bd1 (ix (0 : Int32) 53) (fun jv11 => some ((g 11 5 jv11), (g3 g 10 0 0 (0 : Int32)))) else if x1 = 2 then bd1 (ix (1 : Int32) 53) (fun jv14 => some ((g 11 5 jv14), (g3 g 10 0 0 (0 : Int32)))) else if x1 = 3 then bd1 (ix (4 : Int32) 53) (fun jv17 => some ((g 11 5 jv17), (g3 g 10 0 0 (0 : Int32)))) else if x1 = 4 then bd2 (F_X8_those N 5 (1 : Int32) (g3 g 10 0 0 (0 : Int32))) (fun rv22 gv21 => bd2 (F_X8_bits N rv22 gv21) (fun rv25 gv24 => some (rv25, gv24))) else if x1 = 5 then bd2 (F_X8_those N 5 (2 : Int32) (g3 g 10 0 0 (0 : Int32))) (fun rv29 gv28 => bd2 (F_X8_bits N rv29 gv28) (fun rv32 gv31 => some (rv32, gv31))) else if x1 = 6 then some ((g 10 0 10), (g3 g 10 0 0 (0 : Int32))) else if x1 = 7 then some ((g 10 0 12), (g3 g 10 0 0 (0 : Int32))) else some ((-1000001 : Int32), (g3 g 10 0 0 (0 : Int32)))
set_option maxRecDepth 100000 in
set_option maxHeartbeats 4000000 in
theorem w_X8_count_58 {p : Program} {l : Launch} {e : Env} {s : State} {m : MethodId} {args : Array Value} {below : List Frame} {meth : Method} {c : Code} {D : va_G} {ad : Ky → Nat} {cy : Nat → ClassId} {r : Int32} {gq : GS} {N : Nat} (X : Cx p (rmd 2) s m args meth c RX8 cX8_count 4 (some .int) D ad cy) (z1 : Int32) : ∀ (n : Nat) (y2 : Int32) (y3 : Int32) (g : GS) (y2' : Int32) (y3' : Int32) (g' : GS), L_X8_count_58 N z1 n y2 y3 g = some (y2', y3', g') → Vy p l e (rmd 2) s m args below meth c 4 D ad cy (QI D ad cy below args s r gq) 87 [some (.ref (ad (8, 0, 0))), some (.int z1), some (.int y2'), some (.int y3')] [] g' → Vy p l e (rmd 2) s m args below meth c 4 D ad cy (QI D ad cy below args s r gq) 58 [some (.ref (ad (8, 0, 0))), some (.int z1), some (.int y2), some (.int y3)] [] g := by
  intro n
  induction n with
  | zero => intro y2 y3 g y2' y3' g' h k; cases h
  | succ n ih =>
    intro y2 y3 g y2' y3' g' h k
    rw [L_X8_count_58] at h
    refine v_iloadn X dX8_count_58 rfl rfl ?_
    refine v_bipush (v := 8) X dX8_count_59 (by decide) ?_
    refine v_icmp_ge X 87 dX8_count_61 (by decide) (fun cv2 => ?_) (fun cv2 => ?_)
    · replace h := (if_pos cv2).symm.trans h
      cases h
      exact k
    · replace h := (if_neg cv2).symm.trans h
      refine v_iloadn X dX8_count_64 rfl rfl ?_
      refine v_aloadn X dX8_count_65 rfl rfl ?_
      refine gf_X8_7 X dX8_count_66 ?_
      refine v_iloadn X dX8_count_69 rfl rfl ?_
      obtain ⟨jv3, qv4, h⟩ := bd1_some h
      obtain ⟨ejv3, ljv3⟩ := ix_spec qv4
      refine alM X (by decide +kernel) jv3 ejv3 ljv3 dX8_count_70 ?_
      refine v_if_lt X 78 dX8_count_71 (by decide) (fun cv5 => ?_) (fun cv5 => ?_)
      · replace h := (if_pos cv5).symm.trans h
        refine v_iconst (v := 0) X dX8_count_78 (by decide) ?_
        refine v_iadd X dX8_count_79 ?_
        refine v_istoren (lc' := [some (.ref (ad (8, 0, 0))), some (.int z1), some (.int (y2 + (0 : Int32))), some (.int y3)]) X dX8_count_80 rfl (by decide) rfl rfl ?_
        refine v_iinc (v := (y3 + 1)) (lc' := [some (.ref (ad (8, 0, 0))), some (.int z1), some (.int (y2 + (0 : Int32))), some (.int (y3 + 1))]) X dX8_count_81 rfl rfl (by decide) rfl rfl ?_
        refine v_goto X 58 dX8_count_84 (by decide) ?_
        exact ih (y2 + (0 : Int32)) (y3 + 1) g _ _ _ h k
      · replace h := (if_neg cv5).symm.trans h
        refine v_iconst (v := 1) X dX8_count_74 (by decide) ?_
        refine v_goto X 79 dX8_count_75 (by decide) ?_
        refine v_iadd X dX8_count_79 ?_
        refine v_istoren (lc' := [some (.ref (ad (8, 0, 0))), some (.int z1), some (.int (y2 + (1 : Int32))), some (.int y3)]) X dX8_count_80 rfl (by decide) rfl rfl ?_
        refine v_iinc (v := (y3 + 1)) (lc' := [some (.ref (ad (8, 0, 0))), some (.int z1), some (.int (y2 + (1 : Int32))), some (.int (y3 + 1))]) X dX8_count_81 rfl rfl (by decide) rfl rfl ?_
        refine v_goto X 58 dX8_count_84 (by decide) ?_
        exact ih (y2 + (1 : Int32)) (y3 + 1) g _ _ _ h k
set_option maxRecDepth 100000 in
set_option maxHeartbeats 4000000 in
theorem c_X8_count (l : Launch) (D : va_G) (ad : Ky → Nat) (cy : Nat → ClassId) (hI : Inj ad) (N : Nat) (x1 : Int32) (g : GS) (r : Int32) (gq : GS) (h : F_X8_count N x1 g = some (r, gq)) : CtI l D ad cy yX8_count cX8_count 4 (some .int) 2 [.ref (ad (8, 0, 0)), .int x1] g r gq := by
  refine CtI.of 2 hI (by decide +kernel) rfl (Nat.le_of_ble_eq_true rfl) (fun p e s m args below meth c X => ?_)
  unfold F_X8_count at h
  show Vy _ _ _ _ _ _ _ _ _ _ _ _ _ _ _ 0 [some (.ref (ad (8, 0, 0))), some (.int x1), none, none] [] g
  refine v_aloadn X dX8_count_0 rfl rfl ?_
  refine v_iconst (v := 0) X dX8_count_1 (by decide) ?_
  refine pf_X8_50 X dX8_count_2 ?_
  refine v_iconst (v := 0) X dX8_count_5 (by decide) ?_
  refine v_istoren (lc' := [some (.ref (ad (8, 0, 0))), some (.int x1), some (.int (0 : Int32)), none]) X dX8_count_6 rfl (by decide) rfl rfl ?_
  refine v_iloadn X dX8_count_7 rfl rfl ?_
  by_cases cv1 : x1 = 0
  · replace h := (if_pos cv1).symm.trans h
    refine v_tableIn X 56 dX8_count_8 (by rw [cv1]; decide) (by rw [cv1]; decide) (by rw [cv1]; rfl) (by decide) ?_
    refine v_iconst (v := 0) X dX8_count_56 (by decide) ?_
    refine v_istoren (lc' := [some (.ref (ad (8, 0, 0))), some (.int x1), some (.int (0 : Int32)), some (.int (0 : Int32))]) X dX8_count_57 rfl (by decide) rfl rfl ?_
    obtain ⟨xv6, xv7, gv8, qv9, h⟩ := bd3_some h
    refine w_X8_count_58 X x1 N (0 : Int32) (0 : Int32) (g3 g 10 0 0 (0 : Int32)) xv6 xv7 gv8 qv9 ?_
    refine v_iloadn X dX8_count_87 rfl rfl ?_
    obtain ⟨er, eg⟩ := Prod.mk.inj (Option.some.inj h)
    exact v_iret X dX8_count_88 er eg
  replace h := (if_neg cv1).symm.trans h
  by_cases cv10 : x1 = 1
  · replace h := (if_pos cv10).symm.trans h
    refine v_tableIn X 89 dX8_count_8 (by rw [cv10]; decide) (by rw [cv10]; decide) (by rw [cv10]; rfl) (by decide) ?_
    refine v_aloadn X dX8_count_89 rfl rfl ?_
    refine gf_X8_19 X dX8_count_90 ?_
    refine v_iconst (v := 0) X dX8_count_93 (by decide) ?_
    obtain ⟨jv11, qv12, h⟩ := bd1_some h
    obtain ⟨ejv11, ljv11⟩ := ix_spec qv12
    refine alM X (by decide +kernel) jv11 ejv11 ljv11 dX8_count_94 ?_
    refine v_vali (v2 := (g 11 5 jv11)) rfl ?_
    obtain ⟨er, eg⟩ := Prod.mk.inj (Option.some.inj h)
    exact v_iret X dX8_count_95 er eg
  replace h := (if_neg cv10).symm.trans h
  by_cases cv13 : x1 = 2
  · replace h := (if_pos cv13).symm.trans h
    refine v_tableIn X 96 dX8_count_8 (by rw [cv13]; decide) (by rw [cv13]; decide) (by rw [cv13]; rfl) (by decide) ?_
    refine v_aloadn X dX8_count_96 rfl rfl ?_
    refine gf_X8_19 X dX8_count_97 ?_
    refine v_iconst (v := 1) X dX8_count_100 (by decide) ?_
    obtain ⟨jv14, qv15, h⟩ := bd1_some h
    obtain ⟨ejv14, ljv14⟩ := ix_spec qv15
    refine alM X (by decide +kernel) jv14 ejv14 ljv14 dX8_count_101 ?_
    refine v_vali (v2 := (g 11 5 jv14)) rfl ?_
    obtain ⟨er, eg⟩ := Prod.mk.inj (Option.some.inj h)
    exact v_iret X dX8_count_102 er eg
  replace h := (if_neg cv13).symm.trans h
  by_cases cv16 : x1 = 3
  · replace h := (if_pos cv16).symm.trans h
    refine v_tableIn X 103 dX8_count_8 (by rw [cv16]; decide) (by rw [cv16]; decide) (by rw [cv16]; rfl) (by decide) ?_
    refine v_aloadn X dX8_count_103 rfl rfl ?_
    refine gf_X8_19 X dX8_count_104 ?_
    refine v_iconst (v := 4) X dX8_count_107 (by decide) ?_
    obtain ⟨jv17, qv18, h⟩ := bd1_some h
    obtain ⟨ejv17, ljv17⟩ := ix_spec qv18
    refine alM X (by decide +kernel) jv17 ejv17 ljv17 dX8_count_108 ?_
    refine v_vali (v2 := (g 11 5 jv17)) rfl ?_
    obtain ⟨er, eg⟩ := Prod.mk.inj (Option.some.inj h)
    exact v_iret X dX8_count_109 er eg
  replace h := (if_neg cv16).symm.trans h
  by_cases cv19 : x1 = 4
  · replace h := (if_pos cv19).symm.trans h
    refine v_tableIn X 110 dX8_count_8 (by rw [cv19]; decide) (by rw [cv19]; decide) (by rw [cv19]; rfl) (by decide) ?_
    refine v_aloadn X dX8_count_110 rfl rfl ?_
    refine gf_X8_19 X dX8_count_111 ?_
    refine v_iconst (v := 1) X dX8_count_114 (by decide) ?_
    obtain ⟨rv22, gv21, qv20, h⟩ := bd2_some h
    refine v_callSI (As := [.ref (ad (9, 11, 5)), .int (1 : Int32)]) (rest := []) X (c_X8_those l D ad cy X.2.2.2.2.2.2.2.2.1 N 5 (1 : Int32) (g3 g 10 0 0 (0 : Int32)) rv22 gv21 (by decide +kernel) qv20) mw_X8_those ml_X8_217 (by decide) rfl rfl (Nat.le_of_ble_eq_true rfl) dX8_count_115 ?_
    obtain ⟨rv25, gv24, qv23, h⟩ := bd2_some h
    refine v_callSI (As := [.int rv22]) (rest := []) X (c_X8_bits l D ad cy X.2.2.2.2.2.2.2.2.1 N rv22 gv21 rv25 gv24  qv23) mw_X8_bits ml_X8_244 (by decide) rfl rfl (Nat.le_of_ble_eq_true rfl) dX8_count_118 ?_
    obtain ⟨er, eg⟩ := Prod.mk.inj (Option.some.inj h)
    exact v_iret X dX8_count_121 er eg
  replace h := (if_neg cv19).symm.trans h
  by_cases cv26 : x1 = 5
  · replace h := (if_pos cv26).symm.trans h
    refine v_tableIn X 122 dX8_count_8 (by rw [cv26]; decide) (by rw [cv26]; decide) (by rw [cv26]; rfl) (by decide) ?_
    refine v_aloadn X dX8_count_122 rfl rfl ?_
    refine gf_X8_19 X dX8_count_123 ?_
    refine v_iconst (v := 2) X dX8_count_126 (by decide) ?_
    obtain ⟨rv29, gv28, qv27, h⟩ := bd2_some h
    refine v_callSI (As := [.ref (ad (9, 11, 5)), .int (2 : Int32)]) (rest := []) X (c_X8_those l D ad cy X.2.2.2.2.2.2.2.2.1 N 5 (2 : Int32) (g3 g 10 0 0 (0 : Int32)) rv29 gv28 (by decide +kernel) qv27) mw_X8_those ml_X8_217 (by decide) rfl rfl (Nat.le_of_ble_eq_true rfl) dX8_count_127 ?_
    obtain ⟨rv32, gv31, qv30, h⟩ := bd2_some h
    refine v_callSI (As := [.int rv29]) (rest := []) X (c_X8_bits l D ad cy X.2.2.2.2.2.2.2.2.1 N rv29 gv28 rv32 gv31  qv30) mw_X8_bits ml_X8_244 (by decide) rfl rfl (Nat.le_of_ble_eq_true rfl) dX8_count_130 ?_
    obtain ⟨er, eg⟩ := Prod.mk.inj (Option.some.inj h)
    exact v_iret X dX8_count_133 er eg
  replace h := (if_neg cv26).symm.trans h
  by_cases cv33 : x1 = 6
  · replace h := (if_pos cv33).symm.trans h
    refine v_tableIn X 134 dX8_count_8 (by rw [cv33]; decide) (by rw [cv33]; decide) (by rw [cv33]; rfl) (by decide) ?_
    refine v_aloadn X dX8_count_134 rfl rfl ?_
    refine gf_X8_152 X dX8_count_135 ?_
    refine v_vali (v2 := (g 10 0 10)) rfl ?_
    obtain ⟨er, eg⟩ := Prod.mk.inj (Option.some.inj h)
    exact v_iret X dX8_count_138 er eg
  replace h := (if_neg cv33).symm.trans h
  by_cases cv34 : x1 = 7
  · replace h := (if_pos cv34).symm.trans h
    refine v_tableIn X 139 dX8_count_8 (by rw [cv34]; decide) (by rw [cv34]; decide) (by rw [cv34]; rfl) (by decide) ?_
    refine v_aloadn X dX8_count_139 rfl rfl ?_
    refine gf_X8_77 X dX8_count_140 ?_
    refine v_vali (v2 := (g 10 0 12)) rfl ?_
    obtain ⟨er, eg⟩ := Prod.mk.inj (Option.some.inj h)
    exact v_iret X dX8_count_143 er eg
  replace h := (if_neg cv34).symm.trans h
  have tv35 := tab_ne (k := 0) (n := 0) cv1 (by decide)
  have tv36 := tab_ne (k := 1) (n := 1) cv10 (by decide)
  have tv37 := tab_ne (k := 2) (n := 2) cv13 (by decide)
  have tv38 := tab_ne (k := 3) (n := 3) cv16 (by decide)
  have tv39 := tab_ne (k := 4) (n := 4) cv19 (by decide)
  have tv40 := tab_ne (k := 5) (n := 5) cv26 (by decide)
  have tv41 := tab_ne (k := 6) (n := 6) cv33 (by decide)
  have tv42 := tab_ne (k := 7) (n := 7) cv34 (by decide)
  refine v_tableOut X 144 dX8_count_8 (by omega) (by decide) ?_
  refine v_ldc X kc_X8_70 dX8_count_144 ?_
  obtain ⟨er, eg⟩ := Prod.mk.inj (Option.some.inj h)
  exact v_iret X dX8_count_146 er eg
def F_X8_goesUp (N : Nat) (b0 : Nat) (x1 : Int32) (x2 : Int32) (g : GS) : Option GS := bd1 (F_X8_be N b0 x1 (3 : Int32) (1 : Int32) g) (fun gv2 => bd1 (F_X8_be N b0 x1 (4 : Int32) (0 : Int32) gv2) (fun gv4 => bd1 (F_X8_be N b0 x1 (5 : Int32) x2 gv4) (fun gv6 => some gv6)))
set_option maxRecDepth 100000 in
set_option maxHeartbeats 4000000 in
theorem c_X8_goesUp (l : Launch) (D : va_G) (ad : Ky → Nat) (cy : Nat → ClassId) (hI : Inj ad) (N : Nat) (b0 : Nat) (x1 : Int32) (x2 : Int32) (g : GS) (gq : GS) (kb0 : ((9, 11, b0) : Ky) ∈ keys) (h : F_X8_goesUp N b0 x1 x2 g = some gq) : CtV l D ad cy yX8_goesUp cX8_goesUp 3 1 [.ref (ad (9, 11, b0)), .int x1, .int x2] g gq := by
  refine CtV.of 0 hI (by decide +kernel) rfl (Nat.le_of_ble_eq_true rfl) (fun p e s m args below meth c X => ?_)
  unfold F_X8_goesUp at h
  show Vy _ _ _ _ _ _ _ _ _ _ _ _ _ _ _ 0 [some (.ref (ad (9, 11, b0))), some (.int x1), some (.int x2)] [] g
  refine v_aloadn X dX8_goesUp_0 rfl rfl ?_
  refine v_iloadn X dX8_goesUp_1 rfl rfl ?_
  refine v_iconst (v := 3) X dX8_goesUp_2 (by decide) ?_
  refine v_iconst (v := 1) X dX8_goesUp_3 (by decide) ?_
  obtain ⟨gv2, qv1, h⟩ := bd1_some h
  refine v_callSV (As := [.ref (ad (9, 11, b0)), .int x1, .int (3 : Int32), .int (1 : Int32)]) (rest := []) X (c_X8_be l D ad cy X.2.2.2.2.2.2.2.2.1 N b0 x1 (3 : Int32) (1 : Int32) g gv2 (by assumption) qv1) mw_X8_be ml_X8_170 (by decide) rfl rfl (Nat.le_of_ble_eq_true rfl) dX8_goesUp_4 ?_
  refine v_aloadn X dX8_goesUp_7 rfl rfl ?_
  refine v_iloadn X dX8_goesUp_8 rfl rfl ?_
  refine v_iconst (v := 4) X dX8_goesUp_9 (by decide) ?_
  refine v_iconst (v := 0) X dX8_goesUp_10 (by decide) ?_
  obtain ⟨gv4, qv3, h⟩ := bd1_some h
  refine v_callSV (As := [.ref (ad (9, 11, b0)), .int x1, .int (4 : Int32), .int (0 : Int32)]) (rest := []) X (c_X8_be l D ad cy X.2.2.2.2.2.2.2.2.1 N b0 x1 (4 : Int32) (0 : Int32) gv2 gv4 (by assumption) qv3) mw_X8_be ml_X8_170 (by decide) rfl rfl (Nat.le_of_ble_eq_true rfl) dX8_goesUp_11 ?_
  refine v_aloadn X dX8_goesUp_14 rfl rfl ?_
  refine v_iloadn X dX8_goesUp_15 rfl rfl ?_
  refine v_iconst (v := 5) X dX8_goesUp_16 (by decide) ?_
  refine v_iloadn X dX8_goesUp_17 rfl rfl ?_
  obtain ⟨gv6, qv5, h⟩ := bd1_some h
  refine v_callSV (As := [.ref (ad (9, 11, b0)), .int x1, .int (5 : Int32), .int x2]) (rest := []) X (c_X8_be l D ad cy X.2.2.2.2.2.2.2.2.1 N b0 x1 (5 : Int32) x2 gv4 gv6 (by assumption) qv5) mw_X8_be ml_X8_170 (by decide) rfl rfl (Nat.le_of_ble_eq_true rfl) dX8_goesUp_18 ?_
  exact v_vret X dX8_goesUp_21 (Option.some.inj h)
def F_X8_isThere (N : Nat) (g : GS) : Option (Int32 × GS) := bd1 (ix (0 : Int32) 53) (fun jv1 => if (g 11 5 jv1) ≤ 0 then some ((0 : Int32), g) else some ((1 : Int32), g))
set_option maxRecDepth 100000 in
set_option maxHeartbeats 4000000 in
theorem c_X8_isThere (l : Launch) (D : va_G) (ad : Ky → Nat) (cy : Nat → ClassId) (hI : Inj ad) (N : Nat) (g : GS) (r : Int32) (gq : GS) (h : F_X8_isThere N  g = some (r, gq)) : CtI l D ad cy yX8_isThere cX8_isThere 1 (some .boolean) 0 [.ref (ad (8, 0, 0))] g r gq := by
  refine CtI.of 0 hI (by decide +kernel) rfl (Nat.le_of_ble_eq_true rfl) (fun p e s m args below meth c X => ?_)
  unfold F_X8_isThere at h
  show Vy _ _ _ _ _ _ _ _ _ _ _ _ _ _ _ 0 [some (.ref (ad (8, 0, 0)))] [] g
  refine v_aloadn X dX8_isThere_0 rfl rfl ?_
  refine gf_X8_19 X dX8_isThere_1 ?_
  refine v_iconst (v := 0) X dX8_isThere_4 (by decide) ?_
  obtain ⟨jv1, qv2, h⟩ := bd1_some h
  obtain ⟨ejv1, ljv1⟩ := ix_spec qv2
  refine alM X (by decide +kernel) jv1 ejv1 ljv1 dX8_isThere_5 ?_
  refine v_if_le X 13 dX8_isThere_6 (by decide) (fun cv3 => ?_) (fun cv3 => ?_)
  · replace h := (if_pos cv3).symm.trans h
    refine v_iconst (v := 0) X dX8_isThere_13 (by decide) ?_
    obtain ⟨er, eg⟩ := Prod.mk.inj (Option.some.inj h)
    exact v_zret X dX8_isThere_14 rfl er eg
  · replace h := (if_neg cv3).symm.trans h
    refine v_iconst (v := 1) X dX8_isThere_9 (by decide) ?_
    refine v_goto X 14 dX8_isThere_10 (by decide) ?_
    obtain ⟨er, eg⟩ := Prod.mk.inj (Option.some.inj h)
    exact v_zret X dX8_isThere_14 rfl er eg
def F_X8_letsOut (N : Nat) (b0 : Nat) (x1 : Int32) (x2 : Int32) (g : GS) : Option GS := bd1 (F_X8_be N b0 x1 (5 : Int32) x2 g) (fun gv2 => bd2 (F_X8_of N b0 x1 (4 : Int32) gv2) (fun rv5 gv4 => if rv5 ≤ x2 then bd2 (F_X8_of N b0 x1 (4 : Int32) gv4) (fun rv9 gv8 => bd1 (F_X8_be N b0 x1 (4 : Int32) rv9 gv8) (fun gv11 => some gv11)) else bd1 (F_X8_be N b0 x1 (4 : Int32) x2 gv4) (fun gv13 => some gv13)))
set_option maxRecDepth 100000 in
set_option maxHeartbeats 4000000 in
theorem c_X8_letsOut (l : Launch) (D : va_G) (ad : Ky → Nat) (cy : Nat → ClassId) (hI : Inj ad) (N : Nat) (b0 : Nat) (x1 : Int32) (x2 : Int32) (g : GS) (gq : GS) (kb0 : ((9, 11, b0) : Ky) ∈ keys) (h : F_X8_letsOut N b0 x1 x2 g = some gq) : CtV l D ad cy yX8_letsOut cX8_letsOut 3 1 [.ref (ad (9, 11, b0)), .int x1, .int x2] g gq := by
  refine CtV.of 0 hI (by decide +kernel) rfl (Nat.le_of_ble_eq_true rfl) (fun p e s m args below meth c X => ?_)
  unfold F_X8_letsOut at h
  show Vy _ _ _ _ _ _ _ _ _ _ _ _ _ _ _ 0 [some (.ref (ad (9, 11, b0))), some (.int x1), some (.int x2)] [] g
  refine v_aloadn X dX8_letsOut_0 rfl rfl ?_
  refine v_iloadn X dX8_letsOut_1 rfl rfl ?_
  refine v_iconst (v := 5) X dX8_letsOut_2 (by decide) ?_
  refine v_iloadn X dX8_letsOut_3 rfl rfl ?_
  obtain ⟨gv2, qv1, h⟩ := bd1_some h
  refine v_callSV (As := [.ref (ad (9, 11, b0)), .int x1, .int (5 : Int32), .int x2]) (rest := []) X (c_X8_be l D ad cy X.2.2.2.2.2.2.2.2.1 N b0 x1 (5 : Int32) x2 g gv2 (by assumption) qv1) mw_X8_be ml_X8_170 (by decide) rfl rfl (Nat.le_of_ble_eq_true rfl) dX8_letsOut_4 ?_
  refine v_aloadn X dX8_letsOut_7 rfl rfl ?_
  refine v_iloadn X dX8_letsOut_8 rfl rfl ?_
  refine v_iconst (v := 4) X dX8_letsOut_9 (by decide) ?_
  refine v_aloadn X dX8_letsOut_10 rfl rfl ?_
  refine v_iloadn X dX8_letsOut_11 rfl rfl ?_
  refine v_iconst (v := 4) X dX8_letsOut_12 (by decide) ?_
  obtain ⟨rv5, gv4, qv3, h⟩ := bd2_some h
  refine v_callSI (As := [.ref (ad (9, 11, b0)), .int x1, .int (4 : Int32)]) (rest := [.int (4 : Int32), .int x1, .ref (ad (9, 11, b0))]) X (c_X8_of l D ad cy X.2.2.2.2.2.2.2.2.1 N b0 x1 (4 : Int32) gv2 rv5 gv4 (by assumption) qv3) mw_X8_of ml_X8_155 (by decide) rfl rfl (Nat.le_of_ble_eq_true rfl) dX8_letsOut_13 ?_
  refine v_iloadn X dX8_letsOut_16 rfl rfl ?_
  refine v_icmp_le X 24 dX8_letsOut_17 (by decide) (fun cv6 => ?_) (fun cv6 => ?_)
  · replace h := (if_pos cv6).symm.trans h
    refine v_aloadn X dX8_letsOut_24 rfl rfl ?_
    refine v_iloadn X dX8_letsOut_25 rfl rfl ?_
    refine v_iconst (v := 4) X dX8_letsOut_26 (by decide) ?_
    obtain ⟨rv9, gv8, qv7, h⟩ := bd2_some h
    refine v_callSI (As := [.ref (ad (9, 11, b0)), .int x1, .int (4 : Int32)]) (rest := [.int (4 : Int32), .int x1, .ref (ad (9, 11, b0))]) X (c_X8_of l D ad cy X.2.2.2.2.2.2.2.2.1 N b0 x1 (4 : Int32) gv4 rv9 gv8 (by assumption) qv7) mw_X8_of ml_X8_155 (by decide) rfl rfl (Nat.le_of_ble_eq_true rfl) dX8_letsOut_27 ?_
    obtain ⟨gv11, qv10, h⟩ := bd1_some h
    refine v_callSV (As := [.ref (ad (9, 11, b0)), .int x1, .int (4 : Int32), .int rv9]) (rest := []) X (c_X8_be l D ad cy X.2.2.2.2.2.2.2.2.1 N b0 x1 (4 : Int32) rv9 gv8 gv11 (by assumption) qv10) mw_X8_be ml_X8_170 (by decide) rfl rfl (Nat.le_of_ble_eq_true rfl) dX8_letsOut_30 ?_
    exact v_vret X dX8_letsOut_33 (Option.some.inj h)
  · replace h := (if_neg cv6).symm.trans h
    refine v_iloadn X dX8_letsOut_20 rfl rfl ?_
    refine v_goto X 30 dX8_letsOut_21 (by decide) ?_
    obtain ⟨gv13, qv12, h⟩ := bd1_some h
    refine v_callSV (As := [.ref (ad (9, 11, b0)), .int x1, .int (4 : Int32), .int x2]) (rest := []) X (c_X8_be l D ad cy X.2.2.2.2.2.2.2.2.1 N b0 x1 (4 : Int32) x2 gv4 gv13 (by assumption) qv12) mw_X8_be ml_X8_170 (by decide) rfl rfl (Nat.le_of_ble_eq_true rfl) dX8_letsOut_30 ?_
    exact v_vret X dX8_letsOut_33 (Option.some.inj h)
def L_X8_policies_4 (N : Nat) (w0_1 : Nat) : Nat → Int32 → Int32 → GS → Option (Int32 × Int32 × GS)
  | 0, _, _, _ => none
  | n + 1, y1, y2, g => bd1 (ix (0 : Int32) (lenM w0_1)) (fun jv1 => if (g 11 w0_1 jv1) ≤ y2 then some (y1, y2, g) else bd2 (F_X8_isPolicy N w0_1 y2 g) (fun rv6 gv5 => if rv6 = 0 then L_X8_policies_4 N w0_1 n (y1 ||| (0 : Int32)) (y2 + 1) gv5 else L_X8_policies_4 N w0_1 n (y1 ||| ((1 : Int32) <<< (y2 &&& 31))) (y2 + 1) gv5))
def F_X8_policies (N : Nat) (b0 : Nat) (g : GS) : Option (Int32 × GS) := bd3 (L_X8_policies_4 N b0 N (0 : Int32) (0 : Int32) g) (fun xv8 xv9 gv10 => some (xv8, gv10))
set_option maxRecDepth 100000 in
set_option maxHeartbeats 4000000 in
theorem w_X8_policies_4 {p : Program} {l : Launch} {e : Env} {s : State} {m : MethodId} {args : Array Value} {below : List Frame} {meth : Method} {c : Code} {D : va_G} {ad : Ky → Nat} {cy : Nat → ClassId} {r : Int32} {gq : GS} {N : Nat} (X : Cx p (rmd 3) s m args meth c RX8 cX8_policies 3 (some .int) D ad cy) (w0_1 : Nat) (hh0 : ((9, 11, w0_1) : Ky) ∈ keys) : ∀ (n : Nat) (y1 : Int32) (y2 : Int32) (g : GS) (y1' : Int32) (y2' : Int32) (g' : GS), L_X8_policies_4 N w0_1 n y1 y2 g = some (y1', y2', g') → Vy p l e (rmd 3) s m args below meth c 3 D ad cy (QI D ad cy below args s r gq) 35 [some (.ref (ad (9, 11, w0_1))), some (.int y1'), some (.int y2')] [] g' → Vy p l e (rmd 3) s m args below meth c 3 D ad cy (QI D ad cy below args s r gq) 4 [some (.ref (ad (9, 11, w0_1))), some (.int y1), some (.int y2)] [] g := by
  intro n
  induction n with
  | zero => intro y1 y2 g y1' y2' g' h k; cases h
  | succ n ih =>
    intro y1 y2 g y1' y2' g' h k
    rw [L_X8_policies_4] at h
    refine v_iloadn X dX8_policies_4 rfl rfl ?_
    refine v_aloadn X dX8_policies_5 rfl rfl ?_
    refine v_iconst (v := 0) X dX8_policies_6 (by decide) ?_
    obtain ⟨jv1, qv2, h⟩ := bd1_some h
    obtain ⟨ejv1, ljv1⟩ := ix_spec qv2
    refine alM X (by assumption) jv1 ejv1 ljv1 dX8_policies_7 ?_
    refine v_icmp_ge X 35 dX8_policies_8 (by decide) (fun cv3 => ?_) (fun cv3 => ?_)
    · replace h := (if_pos cv3).symm.trans h
      cases h
      exact k
    · replace h := (if_neg cv3).symm.trans h
      refine v_iloadn X dX8_policies_11 rfl rfl ?_
      refine v_aloadn X dX8_policies_12 rfl rfl ?_
      refine v_iloadn X dX8_policies_13 rfl rfl ?_
      obtain ⟨rv6, gv5, qv4, h⟩ := bd2_some h
      refine v_callSI (As := [.ref (ad (9, 11, w0_1)), .int y2]) (rest := [.int y1]) X (c_X8_isPolicy l D ad cy X.2.2.2.2.2.2.2.2.1 N w0_1 y2 g rv6 gv5 (by assumption) qv4) mw_X8_isPolicy ml_X8_192 (by decide) rfl rfl (Nat.le_of_ble_eq_true rfl) dX8_policies_14 ?_
      refine v_if_eq X 26 dX8_policies_17 (by decide) (fun cv7 => ?_) (fun cv7 => ?_)
      · replace h := (if_pos cv7).symm.trans h
        refine v_iconst (v := 0) X dX8_policies_26 (by decide) ?_
        refine v_ior X dX8_policies_27 ?_
        refine v_istoren (lc' := [some (.ref (ad (9, 11, w0_1))), some (.int (y1 ||| (0 : Int32))), some (.int y2)]) X dX8_policies_28 rfl (by decide) rfl rfl ?_
        refine v_iinc (v := (y2 + 1)) (lc' := [some (.ref (ad (9, 11, w0_1))), some (.int (y1 ||| (0 : Int32))), some (.int (y2 + 1))]) X dX8_policies_29 rfl rfl (by decide) rfl rfl ?_
        refine v_goto X 4 dX8_policies_32 (by decide) ?_
        exact ih (y1 ||| (0 : Int32)) (y2 + 1) gv5 _ _ _ h k
      · replace h := (if_neg cv7).symm.trans h
        refine v_iconst (v := 1) X dX8_policies_20 (by decide) ?_
        refine v_iloadn X dX8_policies_21 rfl rfl ?_
        refine v_ishl X dX8_policies_22 ?_
        refine v_goto X 27 dX8_policies_23 (by decide) ?_
        refine v_ior X dX8_policies_27 ?_
        refine v_istoren (lc' := [some (.ref (ad (9, 11, w0_1))), some (.int (y1 ||| ((1 : Int32) <<< (y2 &&& 31)))), some (.int y2)]) X dX8_policies_28 rfl (by decide) rfl rfl ?_
        refine v_iinc (v := (y2 + 1)) (lc' := [some (.ref (ad (9, 11, w0_1))), some (.int (y1 ||| ((1 : Int32) <<< (y2 &&& 31)))), some (.int (y2 + 1))]) X dX8_policies_29 rfl rfl (by decide) rfl rfl ?_
        refine v_goto X 4 dX8_policies_32 (by decide) ?_
        exact ih (y1 ||| ((1 : Int32) <<< (y2 &&& 31))) (y2 + 1) gv5 _ _ _ h k
set_option maxRecDepth 100000 in
set_option maxHeartbeats 4000000 in
theorem c_X8_policies (l : Launch) (D : va_G) (ad : Ky → Nat) (cy : Nat → ClassId) (hI : Inj ad) (N : Nat) (b0 : Nat) (g : GS) (r : Int32) (gq : GS) (kb0 : ((9, 11, b0) : Ky) ∈ keys) (h : F_X8_policies N b0 g = some (r, gq)) : CtI l D ad cy yX8_policies cX8_policies 3 (some .int) 3 [.ref (ad (9, 11, b0))] g r gq := by
  refine CtI.of 2 hI (by decide +kernel) rfl (Nat.le_of_ble_eq_true rfl) (fun p e s m args below meth c X => ?_)
  unfold F_X8_policies at h
  show Vy _ _ _ _ _ _ _ _ _ _ _ _ _ _ _ 0 [some (.ref (ad (9, 11, b0))), none, none] [] g
  refine v_iconst (v := 0) X dX8_policies_0 (by decide) ?_
  refine v_istoren (lc' := [some (.ref (ad (9, 11, b0))), some (.int (0 : Int32)), none]) X dX8_policies_1 rfl (by decide) rfl rfl ?_
  refine v_iconst (v := 0) X dX8_policies_2 (by decide) ?_
  refine v_istoren (lc' := [some (.ref (ad (9, 11, b0))), some (.int (0 : Int32)), some (.int (0 : Int32))]) X dX8_policies_3 rfl (by decide) rfl rfl ?_
  obtain ⟨xv8, xv9, gv10, qv11, h⟩ := bd3_some h
  refine w_X8_policies_4 X b0 (by assumption) N (0 : Int32) (0 : Int32) g xv8 xv9 gv10 qv11 ?_
  refine v_iloadn X dX8_policies_35 rfl rfl ?_
  obtain ⟨er, eg⟩ := Prod.mk.inj (Option.some.inj h)
  exact v_iret X dX8_policies_36 er eg
def L_X8_drawn_63 (N : Nat) (z1 : Int32) (z2 : Int32) (z3 : Int32) : Nat → Int64 → Int32 → GS → Option (Int64 × Int32 × GS)
  | 0, _, _, _ => none
  | n + 1, y4, y6, g => if z1 ≤ y6 then some (y4, y6, g) else bd1 (ix (0 : Int32) 53) (fun jv20 => if ((g 11 7 jv20).toInt64) = 0 then none else bd2 (F_X8_of N 7 ((((y4 * (16807 : Int64)) - (y4 * (16807 : Int64)) / (2147483647 : Int64) * (2147483647 : Int64)) - ((y4 * (16807 : Int64)) - (y4 * (16807 : Int64)) / (2147483647 : Int64) * (2147483647 : Int64)) / ((g 11 7 jv20).toInt64) * ((g 11 7 jv20).toInt64)).toInt32) (3 : Int32) g) (fun rv25 gv24 => if rv25 = 0 then bd1 (F_X8_goesUp N 7 ((((y4 * (16807 : Int64)) - (y4 * (16807 : Int64)) / (2147483647 : Int64) * (2147483647 : Int64)) - ((y4 * (16807 : Int64)) - (y4 * (16807 : Int64)) / (2147483647 : Int64) * (2147483647 : Int64)) / ((g 11 7 jv20).toInt64) * ((g 11 7 jv20).toInt64)).toInt32) (((((y4 * (16807 : Int64)) - (y4 * (16807 : Int64)) / (2147483647 : Int64) * (2147483647 : Int64)) - ((y4 * (16807 : Int64)) - (y4 * (16807 : Int64)) / (2147483647 : Int64) * (2147483647 : Int64)) / (40 : Int64) * (40 : Int64)).toInt32) + (1 : Int32)) gv24) (fun gv49 => bd1 (F_X8_hourBy N 7 ((((y4 * (16807 : Int64)) - (y4 * (16807 : Int64)) / (2147483647 : Int64) * (2147483647 : Int64)) - ((y4 * (16807 : Int64)) - (y4 * (16807 : Int64)) / (2147483647 : Int64) * (2147483647 : Int64)) / (10 : Int64) * (10 : Int64)).toInt32) gv49) (fun gv51 => L_X8_drawn_63 N z1 z2 z3 n ((y4 * (16807 : Int64)) - (y4 * (16807 : Int64)) / (2147483647 : Int64) * (2147483647 : Int64)) (y6 + 1) gv51)) else bd2 (F_X8_isUp N 7 ((((y4 * (16807 : Int64)) - (y4 * (16807 : Int64)) / (2147483647 : Int64) * (2147483647 : Int64)) - ((y4 * (16807 : Int64)) - (y4 * (16807 : Int64)) / (2147483647 : Int64) * (2147483647 : Int64)) / ((g 11 7 jv20).toInt64) * ((g 11 7 jv20).toInt64)).toInt32) gv24) (fun rv29 gv28 => if rv29 = 0 then bd1 (F_X8_hourBy N 7 ((((y4 * (16807 : Int64)) - (y4 * (16807 : Int64)) / (2147483647 : Int64) * (2147483647 : Int64)) - ((y4 * (16807 : Int64)) - (y4 * (16807 : Int64)) / (2147483647 : Int64) * (2147483647 : Int64)) / (10 : Int64) * (10 : Int64)).toInt32) gv28) (fun gv32 => L_X8_drawn_63 N z1 z2 z3 n ((y4 * (16807 : Int64)) - (y4 * (16807 : Int64)) / (2147483647 : Int64) * (2147483647 : Int64)) (y6 + 1) gv32) else if (lg_cmp (((y4 * (16807 : Int64)) - (y4 * (16807 : Int64)) / (2147483647 : Int64) * (2147483647 : Int64)) - ((y4 * (16807 : Int64)) - (y4 * (16807 : Int64)) / (2147483647 : Int64) * (2147483647 : Int64)) / (2 : Int64) * (2 : Int64)) (0 : Int64)) = 0 then bd2 (F_X8_of N 7 ((((y4 * (16807 : Int64)) - (y4 * (16807 : Int64)) / (2147483647 : Int64) * (2147483647 : Int64)) - ((y4 * (16807 : Int64)) - (y4 * (16807 : Int64)) / (2147483647 : Int64) * (2147483647 : Int64)) / ((g 11 7 jv20).toInt64) * ((g 11 7 jv20).toInt64)).toInt32) (5 : Int32) gv28) (fun rv38 gv37 => if (rv38 + (5 : Int32)) ≤ (40 : Int32) then bd1 (F_X8_letsOut N 7 ((((y4 * (16807 : Int64)) - (y4 * (16807 : Int64)) / (2147483647 : Int64) * (2147483647 : Int64)) - ((y4 * (16807 : Int64)) - (y4 * (16807 : Int64)) / (2147483647 : Int64) * (2147483647 : Int64)) / ((g 11 7 jv20).toInt64) * ((g 11 7 jv20).toInt64)).toInt32) (rv38 + (5 : Int32)) gv37) (fun gv41 => bd1 (F_X8_hourBy N 7 ((((y4 * (16807 : Int64)) - (y4 * (16807 : Int64)) / (2147483647 : Int64) * (2147483647 : Int64)) - ((y4 * (16807 : Int64)) - (y4 * (16807 : Int64)) / (2147483647 : Int64) * (2147483647 : Int64)) / (10 : Int64) * (10 : Int64)).toInt32) gv41) (fun gv43 => L_X8_drawn_63 N z1 z2 z3 n ((y4 * (16807 : Int64)) - (y4 * (16807 : Int64)) / (2147483647 : Int64) * (2147483647 : Int64)) (y6 + 1) gv43)) else bd1 (F_X8_letsOut N 7 ((((y4 * (16807 : Int64)) - (y4 * (16807 : Int64)) / (2147483647 : Int64) * (2147483647 : Int64)) - ((y4 * (16807 : Int64)) - (y4 * (16807 : Int64)) / (2147483647 : Int64) * (2147483647 : Int64)) / ((g 11 7 jv20).toInt64) * ((g 11 7 jv20).toInt64)).toInt32) (40 : Int32) gv37) (fun gv45 => bd1 (F_X8_hourBy N 7 ((((y4 * (16807 : Int64)) - (y4 * (16807 : Int64)) / (2147483647 : Int64) * (2147483647 : Int64)) - ((y4 * (16807 : Int64)) - (y4 * (16807 : Int64)) / (2147483647 : Int64) * (2147483647 : Int64)) / (10 : Int64) * (10 : Int64)).toInt32) gv45) (fun gv47 => L_X8_drawn_63 N z1 z2 z3 n ((y4 * (16807 : Int64)) - (y4 * (16807 : Int64)) / (2147483647 : Int64) * (2147483647 : Int64)) (y6 + 1) gv47))) else bd1 (F_X8_hourBy N 7 ((((y4 * (16807 : Int64)) - (y4 * (16807 : Int64)) / (2147483647 : Int64) * (2147483647 : Int64)) - ((y4 * (16807 : Int64)) - (y4 * (16807 : Int64)) / (2147483647 : Int64) * (2147483647 : Int64)) / (10 : Int64) * (10 : Int64)).toInt32) gv28) (fun gv35 => L_X8_drawn_63 N z1 z2 z3 n ((y4 * (16807 : Int64)) - (y4 * (16807 : Int64)) / (2147483647 : Int64) * (2147483647 : Int64)) (y6 + 1) gv35))))
def F_X8_drawn (N : Nat) (x1 : Int32) (x2 : Int32) (x3 : Int32) (g : GS) : Option (Int32 × GS) := bd2 (F_X8_isThere N  (g3 g 10 0 0 (0 : Int32))) (fun rv3 gv2 => if rv3 = 0 then some ((-1000002 : Int32), gv2) else bd2 (F_X8_in N (x1.toInt64) (0 : Int64) (60 : Int64) gv2) (fun rv7 gv6 => if rv7 = 0 then some ((-1000001 : Int32), gv6) else bd2 (F_X8_in N (x2.toInt64) (1 : Int64) (999999 : Int64) gv6) (fun rv11 gv10 => if rv11 = 0 then some ((-1000001 : Int32), gv10) else bd2 (F_X8_in N (x3.toInt64) (0 : Int64) (1 : Int64) gv10) (fun rv15 gv14 => if rv15 = 0 then some ((-1000001 : Int32), gv14) else bd1 (F_X8_layThen N  gv14) (fun gv18 => bd3 (L_X8_drawn_63 N x1 x2 x3 N (x2.toInt64) (0 : Int32) gv18) (fun xv52 xv53 gv54 => if x3 = 0 then bd2 (F_X8_policies N 7 gv54) (fun rv65 gv64 => bd2 (F_X8_bits N rv65 gv64) (fun rv68 gv67 => some (rv68, gv67))) else bd2 (F_X8_those N 7 (2 : Int32) gv54) (fun rv59 gv58 => bd2 (F_X8_bits N rv59 gv58) (fun rv62 gv61 => some (rv62, gv61)))))))))
set_option maxRecDepth 100000 in
set_option maxHeartbeats 4000000 in
theorem w_X8_drawn_63 {p : Program} {l : Launch} {e : Env} {s : State} {m : MethodId} {args : Array Value} {below : List Frame} {meth : Method} {c : Code} {D : va_G} {ad : Ky → Nat} {cy : Nat → ClassId} {r : Int32} {gq : GS} {N : Nat} (X : Cx p (rmd 5) s m args meth c RX8 cX8_drawn 9 (some .int) D ad cy) (z1 : Int32) (z2 : Int32) (z3 : Int32) : ∀ (n : Nat) (y4 : Int64) (y6 : Int32) (g : GS) (y4' : Int64) (y6' : Int32) (g' : GS), L_X8_drawn_63 N z1 z2 z3 n y4 y6 g = some (y4', y6', g') → Vy p l e (rmd 5) s m args below meth c 9 D ad cy (QI D ad cy below args s r gq) 209 [some (.ref (ad (8, 0, 0))), some (.int z1), some (.int z2), some (.int z3), some (.long y4'), none, some (.int y6'), none, none] [] g' → Vy p l e (rmd 5) s m args below meth c 9 D ad cy (QI D ad cy below args s r gq) 63 [some (.ref (ad (8, 0, 0))), some (.int z1), some (.int z2), some (.int z3), some (.long y4), none, some (.int y6), none, none] [] g := by
  intro n
  induction n with
  | zero => intro y4 y6 g y4' y6' g' h k; cases h
  | succ n ih =>
    intro y4 y6 g y4' y6' g' h k
    rw [L_X8_drawn_63] at h
    refine v_iload X dX8_drawn_63 rfl ?_
    refine v_iloadn X dX8_drawn_65 rfl rfl ?_
    refine v_icmp_ge X 209 dX8_drawn_66 (by decide) (fun cv19 => ?_) (fun cv19 => ?_)
    · replace h := (if_pos cv19).symm.trans h
      cases h
      exact k
    · replace h := (if_neg cv19).symm.trans h
      refine v_lload X dX8_drawn_69 rfl ?_
      refine v_ldc2 X kl_X8_270 dX8_drawn_71 ?_
      refine v_lmul X dX8_drawn_74 ?_
      refine v_ldc2 X kl_X8_272 dX8_drawn_75 ?_
      refine v_lrem X dX8_drawn_78 (by decide) ?_
      refine v_lstore (lc' := [some (.ref (ad (8, 0, 0))), some (.int z1), some (.int z2), some (.int z3), some (.long ((y4 * (16807 : Int64)) - (y4 * (16807 : Int64)) / (2147483647 : Int64) * (2147483647 : Int64))), none, some (.int y6), none, none]) X dX8_drawn_79 (by decide) rfl rfl ?_
      refine v_lload X dX8_drawn_81 rfl ?_
      refine v_aloadn X dX8_drawn_83 rfl rfl ?_
      refine gf_X8_25 X dX8_drawn_84 ?_
      refine v_iconst (v := 0) X dX8_drawn_87 (by decide) ?_
      obtain ⟨jv20, qv21, h⟩ := bd1_some h
      obtain ⟨ejv20, ljv20⟩ := ix_spec qv21
      refine alM X (by decide +kernel) jv20 ejv20 ljv20 dX8_drawn_88 ?_
      refine v_i2l X dX8_drawn_89 ?_
      by_cases cv22 : ((g 11 7 jv20).toInt64) = 0
      · replace h := (if_pos cv22).symm.trans h
        cases h
      replace h := (if_neg cv22).symm.trans h
      refine v_lrem X dX8_drawn_90 cv22 ?_
      refine v_l2i X dX8_drawn_91 ?_
      refine v_istore (lc' := [some (.ref (ad (8, 0, 0))), some (.int z1), some (.int z2), some (.int z3), some (.long ((y4 * (16807 : Int64)) - (y4 * (16807 : Int64)) / (2147483647 : Int64) * (2147483647 : Int64))), none, some (.int y6), some (.int ((((y4 * (16807 : Int64)) - (y4 * (16807 : Int64)) / (2147483647 : Int64) * (2147483647 : Int64)) - ((y4 * (16807 : Int64)) - (y4 * (16807 : Int64)) / (2147483647 : Int64) * (2147483647 : Int64)) / ((g 11 7 jv20).toInt64) * ((g 11 7 jv20).toInt64)).toInt32)), none]) X dX8_drawn_92 (by decide) rfl rfl ?_
      refine v_aloadn X dX8_drawn_94 rfl rfl ?_
      refine gf_X8_25 X dX8_drawn_95 ?_
      refine v_iload X dX8_drawn_98 rfl ?_
      refine v_iconst (v := 3) X dX8_drawn_100 (by decide) ?_
      obtain ⟨rv25, gv24, qv23, h⟩ := bd2_some h
      refine v_callSI (As := [.ref (ad (9, 11, 7)), .int ((((y4 * (16807 : Int64)) - (y4 * (16807 : Int64)) / (2147483647 : Int64) * (2147483647 : Int64)) - ((y4 * (16807 : Int64)) - (y4 * (16807 : Int64)) / (2147483647 : Int64) * (2147483647 : Int64)) / ((g 11 7 jv20).toInt64) * ((g 11 7 jv20).toInt64)).toInt32), .int (3 : Int32)]) (rest := []) X (c_X8_of l D ad cy X.2.2.2.2.2.2.2.2.1 N 7 ((((y4 * (16807 : Int64)) - (y4 * (16807 : Int64)) / (2147483647 : Int64) * (2147483647 : Int64)) - ((y4 * (16807 : Int64)) - (y4 * (16807 : Int64)) / (2147483647 : Int64) * (2147483647 : Int64)) / ((g 11 7 jv20).toInt64) * ((g 11 7 jv20).toInt64)).toInt32) (3 : Int32) g rv25 gv24 (by decide +kernel) qv23) mw_X8_of ml_X8_155 (by decide) rfl rfl (Nat.le_of_ble_eq_true rfl) dX8_drawn_101 ?_
      refine v_if_ne X 128 dX8_drawn_104 (by decide) (fun cv26 => ?_) (fun cv26 => ?_)
      · replace h := (if_neg cv26).symm.trans h
        refine v_aloadn X dX8_drawn_128 rfl rfl ?_
        refine gf_X8_25 X dX8_drawn_129 ?_
        refine v_iload X dX8_drawn_132 rfl ?_
        obtain ⟨rv29, gv28, qv27, h⟩ := bd2_some h
        refine v_callSI (As := [.ref (ad (9, 11, 7)), .int ((((y4 * (16807 : Int64)) - (y4 * (16807 : Int64)) / (2147483647 : Int64) * (2147483647 : Int64)) - ((y4 * (16807 : Int64)) - (y4 * (16807 : Int64)) / (2147483647 : Int64) * (2147483647 : Int64)) / ((g 11 7 jv20).toInt64) * ((g 11 7 jv20).toInt64)).toInt32)]) (rest := []) X (c_X8_isUp l D ad cy X.2.2.2.2.2.2.2.2.1 N 7 ((((y4 * (16807 : Int64)) - (y4 * (16807 : Int64)) / (2147483647 : Int64) * (2147483647 : Int64)) - ((y4 * (16807 : Int64)) - (y4 * (16807 : Int64)) / (2147483647 : Int64) * (2147483647 : Int64)) / ((g 11 7 jv20).toInt64) * ((g 11 7 jv20).toInt64)).toInt32) gv24 rv29 gv28 (by decide +kernel) qv27) mw_X8_isUp ml_X8_159 (by decide) rfl rfl (Nat.le_of_ble_eq_true rfl) dX8_drawn_134 ?_
        refine v_if_eq X 188 dX8_drawn_137 (by decide) (fun cv30 => ?_) (fun cv30 => ?_)
        · replace h := (if_pos cv30).symm.trans h
          refine v_aloadn X dX8_drawn_188 rfl rfl ?_
          refine v_aloadn X dX8_drawn_189 rfl rfl ?_
          refine gf_X8_25 X dX8_drawn_190 ?_
          refine v_lload X dX8_drawn_193 rfl ?_
          refine v_ldc2 X kl_X8_264 dX8_drawn_195 ?_
          refine v_lrem X dX8_drawn_198 (by decide) ?_
          refine v_l2i X dX8_drawn_199 ?_
          obtain ⟨gv32, qv31, h⟩ := bd1_some h
          refine v_callVV (As := [.ref (ad (9, 11, 7)), .int ((((y4 * (16807 : Int64)) - (y4 * (16807 : Int64)) / (2147483647 : Int64) * (2147483647 : Int64)) - ((y4 * (16807 : Int64)) - (y4 * (16807 : Int64)) / (2147483647 : Int64) * (2147483647 : Int64)) / (10 : Int64) * (10 : Int64)).toInt32)]) (rest := []) X (c_X8_hourBy l D ad cy X.2.2.2.2.2.2.2.2.1 N 7 ((((y4 * (16807 : Int64)) - (y4 * (16807 : Int64)) / (2147483647 : Int64) * (2147483647 : Int64)) - ((y4 * (16807 : Int64)) - (y4 * (16807 : Int64)) / (2147483647 : Int64) * (2147483647 : Int64)) / (10 : Int64) * (10 : Int64)).toInt32) gv28 gv32 (by decide +kernel) qv31) mw_X8_hourBy ml_X8_184 (by decide) (by decide +kernel) (by decide) rfl rfl rfl rfl (Nat.le_of_ble_eq_true rfl) dX8_drawn_200 ?_
          refine v_iinc (v := (y6 + 1)) (lc' := [some (.ref (ad (8, 0, 0))), some (.int z1), some (.int z2), some (.int z3), some (.long ((y4 * (16807 : Int64)) - (y4 * (16807 : Int64)) / (2147483647 : Int64) * (2147483647 : Int64))), none, some (.int (y6 + 1)), some (.int ((((y4 * (16807 : Int64)) - (y4 * (16807 : Int64)) / (2147483647 : Int64) * (2147483647 : Int64)) - ((y4 * (16807 : Int64)) - (y4 * (16807 : Int64)) / (2147483647 : Int64) * (2147483647 : Int64)) / ((g 11 7 jv20).toInt64) * ((g 11 7 jv20).toInt64)).toInt32)), none]) X dX8_drawn_203 rfl rfl (by decide) rfl rfl ?_
          refine v_goto X 63 dX8_drawn_206 (by decide) ?_
          refine v_weak (lc2 := [some (.ref (ad (8, 0, 0))), some (.int z1), some (.int z2), some (.int z3), some (.long ((y4 * (16807 : Int64)) - (y4 * (16807 : Int64)) / (2147483647 : Int64) * (2147483647 : Int64))), none, some (.int (y6 + 1)), none, none]) ⟨rfl, rfl, rfl, rfl, rfl, rfl, trivial⟩ ?_
          exact ih ((y4 * (16807 : Int64)) - (y4 * (16807 : Int64)) / (2147483647 : Int64) * (2147483647 : Int64)) (y6 + 1) gv32 _ _ _ h k
        · replace h := (if_neg cv30).symm.trans h
          refine v_lload X dX8_drawn_140 rfl ?_
          refine v_ldc2 X kl_X8_68 dX8_drawn_142 ?_
          refine v_lrem X dX8_drawn_145 (by decide) ?_
          refine v_lconst (v := 0) X dX8_drawn_146 (by decide) ?_
          refine v_lcmp X dX8_drawn_147 ?_
          refine v_if_ne X 188 dX8_drawn_148 (by decide) (fun cv33 => ?_) (fun cv33 => ?_)
          · replace h := (if_neg cv33).symm.trans h
            refine v_aloadn X dX8_drawn_188 rfl rfl ?_
            refine v_aloadn X dX8_drawn_189 rfl rfl ?_
            refine gf_X8_25 X dX8_drawn_190 ?_
            refine v_lload X dX8_drawn_193 rfl ?_
            refine v_ldc2 X kl_X8_264 dX8_drawn_195 ?_
            refine v_lrem X dX8_drawn_198 (by decide) ?_
            refine v_l2i X dX8_drawn_199 ?_
            obtain ⟨gv35, qv34, h⟩ := bd1_some h
            refine v_callVV (As := [.ref (ad (9, 11, 7)), .int ((((y4 * (16807 : Int64)) - (y4 * (16807 : Int64)) / (2147483647 : Int64) * (2147483647 : Int64)) - ((y4 * (16807 : Int64)) - (y4 * (16807 : Int64)) / (2147483647 : Int64) * (2147483647 : Int64)) / (10 : Int64) * (10 : Int64)).toInt32)]) (rest := []) X (c_X8_hourBy l D ad cy X.2.2.2.2.2.2.2.2.1 N 7 ((((y4 * (16807 : Int64)) - (y4 * (16807 : Int64)) / (2147483647 : Int64) * (2147483647 : Int64)) - ((y4 * (16807 : Int64)) - (y4 * (16807 : Int64)) / (2147483647 : Int64) * (2147483647 : Int64)) / (10 : Int64) * (10 : Int64)).toInt32) gv28 gv35 (by decide +kernel) qv34) mw_X8_hourBy ml_X8_184 (by decide) (by decide +kernel) (by decide) rfl rfl rfl rfl (Nat.le_of_ble_eq_true rfl) dX8_drawn_200 ?_
            refine v_iinc (v := (y6 + 1)) (lc' := [some (.ref (ad (8, 0, 0))), some (.int z1), some (.int z2), some (.int z3), some (.long ((y4 * (16807 : Int64)) - (y4 * (16807 : Int64)) / (2147483647 : Int64) * (2147483647 : Int64))), none, some (.int (y6 + 1)), some (.int ((((y4 * (16807 : Int64)) - (y4 * (16807 : Int64)) / (2147483647 : Int64) * (2147483647 : Int64)) - ((y4 * (16807 : Int64)) - (y4 * (16807 : Int64)) / (2147483647 : Int64) * (2147483647 : Int64)) / ((g 11 7 jv20).toInt64) * ((g 11 7 jv20).toInt64)).toInt32)), none]) X dX8_drawn_203 rfl rfl (by decide) rfl rfl ?_
            refine v_goto X 63 dX8_drawn_206 (by decide) ?_
            refine v_weak (lc2 := [some (.ref (ad (8, 0, 0))), some (.int z1), some (.int z2), some (.int z3), some (.long ((y4 * (16807 : Int64)) - (y4 * (16807 : Int64)) / (2147483647 : Int64) * (2147483647 : Int64))), none, some (.int (y6 + 1)), none, none]) ⟨rfl, rfl, rfl, rfl, rfl, rfl, trivial⟩ ?_
            exact ih ((y4 * (16807 : Int64)) - (y4 * (16807 : Int64)) / (2147483647 : Int64) * (2147483647 : Int64)) (y6 + 1) gv35 _ _ _ h k
          · replace h := (if_pos cv33).symm.trans h
            refine v_aloadn X dX8_drawn_151 rfl rfl ?_
            refine gf_X8_25 X dX8_drawn_152 ?_
            refine v_iload X dX8_drawn_155 rfl ?_
            refine v_iconst (v := 5) X dX8_drawn_157 (by decide) ?_
            obtain ⟨rv38, gv37, qv36, h⟩ := bd2_some h
            refine v_callSI (As := [.ref (ad (9, 11, 7)), .int ((((y4 * (16807 : Int64)) - (y4 * (16807 : Int64)) / (2147483647 : Int64) * (2147483647 : Int64)) - ((y4 * (16807 : Int64)) - (y4 * (16807 : Int64)) / (2147483647 : Int64) * (2147483647 : Int64)) / ((g 11 7 jv20).toInt64) * ((g 11 7 jv20).toInt64)).toInt32), .int (5 : Int32)]) (rest := []) X (c_X8_of l D ad cy X.2.2.2.2.2.2.2.2.1 N 7 ((((y4 * (16807 : Int64)) - (y4 * (16807 : Int64)) / (2147483647 : Int64) * (2147483647 : Int64)) - ((y4 * (16807 : Int64)) - (y4 * (16807 : Int64)) / (2147483647 : Int64) * (2147483647 : Int64)) / ((g 11 7 jv20).toInt64) * ((g 11 7 jv20).toInt64)).toInt32) (5 : Int32) gv28 rv38 gv37 (by decide +kernel) qv36) mw_X8_of ml_X8_155 (by decide) rfl rfl (Nat.le_of_ble_eq_true rfl) dX8_drawn_158 ?_
            refine v_iconst (v := 5) X dX8_drawn_161 (by decide) ?_
            refine v_iadd X dX8_drawn_162 ?_
            refine v_istore (lc' := [some (.ref (ad (8, 0, 0))), some (.int z1), some (.int z2), some (.int z3), some (.long ((y4 * (16807 : Int64)) - (y4 * (16807 : Int64)) / (2147483647 : Int64) * (2147483647 : Int64))), none, some (.int y6), some (.int ((((y4 * (16807 : Int64)) - (y4 * (16807 : Int64)) / (2147483647 : Int64) * (2147483647 : Int64)) - ((y4 * (16807 : Int64)) - (y4 * (16807 : Int64)) / (2147483647 : Int64) * (2147483647 : Int64)) / ((g 11 7 jv20).toInt64) * ((g 11 7 jv20).toInt64)).toInt32)), some (.int (rv38 + (5 : Int32)))]) X dX8_drawn_163 (by decide) rfl rfl ?_
            refine v_aloadn X dX8_drawn_165 rfl rfl ?_
            refine gf_X8_25 X dX8_drawn_166 ?_
            refine v_iload X dX8_drawn_169 rfl ?_
            refine v_iload X dX8_drawn_171 rfl ?_
            refine v_bipush (v := 40) X dX8_drawn_173 (by decide) ?_
            refine v_icmp_le X 183 dX8_drawn_175 (by decide) (fun cv39 => ?_) (fun cv39 => ?_)
            · replace h := (if_pos cv39).symm.trans h
              refine v_iload X dX8_drawn_183 rfl ?_
              obtain ⟨gv41, qv40, h⟩ := bd1_some h
              refine v_callSV (As := [.ref (ad (9, 11, 7)), .int ((((y4 * (16807 : Int64)) - (y4 * (16807 : Int64)) / (2147483647 : Int64) * (2147483647 : Int64)) - ((y4 * (16807 : Int64)) - (y4 * (16807 : Int64)) / (2147483647 : Int64) * (2147483647 : Int64)) / ((g 11 7 jv20).toInt64) * ((g 11 7 jv20).toInt64)).toInt32), .int (rv38 + (5 : Int32))]) (rest := []) X (c_X8_letsOut l D ad cy X.2.2.2.2.2.2.2.2.1 N 7 ((((y4 * (16807 : Int64)) - (y4 * (16807 : Int64)) / (2147483647 : Int64) * (2147483647 : Int64)) - ((y4 * (16807 : Int64)) - (y4 * (16807 : Int64)) / (2147483647 : Int64) * (2147483647 : Int64)) / ((g 11 7 jv20).toInt64) * ((g 11 7 jv20).toInt64)).toInt32) (rv38 + (5 : Int32)) gv37 gv41 (by decide +kernel) qv40) mw_X8_letsOut ml_X8_222 (by decide) rfl rfl (Nat.le_of_ble_eq_true rfl) dX8_drawn_185 ?_
              refine v_aloadn X dX8_drawn_188 rfl rfl ?_
              refine v_aloadn X dX8_drawn_189 rfl rfl ?_
              refine gf_X8_25 X dX8_drawn_190 ?_
              refine v_lload X dX8_drawn_193 rfl ?_
              refine v_ldc2 X kl_X8_264 dX8_drawn_195 ?_
              refine v_lrem X dX8_drawn_198 (by decide) ?_
              refine v_l2i X dX8_drawn_199 ?_
              obtain ⟨gv43, qv42, h⟩ := bd1_some h
              refine v_callVV (As := [.ref (ad (9, 11, 7)), .int ((((y4 * (16807 : Int64)) - (y4 * (16807 : Int64)) / (2147483647 : Int64) * (2147483647 : Int64)) - ((y4 * (16807 : Int64)) - (y4 * (16807 : Int64)) / (2147483647 : Int64) * (2147483647 : Int64)) / (10 : Int64) * (10 : Int64)).toInt32)]) (rest := []) X (c_X8_hourBy l D ad cy X.2.2.2.2.2.2.2.2.1 N 7 ((((y4 * (16807 : Int64)) - (y4 * (16807 : Int64)) / (2147483647 : Int64) * (2147483647 : Int64)) - ((y4 * (16807 : Int64)) - (y4 * (16807 : Int64)) / (2147483647 : Int64) * (2147483647 : Int64)) / (10 : Int64) * (10 : Int64)).toInt32) gv41 gv43 (by decide +kernel) qv42) mw_X8_hourBy ml_X8_184 (by decide) (by decide +kernel) (by decide) rfl rfl rfl rfl (Nat.le_of_ble_eq_true rfl) dX8_drawn_200 ?_
              refine v_iinc (v := (y6 + 1)) (lc' := [some (.ref (ad (8, 0, 0))), some (.int z1), some (.int z2), some (.int z3), some (.long ((y4 * (16807 : Int64)) - (y4 * (16807 : Int64)) / (2147483647 : Int64) * (2147483647 : Int64))), none, some (.int (y6 + 1)), some (.int ((((y4 * (16807 : Int64)) - (y4 * (16807 : Int64)) / (2147483647 : Int64) * (2147483647 : Int64)) - ((y4 * (16807 : Int64)) - (y4 * (16807 : Int64)) / (2147483647 : Int64) * (2147483647 : Int64)) / ((g 11 7 jv20).toInt64) * ((g 11 7 jv20).toInt64)).toInt32)), some (.int (rv38 + (5 : Int32)))]) X dX8_drawn_203 rfl rfl (by decide) rfl rfl ?_
              refine v_goto X 63 dX8_drawn_206 (by decide) ?_
              refine v_weak (lc2 := [some (.ref (ad (8, 0, 0))), some (.int z1), some (.int z2), some (.int z3), some (.long ((y4 * (16807 : Int64)) - (y4 * (16807 : Int64)) / (2147483647 : Int64) * (2147483647 : Int64))), none, some (.int (y6 + 1)), none, none]) ⟨rfl, rfl, rfl, rfl, rfl, rfl, trivial⟩ ?_
              exact ih ((y4 * (16807 : Int64)) - (y4 * (16807 : Int64)) / (2147483647 : Int64) * (2147483647 : Int64)) (y6 + 1) gv43 _ _ _ h k
            · replace h := (if_neg cv39).symm.trans h
              refine v_bipush (v := 40) X dX8_drawn_178 (by decide) ?_
              refine v_goto X 185 dX8_drawn_180 (by decide) ?_
              obtain ⟨gv45, qv44, h⟩ := bd1_some h
              refine v_callSV (As := [.ref (ad (9, 11, 7)), .int ((((y4 * (16807 : Int64)) - (y4 * (16807 : Int64)) / (2147483647 : Int64) * (2147483647 : Int64)) - ((y4 * (16807 : Int64)) - (y4 * (16807 : Int64)) / (2147483647 : Int64) * (2147483647 : Int64)) / ((g 11 7 jv20).toInt64) * ((g 11 7 jv20).toInt64)).toInt32), .int (40 : Int32)]) (rest := []) X (c_X8_letsOut l D ad cy X.2.2.2.2.2.2.2.2.1 N 7 ((((y4 * (16807 : Int64)) - (y4 * (16807 : Int64)) / (2147483647 : Int64) * (2147483647 : Int64)) - ((y4 * (16807 : Int64)) - (y4 * (16807 : Int64)) / (2147483647 : Int64) * (2147483647 : Int64)) / ((g 11 7 jv20).toInt64) * ((g 11 7 jv20).toInt64)).toInt32) (40 : Int32) gv37 gv45 (by decide +kernel) qv44) mw_X8_letsOut ml_X8_222 (by decide) rfl rfl (Nat.le_of_ble_eq_true rfl) dX8_drawn_185 ?_
              refine v_aloadn X dX8_drawn_188 rfl rfl ?_
              refine v_aloadn X dX8_drawn_189 rfl rfl ?_
              refine gf_X8_25 X dX8_drawn_190 ?_
              refine v_lload X dX8_drawn_193 rfl ?_
              refine v_ldc2 X kl_X8_264 dX8_drawn_195 ?_
              refine v_lrem X dX8_drawn_198 (by decide) ?_
              refine v_l2i X dX8_drawn_199 ?_
              obtain ⟨gv47, qv46, h⟩ := bd1_some h
              refine v_callVV (As := [.ref (ad (9, 11, 7)), .int ((((y4 * (16807 : Int64)) - (y4 * (16807 : Int64)) / (2147483647 : Int64) * (2147483647 : Int64)) - ((y4 * (16807 : Int64)) - (y4 * (16807 : Int64)) / (2147483647 : Int64) * (2147483647 : Int64)) / (10 : Int64) * (10 : Int64)).toInt32)]) (rest := []) X (c_X8_hourBy l D ad cy X.2.2.2.2.2.2.2.2.1 N 7 ((((y4 * (16807 : Int64)) - (y4 * (16807 : Int64)) / (2147483647 : Int64) * (2147483647 : Int64)) - ((y4 * (16807 : Int64)) - (y4 * (16807 : Int64)) / (2147483647 : Int64) * (2147483647 : Int64)) / (10 : Int64) * (10 : Int64)).toInt32) gv45 gv47 (by decide +kernel) qv46) mw_X8_hourBy ml_X8_184 (by decide) (by decide +kernel) (by decide) rfl rfl rfl rfl (Nat.le_of_ble_eq_true rfl) dX8_drawn_200 ?_
              refine v_iinc (v := (y6 + 1)) (lc' := [some (.ref (ad (8, 0, 0))), some (.int z1), some (.int z2), some (.int z3), some (.long ((y4 * (16807 : Int64)) - (y4 * (16807 : Int64)) / (2147483647 : Int64) * (2147483647 : Int64))), none, some (.int (y6 + 1)), some (.int ((((y4 * (16807 : Int64)) - (y4 * (16807 : Int64)) / (2147483647 : Int64) * (2147483647 : Int64)) - ((y4 * (16807 : Int64)) - (y4 * (16807 : Int64)) / (2147483647 : Int64) * (2147483647 : Int64)) / ((g 11 7 jv20).toInt64) * ((g 11 7 jv20).toInt64)).toInt32)), some (.int (rv38 + (5 : Int32)))]) X dX8_drawn_203 rfl rfl (by decide) rfl rfl ?_
              refine v_goto X 63 dX8_drawn_206 (by decide) ?_
              refine v_weak (lc2 := [some (.ref (ad (8, 0, 0))), some (.int z1), some (.int z2), some (.int z3), some (.long ((y4 * (16807 : Int64)) - (y4 * (16807 : Int64)) / (2147483647 : Int64) * (2147483647 : Int64))), none, some (.int (y6 + 1)), none, none]) ⟨rfl, rfl, rfl, rfl, rfl, rfl, trivial⟩ ?_
              exact ih ((y4 * (16807 : Int64)) - (y4 * (16807 : Int64)) / (2147483647 : Int64) * (2147483647 : Int64)) (y6 + 1) gv47 _ _ _ h k
      · replace h := (if_pos cv26).symm.trans h
        refine v_aloadn X dX8_drawn_107 rfl rfl ?_
        refine gf_X8_25 X dX8_drawn_108 ?_
        refine v_iload X dX8_drawn_111 rfl ?_
        refine v_lload X dX8_drawn_113 rfl ?_
        refine v_ldc2 X kl_X8_211 dX8_drawn_115 ?_
        refine v_lrem X dX8_drawn_118 (by decide) ?_
        refine v_l2i X dX8_drawn_119 ?_
        refine v_iconst (v := 1) X dX8_drawn_120 (by decide) ?_
        refine v_iadd X dX8_drawn_121 ?_
        obtain ⟨gv49, qv48, h⟩ := bd1_some h
        refine v_callSV (As := [.ref (ad (9, 11, 7)), .int ((((y4 * (16807 : Int64)) - (y4 * (16807 : Int64)) / (2147483647 : Int64) * (2147483647 : Int64)) - ((y4 * (16807 : Int64)) - (y4 * (16807 : Int64)) / (2147483647 : Int64) * (2147483647 : Int64)) / ((g 11 7 jv20).toInt64) * ((g 11 7 jv20).toInt64)).toInt32), .int (((((y4 * (16807 : Int64)) - (y4 * (16807 : Int64)) / (2147483647 : Int64) * (2147483647 : Int64)) - ((y4 * (16807 : Int64)) - (y4 * (16807 : Int64)) / (2147483647 : Int64) * (2147483647 : Int64)) / (40 : Int64) * (40 : Int64)).toInt32) + (1 : Int32))]) (rest := []) X (c_X8_goesUp l D ad cy X.2.2.2.2.2.2.2.2.1 N 7 ((((y4 * (16807 : Int64)) - (y4 * (16807 : Int64)) / (2147483647 : Int64) * (2147483647 : Int64)) - ((y4 * (16807 : Int64)) - (y4 * (16807 : Int64)) / (2147483647 : Int64) * (2147483647 : Int64)) / ((g 11 7 jv20).toInt64) * ((g 11 7 jv20).toInt64)).toInt32) (((((y4 * (16807 : Int64)) - (y4 * (16807 : Int64)) / (2147483647 : Int64) * (2147483647 : Int64)) - ((y4 * (16807 : Int64)) - (y4 * (16807 : Int64)) / (2147483647 : Int64) * (2147483647 : Int64)) / (40 : Int64) * (40 : Int64)).toInt32) + (1 : Int32)) gv24 gv49 (by decide +kernel) qv48) mw_X8_goesUp ml_X8_213 (by decide) rfl rfl (Nat.le_of_ble_eq_true rfl) dX8_drawn_122 ?_
        refine v_goto X 188 dX8_drawn_125 (by decide) ?_
        refine v_aloadn X dX8_drawn_188 rfl rfl ?_
        refine v_aloadn X dX8_drawn_189 rfl rfl ?_
        refine gf_X8_25 X dX8_drawn_190 ?_
        refine v_lload X dX8_drawn_193 rfl ?_
        refine v_ldc2 X kl_X8_264 dX8_drawn_195 ?_
        refine v_lrem X dX8_drawn_198 (by decide) ?_
        refine v_l2i X dX8_drawn_199 ?_
        obtain ⟨gv51, qv50, h⟩ := bd1_some h
        refine v_callVV (As := [.ref (ad (9, 11, 7)), .int ((((y4 * (16807 : Int64)) - (y4 * (16807 : Int64)) / (2147483647 : Int64) * (2147483647 : Int64)) - ((y4 * (16807 : Int64)) - (y4 * (16807 : Int64)) / (2147483647 : Int64) * (2147483647 : Int64)) / (10 : Int64) * (10 : Int64)).toInt32)]) (rest := []) X (c_X8_hourBy l D ad cy X.2.2.2.2.2.2.2.2.1 N 7 ((((y4 * (16807 : Int64)) - (y4 * (16807 : Int64)) / (2147483647 : Int64) * (2147483647 : Int64)) - ((y4 * (16807 : Int64)) - (y4 * (16807 : Int64)) / (2147483647 : Int64) * (2147483647 : Int64)) / (10 : Int64) * (10 : Int64)).toInt32) gv49 gv51 (by decide +kernel) qv50) mw_X8_hourBy ml_X8_184 (by decide) (by decide +kernel) (by decide) rfl rfl rfl rfl (Nat.le_of_ble_eq_true rfl) dX8_drawn_200 ?_
        refine v_iinc (v := (y6 + 1)) (lc' := [some (.ref (ad (8, 0, 0))), some (.int z1), some (.int z2), some (.int z3), some (.long ((y4 * (16807 : Int64)) - (y4 * (16807 : Int64)) / (2147483647 : Int64) * (2147483647 : Int64))), none, some (.int (y6 + 1)), some (.int ((((y4 * (16807 : Int64)) - (y4 * (16807 : Int64)) / (2147483647 : Int64) * (2147483647 : Int64)) - ((y4 * (16807 : Int64)) - (y4 * (16807 : Int64)) / (2147483647 : Int64) * (2147483647 : Int64)) / ((g 11 7 jv20).toInt64) * ((g 11 7 jv20).toInt64)).toInt32)), none]) X dX8_drawn_203 rfl rfl (by decide) rfl rfl ?_
        refine v_goto X 63 dX8_drawn_206 (by decide) ?_
        refine v_weak (lc2 := [some (.ref (ad (8, 0, 0))), some (.int z1), some (.int z2), some (.int z3), some (.long ((y4 * (16807 : Int64)) - (y4 * (16807 : Int64)) / (2147483647 : Int64) * (2147483647 : Int64))), none, some (.int (y6 + 1)), none, none]) ⟨rfl, rfl, rfl, rfl, rfl, rfl, trivial⟩ ?_
        exact ih ((y4 * (16807 : Int64)) - (y4 * (16807 : Int64)) / (2147483647 : Int64) * (2147483647 : Int64)) (y6 + 1) gv51 _ _ _ h k
set_option maxRecDepth 100000 in
set_option maxHeartbeats 4000000 in
theorem c_X8_drawn (l : Launch) (D : va_G) (ad : Ky → Nat) (cy : Nat → ClassId) (hI : Inj ad) (N : Nat) (x1 : Int32) (x2 : Int32) (x3 : Int32) (g : GS) (r : Int32) (gq : GS) (h : F_X8_drawn N x1 x2 x3 g = some (r, gq)) : CtI l D ad cy yX8_drawn cX8_drawn 9 (some .int) 5 [.ref (ad (8, 0, 0)), .int x1, .int x2, .int x3] g r gq := by
  refine CtI.of 5 hI (by decide +kernel) rfl (Nat.le_of_ble_eq_true rfl) (fun p e s m args below meth c X => ?_)
  unfold F_X8_drawn at h
  show Vy _ _ _ _ _ _ _ _ _ _ _ _ _ _ _ 0 [some (.ref (ad (8, 0, 0))), some (.int x1), some (.int x2), some (.int x3), none, none, none, none, none] [] g
  refine v_aloadn X dX8_drawn_0 rfl rfl ?_
  refine v_iconst (v := 0) X dX8_drawn_1 (by decide) ?_
  refine pf_X8_50 X dX8_drawn_2 ?_
  refine v_aloadn X dX8_drawn_5 rfl rfl ?_
  obtain ⟨rv3, gv2, qv1, h⟩ := bd2_some h
  refine v_callVI (As := []) (rest := []) X (c_X8_isThere l D ad cy X.2.2.2.2.2.2.2.2.1 N  (g3 g 10 0 0 (0 : Int32)) rv3 gv2  qv1) mw_X8_isThere ml_X8_195 (by decide) (by decide +kernel) (by decide) rfl rfl rfl rfl (Nat.le_of_ble_eq_true rfl) dX8_drawn_6 ?_
  refine v_if_ne X 15 dX8_drawn_9 (by decide) (fun cv4 => ?_) (fun cv4 => ?_)
  · replace h := (if_neg cv4).symm.trans h
    refine v_iloadn X dX8_drawn_15 rfl rfl ?_
    refine v_i2l X dX8_drawn_16 ?_
    refine v_lconst (v := 0) X dX8_drawn_17 (by decide) ?_
    refine v_ldc2 X kl_X8_225 dX8_drawn_18 ?_
    obtain ⟨rv7, gv6, qv5, h⟩ := bd2_some h
    refine v_callSI (As := [.long (x1.toInt64), .long (0 : Int64), .long (60 : Int64)]) (rest := []) X (c_X8_in l D ad cy X.2.2.2.2.2.2.2.2.1 N (x1.toInt64) (0 : Int64) (60 : Int64) gv2 rv7 gv6  qv5) mw_X8_in ml_X8_60 (by decide) rfl rfl (Nat.le_of_ble_eq_true rfl) dX8_drawn_21 ?_
    refine v_if_eq X 49 dX8_drawn_24 (by decide) (fun cv8 => ?_) (fun cv8 => ?_)
    · replace h := (if_pos cv8).symm.trans h
      refine v_ldc X kc_X8_70 dX8_drawn_49 ?_
      obtain ⟨er, eg⟩ := Prod.mk.inj (Option.some.inj h)
      exact v_iret X dX8_drawn_51 er eg
    · replace h := (if_neg cv8).symm.trans h
      refine v_iloadn X dX8_drawn_27 rfl rfl ?_
      refine v_i2l X dX8_drawn_28 ?_
      refine v_lconst (v := 1) X dX8_drawn_29 (by decide) ?_
      refine v_ldc2 X kl_X8_268 dX8_drawn_30 ?_
      obtain ⟨rv11, gv10, qv9, h⟩ := bd2_some h
      refine v_callSI (As := [.long (x2.toInt64), .long (1 : Int64), .long (999999 : Int64)]) (rest := []) X (c_X8_in l D ad cy X.2.2.2.2.2.2.2.2.1 N (x2.toInt64) (1 : Int64) (999999 : Int64) gv6 rv11 gv10  qv9) mw_X8_in ml_X8_60 (by decide) rfl rfl (Nat.le_of_ble_eq_true rfl) dX8_drawn_33 ?_
      refine v_if_eq X 49 dX8_drawn_36 (by decide) (fun cv12 => ?_) (fun cv12 => ?_)
      · replace h := (if_pos cv12).symm.trans h
        refine v_ldc X kc_X8_70 dX8_drawn_49 ?_
        obtain ⟨er, eg⟩ := Prod.mk.inj (Option.some.inj h)
        exact v_iret X dX8_drawn_51 er eg
      · replace h := (if_neg cv12).symm.trans h
        refine v_iloadn X dX8_drawn_39 rfl rfl ?_
        refine v_i2l X dX8_drawn_40 ?_
        refine v_lconst (v := 0) X dX8_drawn_41 (by decide) ?_
        refine v_lconst (v := 1) X dX8_drawn_42 (by decide) ?_
        obtain ⟨rv15, gv14, qv13, h⟩ := bd2_some h
        refine v_callSI (As := [.long (x3.toInt64), .long (0 : Int64), .long (1 : Int64)]) (rest := []) X (c_X8_in l D ad cy X.2.2.2.2.2.2.2.2.1 N (x3.toInt64) (0 : Int64) (1 : Int64) gv10 rv15 gv14  qv13) mw_X8_in ml_X8_60 (by decide) rfl rfl (Nat.le_of_ble_eq_true rfl) dX8_drawn_43 ?_
        refine v_if_ne X 52 dX8_drawn_46 (by decide) (fun cv16 => ?_) (fun cv16 => ?_)
        · replace h := (if_neg cv16).symm.trans h
          refine v_aloadn X dX8_drawn_52 rfl rfl ?_
          obtain ⟨gv18, qv17, h⟩ := bd1_some h
          refine v_callVV (As := []) (rest := []) X (c_X8_layThen l D ad cy X.2.2.2.2.2.2.2.2.1 N  gv14 gv18  qv17) mw_X8_layThen ml_X8_232 (by decide) (by decide +kernel) (by decide) rfl rfl rfl rfl (Nat.le_of_ble_eq_true rfl) dX8_drawn_53 ?_
          refine v_iloadn X dX8_drawn_56 rfl rfl ?_
          refine v_i2l X dX8_drawn_57 ?_
          refine v_lstore (lc' := [some (.ref (ad (8, 0, 0))), some (.int x1), some (.int x2), some (.int x3), some (.long (x2.toInt64)), none, none, none, none]) X dX8_drawn_58 (by decide) rfl rfl ?_
          refine v_iconst (v := 0) X dX8_drawn_60 (by decide) ?_
          refine v_istore (lc' := [some (.ref (ad (8, 0, 0))), some (.int x1), some (.int x2), some (.int x3), some (.long (x2.toInt64)), none, some (.int (0 : Int32)), none, none]) X dX8_drawn_61 (by decide) rfl rfl ?_
          obtain ⟨xv52, xv53, gv54, qv55, h⟩ := bd3_some h
          refine w_X8_drawn_63 X x1 x2 x3 N (x2.toInt64) (0 : Int32) gv18 xv52 xv53 gv54 qv55 ?_
          refine v_iloadn X dX8_drawn_209 rfl rfl ?_
          refine v_if_ne X 223 dX8_drawn_210 (by decide) (fun cv56 => ?_) (fun cv56 => ?_)
          · replace h := (if_neg cv56).symm.trans h
            refine v_aloadn X dX8_drawn_223 rfl rfl ?_
            refine gf_X8_25 X dX8_drawn_224 ?_
            refine v_iconst (v := 2) X dX8_drawn_227 (by decide) ?_
            obtain ⟨rv59, gv58, qv57, h⟩ := bd2_some h
            refine v_callSI (As := [.ref (ad (9, 11, 7)), .int (2 : Int32)]) (rest := []) X (c_X8_those l D ad cy X.2.2.2.2.2.2.2.2.1 N 7 (2 : Int32) gv54 rv59 gv58 (by decide +kernel) qv57) mw_X8_those ml_X8_217 (by decide) rfl rfl (Nat.le_of_ble_eq_true rfl) dX8_drawn_228 ?_
            obtain ⟨rv62, gv61, qv60, h⟩ := bd2_some h
            refine v_callSI (As := [.int rv59]) (rest := []) X (c_X8_bits l D ad cy X.2.2.2.2.2.2.2.2.1 N rv59 gv58 rv62 gv61  qv60) mw_X8_bits ml_X8_244 (by decide) rfl rfl (Nat.le_of_ble_eq_true rfl) dX8_drawn_231 ?_
            obtain ⟨er, eg⟩ := Prod.mk.inj (Option.some.inj h)
            exact v_iret X dX8_drawn_234 er eg
          · replace h := (if_pos cv56).symm.trans h
            refine v_aloadn X dX8_drawn_213 rfl rfl ?_
            refine gf_X8_25 X dX8_drawn_214 ?_
            obtain ⟨rv65, gv64, qv63, h⟩ := bd2_some h
            refine v_callSI (As := [.ref (ad (9, 11, 7))]) (rest := []) X (c_X8_policies l D ad cy X.2.2.2.2.2.2.2.2.1 N 7 gv54 rv65 gv64 (by decide +kernel) qv63) mw_X8_policies ml_X8_204 (by decide) rfl rfl (Nat.le_of_ble_eq_true rfl) dX8_drawn_217 ?_
            refine v_goto X 231 dX8_drawn_220 (by decide) ?_
            obtain ⟨rv68, gv67, qv66, h⟩ := bd2_some h
            refine v_callSI (As := [.int rv65]) (rest := []) X (c_X8_bits l D ad cy X.2.2.2.2.2.2.2.2.1 N rv65 gv64 rv68 gv67  qv66) mw_X8_bits ml_X8_244 (by decide) rfl rfl (Nat.le_of_ble_eq_true rfl) dX8_drawn_231 ?_
            obtain ⟨er, eg⟩ := Prod.mk.inj (Option.some.inj h)
            exact v_iret X dX8_drawn_234 er eg
        · replace h := (if_pos cv16).symm.trans h
          refine v_ldc X kc_X8_70 dX8_drawn_49 ?_
          obtain ⟨er, eg⟩ := Prod.mk.inj (Option.some.inj h)
          exact v_iret X dX8_drawn_51 er eg
  · replace h := (if_pos cv4).symm.trans h
    refine v_ldc X kc_X8_198 dX8_drawn_12 ?_
    obtain ⟨er, eg⟩ := Prod.mk.inj (Option.some.inj h)
    exact v_iret X dX8_drawn_14 er eg
