def F_X7_isWithin (N : Nat) (x0 : Int32) (x1 : Int32) (x2 : Int32) (g : GS) : Option (Int32 × GS) := if x0 < x1 then some ((0 : Int32), g) else if x2 < x0 then some ((0 : Int32), g) else some ((1 : Int32), g)
set_option maxRecDepth 100000 in
set_option maxHeartbeats 4000000 in
theorem c_X7_isWithin (l : Launch) (D : va_G) (ad : Ky → Nat) (cy : Nat → ClassId) (hI : Inj ad) (N : Nat) (x0 : Int32) (x1 : Int32) (x2 : Int32) (g : GS) (r : Int32) (gq : GS) (h : F_X7_isWithin N x0 x1 x2 g = some (r, gq)) : CtI l D ad cy yX7_isWithin cX7_isWithin 3 (some .boolean) 0 [.int x0, .int x1, .int x2] g r gq := by
  refine CtI.of 0 hI (by decide +kernel) rfl (Nat.le_of_ble_eq_true rfl) (fun p e s m args below meth c X => ?_)
  unfold F_X7_isWithin at h
  show Vy _ _ _ _ _ _ _ _ _ _ _ _ _ _ _ 0 [some (.int x0), some (.int x1), some (.int x2)] [] g
  refine v_iloadn X dX7_isWithin_0 rfl rfl ?_
  refine v_iloadn X dX7_isWithin_1 rfl rfl ?_
  refine v_icmp_lt X 14 dX7_isWithin_2 (by decide) (fun cv1 => ?_) (fun cv1 => ?_)
  · replace h := (if_pos cv1).symm.trans h
    refine v_iconst (v := 0) X dX7_isWithin_14 (by decide) ?_
    obtain ⟨er, eg⟩ := Prod.mk.inj (Option.some.inj h)
    exact v_zret X dX7_isWithin_15 rfl er eg
  · replace h := (if_neg cv1).symm.trans h
    refine v_iloadn X dX7_isWithin_5 rfl rfl ?_
    refine v_iloadn X dX7_isWithin_6 rfl rfl ?_
    refine v_icmp_gt X 14 dX7_isWithin_7 (by decide) (fun cv2 => ?_) (fun cv2 => ?_)
    · replace h := (if_pos cv2).symm.trans h
      refine v_iconst (v := 0) X dX7_isWithin_14 (by decide) ?_
      obtain ⟨er, eg⟩ := Prod.mk.inj (Option.some.inj h)
      exact v_zret X dX7_isWithin_15 rfl er eg
    · replace h := (if_neg cv2).symm.trans h
      refine v_iconst (v := 1) X dX7_isWithin_10 (by decide) ?_
      refine v_goto X 15 dX7_isWithin_11 (by decide) ?_
      obtain ⟨er, eg⟩ := Prod.mk.inj (Option.some.inj h)
      exact v_zret X dX7_isWithin_15 rfl er eg
def F_X7_ahead (N : Nat) (x1 : Int32) (x2 : Int32) (x3 : Int32) (g : GS) : Option (Int32 × GS) := bd2 (F_X4_hasPaper N 0 x1 g) (fun rv3 gv2 => if rv3 = 0 then some ((-1000001 : Int32), gv2) else bd2 (F_X7_isWithin N x2 (0 : Int32) (60 : Int32) gv2) (fun rv7 gv6 => if rv7 = 0 then some ((-1000001 : Int32), gv6) else bd2 (F_X7_isWithin N x3 (0 : Int32) (2 : Int32) gv6) (fun rv11 gv10 => if rv11 = 0 then some ((-1000001 : Int32), gv10) else bd1 (F_X2_draftAhead N x2 gv10) (fun gv14 => bd1 (ix x1 6) (fun jv15 => if x3 = 0 then some ((gv14 13 1 (7 * jv15 + 4)), gv14) else if x3 = (1 : Int32) then some ((gv14 13 1 (7 * jv15 + 5)), gv14) else some ((gv14 13 1 (7 * jv15 + 6)), gv14))))))
set_option maxRecDepth 100000 in
set_option maxHeartbeats 4000000 in
theorem c_X7_ahead (l : Launch) (D : va_G) (ad : Ky → Nat) (cy : Nat → ClassId) (hI : Inj ad) (N : Nat) (x1 : Int32) (x2 : Int32) (x3 : Int32) (g : GS) (r : Int32) (gq : GS) (h : F_X7_ahead N x1 x2 x3 g = some (r, gq)) : CtI l D ad cy yX7_ahead cX7_ahead 5 (some .int) 5 [.ref (ad (7, 0, 0)), .int x1, .int x2, .int x3] g r gq := by
  refine CtI.of 1 hI (by decide +kernel) rfl (Nat.le_of_ble_eq_true rfl) (fun p e s m args below meth c X => ?_)
  unfold F_X7_ahead at h
  show Vy _ _ _ _ _ _ _ _ _ _ _ _ _ _ _ 0 [some (.ref (ad (7, 0, 0))), some (.int x1), some (.int x2), some (.int x3), none] [] g
  refine v_aloadn X dX7_ahead_0 rfl rfl ?_
  refine gf_X7_33 X dX7_ahead_1 ?_
  refine v_iloadn X dX7_ahead_4 rfl rfl ?_
  obtain ⟨rv3, gv2, qv1, h⟩ := bd2_some h
  refine v_callVI (As := [.int x1]) (rest := []) X (c_X4_hasPaper l D ad cy X.2.2.2.2.2.2.2.2.1 N 0 x1 g rv3 gv2 (by omega) qv1) mw_X4_hasPaper ml_X7_171 (by decide) (k_roof (by omega)) (by decide) rfl rfl rfl rfl (Nat.le_of_ble_eq_true rfl) dX7_ahead_5 ?_
  refine v_if_eq X 30 dX7_ahead_8 (by decide) (fun cv4 => ?_) (fun cv4 => ?_)
  · replace h := (if_pos cv4).symm.trans h
    refine v_ldc X kc_X7_75 dX7_ahead_30 ?_
    obtain ⟨er, eg⟩ := Prod.mk.inj (Option.some.inj h)
    exact v_iret X dX7_ahead_32 er eg
  · replace h := (if_neg cv4).symm.trans h
    refine v_iloadn X dX7_ahead_11 rfl rfl ?_
    refine v_iconst (v := 0) X dX7_ahead_12 (by decide) ?_
    refine v_bipush (v := 60) X dX7_ahead_13 (by decide) ?_
    obtain ⟨rv7, gv6, qv5, h⟩ := bd2_some h
    refine v_callSI (As := [.int x2, .int (0 : Int32), .int (60 : Int32)]) (rest := []) X (c_X7_isWithin l D ad cy X.2.2.2.2.2.2.2.2.1 N x2 (0 : Int32) (60 : Int32) gv2 rv7 gv6  qv5) mw_X7_isWithin ml_X7_71 (by decide) rfl rfl (Nat.le_of_ble_eq_true rfl) dX7_ahead_15 ?_
    refine v_if_eq X 30 dX7_ahead_18 (by decide) (fun cv8 => ?_) (fun cv8 => ?_)
    · replace h := (if_pos cv8).symm.trans h
      refine v_ldc X kc_X7_75 dX7_ahead_30 ?_
      obtain ⟨er, eg⟩ := Prod.mk.inj (Option.some.inj h)
      exact v_iret X dX7_ahead_32 er eg
    · replace h := (if_neg cv8).symm.trans h
      refine v_iloadn X dX7_ahead_21 rfl rfl ?_
      refine v_iconst (v := 0) X dX7_ahead_22 (by decide) ?_
      refine v_iconst (v := 2) X dX7_ahead_23 (by decide) ?_
      obtain ⟨rv11, gv10, qv9, h⟩ := bd2_some h
      refine v_callSI (As := [.int x3, .int (0 : Int32), .int (2 : Int32)]) (rest := []) X (c_X7_isWithin l D ad cy X.2.2.2.2.2.2.2.2.1 N x3 (0 : Int32) (2 : Int32) gv6 rv11 gv10  qv9) mw_X7_isWithin ml_X7_71 (by decide) rfl rfl (Nat.le_of_ble_eq_true rfl) dX7_ahead_24 ?_
      refine v_if_ne X 33 dX7_ahead_27 (by decide) (fun cv12 => ?_) (fun cv12 => ?_)
      · replace h := (if_neg cv12).symm.trans h
        refine v_aloadn X dX7_ahead_33 rfl rfl ?_
        refine gf_X7_25 X dX7_ahead_34 ?_
        refine v_iloadn X dX7_ahead_37 rfl rfl ?_
        obtain ⟨gv14, qv13, h⟩ := bd1_some h
        refine v_callVV (As := [.int x2]) (rest := []) X (c_X2_draftAhead l D ad cy X.2.2.2.2.2.2.2.2.1 N x2 gv10 gv14  qv13) mw_X2_draftAhead ml_X7_225 (by decide) (by decide +kernel) (by decide) rfl rfl rfl rfl (Nat.le_of_ble_eq_true rfl) dX7_ahead_38 ?_
        refine v_aloadn X dX7_ahead_41 rfl rfl ?_
        refine gf_X7_37 X dX7_ahead_42 ?_
        refine gf_X7_174 X (k_roof (by omega)) dX7_ahead_45 ?_
        refine v_iloadn X dX7_ahead_48 rfl rfl ?_
        obtain ⟨jv15, qv16, h⟩ := bd1_some h
        obtain ⟨ejv15, ljv15⟩ := ix_spec qv16
        refine aaP X (k_papers (by omega)) jv15 ejv15 ljv15 dX7_ahead_49 ?_
        refine v_astore (lc' := [some (.ref (ad (7, 0, 0))), some (.int x1), some (.int x2), some (.int x3), some (.ref (ad (3, 1, jv15)))]) X dX7_ahead_50 (by decide) rfl rfl ?_
        refine v_iloadn X dX7_ahead_52 rfl rfl ?_
        refine v_if_ne X 62 dX7_ahead_53 (by decide) (fun cv17 => ?_) (fun cv17 => ?_)
        · replace h := (if_neg cv17).symm.trans h
          refine v_iloadn X dX7_ahead_62 rfl rfl ?_
          refine v_iconst (v := 1) X dX7_ahead_63 (by decide) ?_
          refine v_icmp_ne X 75 dX7_ahead_64 (by decide) (fun cv18 => ?_) (fun cv18 => ?_)
          · replace h := (if_neg cv18).symm.trans h
            refine v_aload X dX7_ahead_75 rfl ?_
            refine gf_X7_213 X (k_paper (by omega) (by omega)) dX7_ahead_77 ?_
            obtain ⟨er, eg⟩ := Prod.mk.inj (Option.some.inj h)
            exact v_iret X dX7_ahead_80 er eg
          · replace h := (if_pos cv18).symm.trans h
            refine v_aload X dX7_ahead_67 rfl ?_
            refine gf_X7_192 X (k_paper (by omega) (by omega)) dX7_ahead_69 ?_
            refine v_goto X 80 dX7_ahead_72 (by decide) ?_
            obtain ⟨er, eg⟩ := Prod.mk.inj (Option.some.inj h)
            exact v_iret X dX7_ahead_80 er eg
        · replace h := (if_pos cv17).symm.trans h
          refine v_aload X dX7_ahead_56 rfl ?_
          refine gf_X7_210 X (k_paper (by omega) (by omega)) dX7_ahead_58 ?_
          obtain ⟨er, eg⟩ := Prod.mk.inj (Option.some.inj h)
          exact v_iret X dX7_ahead_61 er eg
      · replace h := (if_pos cv12).symm.trans h
        refine v_ldc X kc_X7_75 dX7_ahead_30 ?_
        obtain ⟨er, eg⟩ := Prod.mk.inj (Option.some.inj h)
        exact v_iret X dX7_ahead_32 er eg
def F_X7_found (N : Nat) (x1 : Int32) (g : GS) : Option (Int32 × GS) := some (((-1000010 : Int32) - x1), (g3 g 9 0 1 x1))
set_option maxRecDepth 100000 in
set_option maxHeartbeats 4000000 in
theorem c_X7_found (l : Launch) (D : va_G) (ad : Ky → Nat) (cy : Nat → ClassId) (hI : Inj ad) (N : Nat) (x1 : Int32) (g : GS) (r : Int32) (gq : GS) (h : F_X7_found N x1 g = some (r, gq)) : CtI l D ad cy yX7_found cX7_found 2 (some .int) 0 [.ref (ad (7, 0, 0)), .int x1] g r gq := by
  refine CtI.of 0 hI (by decide +kernel) rfl (Nat.le_of_ble_eq_true rfl) (fun p e s m args below meth c X => ?_)
  unfold F_X7_found at h
  show Vy _ _ _ _ _ _ _ _ _ _ _ _ _ _ _ 0 [some (.ref (ad (7, 0, 0))), some (.int x1)] [] g
  refine v_aloadn X dX7_found_0 rfl rfl ?_
  refine v_iloadn X dX7_found_1 rfl rfl ?_
  refine pf_X7_62 X dX7_found_2 ?_
  refine v_ldcw X kc_X7_317 dX7_found_5 ?_
  refine v_iloadn X dX7_found_8 rfl rfl ?_
  refine v_isub X dX7_found_9 ?_
  obtain ⟨er, eg⟩ := Prod.mk.inj (Option.some.inj h)
  exact v_iret X dX7_found_10 er eg
def F_X7_unfound (N : Nat) (x1 : Int32) (g : GS) : Option (Int32 × GS) := some (x1, (g3 g 9 0 1 (0 : Int32)))
set_option maxRecDepth 100000 in
set_option maxHeartbeats 4000000 in
theorem c_X7_unfound (l : Launch) (D : va_G) (ad : Ky → Nat) (cy : Nat → ClassId) (hI : Inj ad) (N : Nat) (x1 : Int32) (g : GS) (r : Int32) (gq : GS) (h : F_X7_unfound N x1 g = some (r, gq)) : CtI l D ad cy yX7_unfound cX7_unfound 2 (some .int) 0 [.ref (ad (7, 0, 0)), .int x1] g r gq := by
  refine CtI.of 0 hI (by decide +kernel) rfl (Nat.le_of_ble_eq_true rfl) (fun p e s m args below meth c X => ?_)
  unfold F_X7_unfound at h
  show Vy _ _ _ _ _ _ _ _ _ _ _ _ _ _ _ 0 [some (.ref (ad (7, 0, 0))), some (.int x1)] [] g
  refine v_aloadn X dX7_unfound_0 rfl rfl ?_
  refine v_iconst (v := 0) X dX7_unfound_1 (by decide) ?_
  refine pf_X7_62 X dX7_unfound_2 ?_
  refine v_iloadn X dX7_unfound_5 rfl rfl ?_
  obtain ⟨er, eg⟩ := Prod.mk.inj (Option.some.inj h)
  exact v_iret X dX7_unfound_6 er eg
def F_X7_as (N : Nat) (x1 : Int32) (x2 : Int32) (g : GS) : Option (Int32 × GS) := bd2 (F_X4_hasPaper N 0 x1 g) (fun rv3 gv2 => if rv3 = 0 then some ((-1000001 : Int32), gv2) else bd2 (F_X7_isWithin N x2 (0 : Int32) (5 : Int32) gv2) (fun rv7 gv6 => if rv7 = 0 then some ((-1000001 : Int32), gv6) else bd1 (ix x1 6) (fun jv9 => bd2 (F_X3_isOf N 0 jv9 x2 gv6) (fun rv13 gv12 => if rv13 = 0 then bd2 (F_X7_found N (3 : Int32) gv12) (fun rv20 gv19 => some (rv20, gv19)) else bd2 (F_X7_unfound N x1 gv12) (fun rv17 gv16 => some (rv17, gv16))))))
set_option maxRecDepth 100000 in
set_option maxHeartbeats 4000000 in
theorem c_X7_as (l : Launch) (D : va_G) (ad : Ky → Nat) (cy : Nat → ClassId) (hI : Inj ad) (N : Nat) (x1 : Int32) (x2 : Int32) (g : GS) (r : Int32) (gq : GS) (h : F_X7_as N x1 x2 g = some (r, gq)) : CtI l D ad cy yX7_as cX7_as 3 (some .int) 2 [.ref (ad (7, 0, 0)), .int x1, .int x2] g r gq := by
  refine CtI.of 0 hI (by decide +kernel) rfl (Nat.le_of_ble_eq_true rfl) (fun p e s m args below meth c X => ?_)
  unfold F_X7_as at h
  show Vy _ _ _ _ _ _ _ _ _ _ _ _ _ _ _ 0 [some (.ref (ad (7, 0, 0))), some (.int x1), some (.int x2)] [] g
  refine v_aloadn X dX7_as_0 rfl rfl ?_
  refine gf_X7_33 X dX7_as_1 ?_
  refine v_iloadn X dX7_as_4 rfl rfl ?_
  obtain ⟨rv3, gv2, qv1, h⟩ := bd2_some h
  refine v_callVI (As := [.int x1]) (rest := []) X (c_X4_hasPaper l D ad cy X.2.2.2.2.2.2.2.2.1 N 0 x1 g rv3 gv2 (by omega) qv1) mw_X4_hasPaper ml_X7_171 (by decide) (k_roof (by omega)) (by decide) rfl rfl rfl rfl (Nat.le_of_ble_eq_true rfl) dX7_as_5 ?_
  refine v_if_eq X 20 dX7_as_8 (by decide) (fun cv4 => ?_) (fun cv4 => ?_)
  · replace h := (if_pos cv4).symm.trans h
    refine v_ldc X kc_X7_75 dX7_as_20 ?_
    obtain ⟨er, eg⟩ := Prod.mk.inj (Option.some.inj h)
    exact v_iret X dX7_as_22 er eg
  · replace h := (if_neg cv4).symm.trans h
    refine v_iloadn X dX7_as_11 rfl rfl ?_
    refine v_iconst (v := 0) X dX7_as_12 (by decide) ?_
    refine v_iconst (v := 5) X dX7_as_13 (by decide) ?_
    obtain ⟨rv7, gv6, qv5, h⟩ := bd2_some h
    refine v_callSI (As := [.int x2, .int (0 : Int32), .int (5 : Int32)]) (rest := []) X (c_X7_isWithin l D ad cy X.2.2.2.2.2.2.2.2.1 N x2 (0 : Int32) (5 : Int32) gv2 rv7 gv6  qv5) mw_X7_isWithin ml_X7_71 (by decide) rfl rfl (Nat.le_of_ble_eq_true rfl) dX7_as_14 ?_
    refine v_if_ne X 23 dX7_as_17 (by decide) (fun cv8 => ?_) (fun cv8 => ?_)
    · replace h := (if_neg cv8).symm.trans h
      refine v_aloadn X dX7_as_23 rfl rfl ?_
      refine gf_X7_33 X dX7_as_24 ?_
      refine gf_X7_174 X (k_roof (by omega)) dX7_as_27 ?_
      refine v_iloadn X dX7_as_30 rfl rfl ?_
      obtain ⟨jv9, qv10, h⟩ := bd1_some h
      obtain ⟨ejv9, ljv9⟩ := ix_spec qv10
      refine aaP X (k_papers (by omega)) jv9 ejv9 ljv9 dX7_as_31 ?_
      refine v_iloadn X dX7_as_32 rfl rfl ?_
      obtain ⟨rv13, gv12, qv11, h⟩ := bd2_some h
      refine v_callVI (As := [.int x2]) (rest := []) X (c_X3_isOf l D ad cy X.2.2.2.2.2.2.2.2.1 N 0 jv9 x2 gv6 rv13 gv12 (by omega) (by omega) qv11) mw_X3_isOf ml_X7_296 (by decide) (k_paper (by omega) (by omega)) (by decide) rfl rfl rfl rfl (Nat.le_of_ble_eq_true rfl) dX7_as_33 ?_
      refine v_if_ne X 45 dX7_as_36 (by decide) (fun cv14 => ?_) (fun cv14 => ?_)
      · replace h := (if_neg cv14).symm.trans h
        refine v_aloadn X dX7_as_45 rfl rfl ?_
        refine v_iloadn X dX7_as_46 rfl rfl ?_
        obtain ⟨rv17, gv16, qv15, h⟩ := bd2_some h
        refine v_callVI (As := [.int x1]) (rest := []) X (c_X7_unfound l D ad cy X.2.2.2.2.2.2.2.2.1 N x1 gv12 rv17 gv16  qv15) mw_X7_unfound ml_X7_84 (by decide) (by decide +kernel) (by decide) rfl rfl rfl rfl (Nat.le_of_ble_eq_true rfl) dX7_as_47 ?_
        obtain ⟨er, eg⟩ := Prod.mk.inj (Option.some.inj h)
        exact v_iret X dX7_as_50 er eg
      · replace h := (if_pos cv14).symm.trans h
        refine v_aloadn X dX7_as_39 rfl rfl ?_
        refine v_iconst (v := 3) X dX7_as_40 (by decide) ?_
        obtain ⟨rv20, gv19, qv18, h⟩ := bd2_some h
        refine v_callVI (As := [.int (3 : Int32)]) (rest := []) X (c_X7_found l D ad cy X.2.2.2.2.2.2.2.2.1 N (3 : Int32) gv12 rv20 gv19  qv18) mw_X7_found ml_X7_76 (by decide) (by decide +kernel) (by decide) rfl rfl rfl rfl (Nat.le_of_ble_eq_true rfl) dX7_as_41 ?_
        obtain ⟨er, eg⟩ := Prod.mk.inj (Option.some.inj h)
        exact v_iret X dX7_as_44 er eg
    · replace h := (if_pos cv8).symm.trans h
      refine v_ldc X kc_X7_75 dX7_as_20 ?_
      obtain ⟨er, eg⟩ := Prod.mk.inj (Option.some.inj h)
      exact v_iret X dX7_as_22 er eg
def F_X7_ask (N : Nat) (x1 : Int32) (x2 : Int32) (g : GS) : Option (Int32 × GS) := bd2 (F_X4_hasPaper N 0 x1 g) (fun rv3 gv2 => if rv3 = 0 then some ((-1000001 : Int32), gv2) else bd2 (F_X7_isWithin N x2 (0 : Int32) (1 : Int32) gv2) (fun rv7 gv6 => if rv7 = 0 then some ((-1000001 : Int32), gv6) else bd1 (ix x1 6) (fun jv9 => if x2 = 0 then bd2 (F_X3_sizeBody N 0 jv9 gv6) (fun rv20 gv19 => bd2 (F_X1_begin N rv20 0 jv9 x1 gv19) (fun rv23 gv22 => some (rv23, gv22))) else bd2 (F_X3_markBody N 0 jv9 gv6) (fun rv14 gv13 => bd2 (F_X1_begin N rv14 0 jv9 x1 gv13) (fun rv17 gv16 => some (rv17, gv16))))))
set_option maxRecDepth 100000 in
set_option maxHeartbeats 4000000 in
theorem c_X7_ask (l : Launch) (D : va_G) (ad : Ky → Nat) (cy : Nat → ClassId) (hI : Inj ad) (N : Nat) (x1 : Int32) (x2 : Int32) (g : GS) (r : Int32) (gq : GS) (h : F_X7_ask N x1 x2 g = some (r, gq)) : CtI l D ad cy yX7_ask cX7_ask 4 (some .int) 18 [.ref (ad (7, 0, 0)), .int x1, .int x2] g r gq := by
  refine CtI.of 1 hI (by decide +kernel) rfl (Nat.le_of_ble_eq_true rfl) (fun p e s m args below meth c X => ?_)
  unfold F_X7_ask at h
  show Vy _ _ _ _ _ _ _ _ _ _ _ _ _ _ _ 0 [some (.ref (ad (7, 0, 0))), some (.int x1), some (.int x2), none] [] g
  refine v_aloadn X dX7_ask_0 rfl rfl ?_
  refine gf_X7_33 X dX7_ask_1 ?_
  refine v_iloadn X dX7_ask_4 rfl rfl ?_
  obtain ⟨rv3, gv2, qv1, h⟩ := bd2_some h
  refine v_callVI (As := [.int x1]) (rest := []) X (c_X4_hasPaper l D ad cy X.2.2.2.2.2.2.2.2.1 N 0 x1 g rv3 gv2 (by omega) qv1) mw_X4_hasPaper ml_X7_171 (by decide) (k_roof (by omega)) (by decide) rfl rfl rfl rfl (Nat.le_of_ble_eq_true rfl) dX7_ask_5 ?_
  refine v_if_eq X 20 dX7_ask_8 (by decide) (fun cv4 => ?_) (fun cv4 => ?_)
  · replace h := (if_pos cv4).symm.trans h
    refine v_ldc X kc_X7_75 dX7_ask_20 ?_
    obtain ⟨er, eg⟩ := Prod.mk.inj (Option.some.inj h)
    exact v_iret X dX7_ask_22 er eg
  · replace h := (if_neg cv4).symm.trans h
    refine v_iloadn X dX7_ask_11 rfl rfl ?_
    refine v_iconst (v := 0) X dX7_ask_12 (by decide) ?_
    refine v_iconst (v := 1) X dX7_ask_13 (by decide) ?_
    obtain ⟨rv7, gv6, qv5, h⟩ := bd2_some h
    refine v_callSI (As := [.int x2, .int (0 : Int32), .int (1 : Int32)]) (rest := []) X (c_X7_isWithin l D ad cy X.2.2.2.2.2.2.2.2.1 N x2 (0 : Int32) (1 : Int32) gv2 rv7 gv6  qv5) mw_X7_isWithin ml_X7_71 (by decide) rfl rfl (Nat.le_of_ble_eq_true rfl) dX7_ask_14 ?_
    refine v_if_ne X 23 dX7_ask_17 (by decide) (fun cv8 => ?_) (fun cv8 => ?_)
    · replace h := (if_neg cv8).symm.trans h
      refine v_aloadn X dX7_ask_23 rfl rfl ?_
      refine gf_X7_33 X dX7_ask_24 ?_
      refine gf_X7_174 X (k_roof (by omega)) dX7_ask_27 ?_
      refine v_iloadn X dX7_ask_30 rfl rfl ?_
      obtain ⟨jv9, qv10, h⟩ := bd1_some h
      obtain ⟨ejv9, ljv9⟩ := ix_spec qv10
      refine aaP X (k_papers (by omega)) jv9 ejv9 ljv9 dX7_ask_31 ?_
      refine v_astoren (lc' := [some (.ref (ad (7, 0, 0))), some (.int x1), some (.int x2), some (.ref (ad (3, 0, jv9)))]) X dX7_ask_32 rfl (by decide) rfl rfl ?_
      refine v_aloadn X dX7_ask_33 rfl rfl ?_
      refine gf_X7_54 X dX7_ask_34 ?_
      refine v_iloadn X dX7_ask_37 rfl rfl ?_
      refine v_if_ne X 48 dX7_ask_38 (by decide) (fun cv11 => ?_) (fun cv11 => ?_)
      · replace h := (if_neg cv11).symm.trans h
        refine v_aloadn X dX7_ask_48 rfl rfl ?_
        obtain ⟨rv14, gv13, qv12, h⟩ := bd2_some h
        refine v_callVI (As := []) (rest := [.ref (ad (1, 0, 0))]) X (c_X3_markBody l D ad cy X.2.2.2.2.2.2.2.2.1 N 0 jv9 gv6 rv14 gv13 (by omega) (by omega) qv12) mw_X3_markBody ml_X7_302 (by decide) (k_paper (by omega) (by omega)) (by decide) rfl rfl rfl rfl (Nat.le_of_ble_eq_true rfl) dX7_ask_49 ?_
        refine v_aloadn X dX7_ask_52 rfl rfl ?_
        refine v_iloadn X dX7_ask_53 rfl rfl ?_
        obtain ⟨rv17, gv16, qv15, h⟩ := bd2_some h
        refine v_callVI (As := [.int rv14, .ref (ad (3, 0, jv9)), .int x1]) (rest := []) X (c_X1_begin l D ad cy X.2.2.2.2.2.2.2.2.1 N rv14 0 jv9 x1 gv13 rv17 gv16 (by omega) (by omega) qv15) mw_X1_begin ml_X7_305 (by decide) (by decide +kernel) (by decide) rfl rfl rfl rfl (Nat.le_of_ble_eq_true rfl) dX7_ask_54 ?_
        obtain ⟨er, eg⟩ := Prod.mk.inj (Option.some.inj h)
        exact v_iret X dX7_ask_57 er eg
      · replace h := (if_pos cv11).symm.trans h
        refine v_aloadn X dX7_ask_41 rfl rfl ?_
        obtain ⟨rv20, gv19, qv18, h⟩ := bd2_some h
        refine v_callVI (As := []) (rest := [.ref (ad (1, 0, 0))]) X (c_X3_sizeBody l D ad cy X.2.2.2.2.2.2.2.2.1 N 0 jv9 gv6 rv20 gv19 (by omega) (by omega) qv18) mw_X3_sizeBody ml_X7_299 (by decide) (k_paper (by omega) (by omega)) (by decide) rfl rfl rfl rfl (Nat.le_of_ble_eq_true rfl) dX7_ask_42 ?_
        refine v_goto X 52 dX7_ask_45 (by decide) ?_
        refine v_aloadn X dX7_ask_52 rfl rfl ?_
        refine v_iloadn X dX7_ask_53 rfl rfl ?_
        obtain ⟨rv23, gv22, qv21, h⟩ := bd2_some h
        refine v_callVI (As := [.int rv20, .ref (ad (3, 0, jv9)), .int x1]) (rest := []) X (c_X1_begin l D ad cy X.2.2.2.2.2.2.2.2.1 N rv20 0 jv9 x1 gv19 rv23 gv22 (by omega) (by omega) qv21) mw_X1_begin ml_X7_305 (by decide) (by decide +kernel) (by decide) rfl rfl rfl rfl (Nat.le_of_ble_eq_true rfl) dX7_ask_54 ?_
        obtain ⟨er, eg⟩ := Prod.mk.inj (Option.some.inj h)
        exact v_iret X dX7_ask_57 er eg
    · replace h := (if_pos cv8).symm.trans h
      refine v_ldc X kc_X7_75 dX7_ask_20 ?_
      obtain ⟨er, eg⟩ := Prod.mk.inj (Option.some.inj h)
      exact v_iret X dX7_ask_22 er eg
def F_X7_blow (N : Nat) (x1 : Int32) (x2 : Int32) (g : GS) : Option (Int32 × GS) := bd2 (F_X4_hasWind N 0 x1 g) (fun rv3 gv2 => if rv3 = 0 then some ((-1000001 : Int32), gv2) else bd2 (F_X7_isWithin N x2 (0 : Int32) (9 : Int32) gv2) (fun rv7 gv6 => if rv7 = 0 then some ((-1000001 : Int32), gv6) else bd1 (F_X0_keep N 0 gv6) (fun gv10 => bd1 (ix x1 6) (fun jv11 => some ((gv10 12 0 jv11), (g3 gv10 12 0 jv11 x2))))))
set_option maxRecDepth 100000 in
set_option maxHeartbeats 4000000 in
theorem c_X7_blow (l : Launch) (D : va_G) (ad : Ky → Nat) (cy : Nat → ClassId) (hI : Inj ad) (N : Nat) (x1 : Int32) (x2 : Int32) (g : GS) (r : Int32) (gq : GS) (h : F_X7_blow N x1 x2 g = some (r, gq)) : CtI l D ad cy yX7_blow cX7_blow 4 (some .int) 3 [.ref (ad (7, 0, 0)), .int x1, .int x2] g r gq := by
  refine CtI.of 1 hI (by decide +kernel) rfl (Nat.le_of_ble_eq_true rfl) (fun p e s m args below meth c X => ?_)
  unfold F_X7_blow at h
  show Vy _ _ _ _ _ _ _ _ _ _ _ _ _ _ _ 0 [some (.ref (ad (7, 0, 0))), some (.int x1), some (.int x2), none] [] g
  refine v_aloadn X dX7_blow_0 rfl rfl ?_
  refine gf_X7_33 X dX7_blow_1 ?_
  refine v_iloadn X dX7_blow_4 rfl rfl ?_
  obtain ⟨rv3, gv2, qv1, h⟩ := bd2_some h
  refine v_callVI (As := [.int x1]) (rest := []) X (c_X4_hasWind l D ad cy X.2.2.2.2.2.2.2.2.1 N 0 x1 g rv3 gv2 (by omega) qv1) mw_X4_hasWind ml_X7_201 (by decide) (k_roof (by omega)) (by decide) rfl rfl rfl rfl (Nat.le_of_ble_eq_true rfl) dX7_blow_5 ?_
  refine v_if_eq X 21 dX7_blow_8 (by decide) (fun cv4 => ?_) (fun cv4 => ?_)
  · replace h := (if_pos cv4).symm.trans h
    refine v_ldc X kc_X7_75 dX7_blow_21 ?_
    obtain ⟨er, eg⟩ := Prod.mk.inj (Option.some.inj h)
    exact v_iret X dX7_blow_23 er eg
  · replace h := (if_neg cv4).symm.trans h
    refine v_iloadn X dX7_blow_11 rfl rfl ?_
    refine v_iconst (v := 0) X dX7_blow_12 (by decide) ?_
    refine v_bipush (v := 9) X dX7_blow_13 (by decide) ?_
    obtain ⟨rv7, gv6, qv5, h⟩ := bd2_some h
    refine v_callSI (As := [.int x2, .int (0 : Int32), .int (9 : Int32)]) (rest := []) X (c_X7_isWithin l D ad cy X.2.2.2.2.2.2.2.2.1 N x2 (0 : Int32) (9 : Int32) gv2 rv7 gv6  qv5) mw_X7_isWithin ml_X7_71 (by decide) rfl rfl (Nat.le_of_ble_eq_true rfl) dX7_blow_15 ?_
    refine v_if_ne X 24 dX7_blow_18 (by decide) (fun cv8 => ?_) (fun cv8 => ?_)
    · replace h := (if_neg cv8).symm.trans h
      refine v_aloadn X dX7_blow_24 rfl rfl ?_
      refine gf_X7_41 X dX7_blow_25 ?_
      refine v_aloadn X dX7_blow_28 rfl rfl ?_
      refine gf_X7_33 X dX7_blow_29 ?_
      obtain ⟨gv10, qv9, h⟩ := bd1_some h
      refine v_callVV (As := [.ref (ad (4, 0, 0))]) (rest := []) X (c_X0_keep l D ad cy X.2.2.2.2.2.2.2.2.1 N 0 gv6 gv10 (by omega) qv9) mw_X0_keep ml_X7_158 (by decide) (by decide +kernel) (by decide) rfl rfl rfl rfl (Nat.le_of_ble_eq_true rfl) dX7_blow_32 ?_
      refine v_aloadn X dX7_blow_35 rfl rfl ?_
      refine gf_X7_33 X dX7_blow_36 ?_
      refine gf_X7_204 X (k_roof (by omega)) dX7_blow_39 ?_
      refine v_iloadn X dX7_blow_42 rfl rfl ?_
      obtain ⟨jv11, qv12, h⟩ := bd1_some h
      obtain ⟨ejv11, ljv11⟩ := ix_spec qv12
      refine alF X (k_forces (by omega)) jv11 ejv11 ljv11 dX7_blow_43 ?_
      refine v_istoren (lc' := [some (.ref (ad (7, 0, 0))), some (.int x1), some (.int x2), some (.int (gv10 12 0 jv11))]) X dX7_blow_44 rfl (by decide) rfl rfl ?_
      refine v_aloadn X dX7_blow_45 rfl rfl ?_
      refine gf_X7_33 X dX7_blow_46 ?_
      refine gf_X7_204 X (k_roof (by omega)) dX7_blow_49 ?_
      refine v_iloadn X dX7_blow_52 rfl rfl ?_
      refine v_iloadn X dX7_blow_53 rfl rfl ?_
      refine asF X (k_forces (by omega)) jv11 ejv11 ljv11 dX7_blow_54 ?_
      refine v_iloadn X dX7_blow_55 rfl rfl ?_
      obtain ⟨er, eg⟩ := Prod.mk.inj (Option.some.inj h)
      exact v_iret X dX7_blow_56 er eg
    · replace h := (if_pos cv8).symm.trans h
      refine v_ldc X kc_X7_75 dX7_blow_21 ?_
      obtain ⟨er, eg⟩ := Prod.mk.inj (Option.some.inj h)
      exact v_iret X dX7_blow_23 er eg
def L_X7_greatestDivisor_3 (N : Nat) : Nat → Int64 → Int64 → Int32 → GS → Option (Int64 × Int64 × Int32 × GS)
  | 0, _, _, _, _ => none
  | n + 1, y0, y2, y4, g => if (100 : Int32) ≤ y4 then some (y0, y2, y4, g) else if (lg_cmp y2 (0 : Int64)) = 0 then some (y0, y2, y4, g) else if y2 = 0 then none else L_X7_greatestDivisor_3 N n y2 (y0 - y0 / y2 * y2) (y4 + 1) g
def F_X7_greatestDivisor (N : Nat) (x0 : Int64) (x2 : Int64) (g : GS) : Option (Int64 × GS) := bd4 (L_X7_greatestDivisor_3 N N x0 x2 (0 : Int32) g) (fun xv4 xv5 xv6 gv7 => some (xv4, gv7))
set_option maxRecDepth 100000 in
set_option maxHeartbeats 4000000 in
theorem w_X7_greatestDivisor_3 {p : Program} {l : Launch} {e : Env} {s : State} {m : MethodId} {args : Array Value} {below : List Frame} {meth : Method} {c : Code} {D : va_G} {ad : Ky → Nat} {cy : Nat → ClassId} {r : Int64} {gq : GS} {N : Nat} (X : Cx p (rmd 0) s m args meth c RX7 cX7_greatestDivisor 7 (some .long) D ad cy) : ∀ (n : Nat) (y0 : Int64) (y2 : Int64) (y4 : Int32) (g : GS) (y0' : Int64) (y2' : Int64) (y4' : Int32) (g' : GS), L_X7_greatestDivisor_3 N n y0 y2 y4 g = some (y0', y2', y4', g') → Vy p l e (rmd 0) s m args below meth c 7 D ad cy (QL D ad cy below args s r gq) 32 [some (.long y0'), none, some (.long y2'), none, some (.int y4'), none, none] [] g' → Vy p l e (rmd 0) s m args below meth c 7 D ad cy (QL D ad cy below args s r gq) 3 [some (.long y0), none, some (.long y2), none, some (.int y4), none, none] [] g := by
  intro n
  induction n with
  | zero => intro y0 y2 y4 g y0' y2' y4' g' h k; cases h
  | succ n ih =>
    intro y0 y2 y4 g y0' y2' y4' g' h k
    rw [L_X7_greatestDivisor_3] at h
    refine v_iload X dX7_greatestDivisor_3 rfl ?_
    refine v_bipush (v := 100) X dX7_greatestDivisor_5 (by decide) ?_
    refine v_icmp_ge X 32 dX7_greatestDivisor_7 (by decide) (fun cv1 => ?_) (fun cv1 => ?_)
    · replace h := (if_pos cv1).symm.trans h
      cases h
      exact k
    · replace h := (if_neg cv1).symm.trans h
      refine v_lloadn X dX7_greatestDivisor_10 rfl rfl ?_
      refine v_lconst (v := 0) X dX7_greatestDivisor_11 (by decide) ?_
      refine v_lcmp X dX7_greatestDivisor_12 ?_
      refine v_if_eq X 32 dX7_greatestDivisor_13 (by decide) (fun cv2 => ?_) (fun cv2 => ?_)
      · replace h := (if_pos cv2).symm.trans h
        cases h
        exact k
      · replace h := (if_neg cv2).symm.trans h
        refine v_lloadn X dX7_greatestDivisor_16 rfl rfl ?_
        refine v_lloadn X dX7_greatestDivisor_17 rfl rfl ?_
        by_cases cv3 : y2 = 0
        · replace h := (if_pos cv3).symm.trans h
          cases h
        replace h := (if_neg cv3).symm.trans h
        refine v_lrem X dX7_greatestDivisor_18 cv3 ?_
        refine v_lstore (lc' := [some (.long y0), none, some (.long y2), none, some (.int y4), some (.long (y0 - y0 / y2 * y2)), none]) X dX7_greatestDivisor_19 (by decide) rfl rfl ?_
        refine v_lloadn X dX7_greatestDivisor_21 rfl rfl ?_
        refine v_lstoren (lc' := [some (.long y2), none, some (.long y2), none, some (.int y4), some (.long (y0 - y0 / y2 * y2)), none]) X dX7_greatestDivisor_22 rfl (by decide) rfl rfl ?_
        refine v_lload X dX7_greatestDivisor_23 rfl ?_
        refine v_lstoren (lc' := [some (.long y2), none, some (.long (y0 - y0 / y2 * y2)), none, some (.int y4), some (.long (y0 - y0 / y2 * y2)), none]) X dX7_greatestDivisor_25 rfl (by decide) rfl rfl ?_
        refine v_iinc (v := (y4 + 1)) (lc' := [some (.long y2), none, some (.long (y0 - y0 / y2 * y2)), none, some (.int (y4 + 1)), some (.long (y0 - y0 / y2 * y2)), none]) X dX7_greatestDivisor_26 rfl rfl (by decide) rfl rfl ?_
        refine v_goto X 3 dX7_greatestDivisor_29 (by decide) ?_
        refine v_weak (lc2 := [some (.long y2), none, some (.long (y0 - y0 / y2 * y2)), none, some (.int (y4 + 1)), none, none]) ⟨rfl, rfl, rfl, trivial⟩ ?_
        exact ih y2 (y0 - y0 / y2 * y2) (y4 + 1) g _ _ _ _ h k
set_option maxRecDepth 100000 in
set_option maxHeartbeats 4000000 in
theorem c_X7_greatestDivisor (l : Launch) (D : va_G) (ad : Ky → Nat) (cy : Nat → ClassId) (hI : Inj ad) (N : Nat) (x0 : Int64) (x2 : Int64) (g : GS) (r : Int64) (gq : GS) (h : F_X7_greatestDivisor N x0 x2 g = some (r, gq)) : CtL l D ad cy yX7_greatestDivisor cX7_greatestDivisor 7 0 [.long x0, .long x2] g r gq := by
  refine CtL.of 3 hI (by decide +kernel) rfl (Nat.le_of_ble_eq_true rfl) (fun p e s m args below meth c X => ?_)
  unfold F_X7_greatestDivisor at h
  show Vy _ _ _ _ _ _ _ _ _ _ _ _ _ _ _ 0 [some (.long x0), none, some (.long x2), none, none, none, none] [] g
  refine v_iconst (v := 0) X dX7_greatestDivisor_0 (by decide) ?_
  refine v_istore (lc' := [some (.long x0), none, some (.long x2), none, some (.int (0 : Int32)), none, none]) X dX7_greatestDivisor_1 (by decide) rfl rfl ?_
  obtain ⟨xv4, xv5, xv6, gv7, qv8, h⟩ := bd4_some h
  refine w_X7_greatestDivisor_3 X  N x0 x2 (0 : Int32) g xv4 xv5 xv6 gv7 qv8 ?_
  refine v_lloadn X dX7_greatestDivisor_32 rfl rfl ?_
  obtain ⟨er, eg⟩ := Prod.mk.inj (Option.some.inj h)
  exact v_lret X dX7_greatestDivisor_33 er eg
def F_X7_calm (N : Nat) (x1 : Int32) (x2 : Int32) (x3 : Int32) (x4 : Int32) (g : GS) : Option (Int64 × GS) := bd2 (F_X4_hasPaper N 0 x1 g) (fun rv3 gv2 => if rv3 = 0 then some ((-1000001 : Int64), gv2) else bd2 (F_X7_isWithin N x2 (0 : Int32) (8 : Int32) gv2) (fun rv7 gv6 => if rv7 = 0 then some ((-1000001 : Int64), gv6) else bd2 (F_X7_isWithin N x3 (0 : Int32) (10 : Int32) gv6) (fun rv11 gv10 => if rv11 = 0 then some ((-1000001 : Int64), gv10) else bd2 (F_X7_isWithin N x4 (0 : Int32) (1 : Int32) gv10) (fun rv15 gv14 => if rv15 = 0 then some ((-1000001 : Int64), gv14) else bd2 (F_X2_calmCases N x1 x2 x3 gv14) (fun rv19 gv18 => bd2 (F_X7_power N (10 : Int64) x2 gv18) (fun rv22 gv21 => bd2 (F_X7_greatestDivisor N rv19 rv22 gv21) (fun rv25 gv24 => if (lg_cmp rv25 (0 : Int64)) = 0 then some ((-1000001 : Int64), gv24) else if x4 = 0 then if rv25 = 0 then none else some ((rv19 / rv25), gv24) else if rv25 = 0 then none else some ((rv22 / rv25), gv24))))))))
set_option maxRecDepth 100000 in
set_option maxHeartbeats 4000000 in
theorem c_X7_calm (l : Launch) (D : va_G) (ad : Ky → Nat) (cy : Nat → ClassId) (hI : Inj ad) (N : Nat) (x1 : Int32) (x2 : Int32) (x3 : Int32) (x4 : Int32) (g : GS) (r : Int64) (gq : GS) (h : F_X7_calm N x1 x2 x3 x4 g = some (r, gq)) : CtL l D ad cy yX7_calm cX7_calm 11 4 [.ref (ad (7, 0, 0)), .int x1, .int x2, .int x3, .int x4] g r gq := by
  refine CtL.of 6 hI (by decide +kernel) rfl (Nat.le_of_ble_eq_true rfl) (fun p e s m args below meth c X => ?_)
  unfold F_X7_calm at h
  show Vy _ _ _ _ _ _ _ _ _ _ _ _ _ _ _ 0 [some (.ref (ad (7, 0, 0))), some (.int x1), some (.int x2), some (.int x3), some (.int x4), none, none, none, none, none, none] [] g
  refine v_aloadn X dX7_calm_0 rfl rfl ?_
  refine gf_X7_33 X dX7_calm_1 ?_
  refine v_iloadn X dX7_calm_4 rfl rfl ?_
  obtain ⟨rv3, gv2, qv1, h⟩ := bd2_some h
  refine v_callVI (As := [.int x1]) (rest := []) X (c_X4_hasPaper l D ad cy X.2.2.2.2.2.2.2.2.1 N 0 x1 g rv3 gv2 (by omega) qv1) mw_X4_hasPaper ml_X7_171 (by decide) (k_roof (by omega)) (by decide) rfl rfl rfl rfl (Nat.le_of_ble_eq_true rfl) dX7_calm_5 ?_
  refine v_if_eq X 41 dX7_calm_8 (by decide) (fun cv4 => ?_) (fun cv4 => ?_)
  · replace h := (if_pos cv4).symm.trans h
    refine v_ldc2 X kl_X7_268 dX7_calm_41 ?_
    obtain ⟨er, eg⟩ := Prod.mk.inj (Option.some.inj h)
    exact v_lret X dX7_calm_44 er eg
  · replace h := (if_neg cv4).symm.trans h
    refine v_iloadn X dX7_calm_11 rfl rfl ?_
    refine v_iconst (v := 0) X dX7_calm_12 (by decide) ?_
    refine v_bipush (v := 8) X dX7_calm_13 (by decide) ?_
    obtain ⟨rv7, gv6, qv5, h⟩ := bd2_some h
    refine v_callSI (As := [.int x2, .int (0 : Int32), .int (8 : Int32)]) (rest := []) X (c_X7_isWithin l D ad cy X.2.2.2.2.2.2.2.2.1 N x2 (0 : Int32) (8 : Int32) gv2 rv7 gv6  qv5) mw_X7_isWithin ml_X7_71 (by decide) rfl rfl (Nat.le_of_ble_eq_true rfl) dX7_calm_15 ?_
    refine v_if_eq X 41 dX7_calm_18 (by decide) (fun cv8 => ?_) (fun cv8 => ?_)
    · replace h := (if_pos cv8).symm.trans h
      refine v_ldc2 X kl_X7_268 dX7_calm_41 ?_
      obtain ⟨er, eg⟩ := Prod.mk.inj (Option.some.inj h)
      exact v_lret X dX7_calm_44 er eg
    · replace h := (if_neg cv8).symm.trans h
      refine v_iloadn X dX7_calm_21 rfl rfl ?_
      refine v_iconst (v := 0) X dX7_calm_22 (by decide) ?_
      refine v_bipush (v := 10) X dX7_calm_23 (by decide) ?_
      obtain ⟨rv11, gv10, qv9, h⟩ := bd2_some h
      refine v_callSI (As := [.int x3, .int (0 : Int32), .int (10 : Int32)]) (rest := []) X (c_X7_isWithin l D ad cy X.2.2.2.2.2.2.2.2.1 N x3 (0 : Int32) (10 : Int32) gv6 rv11 gv10  qv9) mw_X7_isWithin ml_X7_71 (by decide) rfl rfl (Nat.le_of_ble_eq_true rfl) dX7_calm_25 ?_
      refine v_if_eq X 41 dX7_calm_28 (by decide) (fun cv12 => ?_) (fun cv12 => ?_)
      · replace h := (if_pos cv12).symm.trans h
        refine v_ldc2 X kl_X7_268 dX7_calm_41 ?_
        obtain ⟨er, eg⟩ := Prod.mk.inj (Option.some.inj h)
        exact v_lret X dX7_calm_44 er eg
      · replace h := (if_neg cv12).symm.trans h
        refine v_iload X dX7_calm_31 rfl ?_
        refine v_iconst (v := 0) X dX7_calm_33 (by decide) ?_
        refine v_iconst (v := 1) X dX7_calm_34 (by decide) ?_
        obtain ⟨rv15, gv14, qv13, h⟩ := bd2_some h
        refine v_callSI (As := [.int x4, .int (0 : Int32), .int (1 : Int32)]) (rest := []) X (c_X7_isWithin l D ad cy X.2.2.2.2.2.2.2.2.1 N x4 (0 : Int32) (1 : Int32) gv10 rv15 gv14  qv13) mw_X7_isWithin ml_X7_71 (by decide) rfl rfl (Nat.le_of_ble_eq_true rfl) dX7_calm_35 ?_
        refine v_if_ne X 45 dX7_calm_38 (by decide) (fun cv16 => ?_) (fun cv16 => ?_)
        · replace h := (if_neg cv16).symm.trans h
          refine v_aloadn X dX7_calm_45 rfl rfl ?_
          refine gf_X7_25 X dX7_calm_46 ?_
          refine v_iloadn X dX7_calm_49 rfl rfl ?_
          refine v_iloadn X dX7_calm_50 rfl rfl ?_
          refine v_iloadn X dX7_calm_51 rfl rfl ?_
          obtain ⟨rv19, gv18, qv17, h⟩ := bd2_some h
          refine v_callVL (As := [.int x1, .int x2, .int x3]) (rest := []) X (c_X2_calmCases l D ad cy X.2.2.2.2.2.2.2.2.1 N x1 x2 x3 gv14 rv19 gv18  qv17) mw_X2_calmCases ml_X7_270 (by decide) (by decide +kernel) (by decide) rfl rfl rfl rfl (Nat.le_of_ble_eq_true rfl) dX7_calm_52 ?_
          refine v_lstore (lc' := [some (.ref (ad (7, 0, 0))), some (.int x1), some (.int x2), some (.int x3), some (.int x4), some (.long rv19), none, none, none, none, none]) X dX7_calm_55 (by decide) rfl rfl ?_
          refine v_ldc2 X kl_X7_274 dX7_calm_57 ?_
          refine v_iloadn X dX7_calm_60 rfl rfl ?_
          obtain ⟨rv22, gv21, qv20, h⟩ := bd2_some h
          refine v_callSL (As := [.long (10 : Int64), .int x2]) (rest := []) X (c_X7_power l D ad cy X.2.2.2.2.2.2.2.2.1 N (10 : Int64) x2 gv18 rv22 gv21  qv20) mw_X7_power ml_X7_276 (by decide) rfl rfl (Nat.le_of_ble_eq_true rfl) dX7_calm_61 ?_
          refine v_lstore (lc' := [some (.ref (ad (7, 0, 0))), some (.int x1), some (.int x2), some (.int x3), some (.int x4), some (.long rv19), none, some (.long rv22), none, none, none]) X dX7_calm_64 (by decide) rfl rfl ?_
          refine v_lload X dX7_calm_66 rfl ?_
          refine v_lload X dX7_calm_68 rfl ?_
          obtain ⟨rv25, gv24, qv23, h⟩ := bd2_some h
          refine v_callSL (As := [.long rv19, .long rv22]) (rest := []) X (c_X7_greatestDivisor l D ad cy X.2.2.2.2.2.2.2.2.1 N rv19 rv22 gv21 rv25 gv24  qv23) mw_X7_greatestDivisor ml_X7_280 (by decide) rfl rfl (Nat.le_of_ble_eq_true rfl) dX7_calm_70 ?_
          refine v_lstore (lc' := [some (.ref (ad (7, 0, 0))), some (.int x1), some (.int x2), some (.int x3), some (.int x4), some (.long rv19), none, some (.long rv22), none, some (.long rv25), none]) X dX7_calm_73 (by decide) rfl rfl ?_
          refine v_lload X dX7_calm_75 rfl ?_
          refine v_lconst (v := 0) X dX7_calm_77 (by decide) ?_
          refine v_lcmp X dX7_calm_78 ?_
          refine v_if_ne X 86 dX7_calm_79 (by decide) (fun cv26 => ?_) (fun cv26 => ?_)
          · replace h := (if_neg cv26).symm.trans h
            refine v_iload X dX7_calm_86 rfl ?_
            refine v_if_ne X 96 dX7_calm_88 (by decide) (fun cv27 => ?_) (fun cv27 => ?_)
            · replace h := (if_neg cv27).symm.trans h
              refine v_lload X dX7_calm_96 rfl ?_
              refine v_lload X dX7_calm_98 rfl ?_
              by_cases cv28 : rv25 = 0
              · replace h := (if_pos cv28).symm.trans h
                cases h
              replace h := (if_neg cv28).symm.trans h
              refine v_ldiv X dX7_calm_100 cv28 ?_
              obtain ⟨er, eg⟩ := Prod.mk.inj (Option.some.inj h)
              exact v_lret X dX7_calm_101 er eg
            · replace h := (if_pos cv27).symm.trans h
              refine v_lload X dX7_calm_91 rfl ?_
              refine v_goto X 98 dX7_calm_93 (by decide) ?_
              refine v_lload X dX7_calm_98 rfl ?_
              by_cases cv29 : rv25 = 0
              · replace h := (if_pos cv29).symm.trans h
                cases h
              replace h := (if_neg cv29).symm.trans h
              refine v_ldiv X dX7_calm_100 cv29 ?_
              obtain ⟨er, eg⟩ := Prod.mk.inj (Option.some.inj h)
              exact v_lret X dX7_calm_101 er eg
          · replace h := (if_pos cv26).symm.trans h
            refine v_ldc2 X kl_X7_268 dX7_calm_82 ?_
            obtain ⟨er, eg⟩ := Prod.mk.inj (Option.some.inj h)
            exact v_lret X dX7_calm_85 er eg
        · replace h := (if_pos cv16).symm.trans h
          refine v_ldc2 X kl_X7_268 dX7_calm_41 ?_
          obtain ⟨er, eg⟩ := Prod.mk.inj (Option.some.inj h)
          exact v_lret X dX7_calm_44 er eg
def F_X7_isRow (N : Nat) (x0 : Int32) (g : GS) : Option (Int32 × GS) := bd2 (F_X7_isWithin N x0 (0 : Int32) (7 : Int32) g) (fun rv3 gv2 => if rv3 = 0 ∨ rv3 = 1 then some (rv3, gv2) else none)
set_option maxRecDepth 100000 in
set_option maxHeartbeats 4000000 in
theorem c_X7_isRow (l : Launch) (D : va_G) (ad : Ky → Nat) (cy : Nat → ClassId) (hI : Inj ad) (N : Nat) (x0 : Int32) (g : GS) (r : Int32) (gq : GS) (h : F_X7_isRow N x0 g = some (r, gq)) : CtI l D ad cy yX7_isRow cX7_isRow 1 (some .boolean) 1 [.int x0] g r gq := by
  refine CtI.of 0 hI (by decide +kernel) rfl (Nat.le_of_ble_eq_true rfl) (fun p e s m args below meth c X => ?_)
  unfold F_X7_isRow at h
  show Vy _ _ _ _ _ _ _ _ _ _ _ _ _ _ _ 0 [some (.int x0)] [] g
  refine v_iloadn X dX7_isRow_0 rfl rfl ?_
  refine v_iconst (v := 0) X dX7_isRow_1 (by decide) ?_
  refine v_bipush (v := 7) X dX7_isRow_2 (by decide) ?_
  obtain ⟨rv3, gv2, qv1, h⟩ := bd2_some h
  refine v_callSI (As := [.int x0, .int (0 : Int32), .int (7 : Int32)]) (rest := []) X (c_X7_isWithin l D ad cy X.2.2.2.2.2.2.2.2.1 N x0 (0 : Int32) (7 : Int32) g rv3 gv2  qv1) mw_X7_isWithin ml_X7_71 (by decide) rfl rfl (Nat.le_of_ble_eq_true rfl) dX7_isRow_4 ?_
  by_cases cv4 : rv3 = 0 ∨ rv3 = 1
  · replace h := (if_pos cv4).symm.trans h
    obtain ⟨er, eg⟩ := Prod.mk.inj (Option.some.inj h)
    exact v_zret X dX7_isRow_7 (nb cv4) er eg
  · replace h := (if_neg cv4).symm.trans h
    cases h
def F_X7_copy (N : Nat) (x1 : Int32) (x2 : Int32) (x3 : Int32) (x4 : Int32) (x5 : Int32) (g : GS) : Option (Int32 × GS) := bd2 (F_X7_isRow N x1 g) (fun rv3 gv2 => if rv3 = 0 then some ((-1000001 : Int32), gv2) else bd2 (F_X7_isRow N x3 gv2) (fun rv7 gv6 => if rv7 = 0 then some ((-1000001 : Int32), gv6) else bd1 (ix x1 8) (fun jv9 => bd1 (ix x3 8) (fun jv11 => bd2 (F_X5_isMissing N jv9 gv6) (fun rv15 gv14 => if rv15 = 0 then bd2 (F_X5_isMissing N jv11 gv14) (fun rv22 gv21 => if rv22 = 0 then if (gv21 1 jv9 0) = (gv21 1 jv11 0) then bd2 (F_X5_hasPlaces N jv9 x2 x5 gv21) (fun rv27 gv26 => if rv27 = 0 then bd2 (F_X7_found N (2 : Int32) gv26) (fun rv31 gv30 => some (rv31, gv30)) else bd2 (F_X5_hasPlaces N jv11 x4 x5 gv26) (fun rv34 gv33 => if rv34 = 0 then bd2 (F_X7_found N (2 : Int32) gv33) (fun rv42 gv41 => some (rv42, gv41)) else bg (okcpy x2 x4 x5) (bd2 (F_X7_unfound N x5 (g2 gv33 2 jv11 (va_cpy (gv33 2 jv9) (gv33 2 jv11) x2.toNatClampNeg x4.toNatClampNeg x5.toNatClampNeg))) (fun rv39 gv38 => some (rv39, gv38))))) else bd2 (F_X7_found N (5 : Int32) gv21) (fun rv45 gv44 => some (rv45, gv44)) else bd2 (F_X7_found N (1 : Int32) gv21) (fun rv48 gv47 => some (rv48, gv47))) else bd2 (F_X7_found N (1 : Int32) gv14) (fun rv19 gv18 => some (rv19, gv18)))))))
set_option maxRecDepth 100000 in
set_option maxHeartbeats 4000000 in
theorem c_X7_copy (l : Launch) (D : va_G) (ad : Ky → Nat) (cy : Nat → ClassId) (hI : Inj ad) (N : Nat) (x1 : Int32) (x2 : Int32) (x3 : Int32) (x4 : Int32) (x5 : Int32) (g : GS) (r : Int32) (gq : GS) (h : F_X7_copy N x1 x2 x3 x4 x5 g = some (r, gq)) : CtI l D ad cy yX7_copy cX7_copy 8 (some .int) 2 [.ref (ad (7, 0, 0)), .int x1, .int x2, .int x3, .int x4, .int x5] g r gq := by
  refine CtI.of 2 hI (by decide +kernel) rfl (Nat.le_of_ble_eq_true rfl) (fun p e s m args below meth c X => ?_)
  unfold F_X7_copy at h
  show Vy _ _ _ _ _ _ _ _ _ _ _ _ _ _ _ 0 [some (.ref (ad (7, 0, 0))), some (.int x1), some (.int x2), some (.int x3), some (.int x4), some (.int x5), none, none] [] g
  refine v_iloadn X dX7_copy_0 rfl rfl ?_
  obtain ⟨rv3, gv2, qv1, h⟩ := bd2_some h
  refine v_callSI (As := [.int x1]) (rest := []) X (c_X7_isRow l D ad cy X.2.2.2.2.2.2.2.2.1 N x1 g rv3 gv2  qv1) mw_X7_isRow ml_X7_67 (by decide) rfl rfl (Nat.le_of_ble_eq_true rfl) dX7_copy_1 ?_
  refine v_if_eq X 14 dX7_copy_4 (by decide) (fun cv4 => ?_) (fun cv4 => ?_)
  · replace h := (if_pos cv4).symm.trans h
    refine v_ldc X kc_X7_75 dX7_copy_14 ?_
    obtain ⟨er, eg⟩ := Prod.mk.inj (Option.some.inj h)
    exact v_iret X dX7_copy_16 er eg
  · replace h := (if_neg cv4).symm.trans h
    refine v_iloadn X dX7_copy_7 rfl rfl ?_
    obtain ⟨rv7, gv6, qv5, h⟩ := bd2_some h
    refine v_callSI (As := [.int x3]) (rest := []) X (c_X7_isRow l D ad cy X.2.2.2.2.2.2.2.2.1 N x3 gv2 rv7 gv6  qv5) mw_X7_isRow ml_X7_67 (by decide) rfl rfl (Nat.le_of_ble_eq_true rfl) dX7_copy_8 ?_
    refine v_if_ne X 17 dX7_copy_11 (by decide) (fun cv8 => ?_) (fun cv8 => ?_)
    · replace h := (if_neg cv8).symm.trans h
      refine v_aloadn X dX7_copy_17 rfl rfl ?_
      refine gf_X7_11 X dX7_copy_18 ?_
      refine v_iloadn X dX7_copy_21 rfl rfl ?_
      obtain ⟨jv9, qv10, h⟩ := bd1_some h
      obtain ⟨ejv9, ljv9⟩ := ix_spec qv10
      refine aaR X jv9 ejv9 ljv9 dX7_copy_22 ?_
      refine v_astore (lc' := [some (.ref (ad (7, 0, 0))), some (.int x1), some (.int x2), some (.int x3), some (.int x4), some (.int x5), some (.ref (ad (5, jv9, 0))), none]) X dX7_copy_23 (by decide) rfl rfl ?_
      refine v_aloadn X dX7_copy_25 rfl rfl ?_
      refine gf_X7_11 X dX7_copy_26 ?_
      refine v_iloadn X dX7_copy_29 rfl rfl ?_
      obtain ⟨jv11, qv12, h⟩ := bd1_some h
      obtain ⟨ejv11, ljv11⟩ := ix_spec qv12
      refine aaR X jv11 ejv11 ljv11 dX7_copy_30 ?_
      refine v_astore (lc' := [some (.ref (ad (7, 0, 0))), some (.int x1), some (.int x2), some (.int x3), some (.int x4), some (.int x5), some (.ref (ad (5, jv9, 0))), some (.ref (ad (5, jv11, 0)))]) X dX7_copy_31 (by decide) rfl rfl ?_
      refine v_aload X dX7_copy_33 rfl ?_
      obtain ⟨rv15, gv14, qv13, h⟩ := bd2_some h
      refine v_callVI (As := []) (rest := []) X (c_X5_isMissing l D ad cy X.2.2.2.2.2.2.2.2.1 N jv9 gv6 rv15 gv14 (by omega) qv13) mw_X5_isMissing ml_X7_87 (by decide) (k_row (by omega)) (by decide) rfl rfl rfl rfl (Nat.le_of_ble_eq_true rfl) dX7_copy_35 ?_
      refine v_if_ne X 49 dX7_copy_38 (by decide) (fun cv16 => ?_) (fun cv16 => ?_)
      · replace h := (if_neg cv16).symm.trans h
        refine v_aloadn X dX7_copy_49 rfl rfl ?_
        refine v_iconst (v := 1) X dX7_copy_50 (by decide) ?_
        obtain ⟨rv19, gv18, qv17, h⟩ := bd2_some h
        refine v_callVI (As := [.int (1 : Int32)]) (rest := []) X (c_X7_found l D ad cy X.2.2.2.2.2.2.2.2.1 N (1 : Int32) gv14 rv19 gv18  qv17) mw_X7_found ml_X7_76 (by decide) (by decide +kernel) (by decide) rfl rfl rfl rfl (Nat.le_of_ble_eq_true rfl) dX7_copy_51 ?_
        obtain ⟨er, eg⟩ := Prod.mk.inj (Option.some.inj h)
        exact v_iret X dX7_copy_54 er eg
      · replace h := (if_pos cv16).symm.trans h
        refine v_aload X dX7_copy_41 rfl ?_
        obtain ⟨rv22, gv21, qv20, h⟩ := bd2_some h
        refine v_callVI (As := []) (rest := []) X (c_X5_isMissing l D ad cy X.2.2.2.2.2.2.2.2.1 N jv11 gv14 rv22 gv21 (by omega) qv20) mw_X5_isMissing ml_X7_87 (by decide) (k_row (by omega)) (by decide) rfl rfl rfl rfl (Nat.le_of_ble_eq_true rfl) dX7_copy_43 ?_
        refine v_if_eq X 55 dX7_copy_46 (by decide) (fun cv23 => ?_) (fun cv23 => ?_)
        · replace h := (if_pos cv23).symm.trans h
          refine v_aload X dX7_copy_55 rfl ?_
          refine gf_X7_99 X (k_row (by omega)) dX7_copy_57 ?_
          refine v_aload X dX7_copy_60 rfl ?_
          refine gf_X7_99 X (k_row (by omega)) dX7_copy_62 ?_
          refine v_icmp_eq X 74 dX7_copy_65 (by decide) (fun cv24 => ?_) (fun cv24 => ?_)
          · replace h := (if_pos cv24).symm.trans h
            refine v_aload X dX7_copy_74 rfl ?_
            refine v_iloadn X dX7_copy_76 rfl rfl ?_
            refine v_iload X dX7_copy_77 rfl ?_
            obtain ⟨rv27, gv26, qv25, h⟩ := bd2_some h
            refine v_callVI (As := [.int x2, .int x5]) (rest := []) X (c_X5_hasPlaces l D ad cy X.2.2.2.2.2.2.2.2.1 N jv9 x2 x5 gv21 rv27 gv26 (by omega) qv25) mw_X5_hasPlaces ml_X7_91 (by decide) (k_row (by omega)) (by decide) rfl rfl rfl rfl (Nat.le_of_ble_eq_true rfl) dX7_copy_79 ?_
            refine v_if_eq X 97 dX7_copy_82 (by decide) (fun cv28 => ?_) (fun cv28 => ?_)
            · replace h := (if_pos cv28).symm.trans h
              refine v_aloadn X dX7_copy_97 rfl rfl ?_
              refine v_iconst (v := 2) X dX7_copy_98 (by decide) ?_
              obtain ⟨rv31, gv30, qv29, h⟩ := bd2_some h
              refine v_callVI (As := [.int (2 : Int32)]) (rest := []) X (c_X7_found l D ad cy X.2.2.2.2.2.2.2.2.1 N (2 : Int32) gv26 rv31 gv30  qv29) mw_X7_found ml_X7_76 (by decide) (by decide +kernel) (by decide) rfl rfl rfl rfl (Nat.le_of_ble_eq_true rfl) dX7_copy_99 ?_
              obtain ⟨er, eg⟩ := Prod.mk.inj (Option.some.inj h)
              exact v_iret X dX7_copy_102 er eg
            · replace h := (if_neg cv28).symm.trans h
              refine v_aload X dX7_copy_85 rfl ?_
              refine v_iload X dX7_copy_87 rfl ?_
              refine v_iload X dX7_copy_89 rfl ?_
              obtain ⟨rv34, gv33, qv32, h⟩ := bd2_some h
              refine v_callVI (As := [.int x4, .int x5]) (rest := []) X (c_X5_hasPlaces l D ad cy X.2.2.2.2.2.2.2.2.1 N jv11 x4 x5 gv26 rv34 gv33 (by omega) qv32) mw_X5_hasPlaces ml_X7_91 (by decide) (k_row (by omega)) (by decide) rfl rfl rfl rfl (Nat.le_of_ble_eq_true rfl) dX7_copy_91 ?_
              refine v_if_ne X 103 dX7_copy_94 (by decide) (fun cv35 => ?_) (fun cv35 => ?_)
              · replace h := (if_neg cv35).symm.trans h
                refine v_aload X dX7_copy_103 rfl ?_
                refine gf_X7_102 X (k_row (by omega)) dX7_copy_105 ?_
                refine v_iloadn X dX7_copy_108 rfl rfl ?_
                refine v_aload X dX7_copy_109 rfl ?_
                refine gf_X7_102 X (k_row (by omega)) dX7_copy_111 ?_
                refine v_iload X dX7_copy_114 rfl ?_
                refine v_iload X dX7_copy_116 rfl ?_
                obtain ⟨qv36, h⟩ := bg_some h
                refine v_acopy X (by omega) (by omega) qv36 (Nat.le_of_ble_eq_true rfl) dX7_copy_118 ?_
                refine v_aloadn X dX7_copy_121 rfl rfl ?_
                refine v_iload X dX7_copy_122 rfl ?_
                obtain ⟨rv39, gv38, qv37, h⟩ := bd2_some h
                refine v_callVI (As := [.int x5]) (rest := []) X (c_X7_unfound l D ad cy X.2.2.2.2.2.2.2.2.1 N x5 (g2 gv33 2 jv11 (va_cpy (gv33 2 jv9) (gv33 2 jv11) x2.toNatClampNeg x4.toNatClampNeg x5.toNatClampNeg)) rv39 gv38  qv37) mw_X7_unfound ml_X7_84 (by decide) (by decide +kernel) (by decide) rfl rfl rfl rfl (Nat.le_of_ble_eq_true rfl) dX7_copy_124 ?_
                obtain ⟨er, eg⟩ := Prod.mk.inj (Option.some.inj h)
                exact v_iret X dX7_copy_127 er eg
              · replace h := (if_pos cv35).symm.trans h
                refine v_aloadn X dX7_copy_97 rfl rfl ?_
                refine v_iconst (v := 2) X dX7_copy_98 (by decide) ?_
                obtain ⟨rv42, gv41, qv40, h⟩ := bd2_some h
                refine v_callVI (As := [.int (2 : Int32)]) (rest := []) X (c_X7_found l D ad cy X.2.2.2.2.2.2.2.2.1 N (2 : Int32) gv33 rv42 gv41  qv40) mw_X7_found ml_X7_76 (by decide) (by decide +kernel) (by decide) rfl rfl rfl rfl (Nat.le_of_ble_eq_true rfl) dX7_copy_99 ?_
                obtain ⟨er, eg⟩ := Prod.mk.inj (Option.some.inj h)
                exact v_iret X dX7_copy_102 er eg
          · replace h := (if_neg cv24).symm.trans h
            refine v_aloadn X dX7_copy_68 rfl rfl ?_
            refine v_iconst (v := 5) X dX7_copy_69 (by decide) ?_
            obtain ⟨rv45, gv44, qv43, h⟩ := bd2_some h
            refine v_callVI (As := [.int (5 : Int32)]) (rest := []) X (c_X7_found l D ad cy X.2.2.2.2.2.2.2.2.1 N (5 : Int32) gv21 rv45 gv44  qv43) mw_X7_found ml_X7_76 (by decide) (by decide +kernel) (by decide) rfl rfl rfl rfl (Nat.le_of_ble_eq_true rfl) dX7_copy_70 ?_
            obtain ⟨er, eg⟩ := Prod.mk.inj (Option.some.inj h)
            exact v_iret X dX7_copy_73 er eg
        · replace h := (if_neg cv23).symm.trans h
          refine v_aloadn X dX7_copy_49 rfl rfl ?_
          refine v_iconst (v := 1) X dX7_copy_50 (by decide) ?_
          obtain ⟨rv48, gv47, qv46, h⟩ := bd2_some h
          refine v_callVI (As := [.int (1 : Int32)]) (rest := []) X (c_X7_found l D ad cy X.2.2.2.2.2.2.2.2.1 N (1 : Int32) gv21 rv48 gv47  qv46) mw_X7_found ml_X7_76 (by decide) (by decide +kernel) (by decide) rfl rfl rfl rfl (Nat.le_of_ble_eq_true rfl) dX7_copy_51 ?_
          obtain ⟨er, eg⟩ := Prod.mk.inj (Option.some.inj h)
          exact v_iret X dX7_copy_54 er eg
    · replace h := (if_pos cv8).symm.trans h
      refine v_ldc X kc_X7_75 dX7_copy_14 ?_
      obtain ⟨er, eg⟩ := Prod.mk.inj (Option.some.inj h)
      exact v_iret X dX7_copy_16 er eg
def L_X7_rowCount_4 (N : Nat) : Nat → Int32 → Int32 → GS → Option (Int32 × Int32 × GS)
  | 0, _, _, _ => none
  | n + 1, y1, y2, g => if (8 : Int32) ≤ y2 then some (y1, y2, g) else bd1 (ix y2 8) (fun jv2 => bd2 (F_X5_isMissing N jv2 g) (fun rv6 gv5 => if rv6 = 0 then L_X7_rowCount_4 N n (y1 + 1) (y2 + 1) gv5 else L_X7_rowCount_4 N n y1 (y2 + 1) gv5))
def F_X7_rowCount (N : Nat) (g : GS) : Option (Int32 × GS) := bd3 (L_X7_rowCount_4 N N (0 : Int32) (0 : Int32) g) (fun xv8 xv9 gv10 => some (xv8, gv10))
set_option maxRecDepth 100000 in
set_option maxHeartbeats 4000000 in
theorem w_X7_rowCount_4 {p : Program} {l : Launch} {e : Env} {s : State} {m : MethodId} {args : Array Value} {below : List Frame} {meth : Method} {c : Code} {D : va_G} {ad : Ky → Nat} {cy : Nat → ClassId} {r : Int32} {gq : GS} {N : Nat} (X : Cx p (rmd 1) s m args meth c RX7 cX7_rowCount 3 (some .int) D ad cy) : ∀ (n : Nat) (y1 : Int32) (y2 : Int32) (g : GS) (y1' : Int32) (y2' : Int32) (g' : GS), L_X7_rowCount_4 N n y1 y2 g = some (y1', y2', g') → Vy p l e (rmd 1) s m args below meth c 3 D ad cy (QI D ad cy below args s r gq) 31 [some (.ref (ad (7, 0, 0))), some (.int y1'), some (.int y2')] [] g' → Vy p l e (rmd 1) s m args below meth c 3 D ad cy (QI D ad cy below args s r gq) 4 [some (.ref (ad (7, 0, 0))), some (.int y1), some (.int y2)] [] g := by
  intro n
  induction n with
  | zero => intro y1 y2 g y1' y2' g' h k; cases h
  | succ n ih =>
    intro y1 y2 g y1' y2' g' h k
    rw [L_X7_rowCount_4] at h
    refine v_iloadn X dX7_rowCount_4 rfl rfl ?_
    refine v_bipush (v := 8) X dX7_rowCount_5 (by decide) ?_
    refine v_icmp_ge X 31 dX7_rowCount_7 (by decide) (fun cv1 => ?_) (fun cv1 => ?_)
    · replace h := (if_pos cv1).symm.trans h
      cases h
      exact k
    · replace h := (if_neg cv1).symm.trans h
      refine v_aloadn X dX7_rowCount_10 rfl rfl ?_
      refine gf_X7_11 X dX7_rowCount_11 ?_
      refine v_iloadn X dX7_rowCount_14 rfl rfl ?_
      obtain ⟨jv2, qv3, h⟩ := bd1_some h
      obtain ⟨ejv2, ljv2⟩ := ix_spec qv3
      refine aaR X jv2 ejv2 ljv2 dX7_rowCount_15 ?_
      obtain ⟨rv6, gv5, qv4, h⟩ := bd2_some h
      refine v_callVI (As := []) (rest := []) X (c_X5_isMissing l D ad cy X.2.2.2.2.2.2.2.2.1 N jv2 g rv6 gv5 (by omega) qv4) mw_X5_isMissing ml_X7_87 (by decide) (k_row (by omega)) (by decide) rfl rfl rfl rfl (Nat.le_of_ble_eq_true rfl) dX7_rowCount_16 ?_
      refine v_if_ne X 25 dX7_rowCount_19 (by decide) (fun cv7 => ?_) (fun cv7 => ?_)
      · replace h := (if_neg cv7).symm.trans h
        refine v_iinc (v := (y2 + 1)) (lc' := [some (.ref (ad (7, 0, 0))), some (.int y1), some (.int (y2 + 1))]) X dX7_rowCount_25 rfl rfl (by decide) rfl rfl ?_
        refine v_goto X 4 dX7_rowCount_28 (by decide) ?_
        exact ih y1 (y2 + 1) gv5 _ _ _ h k
      · replace h := (if_pos cv7).symm.trans h
        refine v_iinc (v := (y1 + 1)) (lc' := [some (.ref (ad (7, 0, 0))), some (.int (y1 + 1)), some (.int y2)]) X dX7_rowCount_22 rfl rfl (by decide) rfl rfl ?_
        refine v_iinc (v := (y2 + 1)) (lc' := [some (.ref (ad (7, 0, 0))), some (.int (y1 + 1)), some (.int (y2 + 1))]) X dX7_rowCount_25 rfl rfl (by decide) rfl rfl ?_
        refine v_goto X 4 dX7_rowCount_28 (by decide) ?_
        exact ih (y1 + 1) (y2 + 1) gv5 _ _ _ h k
set_option maxRecDepth 100000 in
set_option maxHeartbeats 4000000 in
theorem c_X7_rowCount (l : Launch) (D : va_G) (ad : Ky → Nat) (cy : Nat → ClassId) (hI : Inj ad) (N : Nat) (g : GS) (r : Int32) (gq : GS) (h : F_X7_rowCount N  g = some (r, gq)) : CtI l D ad cy yX7_rowCount cX7_rowCount 3 (some .int) 1 [.ref (ad (7, 0, 0))] g r gq := by
  refine CtI.of 2 hI (by decide +kernel) rfl (Nat.le_of_ble_eq_true rfl) (fun p e s m args below meth c X => ?_)
  unfold F_X7_rowCount at h
  show Vy _ _ _ _ _ _ _ _ _ _ _ _ _ _ _ 0 [some (.ref (ad (7, 0, 0))), none, none] [] g
  refine v_iconst (v := 0) X dX7_rowCount_0 (by decide) ?_
  refine v_istoren (lc' := [some (.ref (ad (7, 0, 0))), some (.int (0 : Int32)), none]) X dX7_rowCount_1 rfl (by decide) rfl rfl ?_
  refine v_iconst (v := 0) X dX7_rowCount_2 (by decide) ?_
  refine v_istoren (lc' := [some (.ref (ad (7, 0, 0))), some (.int (0 : Int32)), some (.int (0 : Int32))]) X dX7_rowCount_3 rfl (by decide) rfl rfl ?_
  obtain ⟨xv8, xv9, gv10, qv11, h⟩ := bd3_some h
  refine w_X7_rowCount_4 X  N (0 : Int32) (0 : Int32) g xv8 xv9 gv10 qv11 ?_
  refine v_iloadn X dX7_rowCount_31 rfl rfl ?_
  obtain ⟨er, eg⟩ := Prod.mk.inj (Option.some.inj h)
  exact v_iret X dX7_rowCount_32 er eg
def F_X7_count (N : Nat) (x1 : Int32) (g : GS) : Option (Int32 × GS) := if x1 = 0 then bd2 (F_X7_rowCount N  g) (fun rv4 gv3 => some (rv4, gv3)) else if x1 = 1 then some ((g 0 0 4), g) else if x1 = 2 then some ((g 0 0 3), g) else if x1 = 3 then some ((g 0 0 2), g) else if x1 = 4 then bd2 (F_X4_bitsOf N 0 (1 : Int32) g) (fun rv11 gv10 => bd2 (F_J6_bitCount_0f7a4 N rv11 gv10) (fun rv14 gv13 => some (rv14, gv13))) else if x1 = 5 then bd2 (F_X4_bitsOf N 0 (2 : Int32) g) (fun rv18 gv17 => bd2 (F_J6_bitCount_0f7a4 N rv18 gv17) (fun rv21 gv20 => some (rv21, gv20))) else if x1 = 6 then some ((g 6 0 1), g) else if x1 = 7 then some ((g 3 0 0), g) else some ((-1000001 : Int32), g)
set_option maxRecDepth 100000 in
set_option maxHeartbeats 4000000 in
theorem c_X7_count (l : Launch) (D : va_G) (ad : Ky → Nat) (cy : Nat → ClassId) (hI : Inj ad) (N : Nat) (x1 : Int32) (g : GS) (r : Int32) (gq : GS) (h : F_X7_count N x1 g = some (r, gq)) : CtI l D ad cy yX7_count cX7_count 2 (some .int) 2 [.ref (ad (7, 0, 0)), .int x1] g r gq := by
  refine CtI.of 0 hI (by decide +kernel) rfl (Nat.le_of_ble_eq_true rfl) (fun p e s m args below meth c X => ?_)
  unfold F_X7_count at h
  show Vy _ _ _ _ _ _ _ _ _ _ _ _ _ _ _ 0 [some (.ref (ad (7, 0, 0))), some (.int x1)] [] g
  refine v_iloadn X dX7_count_0 rfl rfl ?_
  by_cases cv1 : x1 = 0
  · replace h := (if_pos cv1).symm.trans h
    refine v_tableIn X 48 dX7_count_1 (by rw [cv1]; decide) (by rw [cv1]; decide) (by rw [cv1]; rfl) (by decide) ?_
    refine v_aloadn X dX7_count_48 rfl rfl ?_
    obtain ⟨rv4, gv3, qv2, h⟩ := bd2_some h
    refine v_callVI (As := []) (rest := []) X (c_X7_rowCount l D ad cy X.2.2.2.2.2.2.2.2.1 N  g rv4 gv3  qv2) mw_X7_rowCount ml_X7_311 (by decide) (by decide +kernel) (by decide) rfl rfl rfl rfl (Nat.le_of_ble_eq_true rfl) dX7_count_49 ?_
    obtain ⟨er, eg⟩ := Prod.mk.inj (Option.some.inj h)
    exact v_iret X dX7_count_52 er eg
  replace h := (if_neg cv1).symm.trans h
  by_cases cv5 : x1 = 1
  · replace h := (if_pos cv5).symm.trans h
    refine v_tableIn X 53 dX7_count_1 (by rw [cv5]; decide) (by rw [cv5]; decide) (by rw [cv5]; rfl) (by decide) ?_
    refine v_aloadn X dX7_count_53 rfl rfl ?_
    refine gf_X7_33 X dX7_count_54 ?_
    refine gf_X7_142 X (k_roof (by omega)) dX7_count_57 ?_
    obtain ⟨er, eg⟩ := Prod.mk.inj (Option.some.inj h)
    exact v_iret X dX7_count_60 er eg
  replace h := (if_neg cv5).symm.trans h
  by_cases cv6 : x1 = 2
  · replace h := (if_pos cv6).symm.trans h
    refine v_tableIn X 61 dX7_count_1 (by rw [cv6]; decide) (by rw [cv6]; decide) (by rw [cv6]; rfl) (by decide) ?_
    refine v_aloadn X dX7_count_61 rfl rfl ?_
    refine gf_X7_33 X dX7_count_62 ?_
    refine gf_X7_314 X (k_roof (by omega)) dX7_count_65 ?_
    obtain ⟨er, eg⟩ := Prod.mk.inj (Option.some.inj h)
    exact v_iret X dX7_count_68 er eg
  replace h := (if_neg cv6).symm.trans h
  by_cases cv7 : x1 = 3
  · replace h := (if_pos cv7).symm.trans h
    refine v_tableIn X 69 dX7_count_1 (by rw [cv7]; decide) (by rw [cv7]; decide) (by rw [cv7]; rfl) (by decide) ?_
    refine v_aloadn X dX7_count_69 rfl rfl ?_
    refine gf_X7_33 X dX7_count_70 ?_
    refine gf_X7_155 X (k_roof (by omega)) dX7_count_73 ?_
    obtain ⟨er, eg⟩ := Prod.mk.inj (Option.some.inj h)
    exact v_iret X dX7_count_76 er eg
  replace h := (if_neg cv7).symm.trans h
  by_cases cv8 : x1 = 4
  · replace h := (if_pos cv8).symm.trans h
    refine v_tableIn X 77 dX7_count_1 (by rw [cv8]; decide) (by rw [cv8]; decide) (by rw [cv8]; rfl) (by decide) ?_
    refine v_aloadn X dX7_count_77 rfl rfl ?_
    refine gf_X7_33 X dX7_count_78 ?_
    refine v_iconst (v := 1) X dX7_count_81 (by decide) ?_
    obtain ⟨rv11, gv10, qv9, h⟩ := bd2_some h
    refine v_callVI (As := [.int (1 : Int32)]) (rest := []) X (c_X4_bitsOf l D ad cy X.2.2.2.2.2.2.2.2.1 N 0 (1 : Int32) g rv11 gv10 (by omega) qv9) mw_X4_bitsOf ml_X7_186 (by decide) (k_roof (by omega)) (by decide) rfl rfl rfl rfl (Nat.le_of_ble_eq_true rfl) dX7_count_82 ?_
    obtain ⟨rv14, gv13, qv12, h⟩ := bd2_some h
    refine v_callSI (As := [.int rv11]) (rest := []) X (c_J6_bitCount_0f7a4 l D ad cy X.2.2.2.2.2.2.2.2.1 N rv11 gv10 rv14 gv13  qv12) mw_J6_bitCount_0f7a4 ml_X7_288 (by decide) rfl rfl (Nat.le_of_ble_eq_true rfl) dX7_count_85 ?_
    obtain ⟨er, eg⟩ := Prod.mk.inj (Option.some.inj h)
    exact v_iret X dX7_count_88 er eg
  replace h := (if_neg cv8).symm.trans h
  by_cases cv15 : x1 = 5
  · replace h := (if_pos cv15).symm.trans h
    refine v_tableIn X 89 dX7_count_1 (by rw [cv15]; decide) (by rw [cv15]; decide) (by rw [cv15]; rfl) (by decide) ?_
    refine v_aloadn X dX7_count_89 rfl rfl ?_
    refine gf_X7_33 X dX7_count_90 ?_
    refine v_iconst (v := 2) X dX7_count_93 (by decide) ?_
    obtain ⟨rv18, gv17, qv16, h⟩ := bd2_some h
    refine v_callVI (As := [.int (2 : Int32)]) (rest := []) X (c_X4_bitsOf l D ad cy X.2.2.2.2.2.2.2.2.1 N 0 (2 : Int32) g rv18 gv17 (by omega) qv16) mw_X4_bitsOf ml_X7_186 (by decide) (k_roof (by omega)) (by decide) rfl rfl rfl rfl (Nat.le_of_ble_eq_true rfl) dX7_count_94 ?_
    obtain ⟨rv21, gv20, qv19, h⟩ := bd2_some h
    refine v_callSI (As := [.int rv18]) (rest := []) X (c_J6_bitCount_0f7a4 l D ad cy X.2.2.2.2.2.2.2.2.1 N rv18 gv17 rv21 gv20  qv19) mw_J6_bitCount_0f7a4 ml_X7_288 (by decide) rfl rfl (Nat.le_of_ble_eq_true rfl) dX7_count_97 ?_
    obtain ⟨er, eg⟩ := Prod.mk.inj (Option.some.inj h)
    exact v_iret X dX7_count_100 er eg
  replace h := (if_neg cv15).symm.trans h
  by_cases cv22 : x1 = 6
  · replace h := (if_pos cv22).symm.trans h
    refine v_tableIn X 101 dX7_count_1 (by rw [cv22]; decide) (by rw [cv22]; decide) (by rw [cv22]; rfl) (by decide) ?_
    refine v_aloadn X dX7_count_101 rfl rfl ?_
    refine gf_X7_41 X dX7_count_102 ?_
    refine gf_X7_145 X dX7_count_105 ?_
    obtain ⟨er, eg⟩ := Prod.mk.inj (Option.some.inj h)
    exact v_iret X dX7_count_108 er eg
  replace h := (if_neg cv22).symm.trans h
  by_cases cv23 : x1 = 7
  · replace h := (if_pos cv23).symm.trans h
    refine v_tableIn X 109 dX7_count_1 (by rw [cv23]; decide) (by rw [cv23]; decide) (by rw [cv23]; rfl) (by decide) ?_
    refine v_aloadn X dX7_count_109 rfl rfl ?_
    refine gf_X7_18 X dX7_count_110 ?_
    refine gf_X7_118 X dX7_count_113 ?_
    obtain ⟨er, eg⟩ := Prod.mk.inj (Option.some.inj h)
    exact v_iret X dX7_count_116 er eg
  replace h := (if_neg cv23).symm.trans h
  have tv24 := tab_ne (k := 0) (n := 0) cv1 (by decide)
  have tv25 := tab_ne (k := 1) (n := 1) cv5 (by decide)
  have tv26 := tab_ne (k := 2) (n := 2) cv6 (by decide)
  have tv27 := tab_ne (k := 3) (n := 3) cv7 (by decide)
  have tv28 := tab_ne (k := 4) (n := 4) cv8 (by decide)
  have tv29 := tab_ne (k := 5) (n := 5) cv15 (by decide)
  have tv30 := tab_ne (k := 6) (n := 6) cv22 (by decide)
  have tv31 := tab_ne (k := 7) (n := 7) cv23 (by decide)
  refine v_tableOut X 117 dX7_count_1 (by omega) (by decide) ?_
  refine v_ldc X kc_X7_75 dX7_count_117 ?_
  obtain ⟨er, eg⟩ := Prod.mk.inj (Option.some.inj h)
  exact v_iret X dX7_count_119 er eg
def F_X7_drawn (N : Nat) (x1 : Int32) (x2 : Int32) (x3 : Int32) (g : GS) : Option (Int32 × GS) := bd2 (F_X4_isRead N 0 g) (fun rv3 gv2 => if rv3 = 0 then some ((-1000002 : Int32), gv2) else bd2 (F_X7_isWithin N x1 (0 : Int32) (60 : Int32) gv2) (fun rv7 gv6 => if rv7 = 0 then some ((-1000001 : Int32), gv6) else bd2 (F_X7_isWithin N x2 (1 : Int32) (999999 : Int32) gv6) (fun rv11 gv10 => if rv11 = 0 then some ((-1000001 : Int32), gv10) else bd2 (F_X7_isWithin N x3 (0 : Int32) (1 : Int32) gv10) (fun rv15 gv14 => if rv15 = 0 then some ((-1000001 : Int32), gv14) else bd1 (F_X2_draftYears N x1 x2 gv14) (fun gv18 => if x3 = 0 then bd2 (F_X4_policyBits N 1 gv18) (fun rv28 gv27 => bd2 (F_J6_bitCount_0f7a4 N rv28 gv27) (fun rv31 gv30 => some (rv31, gv30))) else bd2 (F_X4_bitsOf N 1 (2 : Int32) gv18) (fun rv22 gv21 => bd2 (F_J6_bitCount_0f7a4 N rv22 gv21) (fun rv25 gv24 => some (rv25, gv24))))))))
set_option maxRecDepth 100000 in
set_option maxHeartbeats 4000000 in
theorem c_X7_drawn (l : Launch) (D : va_G) (ad : Ky → Nat) (cy : Nat → ClassId) (hI : Inj ad) (N : Nat) (x1 : Int32) (x2 : Int32) (x3 : Int32) (g : GS) (r : Int32) (gq : GS) (h : F_X7_drawn N x1 x2 x3 g = some (r, gq)) : CtI l D ad cy yX7_drawn cX7_drawn 4 (some .int) 4 [.ref (ad (7, 0, 0)), .int x1, .int x2, .int x3] g r gq := by
  refine CtI.of 0 hI (by decide +kernel) rfl (Nat.le_of_ble_eq_true rfl) (fun p e s m args below meth c X => ?_)
  unfold F_X7_drawn at h
  show Vy _ _ _ _ _ _ _ _ _ _ _ _ _ _ _ 0 [some (.ref (ad (7, 0, 0))), some (.int x1), some (.int x2), some (.int x3)] [] g
  refine v_aloadn X dX7_drawn_0 rfl rfl ?_
  refine gf_X7_33 X dX7_drawn_1 ?_
  obtain ⟨rv3, gv2, qv1, h⟩ := bd2_some h
  refine v_callVI (As := []) (rest := []) X (c_X4_isRead l D ad cy X.2.2.2.2.2.2.2.2.1 N 0 g rv3 gv2 (by omega) qv1) mw_X4_isRead ml_X7_152 (by decide) (k_roof (by omega)) (by decide) rfl rfl rfl rfl (Nat.le_of_ble_eq_true rfl) dX7_drawn_4 ?_
  refine v_if_ne X 13 dX7_drawn_7 (by decide) (fun cv4 => ?_) (fun cv4 => ?_)
  · replace h := (if_neg cv4).symm.trans h
    refine v_iloadn X dX7_drawn_13 rfl rfl ?_
    refine v_iconst (v := 0) X dX7_drawn_14 (by decide) ?_
    refine v_bipush (v := 60) X dX7_drawn_15 (by decide) ?_
    obtain ⟨rv7, gv6, qv5, h⟩ := bd2_some h
    refine v_callSI (As := [.int x1, .int (0 : Int32), .int (60 : Int32)]) (rest := []) X (c_X7_isWithin l D ad cy X.2.2.2.2.2.2.2.2.1 N x1 (0 : Int32) (60 : Int32) gv2 rv7 gv6  qv5) mw_X7_isWithin ml_X7_71 (by decide) rfl rfl (Nat.le_of_ble_eq_true rfl) dX7_drawn_17 ?_
    refine v_if_eq X 43 dX7_drawn_20 (by decide) (fun cv8 => ?_) (fun cv8 => ?_)
    · replace h := (if_pos cv8).symm.trans h
      refine v_ldc X kc_X7_75 dX7_drawn_43 ?_
      obtain ⟨er, eg⟩ := Prod.mk.inj (Option.some.inj h)
      exact v_iret X dX7_drawn_45 er eg
    · replace h := (if_neg cv8).symm.trans h
      refine v_iloadn X dX7_drawn_23 rfl rfl ?_
      refine v_iconst (v := 1) X dX7_drawn_24 (by decide) ?_
      refine v_ldcw X kc_X7_284 dX7_drawn_25 ?_
      obtain ⟨rv11, gv10, qv9, h⟩ := bd2_some h
      refine v_callSI (As := [.int x2, .int (1 : Int32), .int (999999 : Int32)]) (rest := []) X (c_X7_isWithin l D ad cy X.2.2.2.2.2.2.2.2.1 N x2 (1 : Int32) (999999 : Int32) gv6 rv11 gv10  qv9) mw_X7_isWithin ml_X7_71 (by decide) rfl rfl (Nat.le_of_ble_eq_true rfl) dX7_drawn_28 ?_
      refine v_if_eq X 43 dX7_drawn_31 (by decide) (fun cv12 => ?_) (fun cv12 => ?_)
      · replace h := (if_pos cv12).symm.trans h
        refine v_ldc X kc_X7_75 dX7_drawn_43 ?_
        obtain ⟨er, eg⟩ := Prod.mk.inj (Option.some.inj h)
        exact v_iret X dX7_drawn_45 er eg
      · replace h := (if_neg cv12).symm.trans h
        refine v_iloadn X dX7_drawn_34 rfl rfl ?_
        refine v_iconst (v := 0) X dX7_drawn_35 (by decide) ?_
        refine v_iconst (v := 1) X dX7_drawn_36 (by decide) ?_
        obtain ⟨rv15, gv14, qv13, h⟩ := bd2_some h
        refine v_callSI (As := [.int x3, .int (0 : Int32), .int (1 : Int32)]) (rest := []) X (c_X7_isWithin l D ad cy X.2.2.2.2.2.2.2.2.1 N x3 (0 : Int32) (1 : Int32) gv10 rv15 gv14  qv13) mw_X7_isWithin ml_X7_71 (by decide) rfl rfl (Nat.le_of_ble_eq_true rfl) dX7_drawn_37 ?_
        refine v_if_ne X 46 dX7_drawn_40 (by decide) (fun cv16 => ?_) (fun cv16 => ?_)
        · replace h := (if_neg cv16).symm.trans h
          refine v_aloadn X dX7_drawn_46 rfl rfl ?_
          refine gf_X7_25 X dX7_drawn_47 ?_
          refine v_iloadn X dX7_drawn_50 rfl rfl ?_
          refine v_iloadn X dX7_drawn_51 rfl rfl ?_
          obtain ⟨gv18, qv17, h⟩ := bd1_some h
          refine v_callVV (As := [.int x1, .int x2]) (rest := []) X (c_X2_draftYears l D ad cy X.2.2.2.2.2.2.2.2.1 N x1 x2 gv14 gv18  qv17) mw_X2_draftYears ml_X7_285 (by decide) (by decide +kernel) (by decide) rfl rfl rfl rfl (Nat.le_of_ble_eq_true rfl) dX7_drawn_52 ?_
          refine v_iloadn X dX7_drawn_55 rfl rfl ?_
          refine v_if_ne X 69 dX7_drawn_56 (by decide) (fun cv19 => ?_) (fun cv19 => ?_)
          · replace h := (if_neg cv19).symm.trans h
            refine v_aloadn X dX7_drawn_69 rfl rfl ?_
            refine gf_X7_37 X dX7_drawn_70 ?_
            refine v_iconst (v := 2) X dX7_drawn_73 (by decide) ?_
            obtain ⟨rv22, gv21, qv20, h⟩ := bd2_some h
            refine v_callVI (As := [.int (2 : Int32)]) (rest := []) X (c_X4_bitsOf l D ad cy X.2.2.2.2.2.2.2.2.1 N 1 (2 : Int32) gv18 rv22 gv21 (by omega) qv20) mw_X4_bitsOf ml_X7_186 (by decide) (k_roof (by omega)) (by decide) rfl rfl rfl rfl (Nat.le_of_ble_eq_true rfl) dX7_drawn_74 ?_
            obtain ⟨rv25, gv24, qv23, h⟩ := bd2_some h
            refine v_callSI (As := [.int rv22]) (rest := []) X (c_J6_bitCount_0f7a4 l D ad cy X.2.2.2.2.2.2.2.2.1 N rv22 gv21 rv25 gv24  qv23) mw_J6_bitCount_0f7a4 ml_X7_288 (by decide) rfl rfl (Nat.le_of_ble_eq_true rfl) dX7_drawn_77 ?_
            obtain ⟨er, eg⟩ := Prod.mk.inj (Option.some.inj h)
            exact v_iret X dX7_drawn_80 er eg
          · replace h := (if_pos cv19).symm.trans h
            refine v_aloadn X dX7_drawn_59 rfl rfl ?_
            refine gf_X7_37 X dX7_drawn_60 ?_
            obtain ⟨rv28, gv27, qv26, h⟩ := bd2_some h
            refine v_callVI (As := []) (rest := []) X (c_X4_policyBits l D ad cy X.2.2.2.2.2.2.2.2.1 N 1 gv18 rv28 gv27 (by omega) qv26) mw_X4_policyBits ml_X7_167 (by decide) (k_roof (by omega)) (by decide) rfl rfl rfl rfl (Nat.le_of_ble_eq_true rfl) dX7_drawn_63 ?_
            refine v_goto X 77 dX7_drawn_66 (by decide) ?_
            obtain ⟨rv31, gv30, qv29, h⟩ := bd2_some h
            refine v_callSI (As := [.int rv28]) (rest := []) X (c_J6_bitCount_0f7a4 l D ad cy X.2.2.2.2.2.2.2.2.1 N rv28 gv27 rv31 gv30  qv29) mw_J6_bitCount_0f7a4 ml_X7_288 (by decide) rfl rfl (Nat.le_of_ble_eq_true rfl) dX7_drawn_77 ?_
            obtain ⟨er, eg⟩ := Prod.mk.inj (Option.some.inj h)
            exact v_iret X dX7_drawn_80 er eg
        · replace h := (if_pos cv16).symm.trans h
          refine v_ldc X kc_X7_75 dX7_drawn_43 ?_
          obtain ⟨er, eg⟩ := Prod.mk.inj (Option.some.inj h)
          exact v_iret X dX7_drawn_45 er eg
  · replace h := (if_pos cv4).symm.trans h
    refine v_ldc X kc_X7_148 dX7_drawn_10 ?_
    obtain ⟨er, eg⟩ := Prod.mk.inj (Option.some.inj h)
    exact v_iret X dX7_drawn_12 er eg
def F_X7_drop (N : Nat) (x1 : Int32) (g : GS) : Option (Int32 × GS) := bd2 (F_X7_isRow N x1 g) (fun rv3 gv2 => if rv3 = 0 then some ((-1000001 : Int32), gv2) else bd1 (ix x1 8) (fun jv5 => bd2 (F_X5_isMissing N jv5 gv2) (fun rv9 gv8 => if rv9 = 0 then bd1 (F_X5_end N jv5 gv8) (fun gv12 => bd2 (F_X7_unfound N (gv8 1 jv5 1) gv12) (fun rv15 gv14 => some (rv15, gv14))) else bd2 (F_X7_found N (1 : Int32) gv8) (fun rv18 gv17 => some (rv18, gv17)))))
set_option maxRecDepth 100000 in
set_option maxHeartbeats 4000000 in
theorem c_X7_drop (l : Launch) (D : va_G) (ad : Ky → Nat) (cy : Nat → ClassId) (hI : Inj ad) (N : Nat) (x1 : Int32) (g : GS) (r : Int32) (gq : GS) (h : F_X7_drop N x1 g = some (r, gq)) : CtI l D ad cy yX7_drop cX7_drop 4 (some .int) 2 [.ref (ad (7, 0, 0)), .int x1] g r gq := by
  refine CtI.of 2 hI (by decide +kernel) rfl (Nat.le_of_ble_eq_true rfl) (fun p e s m args below meth c X => ?_)
  unfold F_X7_drop at h
  show Vy _ _ _ _ _ _ _ _ _ _ _ _ _ _ _ 0 [some (.ref (ad (7, 0, 0))), some (.int x1), none, none] [] g
  refine v_iloadn X dX7_drop_0 rfl rfl ?_
  obtain ⟨rv3, gv2, qv1, h⟩ := bd2_some h
  refine v_callSI (As := [.int x1]) (rest := []) X (c_X7_isRow l D ad cy X.2.2.2.2.2.2.2.2.1 N x1 g rv3 gv2  qv1) mw_X7_isRow ml_X7_67 (by decide) rfl rfl (Nat.le_of_ble_eq_true rfl) dX7_drop_1 ?_
  refine v_if_ne X 10 dX7_drop_4 (by decide) (fun cv4 => ?_) (fun cv4 => ?_)
  · replace h := (if_neg cv4).symm.trans h
    refine v_aloadn X dX7_drop_10 rfl rfl ?_
    refine gf_X7_11 X dX7_drop_11 ?_
    refine v_iloadn X dX7_drop_14 rfl rfl ?_
    obtain ⟨jv5, qv6, h⟩ := bd1_some h
    obtain ⟨ejv5, ljv5⟩ := ix_spec qv6
    refine aaR X jv5 ejv5 ljv5 dX7_drop_15 ?_
    refine v_astoren (lc' := [some (.ref (ad (7, 0, 0))), some (.int x1), some (.ref (ad (5, jv5, 0))), none]) X dX7_drop_16 rfl (by decide) rfl rfl ?_
    refine v_aloadn X dX7_drop_17 rfl rfl ?_
    obtain ⟨rv9, gv8, qv7, h⟩ := bd2_some h
    refine v_callVI (As := []) (rest := []) X (c_X5_isMissing l D ad cy X.2.2.2.2.2.2.2.2.1 N jv5 gv2 rv9 gv8 (by omega) qv7) mw_X5_isMissing ml_X7_87 (by decide) (k_row (by omega)) (by decide) rfl rfl rfl rfl (Nat.le_of_ble_eq_true rfl) dX7_drop_18 ?_
    refine v_if_eq X 30 dX7_drop_21 (by decide) (fun cv10 => ?_) (fun cv10 => ?_)
    · replace h := (if_pos cv10).symm.trans h
      refine v_aloadn X dX7_drop_30 rfl rfl ?_
      refine gf_X7_112 X (k_row (by omega)) dX7_drop_31 ?_
      refine v_istoren (lc' := [some (.ref (ad (7, 0, 0))), some (.int x1), some (.ref (ad (5, jv5, 0))), some (.int (gv8 1 jv5 1))]) X dX7_drop_34 rfl (by decide) rfl rfl ?_
      refine v_aloadn X dX7_drop_35 rfl rfl ?_
      obtain ⟨gv12, qv11, h⟩ := bd1_some h
      refine v_callVV (As := []) (rest := []) X (c_X5_end l D ad cy X.2.2.2.2.2.2.2.2.1 N jv5 gv8 gv12 (by omega) qv11) mw_X5_end ml_X7_115 (by decide) (k_row (by omega)) (by decide) rfl rfl rfl rfl (Nat.le_of_ble_eq_true rfl) dX7_drop_36 ?_
      refine v_aloadn X dX7_drop_39 rfl rfl ?_
      refine v_iloadn X dX7_drop_40 rfl rfl ?_
      obtain ⟨rv15, gv14, qv13, h⟩ := bd2_some h
      refine v_callVI (As := [.int (gv8 1 jv5 1)]) (rest := []) X (c_X7_unfound l D ad cy X.2.2.2.2.2.2.2.2.1 N (gv8 1 jv5 1) gv12 rv15 gv14  qv13) mw_X7_unfound ml_X7_84 (by decide) (by decide +kernel) (by decide) rfl rfl rfl rfl (Nat.le_of_ble_eq_true rfl) dX7_drop_41 ?_
      obtain ⟨er, eg⟩ := Prod.mk.inj (Option.some.inj h)
      exact v_iret X dX7_drop_44 er eg
    · replace h := (if_neg cv10).symm.trans h
      refine v_aloadn X dX7_drop_24 rfl rfl ?_
      refine v_iconst (v := 1) X dX7_drop_25 (by decide) ?_
      obtain ⟨rv18, gv17, qv16, h⟩ := bd2_some h
      refine v_callVI (As := [.int (1 : Int32)]) (rest := []) X (c_X7_found l D ad cy X.2.2.2.2.2.2.2.2.1 N (1 : Int32) gv8 rv18 gv17  qv16) mw_X7_found ml_X7_76 (by decide) (by decide +kernel) (by decide) rfl rfl rfl rfl (Nat.le_of_ble_eq_true rfl) dX7_drop_26 ?_
      obtain ⟨er, eg⟩ := Prod.mk.inj (Option.some.inj h)
      exact v_iret X dX7_drop_29 er eg
  · replace h := (if_pos cv4).symm.trans h
    refine v_ldc X kc_X7_75 dX7_drop_7 ?_
    obtain ⟨er, eg⟩ := Prod.mk.inj (Option.some.inj h)
    exact v_iret X dX7_drop_9 er eg
def F_X7_fault (N : Nat) (g : GS) : Option (Int32 × GS) := some ((g 9 0 0), g)
set_option maxRecDepth 100000 in
set_option maxHeartbeats 4000000 in
theorem c_X7_fault (l : Launch) (D : va_G) (ad : Ky → Nat) (cy : Nat → ClassId) (hI : Inj ad) (N : Nat) (g : GS) (r : Int32) (gq : GS) (h : F_X7_fault N  g = some (r, gq)) : CtI l D ad cy yX7_fault cX7_fault 1 (some .int) 0 [.ref (ad (7, 0, 0))] g r gq := by
  refine CtI.of 0 hI (by decide +kernel) rfl (Nat.le_of_ble_eq_true rfl) (fun p e s m args below meth c X => ?_)
  unfold F_X7_fault at h
  show Vy _ _ _ _ _ _ _ _ _ _ _ _ _ _ _ 0 [some (.ref (ad (7, 0, 0)))] [] g
  refine v_aloadn X dX7_fault_0 rfl rfl ?_
  refine gf_X7_58 X dX7_fault_1 ?_
  obtain ⟨er, eg⟩ := Prod.mk.inj (Option.some.inj h)
  exact v_iret X dX7_fault_4 er eg
def F_X7_feed (N : Nat) (x1 : Int32) (g : GS) : Option (Int32 × GS) := bd2 (F_X7_isWithin N x1 (0 : Int32) (255 : Int32) g) (fun rv3 gv2 => if rv3 = 0 then some ((-1000001 : Int32), gv2) else if (gv2 3 0 0) < (100 : Int32) then bd1 (F_X6_append N x1 gv2) (fun gv7 => some ((gv7 3 0 0), gv7)) else some ((-1000003 : Int32), gv2))
set_option maxRecDepth 100000 in
set_option maxHeartbeats 4000000 in
theorem c_X7_feed (l : Launch) (D : va_G) (ad : Ky → Nat) (cy : Nat → ClassId) (hI : Inj ad) (N : Nat) (x1 : Int32) (g : GS) (r : Int32) (gq : GS) (h : F_X7_feed N x1 g = some (r, gq)) : CtI l D ad cy yX7_feed cX7_feed 2 (some .int) 1 [.ref (ad (7, 0, 0)), .int x1] g r gq := by
  refine CtI.of 0 hI (by decide +kernel) rfl (Nat.le_of_ble_eq_true rfl) (fun p e s m args below meth c X => ?_)
  unfold F_X7_feed at h
  show Vy _ _ _ _ _ _ _ _ _ _ _ _ _ _ _ 0 [some (.ref (ad (7, 0, 0))), some (.int x1)] [] g
  refine v_iloadn X dX7_feed_0 rfl rfl ?_
  refine v_iconst (v := 0) X dX7_feed_1 (by decide) ?_
  refine v_sipush (v := 255) X dX7_feed_2 (by decide) ?_
  obtain ⟨rv3, gv2, qv1, h⟩ := bd2_some h
  refine v_callSI (As := [.int x1, .int (0 : Int32), .int (255 : Int32)]) (rest := []) X (c_X7_isWithin l D ad cy X.2.2.2.2.2.2.2.2.1 N x1 (0 : Int32) (255 : Int32) g rv3 gv2  qv1) mw_X7_isWithin ml_X7_71 (by decide) rfl rfl (Nat.le_of_ble_eq_true rfl) dX7_feed_5 ?_
  refine v_if_ne X 14 dX7_feed_8 (by decide) (fun cv4 => ?_) (fun cv4 => ?_)
  · replace h := (if_neg cv4).symm.trans h
    refine v_aloadn X dX7_feed_14 rfl rfl ?_
    refine gf_X7_18 X dX7_feed_15 ?_
    refine gf_X7_118 X dX7_feed_18 ?_
    refine v_bipush (v := 100) X dX7_feed_21 (by decide) ?_
    refine v_icmp_lt X 29 dX7_feed_23 (by decide) (fun cv5 => ?_) (fun cv5 => ?_)
    · replace h := (if_pos cv5).symm.trans h
      refine v_aloadn X dX7_feed_29 rfl rfl ?_
      refine gf_X7_18 X dX7_feed_30 ?_
      refine v_iloadn X dX7_feed_33 rfl rfl ?_
      obtain ⟨gv7, qv6, h⟩ := bd1_some h
      refine v_callVV (As := [.int x1]) (rest := []) X (c_X6_append l D ad cy X.2.2.2.2.2.2.2.2.1 N x1 gv2 gv7  qv6) mw_X6_append ml_X7_120 (by decide) (by decide +kernel) (by decide) rfl rfl rfl rfl (Nat.le_of_ble_eq_true rfl) dX7_feed_34 ?_
      refine v_aloadn X dX7_feed_37 rfl rfl ?_
      refine gf_X7_18 X dX7_feed_38 ?_
      refine gf_X7_118 X dX7_feed_41 ?_
      obtain ⟨er, eg⟩ := Prod.mk.inj (Option.some.inj h)
      exact v_iret X dX7_feed_44 er eg
    · replace h := (if_neg cv5).symm.trans h
      refine v_ldc X kc_X7_119 dX7_feed_26 ?_
      obtain ⟨er, eg⟩ := Prod.mk.inj (Option.some.inj h)
      exact v_iret X dX7_feed_28 er eg
  · replace h := (if_pos cv4).symm.trans h
    refine v_ldc X kc_X7_75 dX7_feed_11 ?_
    obtain ⟨er, eg⟩ := Prod.mk.inj (Option.some.inj h)
    exact v_iret X dX7_feed_13 er eg
def F_X7_force (N : Nat) (x1 : Int32) (g : GS) : Option (Int32 × GS) := bd2 (F_X4_isRead N 0 g) (fun rv3 gv2 => if rv3 = 0 then some ((-1000002 : Int32), gv2) else bd2 (F_X7_isWithin N x1 (0 : Int32) (60 : Int32) gv2) (fun rv7 gv6 => if rv7 = 0 then some ((-1000001 : Int32), gv6) else bd2 (F_X4_forceAfter N 0 x1 gv6) (fun rv11 gv10 => some (rv11, gv10))))
set_option maxRecDepth 100000 in
set_option maxHeartbeats 4000000 in
theorem c_X7_force (l : Launch) (D : va_G) (ad : Ky → Nat) (cy : Nat → ClassId) (hI : Inj ad) (N : Nat) (x1 : Int32) (g : GS) (r : Int32) (gq : GS) (h : F_X7_force N x1 g = some (r, gq)) : CtI l D ad cy yX7_force cX7_force 2 (some .int) 1 [.ref (ad (7, 0, 0)), .int x1] g r gq := by
  refine CtI.of 0 hI (by decide +kernel) rfl (Nat.le_of_ble_eq_true rfl) (fun p e s m args below meth c X => ?_)
  unfold F_X7_force at h
  show Vy _ _ _ _ _ _ _ _ _ _ _ _ _ _ _ 0 [some (.ref (ad (7, 0, 0))), some (.int x1)] [] g
  refine v_aloadn X dX7_force_0 rfl rfl ?_
  refine gf_X7_33 X dX7_force_1 ?_
  obtain ⟨rv3, gv2, qv1, h⟩ := bd2_some h
  refine v_callVI (As := []) (rest := []) X (c_X4_isRead l D ad cy X.2.2.2.2.2.2.2.2.1 N 0 g rv3 gv2 (by omega) qv1) mw_X4_isRead ml_X7_152 (by decide) (k_roof (by omega)) (by decide) rfl rfl rfl rfl (Nat.le_of_ble_eq_true rfl) dX7_force_4 ?_
  refine v_if_ne X 13 dX7_force_7 (by decide) (fun cv4 => ?_) (fun cv4 => ?_)
  · replace h := (if_neg cv4).symm.trans h
    refine v_iloadn X dX7_force_13 rfl rfl ?_
    refine v_iconst (v := 0) X dX7_force_14 (by decide) ?_
    refine v_bipush (v := 60) X dX7_force_15 (by decide) ?_
    obtain ⟨rv7, gv6, qv5, h⟩ := bd2_some h
    refine v_callSI (As := [.int x1, .int (0 : Int32), .int (60 : Int32)]) (rest := []) X (c_X7_isWithin l D ad cy X.2.2.2.2.2.2.2.2.1 N x1 (0 : Int32) (60 : Int32) gv2 rv7 gv6  qv5) mw_X7_isWithin ml_X7_71 (by decide) rfl rfl (Nat.le_of_ble_eq_true rfl) dX7_force_17 ?_
    refine v_if_ne X 26 dX7_force_20 (by decide) (fun cv8 => ?_) (fun cv8 => ?_)
    · replace h := (if_neg cv8).symm.trans h
      refine v_aloadn X dX7_force_26 rfl rfl ?_
      refine gf_X7_33 X dX7_force_27 ?_
      refine v_iloadn X dX7_force_30 rfl rfl ?_
      obtain ⟨rv11, gv10, qv9, h⟩ := bd2_some h
      refine v_callVI (As := [.int x1]) (rest := []) X (c_X4_forceAfter l D ad cy X.2.2.2.2.2.2.2.2.1 N 0 x1 gv6 rv11 gv10 (by omega) qv9) mw_X4_forceAfter ml_X7_161 (by decide) (k_roof (by omega)) (by decide) rfl rfl rfl rfl (Nat.le_of_ble_eq_true rfl) dX7_force_31 ?_
      obtain ⟨er, eg⟩ := Prod.mk.inj (Option.some.inj h)
      exact v_iret X dX7_force_34 er eg
    · replace h := (if_pos cv8).symm.trans h
      refine v_ldc X kc_X7_75 dX7_force_23 ?_
      obtain ⟨er, eg⟩ := Prod.mk.inj (Option.some.inj h)
      exact v_iret X dX7_force_25 er eg
  · replace h := (if_pos cv4).symm.trans h
    refine v_ldc X kc_X7_148 dX7_force_10 ?_
    obtain ⟨er, eg⟩ := Prod.mk.inj (Option.some.inj h)
    exact v_iret X dX7_force_12 er eg
def F_X7_gust (N : Nat) (x1 : Int32) (g : GS) : Option (Int32 × GS) := bd2 (F_X4_hasPaper N 0 x1 g) (fun rv3 gv2 => if rv3 = 0 then some ((-1000001 : Int32), gv2) else bd1 (ix x1 6) (fun jv5 => bd2 (F_X3_isUp N 0 jv5 gv2) (fun rv9 gv8 => if rv9 = 0 then some ((-1000002 : Int32), gv8) else bd2 (F_X2_leastSnappingForce N x1 gv8) (fun rv13 gv12 => some (rv13, gv12)))))
set_option maxRecDepth 100000 in
set_option maxHeartbeats 4000000 in
theorem c_X7_gust (l : Launch) (D : va_G) (ad : Ky → Nat) (cy : Nat → ClassId) (hI : Inj ad) (N : Nat) (x1 : Int32) (g : GS) (r : Int32) (gq : GS) (h : F_X7_gust N x1 g = some (r, gq)) : CtI l D ad cy yX7_gust cX7_gust 2 (some .int) 4 [.ref (ad (7, 0, 0)), .int x1] g r gq := by
  refine CtI.of 0 hI (by decide +kernel) rfl (Nat.le_of_ble_eq_true rfl) (fun p e s m args below meth c X => ?_)
  unfold F_X7_gust at h
  show Vy _ _ _ _ _ _ _ _ _ _ _ _ _ _ _ 0 [some (.ref (ad (7, 0, 0))), some (.int x1)] [] g
  refine v_aloadn X dX7_gust_0 rfl rfl ?_
  refine gf_X7_33 X dX7_gust_1 ?_
  refine v_iloadn X dX7_gust_4 rfl rfl ?_
  obtain ⟨rv3, gv2, qv1, h⟩ := bd2_some h
  refine v_callVI (As := [.int x1]) (rest := []) X (c_X4_hasPaper l D ad cy X.2.2.2.2.2.2.2.2.1 N 0 x1 g rv3 gv2 (by omega) qv1) mw_X4_hasPaper ml_X7_171 (by decide) (k_roof (by omega)) (by decide) rfl rfl rfl rfl (Nat.le_of_ble_eq_true rfl) dX7_gust_5 ?_
  refine v_if_ne X 14 dX7_gust_8 (by decide) (fun cv4 => ?_) (fun cv4 => ?_)
  · replace h := (if_neg cv4).symm.trans h
    refine v_aloadn X dX7_gust_14 rfl rfl ?_
    refine gf_X7_33 X dX7_gust_15 ?_
    refine gf_X7_174 X (k_roof (by omega)) dX7_gust_18 ?_
    refine v_iloadn X dX7_gust_21 rfl rfl ?_
    obtain ⟨jv5, qv6, h⟩ := bd1_some h
    obtain ⟨ejv5, ljv5⟩ := ix_spec qv6
    refine aaP X (k_papers (by omega)) jv5 ejv5 ljv5 dX7_gust_22 ?_
    obtain ⟨rv9, gv8, qv7, h⟩ := bd2_some h
    refine v_callVI (As := []) (rest := []) X (c_X3_isUp l D ad cy X.2.2.2.2.2.2.2.2.1 N 0 jv5 gv2 rv9 gv8 (by omega) (by omega) qv7) mw_X3_isUp ml_X7_189 (by decide) (k_paper (by omega) (by omega)) (by decide) rfl rfl rfl rfl (Nat.le_of_ble_eq_true rfl) dX7_gust_23 ?_
    refine v_if_ne X 32 dX7_gust_26 (by decide) (fun cv10 => ?_) (fun cv10 => ?_)
    · replace h := (if_neg cv10).symm.trans h
      refine v_aloadn X dX7_gust_32 rfl rfl ?_
      refine gf_X7_25 X dX7_gust_33 ?_
      refine v_iloadn X dX7_gust_36 rfl rfl ?_
      obtain ⟨rv13, gv12, qv11, h⟩ := bd2_some h
      refine v_callVI (As := [.int x1]) (rest := []) X (c_X2_leastSnappingForce l D ad cy X.2.2.2.2.2.2.2.2.1 N x1 gv8 rv13 gv12  qv11) mw_X2_leastSnappingForce ml_X7_246 (by decide) (by decide +kernel) (by decide) rfl rfl rfl rfl (Nat.le_of_ble_eq_true rfl) dX7_gust_37 ?_
      obtain ⟨er, eg⟩ := Prod.mk.inj (Option.some.inj h)
      exact v_iret X dX7_gust_40 er eg
    · replace h := (if_pos cv10).symm.trans h
      refine v_ldc X kc_X7_148 dX7_gust_29 ?_
      obtain ⟨er, eg⟩ := Prod.mk.inj (Option.some.inj h)
      exact v_iret X dX7_gust_31 er eg
  · replace h := (if_pos cv4).symm.trans h
    refine v_ldc X kc_X7_75 dX7_gust_11 ?_
    obtain ⟨er, eg⟩ := Prod.mk.inj (Option.some.inj h)
    exact v_iret X dX7_gust_13 er eg
def L_X7_hours_46 (N : Nat) (z1 : Int32) : Nat → Int32 → GS → Option (Int32 × GS)
  | 0, _, _ => none
  | n + 1, y2, g => if z1 ≤ y2 then some (y2, g) else bd1 (F_X0_keep N 0 g) (fun gv12 => bd2 (F_X4_forceAfter N 0 (0 : Int32) gv12) (fun rv15 gv14 => bd1 (F_X4_passHourIn N 0 rv15 gv14) (fun gv17 => L_X7_hours_46 N z1 n (y2 + 1) gv17)))
def F_X7_hours (N : Nat) (x1 : Int32) (g : GS) : Option (Int32 × GS) := bd2 (F_X4_isRead N 0 g) (fun rv3 gv2 => if rv3 = 0 then some ((-1000002 : Int32), gv2) else bd2 (F_X7_isWithin N x1 (1 : Int32) (24 : Int32) gv2) (fun rv7 gv6 => if rv7 = 0 then some ((-1000001 : Int32), gv6) else if ((gv6 0 0 2) + x1) ≤ (999 : Int32) then bd2 (L_X7_hours_46 N x1 N (0 : Int32) gv6) (fun xv18 gv19 => bd2 (F_X4_policyBits N 0 gv19) (fun rv23 gv22 => some (rv23, gv22))) else some ((-1000003 : Int32), gv6)))
set_option maxRecDepth 100000 in
set_option maxHeartbeats 4000000 in
theorem w_X7_hours_46 {p : Program} {l : Launch} {e : Env} {s : State} {m : MethodId} {args : Array Value} {below : List Frame} {meth : Method} {c : Code} {D : va_G} {ad : Ky → Nat} {cy : Nat → ClassId} {r : Int32} {gq : GS} {N : Nat} (X : Cx p (rmd 3) s m args meth c RX7 cX7_hours 3 (some .int) D ad cy) (z1 : Int32) : ∀ (n : Nat) (y2 : Int32) (g : GS) (y2' : Int32) (g' : GS), L_X7_hours_46 N z1 n y2 g = some (y2', g') → Vy p l e (rmd 3) s m args below meth c 3 D ad cy (QI D ad cy below args s r gq) 83 [some (.ref (ad (7, 0, 0))), some (.int z1), some (.int y2')] [] g' → Vy p l e (rmd 3) s m args below meth c 3 D ad cy (QI D ad cy below args s r gq) 46 [some (.ref (ad (7, 0, 0))), some (.int z1), some (.int y2)] [] g := by
  intro n
  induction n with
  | zero => intro y2 g y2' g' h k; cases h
  | succ n ih =>
    intro y2 g y2' g' h k
    rw [L_X7_hours_46] at h
    refine v_iloadn X dX7_hours_46 rfl rfl ?_
    refine v_iloadn X dX7_hours_47 rfl rfl ?_
    refine v_icmp_ge X 83 dX7_hours_48 (by decide) (fun cv10 => ?_) (fun cv10 => ?_)
    · replace h := (if_pos cv10).symm.trans h
      cases h
      exact k
    · replace h := (if_neg cv10).symm.trans h
      refine v_aloadn X dX7_hours_51 rfl rfl ?_
      refine gf_X7_41 X dX7_hours_52 ?_
      refine v_aloadn X dX7_hours_55 rfl rfl ?_
      refine gf_X7_33 X dX7_hours_56 ?_
      obtain ⟨gv12, qv11, h⟩ := bd1_some h
      refine v_callVV (As := [.ref (ad (4, 0, 0))]) (rest := []) X (c_X0_keep l D ad cy X.2.2.2.2.2.2.2.2.1 N 0 g gv12 (by omega) qv11) mw_X0_keep ml_X7_158 (by decide) (by decide +kernel) (by decide) rfl rfl rfl rfl (Nat.le_of_ble_eq_true rfl) dX7_hours_59 ?_
      refine v_aloadn X dX7_hours_62 rfl rfl ?_
      refine gf_X7_33 X dX7_hours_63 ?_
      refine v_aloadn X dX7_hours_66 rfl rfl ?_
      refine gf_X7_33 X dX7_hours_67 ?_
      refine v_iconst (v := 0) X dX7_hours_70 (by decide) ?_
      obtain ⟨rv15, gv14, qv13, h⟩ := bd2_some h
      refine v_callVI (As := [.int (0 : Int32)]) (rest := [.ref (ad (4, 0, 0))]) X (c_X4_forceAfter l D ad cy X.2.2.2.2.2.2.2.2.1 N 0 (0 : Int32) gv12 rv15 gv14 (by omega) qv13) mw_X4_forceAfter ml_X7_161 (by decide) (k_roof (by omega)) (by decide) rfl rfl rfl rfl (Nat.le_of_ble_eq_true rfl) dX7_hours_71 ?_
      obtain ⟨gv17, qv16, h⟩ := bd1_some h
      refine v_callVV (As := [.int rv15]) (rest := []) X (c_X4_passHourIn l D ad cy X.2.2.2.2.2.2.2.2.1 N 0 rv15 gv14 gv17 (by omega) qv16) mw_X4_passHourIn ml_X7_164 (by decide) (k_roof (by omega)) (by decide) rfl rfl rfl rfl (Nat.le_of_ble_eq_true rfl) dX7_hours_74 ?_
      refine v_iinc (v := (y2 + 1)) (lc' := [some (.ref (ad (7, 0, 0))), some (.int z1), some (.int (y2 + 1))]) X dX7_hours_77 rfl rfl (by decide) rfl rfl ?_
      refine v_goto X 46 dX7_hours_80 (by decide) ?_
      exact ih (y2 + 1) gv17 _ _ h k
set_option maxRecDepth 100000 in
set_option maxHeartbeats 4000000 in
theorem c_X7_hours (l : Launch) (D : va_G) (ad : Ky → Nat) (cy : Nat → ClassId) (hI : Inj ad) (N : Nat) (x1 : Int32) (g : GS) (r : Int32) (gq : GS) (h : F_X7_hours N x1 g = some (r, gq)) : CtI l D ad cy yX7_hours cX7_hours 3 (some .int) 3 [.ref (ad (7, 0, 0)), .int x1] g r gq := by
  refine CtI.of 1 hI (by decide +kernel) rfl (Nat.le_of_ble_eq_true rfl) (fun p e s m args below meth c X => ?_)
  unfold F_X7_hours at h
  show Vy _ _ _ _ _ _ _ _ _ _ _ _ _ _ _ 0 [some (.ref (ad (7, 0, 0))), some (.int x1), none] [] g
  refine v_aloadn X dX7_hours_0 rfl rfl ?_
  refine gf_X7_33 X dX7_hours_1 ?_
  obtain ⟨rv3, gv2, qv1, h⟩ := bd2_some h
  refine v_callVI (As := []) (rest := []) X (c_X4_isRead l D ad cy X.2.2.2.2.2.2.2.2.1 N 0 g rv3 gv2 (by omega) qv1) mw_X4_isRead ml_X7_152 (by decide) (k_roof (by omega)) (by decide) rfl rfl rfl rfl (Nat.le_of_ble_eq_true rfl) dX7_hours_4 ?_
  refine v_if_ne X 13 dX7_hours_7 (by decide) (fun cv4 => ?_) (fun cv4 => ?_)
  · replace h := (if_neg cv4).symm.trans h
    refine v_iloadn X dX7_hours_13 rfl rfl ?_
    refine v_iconst (v := 1) X dX7_hours_14 (by decide) ?_
    refine v_bipush (v := 24) X dX7_hours_15 (by decide) ?_
    obtain ⟨rv7, gv6, qv5, h⟩ := bd2_some h
    refine v_callSI (As := [.int x1, .int (1 : Int32), .int (24 : Int32)]) (rest := []) X (c_X7_isWithin l D ad cy X.2.2.2.2.2.2.2.2.1 N x1 (1 : Int32) (24 : Int32) gv2 rv7 gv6  qv5) mw_X7_isWithin ml_X7_71 (by decide) rfl rfl (Nat.le_of_ble_eq_true rfl) dX7_hours_17 ?_
    refine v_if_ne X 26 dX7_hours_20 (by decide) (fun cv8 => ?_) (fun cv8 => ?_)
    · replace h := (if_neg cv8).symm.trans h
      refine v_aloadn X dX7_hours_26 rfl rfl ?_
      refine gf_X7_33 X dX7_hours_27 ?_
      refine gf_X7_155 X (k_roof (by omega)) dX7_hours_30 ?_
      refine v_iloadn X dX7_hours_33 rfl rfl ?_
      refine v_iadd X dX7_hours_34 ?_
      refine v_sipush (v := 999) X dX7_hours_35 (by decide) ?_
      refine v_icmp_le X 44 dX7_hours_38 (by decide) (fun cv9 => ?_) (fun cv9 => ?_)
      · replace h := (if_pos cv9).symm.trans h
        refine v_iconst (v := 0) X dX7_hours_44 (by decide) ?_
        refine v_istoren (lc' := [some (.ref (ad (7, 0, 0))), some (.int x1), some (.int (0 : Int32))]) X dX7_hours_45 rfl (by decide) rfl rfl ?_
        obtain ⟨xv18, gv19, qv20, h⟩ := bd2_some h
        refine w_X7_hours_46 X x1 N (0 : Int32) gv6 xv18 gv19 qv20 ?_
        refine v_aloadn X dX7_hours_83 rfl rfl ?_
        refine gf_X7_33 X dX7_hours_84 ?_
        obtain ⟨rv23, gv22, qv21, h⟩ := bd2_some h
        refine v_callVI (As := []) (rest := []) X (c_X4_policyBits l D ad cy X.2.2.2.2.2.2.2.2.1 N 0 gv19 rv23 gv22 (by omega) qv21) mw_X4_policyBits ml_X7_167 (by decide) (k_roof (by omega)) (by decide) rfl rfl rfl rfl (Nat.le_of_ble_eq_true rfl) dX7_hours_87 ?_
        obtain ⟨er, eg⟩ := Prod.mk.inj (Option.some.inj h)
        exact v_iret X dX7_hours_90 er eg
      · replace h := (if_neg cv9).symm.trans h
        refine v_ldc X kc_X7_119 dX7_hours_41 ?_
        obtain ⟨er, eg⟩ := Prod.mk.inj (Option.some.inj h)
        exact v_iret X dX7_hours_43 er eg
    · replace h := (if_pos cv8).symm.trans h
      refine v_ldc X kc_X7_75 dX7_hours_23 ?_
      obtain ⟨er, eg⟩ := Prod.mk.inj (Option.some.inj h)
      exact v_iret X dX7_hours_25 er eg
  · replace h := (if_pos cv4).symm.trans h
    refine v_ldc X kc_X7_148 dX7_hours_10 ?_
    obtain ⟨er, eg⟩ := Prod.mk.inj (Option.some.inj h)
    exact v_iret X dX7_hours_12 er eg
def F_X7_image (N : Nat) (x1 : Int32) (g : GS) : Option (Int32 × GS) := bd2 (F_X7_isWithin N x1 (0 : Int32) (1 : Int32) g) (fun rv3 gv2 => if rv3 = 0 then some ((-1000001 : Int32), gv2) else bd2 (F_X4_isRead N 0 gv2) (fun rv7 gv6 => if rv7 = 0 then some ((-1000002 : Int32), gv6) else bd1 (ix x1 2) (fun jv9 => bd1 (F_X4_become N (26 + jv9) 0 gv6) (fun gv12 => some ((1 : Int32), gv12)))))
set_option maxRecDepth 100000 in
set_option maxHeartbeats 4000000 in
theorem c_X7_image (l : Launch) (D : va_G) (ad : Ky → Nat) (cy : Nat → ClassId) (hI : Inj ad) (N : Nat) (x1 : Int32) (g : GS) (r : Int32) (gq : GS) (h : F_X7_image N x1 g = some (r, gq)) : CtI l D ad cy yX7_image cX7_image 2 (some .int) 2 [.ref (ad (7, 0, 0)), .int x1] g r gq := by
  refine CtI.of 0 hI (by decide +kernel) rfl (Nat.le_of_ble_eq_true rfl) (fun p e s m args below meth c X => ?_)
  unfold F_X7_image at h
  show Vy _ _ _ _ _ _ _ _ _ _ _ _ _ _ _ 0 [some (.ref (ad (7, 0, 0))), some (.int x1)] [] g
  refine v_iloadn X dX7_image_0 rfl rfl ?_
  refine v_iconst (v := 0) X dX7_image_1 (by decide) ?_
  refine v_iconst (v := 1) X dX7_image_2 (by decide) ?_
  obtain ⟨rv3, gv2, qv1, h⟩ := bd2_some h
  refine v_callSI (As := [.int x1, .int (0 : Int32), .int (1 : Int32)]) (rest := []) X (c_X7_isWithin l D ad cy X.2.2.2.2.2.2.2.2.1 N x1 (0 : Int32) (1 : Int32) g rv3 gv2  qv1) mw_X7_isWithin ml_X7_71 (by decide) rfl rfl (Nat.le_of_ble_eq_true rfl) dX7_image_3 ?_
  refine v_if_ne X 12 dX7_image_6 (by decide) (fun cv4 => ?_) (fun cv4 => ?_)
  · replace h := (if_neg cv4).symm.trans h
    refine v_aloadn X dX7_image_12 rfl rfl ?_
    refine gf_X7_33 X dX7_image_13 ?_
    obtain ⟨rv7, gv6, qv5, h⟩ := bd2_some h
    refine v_callVI (As := []) (rest := []) X (c_X4_isRead l D ad cy X.2.2.2.2.2.2.2.2.1 N 0 gv2 rv7 gv6 (by omega) qv5) mw_X4_isRead ml_X7_152 (by decide) (k_roof (by omega)) (by decide) rfl rfl rfl rfl (Nat.le_of_ble_eq_true rfl) dX7_image_16 ?_
    refine v_if_ne X 25 dX7_image_19 (by decide) (fun cv8 => ?_) (fun cv8 => ?_)
    · replace h := (if_neg cv8).symm.trans h
      refine v_aloadn X dX7_image_25 rfl rfl ?_
      refine gf_X7_47 X dX7_image_26 ?_
      refine v_iloadn X dX7_image_29 rfl rfl ?_
      obtain ⟨jv9, qv10, h⟩ := bd1_some h
      obtain ⟨ejv9, ljv9⟩ := ix_spec qv10
      refine aaG X jv9 ejv9 ljv9 dX7_image_30 ?_
      refine v_aloadn X dX7_image_31 rfl rfl ?_
      refine gf_X7_33 X dX7_image_32 ?_
      obtain ⟨gv12, qv11, h⟩ := bd1_some h
      refine v_callVV (As := [.ref (ad (4, 0, 0))]) (rest := []) X (c_X4_become l D ad cy X.2.2.2.2.2.2.2.2.1 N (26 + jv9) 0 gv6 gv12 (by omega) (by omega) qv11) mw_X4_become ml_X7_135 (by decide) (k_roof (by omega)) (by decide) rfl rfl rfl rfl (Nat.le_of_ble_eq_true rfl) dX7_image_35 ?_
      refine v_iconst (v := 1) X dX7_image_38 (by decide) ?_
      obtain ⟨er, eg⟩ := Prod.mk.inj (Option.some.inj h)
      exact v_iret X dX7_image_39 er eg
    · replace h := (if_pos cv8).symm.trans h
      refine v_ldc X kc_X7_148 dX7_image_22 ?_
      obtain ⟨er, eg⟩ := Prod.mk.inj (Option.some.inj h)
      exact v_iret X dX7_image_24 er eg
  · replace h := (if_pos cv4).symm.trans h
    refine v_ldc X kc_X7_75 dX7_image_9 ?_
    obtain ⟨er, eg⟩ := Prod.mk.inj (Option.some.inj h)
    exact v_iret X dX7_image_11 er eg
def F_X7_kind (N : Nat) (x1 : Int32) (g : GS) : Option (Int32 × GS) := bd2 (F_X4_hasPaper N 0 x1 g) (fun rv3 gv2 => if rv3 = 0 then some ((-1000001 : Int32), gv2) else bd1 (ix x1 6) (fun jv5 => some ((gv2 13 0 (7 * jv5)), gv2)))
set_option maxRecDepth 100000 in
set_option maxHeartbeats 4000000 in
theorem c_X7_kind (l : Launch) (D : va_G) (ad : Ky → Nat) (cy : Nat → ClassId) (hI : Inj ad) (N : Nat) (x1 : Int32) (g : GS) (r : Int32) (gq : GS) (h : F_X7_kind N x1 g = some (r, gq)) : CtI l D ad cy yX7_kind cX7_kind 2 (some .int) 1 [.ref (ad (7, 0, 0)), .int x1] g r gq := by
  refine CtI.of 0 hI (by decide +kernel) rfl (Nat.le_of_ble_eq_true rfl) (fun p e s m args below meth c X => ?_)
  unfold F_X7_kind at h
  show Vy _ _ _ _ _ _ _ _ _ _ _ _ _ _ _ 0 [some (.ref (ad (7, 0, 0))), some (.int x1)] [] g
  refine v_aloadn X dX7_kind_0 rfl rfl ?_
  refine gf_X7_33 X dX7_kind_1 ?_
  refine v_iloadn X dX7_kind_4 rfl rfl ?_
  obtain ⟨rv3, gv2, qv1, h⟩ := bd2_some h
  refine v_callVI (As := [.int x1]) (rest := []) X (c_X4_hasPaper l D ad cy X.2.2.2.2.2.2.2.2.1 N 0 x1 g rv3 gv2 (by omega) qv1) mw_X4_hasPaper ml_X7_171 (by decide) (k_roof (by omega)) (by decide) rfl rfl rfl rfl (Nat.le_of_ble_eq_true rfl) dX7_kind_5 ?_
  refine v_if_ne X 14 dX7_kind_8 (by decide) (fun cv4 => ?_) (fun cv4 => ?_)
  · replace h := (if_neg cv4).symm.trans h
    refine v_aloadn X dX7_kind_14 rfl rfl ?_
    refine gf_X7_33 X dX7_kind_15 ?_
    refine gf_X7_174 X (k_roof (by omega)) dX7_kind_18 ?_
    refine v_iloadn X dX7_kind_21 rfl rfl ?_
    obtain ⟨jv5, qv6, h⟩ := bd1_some h
    obtain ⟨ejv5, ljv5⟩ := ix_spec qv6
    refine aaP X (k_papers (by omega)) jv5 ejv5 ljv5 dX7_kind_22 ?_
    refine gf_X7_293 X (k_paper (by omega) (by omega)) dX7_kind_23 ?_
    obtain ⟨er, eg⟩ := Prod.mk.inj (Option.some.inj h)
    exact v_iret X dX7_kind_26 er eg
  · replace h := (if_pos cv4).symm.trans h
    refine v_ldc X kc_X7_75 dX7_kind_11 ?_
    obtain ⟨er, eg⟩ := Prod.mk.inj (Option.some.inj h)
    exact v_iret X dX7_kind_13 er eg
def F_X7_let (N : Nat) (x1 : Int32) (x2 : Int32) (g : GS) : Option (Int32 × GS) := bd2 (F_X4_hasPaper N 0 x1 g) (fun rv3 gv2 => if rv3 = 0 then some ((-1000001 : Int32), gv2) else if x2 = 0 then some ((-1000001 : Int32), gv2) else bd2 (F_X7_isWithin N x2 (-40 : Int32) (40 : Int32) gv2) (fun rv8 gv7 => if rv8 = 0 then some ((-1000001 : Int32), gv7) else bd1 (ix x1 6) (fun jv10 => bd2 (F_X3_isUp N 0 jv10 gv7) (fun rv14 gv13 => if rv14 = 0 then some ((-1000002 : Int32), gv13) else bd2 (F_X7_isWithin N ((gv13 13 0 (7 * jv10 + 5)) + x2) (1 : Int32) (40 : Int32) gv13) (fun rv18 gv17 => if rv18 = 0 then some ((-1000002 : Int32), gv17) else bd1 (F_X0_keep N 0 gv17) (fun gv21 => bd1 (F_X3_letOutBy N 0 jv10 x2 gv21) (fun gv23 => some ((gv23 13 0 (7 * jv10 + 5)), gv23))))))))
set_option maxRecDepth 100000 in
set_option maxHeartbeats 4000000 in
theorem c_X7_let (l : Launch) (D : va_G) (ad : Ky → Nat) (cy : Nat → ClassId) (hI : Inj ad) (N : Nat) (x1 : Int32) (x2 : Int32) (g : GS) (r : Int32) (gq : GS) (h : F_X7_let N x1 x2 g = some (r, gq)) : CtI l D ad cy yX7_let cX7_let 4 (some .int) 3 [.ref (ad (7, 0, 0)), .int x1, .int x2] g r gq := by
  refine CtI.of 1 hI (by decide +kernel) rfl (Nat.le_of_ble_eq_true rfl) (fun p e s m args below meth c X => ?_)
  unfold F_X7_let at h
  show Vy _ _ _ _ _ _ _ _ _ _ _ _ _ _ _ 0 [some (.ref (ad (7, 0, 0))), some (.int x1), some (.int x2), none] [] g
  refine v_aloadn X dX7_let_0 rfl rfl ?_
  refine gf_X7_33 X dX7_let_1 ?_
  refine v_iloadn X dX7_let_4 rfl rfl ?_
  obtain ⟨rv3, gv2, qv1, h⟩ := bd2_some h
  refine v_callVI (As := [.int x1]) (rest := []) X (c_X4_hasPaper l D ad cy X.2.2.2.2.2.2.2.2.1 N 0 x1 g rv3 gv2 (by omega) qv1) mw_X4_hasPaper ml_X7_171 (by decide) (k_roof (by omega)) (by decide) rfl rfl rfl rfl (Nat.le_of_ble_eq_true rfl) dX7_let_5 ?_
  refine v_if_eq X 26 dX7_let_8 (by decide) (fun cv4 => ?_) (fun cv4 => ?_)
  · replace h := (if_pos cv4).symm.trans h
    refine v_ldc X kc_X7_75 dX7_let_26 ?_
    obtain ⟨er, eg⟩ := Prod.mk.inj (Option.some.inj h)
    exact v_iret X dX7_let_28 er eg
  · replace h := (if_neg cv4).symm.trans h
    refine v_iloadn X dX7_let_11 rfl rfl ?_
    refine v_if_eq X 26 dX7_let_12 (by decide) (fun cv5 => ?_) (fun cv5 => ?_)
    · replace h := (if_pos cv5).symm.trans h
      refine v_ldc X kc_X7_75 dX7_let_26 ?_
      obtain ⟨er, eg⟩ := Prod.mk.inj (Option.some.inj h)
      exact v_iret X dX7_let_28 er eg
    · replace h := (if_neg cv5).symm.trans h
      refine v_iloadn X dX7_let_15 rfl rfl ?_
      refine v_bipush (v := -40) X dX7_let_16 (by decide) ?_
      refine v_bipush (v := 40) X dX7_let_18 (by decide) ?_
      obtain ⟨rv8, gv7, qv6, h⟩ := bd2_some h
      refine v_callSI (As := [.int x2, .int (-40 : Int32), .int (40 : Int32)]) (rest := []) X (c_X7_isWithin l D ad cy X.2.2.2.2.2.2.2.2.1 N x2 (-40 : Int32) (40 : Int32) gv2 rv8 gv7  qv6) mw_X7_isWithin ml_X7_71 (by decide) rfl rfl (Nat.le_of_ble_eq_true rfl) dX7_let_20 ?_
      refine v_if_ne X 29 dX7_let_23 (by decide) (fun cv9 => ?_) (fun cv9 => ?_)
      · replace h := (if_neg cv9).symm.trans h
        refine v_aloadn X dX7_let_29 rfl rfl ?_
        refine gf_X7_33 X dX7_let_30 ?_
        refine gf_X7_174 X (k_roof (by omega)) dX7_let_33 ?_
        refine v_iloadn X dX7_let_36 rfl rfl ?_
        obtain ⟨jv10, qv11, h⟩ := bd1_some h
        obtain ⟨ejv10, ljv10⟩ := ix_spec qv11
        refine aaP X (k_papers (by omega)) jv10 ejv10 ljv10 dX7_let_37 ?_
        refine v_astoren (lc' := [some (.ref (ad (7, 0, 0))), some (.int x1), some (.int x2), some (.ref (ad (3, 0, jv10)))]) X dX7_let_38 rfl (by decide) rfl rfl ?_
        refine v_aloadn X dX7_let_39 rfl rfl ?_
        obtain ⟨rv14, gv13, qv12, h⟩ := bd2_some h
        refine v_callVI (As := []) (rest := []) X (c_X3_isUp l D ad cy X.2.2.2.2.2.2.2.2.1 N 0 jv10 gv7 rv14 gv13 (by omega) (by omega) qv12) mw_X3_isUp ml_X7_189 (by decide) (k_paper (by omega) (by omega)) (by decide) rfl rfl rfl rfl (Nat.le_of_ble_eq_true rfl) dX7_let_40 ?_
        refine v_if_eq X 61 dX7_let_43 (by decide) (fun cv15 => ?_) (fun cv15 => ?_)
        · replace h := (if_pos cv15).symm.trans h
          refine v_ldc X kc_X7_148 dX7_let_61 ?_
          obtain ⟨er, eg⟩ := Prod.mk.inj (Option.some.inj h)
          exact v_iret X dX7_let_63 er eg
        · replace h := (if_neg cv15).symm.trans h
          refine v_aloadn X dX7_let_46 rfl rfl ?_
          refine gf_X7_192 X (k_paper (by omega) (by omega)) dX7_let_47 ?_
          refine v_iloadn X dX7_let_50 rfl rfl ?_
          refine v_iadd X dX7_let_51 ?_
          refine v_iconst (v := 1) X dX7_let_52 (by decide) ?_
          refine v_bipush (v := 40) X dX7_let_53 (by decide) ?_
          obtain ⟨rv18, gv17, qv16, h⟩ := bd2_some h
          refine v_callSI (As := [.int ((gv13 13 0 (7 * jv10 + 5)) + x2), .int (1 : Int32), .int (40 : Int32)]) (rest := []) X (c_X7_isWithin l D ad cy X.2.2.2.2.2.2.2.2.1 N ((gv13 13 0 (7 * jv10 + 5)) + x2) (1 : Int32) (40 : Int32) gv13 rv18 gv17  qv16) mw_X7_isWithin ml_X7_71 (by decide) rfl rfl (Nat.le_of_ble_eq_true rfl) dX7_let_55 ?_
          refine v_if_ne X 64 dX7_let_58 (by decide) (fun cv19 => ?_) (fun cv19 => ?_)
          · replace h := (if_neg cv19).symm.trans h
            refine v_aloadn X dX7_let_64 rfl rfl ?_
            refine gf_X7_41 X dX7_let_65 ?_
            refine v_aloadn X dX7_let_68 rfl rfl ?_
            refine gf_X7_33 X dX7_let_69 ?_
            obtain ⟨gv21, qv20, h⟩ := bd1_some h
            refine v_callVV (As := [.ref (ad (4, 0, 0))]) (rest := []) X (c_X0_keep l D ad cy X.2.2.2.2.2.2.2.2.1 N 0 gv17 gv21 (by omega) qv20) mw_X0_keep ml_X7_158 (by decide) (by decide +kernel) (by decide) rfl rfl rfl rfl (Nat.le_of_ble_eq_true rfl) dX7_let_72 ?_
            refine v_aloadn X dX7_let_75 rfl rfl ?_
            refine v_iloadn X dX7_let_76 rfl rfl ?_
            obtain ⟨gv23, qv22, h⟩ := bd1_some h
            refine v_callVV (As := [.int x2]) (rest := []) X (c_X3_letOutBy l D ad cy X.2.2.2.2.2.2.2.2.1 N 0 jv10 x2 gv21 gv23 (by omega) (by omega) qv22) mw_X3_letOutBy ml_X7_195 (by decide) (k_paper (by omega) (by omega)) (by decide) rfl rfl rfl rfl (Nat.le_of_ble_eq_true rfl) dX7_let_77 ?_
            refine v_aloadn X dX7_let_80 rfl rfl ?_
            refine gf_X7_192 X (k_paper (by omega) (by omega)) dX7_let_81 ?_
            obtain ⟨er, eg⟩ := Prod.mk.inj (Option.some.inj h)
            exact v_iret X dX7_let_84 er eg
          · replace h := (if_pos cv19).symm.trans h
            refine v_ldc X kc_X7_148 dX7_let_61 ?_
            obtain ⟨er, eg⟩ := Prod.mk.inj (Option.some.inj h)
            exact v_iret X dX7_let_63 er eg
      · replace h := (if_pos cv9).symm.trans h
        refine v_ldc X kc_X7_75 dX7_let_26 ?_
        obtain ⟨er, eg⟩ := Prod.mk.inj (Option.some.inj h)
        exact v_iret X dX7_let_28 er eg
def F_X7_lets (N : Nat) (x1 : Int32) (x2 : Int32) (x3 : Int32) (g : GS) : Option (Int32 × GS) := bd2 (F_X4_hasPaper N 0 x1 g) (fun rv3 gv2 => if rv3 = 0 then some ((-1000001 : Int32), gv2) else bd2 (F_X7_isWithin N x2 (1 : Int32) (4 : Int32) gv2) (fun rv7 gv6 => if rv7 = 0 then some ((-1000001 : Int32), gv6) else if (-1 : Int32) ≤ x3 then bd1 (ix x1 6) (fun jv10 => bd2 (F_X3_isUp N 0 jv10 gv6) (fun rv14 gv13 => if rv14 = 0 then some ((-1000002 : Int32), gv13) else bd2 (F_X2_bestLetting N x1 x2 x3 gv13) (fun rv18 gv17 => some (rv18, gv17)))) else some ((-1000001 : Int32), gv6)))
set_option maxRecDepth 100000 in
set_option maxHeartbeats 4000000 in
theorem c_X7_lets (l : Launch) (D : va_G) (ad : Ky → Nat) (cy : Nat → ClassId) (hI : Inj ad) (N : Nat) (x1 : Int32) (x2 : Int32) (x3 : Int32) (g : GS) (r : Int32) (gq : GS) (h : F_X7_lets N x1 x2 x3 g = some (r, gq)) : CtI l D ad cy yX7_lets cX7_lets 4 (some .int) 5 [.ref (ad (7, 0, 0)), .int x1, .int x2, .int x3] g r gq := by
  refine CtI.of 0 hI (by decide +kernel) rfl (Nat.le_of_ble_eq_true rfl) (fun p e s m args below meth c X => ?_)
  unfold F_X7_lets at h
  show Vy _ _ _ _ _ _ _ _ _ _ _ _ _ _ _ 0 [some (.ref (ad (7, 0, 0))), some (.int x1), some (.int x2), some (.int x3)] [] g
  refine v_aloadn X dX7_lets_0 rfl rfl ?_
  refine gf_X7_33 X dX7_lets_1 ?_
  refine v_iloadn X dX7_lets_4 rfl rfl ?_
  obtain ⟨rv3, gv2, qv1, h⟩ := bd2_some h
  refine v_callVI (As := [.int x1]) (rest := []) X (c_X4_hasPaper l D ad cy X.2.2.2.2.2.2.2.2.1 N 0 x1 g rv3 gv2 (by omega) qv1) mw_X4_hasPaper ml_X7_171 (by decide) (k_roof (by omega)) (by decide) rfl rfl rfl rfl (Nat.le_of_ble_eq_true rfl) dX7_lets_5 ?_
  refine v_if_eq X 25 dX7_lets_8 (by decide) (fun cv4 => ?_) (fun cv4 => ?_)
  · replace h := (if_pos cv4).symm.trans h
    refine v_ldc X kc_X7_75 dX7_lets_25 ?_
    obtain ⟨er, eg⟩ := Prod.mk.inj (Option.some.inj h)
    exact v_iret X dX7_lets_27 er eg
  · replace h := (if_neg cv4).symm.trans h
    refine v_iloadn X dX7_lets_11 rfl rfl ?_
    refine v_iconst (v := 1) X dX7_lets_12 (by decide) ?_
    refine v_iconst (v := 4) X dX7_lets_13 (by decide) ?_
    obtain ⟨rv7, gv6, qv5, h⟩ := bd2_some h
    refine v_callSI (As := [.int x2, .int (1 : Int32), .int (4 : Int32)]) (rest := []) X (c_X7_isWithin l D ad cy X.2.2.2.2.2.2.2.2.1 N x2 (1 : Int32) (4 : Int32) gv2 rv7 gv6  qv5) mw_X7_isWithin ml_X7_71 (by decide) rfl rfl (Nat.le_of_ble_eq_true rfl) dX7_lets_14 ?_
    refine v_if_eq X 25 dX7_lets_17 (by decide) (fun cv8 => ?_) (fun cv8 => ?_)
    · replace h := (if_pos cv8).symm.trans h
      refine v_ldc X kc_X7_75 dX7_lets_25 ?_
      obtain ⟨er, eg⟩ := Prod.mk.inj (Option.some.inj h)
      exact v_iret X dX7_lets_27 er eg
    · replace h := (if_neg cv8).symm.trans h
      refine v_iloadn X dX7_lets_20 rfl rfl ?_
      refine v_iconst (v := -1) X dX7_lets_21 (by decide) ?_
      refine v_icmp_ge X 28 dX7_lets_22 (by decide) (fun cv9 => ?_) (fun cv9 => ?_)
      · replace h := (if_pos cv9).symm.trans h
        refine v_aloadn X dX7_lets_28 rfl rfl ?_
        refine gf_X7_33 X dX7_lets_29 ?_
        refine gf_X7_174 X (k_roof (by omega)) dX7_lets_32 ?_
        refine v_iloadn X dX7_lets_35 rfl rfl ?_
        obtain ⟨jv10, qv11, h⟩ := bd1_some h
        obtain ⟨ejv10, ljv10⟩ := ix_spec qv11
        refine aaP X (k_papers (by omega)) jv10 ejv10 ljv10 dX7_lets_36 ?_
        obtain ⟨rv14, gv13, qv12, h⟩ := bd2_some h
        refine v_callVI (As := []) (rest := []) X (c_X3_isUp l D ad cy X.2.2.2.2.2.2.2.2.1 N 0 jv10 gv6 rv14 gv13 (by omega) (by omega) qv12) mw_X3_isUp ml_X7_189 (by decide) (k_paper (by omega) (by omega)) (by decide) rfl rfl rfl rfl (Nat.le_of_ble_eq_true rfl) dX7_lets_37 ?_
        refine v_if_ne X 46 dX7_lets_40 (by decide) (fun cv15 => ?_) (fun cv15 => ?_)
        · replace h := (if_neg cv15).symm.trans h
          refine v_aloadn X dX7_lets_46 rfl rfl ?_
          refine gf_X7_25 X dX7_lets_47 ?_
          refine v_iloadn X dX7_lets_50 rfl rfl ?_
          refine v_iloadn X dX7_lets_51 rfl rfl ?_
          refine v_iloadn X dX7_lets_52 rfl rfl ?_
          obtain ⟨rv18, gv17, qv16, h⟩ := bd2_some h
          refine v_callVI (As := [.int x1, .int x2, .int x3]) (rest := []) X (c_X2_bestLetting l D ad cy X.2.2.2.2.2.2.2.2.1 N x1 x2 x3 gv13 rv18 gv17  qv16) mw_X2_bestLetting ml_X7_239 (by decide) (by decide +kernel) (by decide) rfl rfl rfl rfl (Nat.le_of_ble_eq_true rfl) dX7_lets_53 ?_
          obtain ⟨er, eg⟩ := Prod.mk.inj (Option.some.inj h)
          exact v_iret X dX7_lets_56 er eg
        · replace h := (if_pos cv15).symm.trans h
          refine v_ldc X kc_X7_148 dX7_lets_43 ?_
          obtain ⟨er, eg⟩ := Prod.mk.inj (Option.some.inj h)
          exact v_iret X dX7_lets_45 er eg
      · replace h := (if_neg cv9).symm.trans h
        refine v_ldc X kc_X7_75 dX7_lets_25 ?_
        obtain ⟨er, eg⟩ := Prod.mk.inj (Option.some.inj h)
        exact v_iret X dX7_lets_27 er eg
def F_X7_light (N : Nat) (x1 : Int32) (x2 : Int32) (g : GS) : Option (Int32 × GS) := bd2 (F_X4_hasPaper N 0 x1 g) (fun rv3 gv2 => if rv3 = 0 then some ((-1000001 : Int32), gv2) else bd2 (F_X7_isWithin N x2 (1 : Int32) (30 : Int32) gv2) (fun rv7 gv6 => if rv7 = 0 then some ((-1000001 : Int32), gv6) else bd2 (F_X2_greatestWeight N x1 x2 gv6) (fun rv11 gv10 => some (rv11, gv10))))
set_option maxRecDepth 100000 in
set_option maxHeartbeats 4000000 in
theorem c_X7_light (l : Launch) (D : va_G) (ad : Ky → Nat) (cy : Nat → ClassId) (hI : Inj ad) (N : Nat) (x1 : Int32) (x2 : Int32) (g : GS) (r : Int32) (gq : GS) (h : F_X7_light N x1 x2 g = some (r, gq)) : CtI l D ad cy yX7_light cX7_light 3 (some .int) 5 [.ref (ad (7, 0, 0)), .int x1, .int x2] g r gq := by
  refine CtI.of 0 hI (by decide +kernel) rfl (Nat.le_of_ble_eq_true rfl) (fun p e s m args below meth c X => ?_)
  unfold F_X7_light at h
  show Vy _ _ _ _ _ _ _ _ _ _ _ _ _ _ _ 0 [some (.ref (ad (7, 0, 0))), some (.int x1), some (.int x2)] [] g
  refine v_aloadn X dX7_light_0 rfl rfl ?_
  refine gf_X7_33 X dX7_light_1 ?_
  refine v_iloadn X dX7_light_4 rfl rfl ?_
  obtain ⟨rv3, gv2, qv1, h⟩ := bd2_some h
  refine v_callVI (As := [.int x1]) (rest := []) X (c_X4_hasPaper l D ad cy X.2.2.2.2.2.2.2.2.1 N 0 x1 g rv3 gv2 (by omega) qv1) mw_X4_hasPaper ml_X7_171 (by decide) (k_roof (by omega)) (by decide) rfl rfl rfl rfl (Nat.le_of_ble_eq_true rfl) dX7_light_5 ?_
  refine v_if_eq X 21 dX7_light_8 (by decide) (fun cv4 => ?_) (fun cv4 => ?_)
  · replace h := (if_pos cv4).symm.trans h
    refine v_ldc X kc_X7_75 dX7_light_21 ?_
    obtain ⟨er, eg⟩ := Prod.mk.inj (Option.some.inj h)
    exact v_iret X dX7_light_23 er eg
  · replace h := (if_neg cv4).symm.trans h
    refine v_iloadn X dX7_light_11 rfl rfl ?_
    refine v_iconst (v := 1) X dX7_light_12 (by decide) ?_
    refine v_bipush (v := 30) X dX7_light_13 (by decide) ?_
    obtain ⟨rv7, gv6, qv5, h⟩ := bd2_some h
    refine v_callSI (As := [.int x2, .int (1 : Int32), .int (30 : Int32)]) (rest := []) X (c_X7_isWithin l D ad cy X.2.2.2.2.2.2.2.2.1 N x2 (1 : Int32) (30 : Int32) gv2 rv7 gv6  qv5) mw_X7_isWithin ml_X7_71 (by decide) rfl rfl (Nat.le_of_ble_eq_true rfl) dX7_light_15 ?_
    refine v_if_ne X 24 dX7_light_18 (by decide) (fun cv8 => ?_) (fun cv8 => ?_)
    · replace h := (if_neg cv8).symm.trans h
      refine v_aloadn X dX7_light_24 rfl rfl ?_
      refine gf_X7_25 X dX7_light_25 ?_
      refine v_iloadn X dX7_light_28 rfl rfl ?_
      refine v_iloadn X dX7_light_29 rfl rfl ?_
      obtain ⟨rv11, gv10, qv9, h⟩ := bd2_some h
      refine v_callVI (As := [.int x1, .int x2]) (rest := []) X (c_X2_greatestWeight l D ad cy X.2.2.2.2.2.2.2.2.1 N x1 x2 gv6 rv11 gv10  qv9) mw_X2_greatestWeight ml_X7_243 (by decide) (by decide +kernel) (by decide) rfl rfl rfl rfl (Nat.le_of_ble_eq_true rfl) dX7_light_30 ?_
      obtain ⟨er, eg⟩ := Prod.mk.inj (Option.some.inj h)
      exact v_iret X dX7_light_33 er eg
    · replace h := (if_pos cv8).symm.trans h
      refine v_ldc X kc_X7_75 dX7_light_21 ?_
      obtain ⟨er, eg⟩ := Prod.mk.inj (Option.some.inj h)
      exact v_iret X dX7_light_23 er eg
def F_X7_paper (N : Nat) (x1 : Int32) (x2 : Int32) (g : GS) : Option (Int32 × GS) := bd2 (F_X4_hasPaper N 0 x1 g) (fun rv3 gv2 => if rv3 = 0 then some ((-1000001 : Int32), gv2) else bd1 (ix x1 6) (fun jv5 => if x2 = 0 then some ((gv2 13 0 (7 * jv5 + 1)), gv2) else if x2 = 1 then some ((gv2 13 0 (7 * jv5 + 2)), gv2) else if x2 = 2 then some ((gv2 13 0 (7 * jv5 + 3)), gv2) else if x2 = 3 then some ((gv2 13 0 (7 * jv5 + 4)), gv2) else if x2 = 4 then some ((gv2 13 0 (7 * jv5 + 5)), gv2) else if x2 = 5 then some ((gv2 13 0 (7 * jv5 + 6)), gv2) else if x2 = 6 then bd2 (F_X4_isPolicy N 0 x1 gv2) (fun rv16 gv15 => if rv16 = 0 then some ((0 : Int32), gv15) else some ((1 : Int32), gv15)) else some ((-1000001 : Int32), gv2)))
set_option maxRecDepth 100000 in
set_option maxHeartbeats 4000000 in
theorem c_X7_paper (l : Launch) (D : va_G) (ad : Ky → Nat) (cy : Nat → ClassId) (hI : Inj ad) (N : Nat) (x1 : Int32) (x2 : Int32) (g : GS) (r : Int32) (gq : GS) (h : F_X7_paper N x1 x2 g = some (r, gq)) : CtI l D ad cy yX7_paper cX7_paper 4 (some .int) 2 [.ref (ad (7, 0, 0)), .int x1, .int x2] g r gq := by
  refine CtI.of 1 hI (by decide +kernel) rfl (Nat.le_of_ble_eq_true rfl) (fun p e s m args below meth c X => ?_)
  unfold F_X7_paper at h
  show Vy _ _ _ _ _ _ _ _ _ _ _ _ _ _ _ 0 [some (.ref (ad (7, 0, 0))), some (.int x1), some (.int x2), none] [] g
  refine v_aloadn X dX7_paper_0 rfl rfl ?_
  refine gf_X7_33 X dX7_paper_1 ?_
  refine v_iloadn X dX7_paper_4 rfl rfl ?_
  obtain ⟨rv3, gv2, qv1, h⟩ := bd2_some h
  refine v_callVI (As := [.int x1]) (rest := []) X (c_X4_hasPaper l D ad cy X.2.2.2.2.2.2.2.2.1 N 0 x1 g rv3 gv2 (by omega) qv1) mw_X4_hasPaper ml_X7_171 (by decide) (k_roof (by omega)) (by decide) rfl rfl rfl rfl (Nat.le_of_ble_eq_true rfl) dX7_paper_5 ?_
  refine v_if_ne X 14 dX7_paper_8 (by decide) (fun cv4 => ?_) (fun cv4 => ?_)
  · replace h := (if_neg cv4).symm.trans h
    refine v_aloadn X dX7_paper_14 rfl rfl ?_
    refine gf_X7_33 X dX7_paper_15 ?_
    refine gf_X7_174 X (k_roof (by omega)) dX7_paper_18 ?_
    refine v_iloadn X dX7_paper_21 rfl rfl ?_
    obtain ⟨jv5, qv6, h⟩ := bd1_some h
    obtain ⟨ejv5, ljv5⟩ := ix_spec qv6
    refine aaP X (k_papers (by omega)) jv5 ejv5 ljv5 dX7_paper_22 ?_
    refine v_astoren (lc' := [some (.ref (ad (7, 0, 0))), some (.int x1), some (.int x2), some (.ref (ad (3, 0, jv5)))]) X dX7_paper_23 rfl (by decide) rfl rfl ?_
    refine v_iloadn X dX7_paper_24 rfl rfl ?_
    by_cases cv7 : x2 = 0
    · replace h := (if_pos cv7).symm.trans h
      refine v_tableIn X 68 dX7_paper_25 (by rw [cv7]; decide) (by rw [cv7]; decide) (by rw [cv7]; rfl) (by decide) ?_
      refine v_aloadn X dX7_paper_68 rfl rfl ?_
      refine gf_X7_207 X (k_paper (by omega) (by omega)) dX7_paper_69 ?_
      obtain ⟨er, eg⟩ := Prod.mk.inj (Option.some.inj h)
      exact v_iret X dX7_paper_72 er eg
    replace h := (if_neg cv7).symm.trans h
    by_cases cv8 : x2 = 1
    · replace h := (if_pos cv8).symm.trans h
      refine v_tableIn X 73 dX7_paper_25 (by rw [cv8]; decide) (by rw [cv8]; decide) (by rw [cv8]; rfl) (by decide) ?_
      refine v_aloadn X dX7_paper_73 rfl rfl ?_
      refine gf_X7_198 X (k_paper (by omega) (by omega)) dX7_paper_74 ?_
      obtain ⟨er, eg⟩ := Prod.mk.inj (Option.some.inj h)
      exact v_iret X dX7_paper_77 er eg
    replace h := (if_neg cv8).symm.trans h
    by_cases cv9 : x2 = 2
    · replace h := (if_pos cv9).symm.trans h
      refine v_tableIn X 78 dX7_paper_25 (by rw [cv9]; decide) (by rw [cv9]; decide) (by rw [cv9]; rfl) (by decide) ?_
      refine v_aloadn X dX7_paper_78 rfl rfl ?_
      refine gf_X7_178 X (k_paper (by omega) (by omega)) dX7_paper_79 ?_
      obtain ⟨er, eg⟩ := Prod.mk.inj (Option.some.inj h)
      exact v_iret X dX7_paper_82 er eg
    replace h := (if_neg cv9).symm.trans h
    by_cases cv10 : x2 = 3
    · replace h := (if_pos cv10).symm.trans h
      refine v_tableIn X 83 dX7_paper_25 (by rw [cv10]; decide) (by rw [cv10]; decide) (by rw [cv10]; rfl) (by decide) ?_
      refine v_aloadn X dX7_paper_83 rfl rfl ?_
      refine gf_X7_210 X (k_paper (by omega) (by omega)) dX7_paper_84 ?_
      obtain ⟨er, eg⟩ := Prod.mk.inj (Option.some.inj h)
      exact v_iret X dX7_paper_87 er eg
    replace h := (if_neg cv10).symm.trans h
    by_cases cv11 : x2 = 4
    · replace h := (if_pos cv11).symm.trans h
      refine v_tableIn X 88 dX7_paper_25 (by rw [cv11]; decide) (by rw [cv11]; decide) (by rw [cv11]; rfl) (by decide) ?_
      refine v_aloadn X dX7_paper_88 rfl rfl ?_
      refine gf_X7_192 X (k_paper (by omega) (by omega)) dX7_paper_89 ?_
      obtain ⟨er, eg⟩ := Prod.mk.inj (Option.some.inj h)
      exact v_iret X dX7_paper_92 er eg
    replace h := (if_neg cv11).symm.trans h
    by_cases cv12 : x2 = 5
    · replace h := (if_pos cv12).symm.trans h
      refine v_tableIn X 93 dX7_paper_25 (by rw [cv12]; decide) (by rw [cv12]; decide) (by rw [cv12]; rfl) (by decide) ?_
      refine v_aloadn X dX7_paper_93 rfl rfl ?_
      refine gf_X7_213 X (k_paper (by omega) (by omega)) dX7_paper_94 ?_
      obtain ⟨er, eg⟩ := Prod.mk.inj (Option.some.inj h)
      exact v_iret X dX7_paper_97 er eg
    replace h := (if_neg cv12).symm.trans h
    by_cases cv13 : x2 = 6
    · replace h := (if_pos cv13).symm.trans h
      refine v_tableIn X 98 dX7_paper_25 (by rw [cv13]; decide) (by rw [cv13]; decide) (by rw [cv13]; rfl) (by decide) ?_
      refine v_aloadn X dX7_paper_98 rfl rfl ?_
      refine gf_X7_33 X dX7_paper_99 ?_
      refine v_iloadn X dX7_paper_102 rfl rfl ?_
      obtain ⟨rv16, gv15, qv14, h⟩ := bd2_some h
      refine v_callVI (As := [.int x1]) (rest := []) X (c_X4_isPolicy l D ad cy X.2.2.2.2.2.2.2.2.1 N 0 x1 gv2 rv16 gv15 (by omega) qv14) mw_X4_isPolicy ml_X7_216 (by decide) (k_roof (by omega)) (by decide) rfl rfl rfl rfl (Nat.le_of_ble_eq_true rfl) dX7_paper_103 ?_
      refine v_if_eq X 113 dX7_paper_106 (by decide) (fun cv17 => ?_) (fun cv17 => ?_)
      · replace h := (if_pos cv17).symm.trans h
        refine v_iconst (v := 0) X dX7_paper_113 (by decide) ?_
        obtain ⟨er, eg⟩ := Prod.mk.inj (Option.some.inj h)
        exact v_iret X dX7_paper_114 er eg
      · replace h := (if_neg cv17).symm.trans h
        refine v_iconst (v := 1) X dX7_paper_109 (by decide) ?_
        refine v_goto X 114 dX7_paper_110 (by decide) ?_
        obtain ⟨er, eg⟩ := Prod.mk.inj (Option.some.inj h)
        exact v_iret X dX7_paper_114 er eg
    replace h := (if_neg cv13).symm.trans h
    have tv18 := tab_ne (k := 0) (n := 0) cv7 (by decide)
    have tv19 := tab_ne (k := 1) (n := 1) cv8 (by decide)
    have tv20 := tab_ne (k := 2) (n := 2) cv9 (by decide)
    have tv21 := tab_ne (k := 3) (n := 3) cv10 (by decide)
    have tv22 := tab_ne (k := 4) (n := 4) cv11 (by decide)
    have tv23 := tab_ne (k := 5) (n := 5) cv12 (by decide)
    have tv24 := tab_ne (k := 6) (n := 6) cv13 (by decide)
    refine v_tableOut X 115 dX7_paper_25 (by omega) (by decide) ?_
    refine v_ldc X kc_X7_75 dX7_paper_115 ?_
    obtain ⟨er, eg⟩ := Prod.mk.inj (Option.some.inj h)
    exact v_iret X dX7_paper_117 er eg
  · replace h := (if_pos cv4).symm.trans h
    refine v_ldc X kc_X7_75 dX7_paper_11 ?_
    obtain ⟨er, eg⟩ := Prod.mk.inj (Option.some.inj h)
    exact v_iret X dX7_paper_13 er eg
def F_X7_policy (N : Nat) (x1 : Int32) (g : GS) : Option (Int32 × GS) := bd2 (F_X4_isRead N 0 g) (fun rv3 gv2 => if rv3 = 0 then some ((-1000002 : Int32), gv2) else bd2 (F_X7_isWithin N x1 (0 : Int32) (60 : Int32) gv2) (fun rv7 gv6 => if rv7 = 0 then some ((-1000001 : Int32), gv6) else bd1 (F_X2_draftAhead N x1 gv6) (fun gv10 => bd2 (F_X4_policyBits N 1 gv10) (fun rv13 gv12 => some (rv13, gv12)))))
set_option maxRecDepth 100000 in
set_option maxHeartbeats 4000000 in
theorem c_X7_policy (l : Launch) (D : va_G) (ad : Ky → Nat) (cy : Nat → ClassId) (hI : Inj ad) (N : Nat) (x1 : Int32) (g : GS) (r : Int32) (gq : GS) (h : F_X7_policy N x1 g = some (r, gq)) : CtI l D ad cy yX7_policy cX7_policy 2 (some .int) 5 [.ref (ad (7, 0, 0)), .int x1] g r gq := by
  refine CtI.of 0 hI (by decide +kernel) rfl (Nat.le_of_ble_eq_true rfl) (fun p e s m args below meth c X => ?_)
  unfold F_X7_policy at h
  show Vy _ _ _ _ _ _ _ _ _ _ _ _ _ _ _ 0 [some (.ref (ad (7, 0, 0))), some (.int x1)] [] g
  refine v_aloadn X dX7_policy_0 rfl rfl ?_
  refine gf_X7_33 X dX7_policy_1 ?_
  obtain ⟨rv3, gv2, qv1, h⟩ := bd2_some h
  refine v_callVI (As := []) (rest := []) X (c_X4_isRead l D ad cy X.2.2.2.2.2.2.2.2.1 N 0 g rv3 gv2 (by omega) qv1) mw_X4_isRead ml_X7_152 (by decide) (k_roof (by omega)) (by decide) rfl rfl rfl rfl (Nat.le_of_ble_eq_true rfl) dX7_policy_4 ?_
  refine v_if_ne X 13 dX7_policy_7 (by decide) (fun cv4 => ?_) (fun cv4 => ?_)
  · replace h := (if_neg cv4).symm.trans h
    refine v_iloadn X dX7_policy_13 rfl rfl ?_
    refine v_iconst (v := 0) X dX7_policy_14 (by decide) ?_
    refine v_bipush (v := 60) X dX7_policy_15 (by decide) ?_
    obtain ⟨rv7, gv6, qv5, h⟩ := bd2_some h
    refine v_callSI (As := [.int x1, .int (0 : Int32), .int (60 : Int32)]) (rest := []) X (c_X7_isWithin l D ad cy X.2.2.2.2.2.2.2.2.1 N x1 (0 : Int32) (60 : Int32) gv2 rv7 gv6  qv5) mw_X7_isWithin ml_X7_71 (by decide) rfl rfl (Nat.le_of_ble_eq_true rfl) dX7_policy_17 ?_
    refine v_if_ne X 26 dX7_policy_20 (by decide) (fun cv8 => ?_) (fun cv8 => ?_)
    · replace h := (if_neg cv8).symm.trans h
      refine v_aloadn X dX7_policy_26 rfl rfl ?_
      refine gf_X7_25 X dX7_policy_27 ?_
      refine v_iloadn X dX7_policy_30 rfl rfl ?_
      obtain ⟨gv10, qv9, h⟩ := bd1_some h
      refine v_callVV (As := [.int x1]) (rest := []) X (c_X2_draftAhead l D ad cy X.2.2.2.2.2.2.2.2.1 N x1 gv6 gv10  qv9) mw_X2_draftAhead ml_X7_225 (by decide) (by decide +kernel) (by decide) rfl rfl rfl rfl (Nat.le_of_ble_eq_true rfl) dX7_policy_31 ?_
      refine v_aloadn X dX7_policy_34 rfl rfl ?_
      refine gf_X7_37 X dX7_policy_35 ?_
      obtain ⟨rv13, gv12, qv11, h⟩ := bd2_some h
      refine v_callVI (As := []) (rest := []) X (c_X4_policyBits l D ad cy X.2.2.2.2.2.2.2.2.1 N 1 gv10 rv13 gv12 (by omega) qv11) mw_X4_policyBits ml_X7_167 (by decide) (k_roof (by omega)) (by decide) rfl rfl rfl rfl (Nat.le_of_ble_eq_true rfl) dX7_policy_38 ?_
      obtain ⟨er, eg⟩ := Prod.mk.inj (Option.some.inj h)
      exact v_iret X dX7_policy_41 er eg
    · replace h := (if_pos cv8).symm.trans h
      refine v_ldc X kc_X7_75 dX7_policy_23 ?_
      obtain ⟨er, eg⟩ := Prod.mk.inj (Option.some.inj h)
      exact v_iret X dX7_policy_25 er eg
  · replace h := (if_pos cv4).symm.trans h
    refine v_ldc X kc_X7_148 dX7_policy_10 ?_
    obtain ⟨er, eg⟩ := Prod.mk.inj (Option.some.inj h)
    exact v_iret X dX7_policy_12 er eg
def F_X7_pull (N : Nat) (x1 : Int32) (g : GS) : Option (Int32 × GS) := bd2 (F_X4_hasPaper N 0 x1 g) (fun rv3 gv2 => if rv3 = 0 then some ((-1000001 : Int32), gv2) else bd1 (ix x1 6) (fun jv5 => bd2 (F_X3_isUp N 0 jv5 gv2) (fun rv9 gv8 => if rv9 = 0 then some ((-1000002 : Int32), gv8) else bd2 (F_X4_forceAfter N 0 (0 : Int32) gv8) (fun rv13 gv12 => bd2 (F_X4_riseOf N 0 x1 rv13 gv12) (fun rv16 gv15 => some (rv16, gv15))))))
set_option maxRecDepth 100000 in
set_option maxHeartbeats 4000000 in
theorem c_X7_pull (l : Launch) (D : va_G) (ad : Ky → Nat) (cy : Nat → ClassId) (hI : Inj ad) (N : Nat) (x1 : Int32) (g : GS) (r : Int32) (gq : GS) (h : F_X7_pull N x1 g = some (r, gq)) : CtI l D ad cy yX7_pull cX7_pull 2 (some .int) 3 [.ref (ad (7, 0, 0)), .int x1] g r gq := by
  refine CtI.of 0 hI (by decide +kernel) rfl (Nat.le_of_ble_eq_true rfl) (fun p e s m args below meth c X => ?_)
  unfold F_X7_pull at h
  show Vy _ _ _ _ _ _ _ _ _ _ _ _ _ _ _ 0 [some (.ref (ad (7, 0, 0))), some (.int x1)] [] g
  refine v_aloadn X dX7_pull_0 rfl rfl ?_
  refine gf_X7_33 X dX7_pull_1 ?_
  refine v_iloadn X dX7_pull_4 rfl rfl ?_
  obtain ⟨rv3, gv2, qv1, h⟩ := bd2_some h
  refine v_callVI (As := [.int x1]) (rest := []) X (c_X4_hasPaper l D ad cy X.2.2.2.2.2.2.2.2.1 N 0 x1 g rv3 gv2 (by omega) qv1) mw_X4_hasPaper ml_X7_171 (by decide) (k_roof (by omega)) (by decide) rfl rfl rfl rfl (Nat.le_of_ble_eq_true rfl) dX7_pull_5 ?_
  refine v_if_ne X 14 dX7_pull_8 (by decide) (fun cv4 => ?_) (fun cv4 => ?_)
  · replace h := (if_neg cv4).symm.trans h
    refine v_aloadn X dX7_pull_14 rfl rfl ?_
    refine gf_X7_33 X dX7_pull_15 ?_
    refine gf_X7_174 X (k_roof (by omega)) dX7_pull_18 ?_
    refine v_iloadn X dX7_pull_21 rfl rfl ?_
    obtain ⟨jv5, qv6, h⟩ := bd1_some h
    obtain ⟨ejv5, ljv5⟩ := ix_spec qv6
    refine aaP X (k_papers (by omega)) jv5 ejv5 ljv5 dX7_pull_22 ?_
    obtain ⟨rv9, gv8, qv7, h⟩ := bd2_some h
    refine v_callVI (As := []) (rest := []) X (c_X3_isUp l D ad cy X.2.2.2.2.2.2.2.2.1 N 0 jv5 gv2 rv9 gv8 (by omega) (by omega) qv7) mw_X3_isUp ml_X7_189 (by decide) (k_paper (by omega) (by omega)) (by decide) rfl rfl rfl rfl (Nat.le_of_ble_eq_true rfl) dX7_pull_23 ?_
    refine v_if_ne X 32 dX7_pull_26 (by decide) (fun cv10 => ?_) (fun cv10 => ?_)
    · replace h := (if_neg cv10).symm.trans h
      refine v_aloadn X dX7_pull_32 rfl rfl ?_
      refine gf_X7_33 X dX7_pull_33 ?_
      refine v_iloadn X dX7_pull_36 rfl rfl ?_
      refine v_aloadn X dX7_pull_37 rfl rfl ?_
      refine gf_X7_33 X dX7_pull_38 ?_
      refine v_iconst (v := 0) X dX7_pull_41 (by decide) ?_
      obtain ⟨rv13, gv12, qv11, h⟩ := bd2_some h
      refine v_callVI (As := [.int (0 : Int32)]) (rest := [.int x1, .ref (ad (4, 0, 0))]) X (c_X4_forceAfter l D ad cy X.2.2.2.2.2.2.2.2.1 N 0 (0 : Int32) gv8 rv13 gv12 (by omega) qv11) mw_X4_forceAfter ml_X7_161 (by decide) (k_roof (by omega)) (by decide) rfl rfl rfl rfl (Nat.le_of_ble_eq_true rfl) dX7_pull_42 ?_
      obtain ⟨rv16, gv15, qv14, h⟩ := bd2_some h
      refine v_callVI (As := [.int x1, .int rv13]) (rest := []) X (c_X4_riseOf l D ad cy X.2.2.2.2.2.2.2.2.1 N 0 x1 rv13 gv12 rv16 gv15 (by omega) qv14) mw_X4_riseOf ml_X7_232 (by decide) (k_roof (by omega)) (by decide) rfl rfl rfl rfl (Nat.le_of_ble_eq_true rfl) dX7_pull_45 ?_
      obtain ⟨er, eg⟩ := Prod.mk.inj (Option.some.inj h)
      exact v_iret X dX7_pull_48 er eg
    · replace h := (if_pos cv10).symm.trans h
      refine v_ldc X kc_X7_148 dX7_pull_29 ?_
      obtain ⟨er, eg⟩ := Prod.mk.inj (Option.some.inj h)
      exact v_iret X dX7_pull_31 er eg
  · replace h := (if_pos cv4).symm.trans h
    refine v_ldc X kc_X7_75 dX7_pull_11 ?_
    obtain ⟨er, eg⟩ := Prod.mk.inj (Option.some.inj h)
    exact v_iret X dX7_pull_13 er eg
def F_X7_quarrels (N : Nat) (x1 : Int32) (g : GS) : Option (Int32 × GS) := bd2 (F_X4_isRead N 0 g) (fun rv3 gv2 => if rv3 = 0 then some ((-1000002 : Int32), gv2) else if x1 = 0 then bd2 (F_X4_quarrelCount N 0 gv2) (fun rv8 gv7 => some (rv8, gv7)) else if x1 = 1 then bd2 (F_X4_firstQuarrel N 0 gv2) (fun rv12 gv11 => some (rv12, gv11)) else some ((-1000001 : Int32), gv2))
set_option maxRecDepth 100000 in
set_option maxHeartbeats 4000000 in
theorem c_X7_quarrels (l : Launch) (D : va_G) (ad : Ky → Nat) (cy : Nat → ClassId) (hI : Inj ad) (N : Nat) (x1 : Int32) (g : GS) (r : Int32) (gq : GS) (h : F_X7_quarrels N x1 g = some (r, gq)) : CtI l D ad cy yX7_quarrels cX7_quarrels 2 (some .int) 2 [.ref (ad (7, 0, 0)), .int x1] g r gq := by
  refine CtI.of 0 hI (by decide +kernel) rfl (Nat.le_of_ble_eq_true rfl) (fun p e s m args below meth c X => ?_)
  unfold F_X7_quarrels at h
  show Vy _ _ _ _ _ _ _ _ _ _ _ _ _ _ _ 0 [some (.ref (ad (7, 0, 0))), some (.int x1)] [] g
  refine v_aloadn X dX7_quarrels_0 rfl rfl ?_
  refine gf_X7_33 X dX7_quarrels_1 ?_
  obtain ⟨rv3, gv2, qv1, h⟩ := bd2_some h
  refine v_callVI (As := []) (rest := []) X (c_X4_isRead l D ad cy X.2.2.2.2.2.2.2.2.1 N 0 g rv3 gv2 (by omega) qv1) mw_X4_isRead ml_X7_152 (by decide) (k_roof (by omega)) (by decide) rfl rfl rfl rfl (Nat.le_of_ble_eq_true rfl) dX7_quarrels_4 ?_
  refine v_if_ne X 13 dX7_quarrels_7 (by decide) (fun cv4 => ?_) (fun cv4 => ?_)
  · replace h := (if_neg cv4).symm.trans h
    refine v_iloadn X dX7_quarrels_13 rfl rfl ?_
    by_cases cv5 : x1 = 0
    · replace h := (if_pos cv5).symm.trans h
      refine v_lookup (off := 26) X 40 dX7_quarrels_14 (by decide) (by rw [cv5]; first | done | rfl) (by decide) ?_
      refine v_aloadn X dX7_quarrels_40 rfl rfl ?_
      refine gf_X7_33 X dX7_quarrels_41 ?_
      obtain ⟨rv8, gv7, qv6, h⟩ := bd2_some h
      refine v_callVI (As := []) (rest := []) X (c_X4_quarrelCount l D ad cy X.2.2.2.2.2.2.2.2.1 N 0 gv2 rv8 gv7 (by omega) qv6) mw_X4_quarrelCount ml_X7_249 (by decide) (k_roof (by omega)) (by decide) rfl rfl rfl rfl (Nat.le_of_ble_eq_true rfl) dX7_quarrels_44 ?_
      obtain ⟨er, eg⟩ := Prod.mk.inj (Option.some.inj h)
      exact v_iret X dX7_quarrels_47 er eg
    replace h := (if_neg cv5).symm.trans h
    by_cases cv9 : x1 = 1
    · replace h := (if_pos cv9).symm.trans h
      refine v_lookup (off := 34) X 48 dX7_quarrels_14 (by decide) (by rw [cv9]; first | done | rfl) (by decide) ?_
      refine v_aloadn X dX7_quarrels_48 rfl rfl ?_
      refine gf_X7_33 X dX7_quarrels_49 ?_
      obtain ⟨rv12, gv11, qv10, h⟩ := bd2_some h
      refine v_callVI (As := []) (rest := []) X (c_X4_firstQuarrel l D ad cy X.2.2.2.2.2.2.2.2.1 N 0 gv2 rv12 gv11 (by omega) qv10) mw_X4_firstQuarrel ml_X7_252 (by decide) (k_roof (by omega)) (by decide) rfl rfl rfl rfl (Nat.le_of_ble_eq_true rfl) dX7_quarrels_52 ?_
      obtain ⟨er, eg⟩ := Prod.mk.inj (Option.some.inj h)
      exact v_iret X dX7_quarrels_55 er eg
    replace h := (if_neg cv9).symm.trans h
    refine v_lookup (off := 42) X 56 dX7_quarrels_14 (by decide) (by show Op.lookupswitch.offset [(0, 26), (1, 34)] 42 _ = _; rw [lv_osw (a := 0) cv5 (by decide), lv_osw (a := 1) cv9 (by decide)]; first | done | rfl) (by decide) ?_
    refine v_ldc X kc_X7_75 dX7_quarrels_56 ?_
    obtain ⟨er, eg⟩ := Prod.mk.inj (Option.some.inj h)
    exact v_iret X dX7_quarrels_58 er eg
  · replace h := (if_pos cv4).symm.trans h
    refine v_ldc X kc_X7_148 dX7_quarrels_10 ?_
    obtain ⟨er, eg⟩ := Prod.mk.inj (Option.some.inj h)
    exact v_iret X dX7_quarrels_12 er eg
def F_X7_restore (N : Nat) (x1 : Int32) (g : GS) : Option (Int32 × GS) := bd2 (F_X7_isWithin N x1 (0 : Int32) (1 : Int32) g) (fun rv3 gv2 => if rv3 = 0 then some ((-1000001 : Int32), gv2) else bd1 (ix x1 2) (fun jv5 => bd2 (F_X4_isRead N (26 + jv5) gv2) (fun rv9 gv8 => if rv9 = 0 then some ((-1000002 : Int32), gv8) else bd1 (F_X4_become N 0 (26 + jv5) gv8) (fun gv12 => bd1 (F_X0_forget N  gv12) (fun gv14 => some ((1 : Int32), gv14))))))
set_option maxRecDepth 100000 in
set_option maxHeartbeats 4000000 in
theorem c_X7_restore (l : Launch) (D : va_G) (ad : Ky → Nat) (cy : Nat → ClassId) (hI : Inj ad) (N : Nat) (x1 : Int32) (g : GS) (r : Int32) (gq : GS) (h : F_X7_restore N x1 g = some (r, gq)) : CtI l D ad cy yX7_restore cX7_restore 2 (some .int) 2 [.ref (ad (7, 0, 0)), .int x1] g r gq := by
  refine CtI.of 0 hI (by decide +kernel) rfl (Nat.le_of_ble_eq_true rfl) (fun p e s m args below meth c X => ?_)
  unfold F_X7_restore at h
  show Vy _ _ _ _ _ _ _ _ _ _ _ _ _ _ _ 0 [some (.ref (ad (7, 0, 0))), some (.int x1)] [] g
  refine v_iloadn X dX7_restore_0 rfl rfl ?_
  refine v_iconst (v := 0) X dX7_restore_1 (by decide) ?_
  refine v_iconst (v := 1) X dX7_restore_2 (by decide) ?_
  obtain ⟨rv3, gv2, qv1, h⟩ := bd2_some h
  refine v_callSI (As := [.int x1, .int (0 : Int32), .int (1 : Int32)]) (rest := []) X (c_X7_isWithin l D ad cy X.2.2.2.2.2.2.2.2.1 N x1 (0 : Int32) (1 : Int32) g rv3 gv2  qv1) mw_X7_isWithin ml_X7_71 (by decide) rfl rfl (Nat.le_of_ble_eq_true rfl) dX7_restore_3 ?_
  refine v_if_ne X 12 dX7_restore_6 (by decide) (fun cv4 => ?_) (fun cv4 => ?_)
  · replace h := (if_neg cv4).symm.trans h
    refine v_aloadn X dX7_restore_12 rfl rfl ?_
    refine gf_X7_47 X dX7_restore_13 ?_
    refine v_iloadn X dX7_restore_16 rfl rfl ?_
    obtain ⟨jv5, qv6, h⟩ := bd1_some h
    obtain ⟨ejv5, ljv5⟩ := ix_spec qv6
    refine aaG X jv5 ejv5 ljv5 dX7_restore_17 ?_
    obtain ⟨rv9, gv8, qv7, h⟩ := bd2_some h
    refine v_callVI (As := []) (rest := []) X (c_X4_isRead l D ad cy X.2.2.2.2.2.2.2.2.1 N (26 + jv5) gv2 rv9 gv8 (by omega) qv7) mw_X4_isRead ml_X7_152 (by decide) (k_roof (by omega)) (by decide) rfl rfl rfl rfl (Nat.le_of_ble_eq_true rfl) dX7_restore_18 ?_
    refine v_if_ne X 27 dX7_restore_21 (by decide) (fun cv10 => ?_) (fun cv10 => ?_)
    · replace h := (if_neg cv10).symm.trans h
      refine v_aloadn X dX7_restore_27 rfl rfl ?_
      refine gf_X7_33 X dX7_restore_28 ?_
      refine v_aloadn X dX7_restore_31 rfl rfl ?_
      refine gf_X7_47 X dX7_restore_32 ?_
      refine v_iloadn X dX7_restore_35 rfl rfl ?_
      refine aaG X jv5 ejv5 ljv5 dX7_restore_36 ?_
      obtain ⟨gv12, qv11, h⟩ := bd1_some h
      refine v_callVV (As := [.ref (ad (4, (26 + jv5), 0))]) (rest := []) X (c_X4_become l D ad cy X.2.2.2.2.2.2.2.2.1 N 0 (26 + jv5) gv8 gv12 (by omega) (by omega) qv11) mw_X4_become ml_X7_135 (by decide) (k_roof (by omega)) (by decide) rfl rfl rfl rfl (Nat.le_of_ble_eq_true rfl) dX7_restore_37 ?_
      refine v_aloadn X dX7_restore_40 rfl rfl ?_
      refine gf_X7_41 X dX7_restore_41 ?_
      obtain ⟨gv14, qv13, h⟩ := bd1_some h
      refine v_callVV (As := []) (rest := []) X (c_X0_forget l D ad cy X.2.2.2.2.2.2.2.2.1 N  gv12 gv14  qv13) mw_X0_forget ml_X7_139 (by decide) (by decide +kernel) (by decide) rfl rfl rfl rfl (Nat.le_of_ble_eq_true rfl) dX7_restore_44 ?_
      refine v_iconst (v := 1) X dX7_restore_47 (by decide) ?_
      obtain ⟨er, eg⟩ := Prod.mk.inj (Option.some.inj h)
      exact v_iret X dX7_restore_48 er eg
    · replace h := (if_pos cv10).symm.trans h
      refine v_ldc X kc_X7_148 dX7_restore_24 ?_
      obtain ⟨er, eg⟩ := Prod.mk.inj (Option.some.inj h)
      exact v_iret X dX7_restore_26 er eg
  · replace h := (if_pos cv4).symm.trans h
    refine v_ldc X kc_X7_75 dX7_restore_9 ?_
    obtain ⟨er, eg⟩ := Prod.mk.inj (Option.some.inj h)
    exact v_iret X dX7_restore_11 er eg
def F_X7_roof (N : Nat) (g : GS) : Option (Int32 × GS) := bd2 (F_X6_readInto N 1 g) (fun rv3 gv2 => if rv3 = 0 then some (((-1000100 : Int32) - (gv2 3 0 1)), (g3 (g3 gv2 3 0 0 (0 : Int32)) 9 0 0 (gv2 3 0 2))) else bd1 (F_X4_become N 0 1 (g3 gv2 3 0 0 (0 : Int32))) (fun gv6 => bd1 (F_X0_forget N  gv6) (fun gv8 => some ((gv8 0 0 4), gv8))))
set_option maxRecDepth 100000 in
set_option maxHeartbeats 4000000 in
theorem c_X7_roof (l : Launch) (D : va_G) (ad : Ky → Nat) (cy : Nat → ClassId) (hI : Inj ad) (N : Nat) (g : GS) (r : Int32) (gq : GS) (h : F_X7_roof N  g = some (r, gq)) : CtI l D ad cy yX7_roof cX7_roof 2 (some .int) 6 [.ref (ad (7, 0, 0))] g r gq := by
  refine CtI.of 1 hI (by decide +kernel) rfl (Nat.le_of_ble_eq_true rfl) (fun p e s m args below meth c X => ?_)
  unfold F_X7_roof at h
  show Vy _ _ _ _ _ _ _ _ _ _ _ _ _ _ _ 0 [some (.ref (ad (7, 0, 0))), none] [] g
  refine v_aloadn X dX7_roof_0 rfl rfl ?_
  refine gf_X7_18 X dX7_roof_1 ?_
  refine v_aloadn X dX7_roof_4 rfl rfl ?_
  refine gf_X7_37 X dX7_roof_5 ?_
  obtain ⟨rv3, gv2, qv1, h⟩ := bd2_some h
  refine v_callVI (As := [.ref (ad (4, 1, 0))]) (rest := []) X (c_X6_readInto l D ad cy X.2.2.2.2.2.2.2.2.1 N 1 g rv3 gv2 (by omega) qv1) mw_X6_readInto ml_X7_124 (by decide) (by decide +kernel) (by decide) rfl rfl rfl rfl (Nat.le_of_ble_eq_true rfl) dX7_roof_8 ?_
  refine v_istoren (lc' := [some (.ref (ad (7, 0, 0))), some (.int rv3)]) X dX7_roof_11 rfl (by decide) rfl rfl ?_
  refine v_aloadn X dX7_roof_12 rfl rfl ?_
  refine gf_X7_18 X dX7_roof_13 ?_
  refine v_iconst (v := 0) X dX7_roof_16 (by decide) ?_
  refine pf_X7_118 X dX7_roof_17 ?_
  refine v_iloadn X dX7_roof_20 rfl rfl ?_
  refine v_if_ne X 46 dX7_roof_21 (by decide) (fun cv4 => ?_) (fun cv4 => ?_)
  · replace h := (if_neg cv4).symm.trans h
    refine v_aloadn X dX7_roof_46 rfl rfl ?_
    refine gf_X7_33 X dX7_roof_47 ?_
    refine v_aloadn X dX7_roof_50 rfl rfl ?_
    refine gf_X7_37 X dX7_roof_51 ?_
    obtain ⟨gv6, qv5, h⟩ := bd1_some h
    refine v_callVV (As := [.ref (ad (4, 1, 0))]) (rest := []) X (c_X4_become l D ad cy X.2.2.2.2.2.2.2.2.1 N 0 1 (g3 gv2 3 0 0 (0 : Int32)) gv6 (by omega) (by omega) qv5) mw_X4_become ml_X7_135 (by decide) (k_roof (by omega)) (by decide) rfl rfl rfl rfl (Nat.le_of_ble_eq_true rfl) dX7_roof_54 ?_
    refine v_aloadn X dX7_roof_57 rfl rfl ?_
    refine gf_X7_41 X dX7_roof_58 ?_
    obtain ⟨gv8, qv7, h⟩ := bd1_some h
    refine v_callVV (As := []) (rest := []) X (c_X0_forget l D ad cy X.2.2.2.2.2.2.2.2.1 N  gv6 gv8  qv7) mw_X0_forget ml_X7_139 (by decide) (by decide +kernel) (by decide) rfl rfl rfl rfl (Nat.le_of_ble_eq_true rfl) dX7_roof_61 ?_
    refine v_aloadn X dX7_roof_64 rfl rfl ?_
    refine gf_X7_33 X dX7_roof_65 ?_
    refine gf_X7_142 X (k_roof (by omega)) dX7_roof_68 ?_
    obtain ⟨er, eg⟩ := Prod.mk.inj (Option.some.inj h)
    exact v_iret X dX7_roof_71 er eg
  · replace h := (if_pos cv4).symm.trans h
    refine v_aloadn X dX7_roof_24 rfl rfl ?_
    refine v_aloadn X dX7_roof_25 rfl rfl ?_
    refine gf_X7_18 X dX7_roof_26 ?_
    refine gf_X7_128 X dX7_roof_29 ?_
    refine v_vali (v2 := (gv2 3 0 2)) rfl ?_
    refine pf_X7_58 X dX7_roof_32 ?_
    refine v_ldc X kc_X7_131 dX7_roof_35 ?_
    refine v_aloadn X dX7_roof_37 rfl rfl ?_
    refine gf_X7_18 X dX7_roof_38 ?_
    refine gf_X7_132 X dX7_roof_41 ?_
    refine v_vali (v2 := (gv2 3 0 1)) rfl ?_
    refine v_isub X dX7_roof_44 ?_
    obtain ⟨er, eg⟩ := Prod.mk.inj (Option.some.inj h)
    exact v_iret X dX7_roof_45 er eg
def F_X7_row (N : Nat) (x1 : Int32) (x2 : Int32) (x3 : Int32) (g : GS) : Option (Int32 × GS) := bd2 (F_X7_isRow N x1 g) (fun rv3 gv2 => if rv3 = 0 then some ((-1000001 : Int32), gv2) else bd2 (F_X7_isWithin N x2 (0 : Int32) (2 : Int32) gv2) (fun rv7 gv6 => if rv7 = 0 then some ((-1000001 : Int32), gv6) else if x3 ≤ (40 : Int32) then if 0 ≤ x3 then bd1 (ix x1 8) (fun jv11 => bd1 (F_X5_begin N jv11 x2 x3 gv6) (fun gv14 => bd2 (F_X7_unfound N x3 gv14) (fun rv17 gv16 => some (rv17, gv16)))) else bd2 (F_X7_found N (4 : Int32) gv6) (fun rv20 gv19 => some (rv20, gv19)) else some ((-1000001 : Int32), gv6)))
set_option maxRecDepth 100000 in
set_option maxHeartbeats 4000000 in
theorem c_X7_row (l : Launch) (D : va_G) (ad : Ky → Nat) (cy : Nat → ClassId) (hI : Inj ad) (N : Nat) (x1 : Int32) (x2 : Int32) (x3 : Int32) (g : GS) (r : Int32) (gq : GS) (h : F_X7_row N x1 x2 x3 g = some (r, gq)) : CtI l D ad cy yX7_row cX7_row 4 (some .int) 2 [.ref (ad (7, 0, 0)), .int x1, .int x2, .int x3] g r gq := by
  refine CtI.of 0 hI (by decide +kernel) rfl (Nat.le_of_ble_eq_true rfl) (fun p e s m args below meth c X => ?_)
  unfold F_X7_row at h
  show Vy _ _ _ _ _ _ _ _ _ _ _ _ _ _ _ 0 [some (.ref (ad (7, 0, 0))), some (.int x1), some (.int x2), some (.int x3)] [] g
  refine v_iloadn X dX7_row_0 rfl rfl ?_
  obtain ⟨rv3, gv2, qv1, h⟩ := bd2_some h
  refine v_callSI (As := [.int x1]) (rest := []) X (c_X7_isRow l D ad cy X.2.2.2.2.2.2.2.2.1 N x1 g rv3 gv2  qv1) mw_X7_isRow ml_X7_67 (by decide) rfl rfl (Nat.le_of_ble_eq_true rfl) dX7_row_1 ?_
  refine v_if_eq X 22 dX7_row_4 (by decide) (fun cv4 => ?_) (fun cv4 => ?_)
  · replace h := (if_pos cv4).symm.trans h
    refine v_ldc X kc_X7_75 dX7_row_22 ?_
    obtain ⟨er, eg⟩ := Prod.mk.inj (Option.some.inj h)
    exact v_iret X dX7_row_24 er eg
  · replace h := (if_neg cv4).symm.trans h
    refine v_iloadn X dX7_row_7 rfl rfl ?_
    refine v_iconst (v := 0) X dX7_row_8 (by decide) ?_
    refine v_iconst (v := 2) X dX7_row_9 (by decide) ?_
    obtain ⟨rv7, gv6, qv5, h⟩ := bd2_some h
    refine v_callSI (As := [.int x2, .int (0 : Int32), .int (2 : Int32)]) (rest := []) X (c_X7_isWithin l D ad cy X.2.2.2.2.2.2.2.2.1 N x2 (0 : Int32) (2 : Int32) gv2 rv7 gv6  qv5) mw_X7_isWithin ml_X7_71 (by decide) rfl rfl (Nat.le_of_ble_eq_true rfl) dX7_row_10 ?_
    refine v_if_eq X 22 dX7_row_13 (by decide) (fun cv8 => ?_) (fun cv8 => ?_)
    · replace h := (if_pos cv8).symm.trans h
      refine v_ldc X kc_X7_75 dX7_row_22 ?_
      obtain ⟨er, eg⟩ := Prod.mk.inj (Option.some.inj h)
      exact v_iret X dX7_row_24 er eg
    · replace h := (if_neg cv8).symm.trans h
      refine v_iloadn X dX7_row_16 rfl rfl ?_
      refine v_bipush (v := 40) X dX7_row_17 (by decide) ?_
      refine v_icmp_le X 25 dX7_row_19 (by decide) (fun cv9 => ?_) (fun cv9 => ?_)
      · replace h := (if_pos cv9).symm.trans h
        refine v_iloadn X dX7_row_25 rfl rfl ?_
        refine v_if_ge X 35 dX7_row_26 (by decide) (fun cv10 => ?_) (fun cv10 => ?_)
        · replace h := (if_pos cv10).symm.trans h
          refine v_aloadn X dX7_row_35 rfl rfl ?_
          refine gf_X7_11 X dX7_row_36 ?_
          refine v_iloadn X dX7_row_39 rfl rfl ?_
          obtain ⟨jv11, qv12, h⟩ := bd1_some h
          obtain ⟨ejv11, ljv11⟩ := ix_spec qv12
          refine aaR X jv11 ejv11 ljv11 dX7_row_40 ?_
          refine v_iloadn X dX7_row_41 rfl rfl ?_
          refine v_iloadn X dX7_row_42 rfl rfl ?_
          obtain ⟨gv14, qv13, h⟩ := bd1_some h
          refine v_callVV (As := [.int x2, .int x3]) (rest := []) X (c_X5_begin l D ad cy X.2.2.2.2.2.2.2.2.1 N jv11 x2 x3 gv6 gv14 (by omega) qv13) mw_X5_begin ml_X7_80 (by decide) (k_row (by omega)) (by decide) rfl rfl rfl rfl (Nat.le_of_ble_eq_true rfl) dX7_row_43 ?_
          refine v_aloadn X dX7_row_46 rfl rfl ?_
          refine v_iloadn X dX7_row_47 rfl rfl ?_
          obtain ⟨rv17, gv16, qv15, h⟩ := bd2_some h
          refine v_callVI (As := [.int x3]) (rest := []) X (c_X7_unfound l D ad cy X.2.2.2.2.2.2.2.2.1 N x3 gv14 rv17 gv16  qv15) mw_X7_unfound ml_X7_84 (by decide) (by decide +kernel) (by decide) rfl rfl rfl rfl (Nat.le_of_ble_eq_true rfl) dX7_row_48 ?_
          obtain ⟨er, eg⟩ := Prod.mk.inj (Option.some.inj h)
          exact v_iret X dX7_row_51 er eg
        · replace h := (if_neg cv10).symm.trans h
          refine v_aloadn X dX7_row_29 rfl rfl ?_
          refine v_iconst (v := 4) X dX7_row_30 (by decide) ?_
          obtain ⟨rv20, gv19, qv18, h⟩ := bd2_some h
          refine v_callVI (As := [.int (4 : Int32)]) (rest := []) X (c_X7_found l D ad cy X.2.2.2.2.2.2.2.2.1 N (4 : Int32) gv6 rv20 gv19  qv18) mw_X7_found ml_X7_76 (by decide) (by decide +kernel) (by decide) rfl rfl rfl rfl (Nat.le_of_ble_eq_true rfl) dX7_row_31 ?_
          obtain ⟨er, eg⟩ := Prod.mk.inj (Option.some.inj h)
          exact v_iret X dX7_row_34 er eg
      · replace h := (if_neg cv9).symm.trans h
        refine v_ldc X kc_X7_75 dX7_row_22 ?_
        obtain ⟨er, eg⟩ := Prod.mk.inj (Option.some.inj h)
        exact v_iret X dX7_row_24 er eg
def F_X7_send (N : Nat) (x1 : Int32) (x2 : Int32) (g : GS) : Option (Int32 × GS) := bd2 (F_X4_hasPaper N 0 x1 g) (fun rv3 gv2 => if rv3 = 0 then some ((-1000001 : Int32), gv2) else bd2 (F_X7_isWithin N x2 (1 : Int32) (40 : Int32) gv2) (fun rv7 gv6 => if rv7 = 0 then some ((-1000001 : Int32), gv6) else bd1 (ix x1 6) (fun jv9 => if (gv6 13 0 (7 * jv9 + 3)) = 0 then bd1 (F_X0_keep N 0 gv6) (fun gv13 => bd1 (F_X3_rise N 0 jv9 x2 gv13) (fun gv15 => bd2 (F_X4_bitsOf N 0 (1 : Int32) gv15) (fun rv18 gv17 => some (rv18, gv17)))) else some ((-1000002 : Int32), gv6))))
set_option maxRecDepth 100000 in
set_option maxHeartbeats 4000000 in
theorem c_X7_send (l : Launch) (D : va_G) (ad : Ky → Nat) (cy : Nat → ClassId) (hI : Inj ad) (N : Nat) (x1 : Int32) (x2 : Int32) (g : GS) (r : Int32) (gq : GS) (h : F_X7_send N x1 x2 g = some (r, gq)) : CtI l D ad cy yX7_send cX7_send 4 (some .int) 3 [.ref (ad (7, 0, 0)), .int x1, .int x2] g r gq := by
  refine CtI.of 1 hI (by decide +kernel) rfl (Nat.le_of_ble_eq_true rfl) (fun p e s m args below meth c X => ?_)
  unfold F_X7_send at h
  show Vy _ _ _ _ _ _ _ _ _ _ _ _ _ _ _ 0 [some (.ref (ad (7, 0, 0))), some (.int x1), some (.int x2), none] [] g
  refine v_aloadn X dX7_send_0 rfl rfl ?_
  refine gf_X7_33 X dX7_send_1 ?_
  refine v_iloadn X dX7_send_4 rfl rfl ?_
  obtain ⟨rv3, gv2, qv1, h⟩ := bd2_some h
  refine v_callVI (As := [.int x1]) (rest := []) X (c_X4_hasPaper l D ad cy X.2.2.2.2.2.2.2.2.1 N 0 x1 g rv3 gv2 (by omega) qv1) mw_X4_hasPaper ml_X7_171 (by decide) (k_roof (by omega)) (by decide) rfl rfl rfl rfl (Nat.le_of_ble_eq_true rfl) dX7_send_5 ?_
  refine v_if_eq X 21 dX7_send_8 (by decide) (fun cv4 => ?_) (fun cv4 => ?_)
  · replace h := (if_pos cv4).symm.trans h
    refine v_ldc X kc_X7_75 dX7_send_21 ?_
    obtain ⟨er, eg⟩ := Prod.mk.inj (Option.some.inj h)
    exact v_iret X dX7_send_23 er eg
  · replace h := (if_neg cv4).symm.trans h
    refine v_iloadn X dX7_send_11 rfl rfl ?_
    refine v_iconst (v := 1) X dX7_send_12 (by decide) ?_
    refine v_bipush (v := 40) X dX7_send_13 (by decide) ?_
    obtain ⟨rv7, gv6, qv5, h⟩ := bd2_some h
    refine v_callSI (As := [.int x2, .int (1 : Int32), .int (40 : Int32)]) (rest := []) X (c_X7_isWithin l D ad cy X.2.2.2.2.2.2.2.2.1 N x2 (1 : Int32) (40 : Int32) gv2 rv7 gv6  qv5) mw_X7_isWithin ml_X7_71 (by decide) rfl rfl (Nat.le_of_ble_eq_true rfl) dX7_send_15 ?_
    refine v_if_ne X 24 dX7_send_18 (by decide) (fun cv8 => ?_) (fun cv8 => ?_)
    · replace h := (if_neg cv8).symm.trans h
      refine v_aloadn X dX7_send_24 rfl rfl ?_
      refine gf_X7_33 X dX7_send_25 ?_
      refine gf_X7_174 X (k_roof (by omega)) dX7_send_28 ?_
      refine v_iloadn X dX7_send_31 rfl rfl ?_
      obtain ⟨jv9, qv10, h⟩ := bd1_some h
      obtain ⟨ejv9, ljv9⟩ := ix_spec qv10
      refine aaP X (k_papers (by omega)) jv9 ejv9 ljv9 dX7_send_32 ?_
      refine v_astoren (lc' := [some (.ref (ad (7, 0, 0))), some (.int x1), some (.int x2), some (.ref (ad (3, 0, jv9)))]) X dX7_send_33 rfl (by decide) rfl rfl ?_
      refine v_aloadn X dX7_send_34 rfl rfl ?_
      refine gf_X7_178 X (k_paper (by omega) (by omega)) dX7_send_35 ?_
      refine v_if_eq X 44 dX7_send_38 (by decide) (fun cv11 => ?_) (fun cv11 => ?_)
      · replace h := (if_pos cv11).symm.trans h
        refine v_aloadn X dX7_send_44 rfl rfl ?_
        refine gf_X7_41 X dX7_send_45 ?_
        refine v_aloadn X dX7_send_48 rfl rfl ?_
        refine gf_X7_33 X dX7_send_49 ?_
        obtain ⟨gv13, qv12, h⟩ := bd1_some h
        refine v_callVV (As := [.ref (ad (4, 0, 0))]) (rest := []) X (c_X0_keep l D ad cy X.2.2.2.2.2.2.2.2.1 N 0 gv6 gv13 (by omega) qv12) mw_X0_keep ml_X7_158 (by decide) (by decide +kernel) (by decide) rfl rfl rfl rfl (Nat.le_of_ble_eq_true rfl) dX7_send_52 ?_
        refine v_aloadn X dX7_send_55 rfl rfl ?_
        refine v_iloadn X dX7_send_56 rfl rfl ?_
        obtain ⟨gv15, qv14, h⟩ := bd1_some h
        refine v_callVV (As := [.int x2]) (rest := []) X (c_X3_rise l D ad cy X.2.2.2.2.2.2.2.2.1 N 0 jv9 x2 gv13 gv15 (by omega) (by omega) qv14) mw_X3_rise ml_X7_183 (by decide) (k_paper (by omega) (by omega)) (by decide) rfl rfl rfl rfl (Nat.le_of_ble_eq_true rfl) dX7_send_57 ?_
        refine v_aloadn X dX7_send_60 rfl rfl ?_
        refine gf_X7_33 X dX7_send_61 ?_
        refine v_iconst (v := 1) X dX7_send_64 (by decide) ?_
        obtain ⟨rv18, gv17, qv16, h⟩ := bd2_some h
        refine v_callVI (As := [.int (1 : Int32)]) (rest := []) X (c_X4_bitsOf l D ad cy X.2.2.2.2.2.2.2.2.1 N 0 (1 : Int32) gv15 rv18 gv17 (by omega) qv16) mw_X4_bitsOf ml_X7_186 (by decide) (k_roof (by omega)) (by decide) rfl rfl rfl rfl (Nat.le_of_ble_eq_true rfl) dX7_send_65 ?_
        obtain ⟨er, eg⟩ := Prod.mk.inj (Option.some.inj h)
        exact v_iret X dX7_send_68 er eg
      · replace h := (if_neg cv11).symm.trans h
        refine v_ldc X kc_X7_148 dX7_send_41 ?_
        obtain ⟨er, eg⟩ := Prod.mk.inj (Option.some.inj h)
        exact v_iret X dX7_send_43 er eg
    · replace h := (if_pos cv8).symm.trans h
      refine v_ldc X kc_X7_75 dX7_send_21 ?_
      obtain ⟨er, eg⟩ := Prod.mk.inj (Option.some.inj h)
      exact v_iret X dX7_send_23 er eg
def F_X7_sends (N : Nat) (x1 : Int32) (x2 : Int32) (x3 : Int32) (g : GS) : Option (Int32 × GS) := bd2 (F_X4_isRead N 0 g) (fun rv3 gv2 => if rv3 = 0 then some ((-1000002 : Int32), gv2) else bd2 (F_X7_isWithin N x1 (1 : Int32) (30 : Int32) gv2) (fun rv7 gv6 => if rv7 = 0 then some ((-1000001 : Int32), gv6) else bd2 (F_X7_isWithin N x2 (1 : Int32) (40 : Int32) gv6) (fun rv11 gv10 => if rv11 = 0 then some ((-1000001 : Int32), gv10) else bd2 (F_X7_isWithin N x3 (0 : Int32) (1 : Int32) gv10) (fun rv15 gv14 => if rv15 = 0 then some ((-1000001 : Int32), gv14) else if x3 = (1 : Int32) then bd2 (F_X2_bestToSend N x1 x2 (1 : Int32) gv14) (fun rv23 gv22 => some (rv23, gv22)) else bd2 (F_X2_bestToSend N x1 x2 (0 : Int32) gv14) (fun rv20 gv19 => some (rv20, gv19))))))
set_option maxRecDepth 100000 in
set_option maxHeartbeats 4000000 in
theorem c_X7_sends (l : Launch) (D : va_G) (ad : Ky → Nat) (cy : Nat → ClassId) (hI : Inj ad) (N : Nat) (x1 : Int32) (x2 : Int32) (x3 : Int32) (g : GS) (r : Int32) (gq : GS) (h : F_X7_sends N x1 x2 x3 g = some (r, gq)) : CtI l D ad cy yX7_sends cX7_sends 4 (some .int) 5 [.ref (ad (7, 0, 0)), .int x1, .int x2, .int x3] g r gq := by
  refine CtI.of 0 hI (by decide +kernel) rfl (Nat.le_of_ble_eq_true rfl) (fun p e s m args below meth c X => ?_)
  unfold F_X7_sends at h
  show Vy _ _ _ _ _ _ _ _ _ _ _ _ _ _ _ 0 [some (.ref (ad (7, 0, 0))), some (.int x1), some (.int x2), some (.int x3)] [] g
  refine v_aloadn X dX7_sends_0 rfl rfl ?_
  refine gf_X7_33 X dX7_sends_1 ?_
  obtain ⟨rv3, gv2, qv1, h⟩ := bd2_some h
  refine v_callVI (As := []) (rest := []) X (c_X4_isRead l D ad cy X.2.2.2.2.2.2.2.2.1 N 0 g rv3 gv2 (by omega) qv1) mw_X4_isRead ml_X7_152 (by decide) (k_roof (by omega)) (by decide) rfl rfl rfl rfl (Nat.le_of_ble_eq_true rfl) dX7_sends_4 ?_
  refine v_if_ne X 13 dX7_sends_7 (by decide) (fun cv4 => ?_) (fun cv4 => ?_)
  · replace h := (if_neg cv4).symm.trans h
    refine v_iloadn X dX7_sends_13 rfl rfl ?_
    refine v_iconst (v := 1) X dX7_sends_14 (by decide) ?_
    refine v_bipush (v := 30) X dX7_sends_15 (by decide) ?_
    obtain ⟨rv7, gv6, qv5, h⟩ := bd2_some h
    refine v_callSI (As := [.int x1, .int (1 : Int32), .int (30 : Int32)]) (rest := []) X (c_X7_isWithin l D ad cy X.2.2.2.2.2.2.2.2.1 N x1 (1 : Int32) (30 : Int32) gv2 rv7 gv6  qv5) mw_X7_isWithin ml_X7_71 (by decide) rfl rfl (Nat.le_of_ble_eq_true rfl) dX7_sends_17 ?_
    refine v_if_eq X 42 dX7_sends_20 (by decide) (fun cv8 => ?_) (fun cv8 => ?_)
    · replace h := (if_pos cv8).symm.trans h
      refine v_ldc X kc_X7_75 dX7_sends_42 ?_
      obtain ⟨er, eg⟩ := Prod.mk.inj (Option.some.inj h)
      exact v_iret X dX7_sends_44 er eg
    · replace h := (if_neg cv8).symm.trans h
      refine v_iloadn X dX7_sends_23 rfl rfl ?_
      refine v_iconst (v := 1) X dX7_sends_24 (by decide) ?_
      refine v_bipush (v := 40) X dX7_sends_25 (by decide) ?_
      obtain ⟨rv11, gv10, qv9, h⟩ := bd2_some h
      refine v_callSI (As := [.int x2, .int (1 : Int32), .int (40 : Int32)]) (rest := []) X (c_X7_isWithin l D ad cy X.2.2.2.2.2.2.2.2.1 N x2 (1 : Int32) (40 : Int32) gv6 rv11 gv10  qv9) mw_X7_isWithin ml_X7_71 (by decide) rfl rfl (Nat.le_of_ble_eq_true rfl) dX7_sends_27 ?_
      refine v_if_eq X 42 dX7_sends_30 (by decide) (fun cv12 => ?_) (fun cv12 => ?_)
      · replace h := (if_pos cv12).symm.trans h
        refine v_ldc X kc_X7_75 dX7_sends_42 ?_
        obtain ⟨er, eg⟩ := Prod.mk.inj (Option.some.inj h)
        exact v_iret X dX7_sends_44 er eg
      · replace h := (if_neg cv12).symm.trans h
        refine v_iloadn X dX7_sends_33 rfl rfl ?_
        refine v_iconst (v := 0) X dX7_sends_34 (by decide) ?_
        refine v_iconst (v := 1) X dX7_sends_35 (by decide) ?_
        obtain ⟨rv15, gv14, qv13, h⟩ := bd2_some h
        refine v_callSI (As := [.int x3, .int (0 : Int32), .int (1 : Int32)]) (rest := []) X (c_X7_isWithin l D ad cy X.2.2.2.2.2.2.2.2.1 N x3 (0 : Int32) (1 : Int32) gv10 rv15 gv14  qv13) mw_X7_isWithin ml_X7_71 (by decide) rfl rfl (Nat.le_of_ble_eq_true rfl) dX7_sends_36 ?_
        refine v_if_ne X 45 dX7_sends_39 (by decide) (fun cv16 => ?_) (fun cv16 => ?_)
        · replace h := (if_neg cv16).symm.trans h
          refine v_aloadn X dX7_sends_45 rfl rfl ?_
          refine gf_X7_25 X dX7_sends_46 ?_
          refine v_iloadn X dX7_sends_49 rfl rfl ?_
          refine v_iloadn X dX7_sends_50 rfl rfl ?_
          refine v_iloadn X dX7_sends_51 rfl rfl ?_
          refine v_iconst (v := 1) X dX7_sends_52 (by decide) ?_
          refine v_icmp_ne X 60 dX7_sends_53 (by decide) (fun cv17 => ?_) (fun cv17 => ?_)
          · replace h := (if_neg cv17).symm.trans h
            refine v_iconst (v := 0) X dX7_sends_60 (by decide) ?_
            obtain ⟨rv20, gv19, qv18, h⟩ := bd2_some h
            refine v_callVI (As := [.int x1, .int x2, .int (0 : Int32)]) (rest := []) X (c_X2_bestToSend l D ad cy X.2.2.2.2.2.2.2.2.1 N x1 x2 (0 : Int32) gv14 rv20 gv19  qv18) mw_X2_bestToSend ml_X7_235 (by decide) (by decide +kernel) (by decide) rfl rfl rfl rfl (Nat.le_of_ble_eq_true rfl) dX7_sends_61 ?_
            obtain ⟨er, eg⟩ := Prod.mk.inj (Option.some.inj h)
            exact v_iret X dX7_sends_64 er eg
          · replace h := (if_pos cv17).symm.trans h
            refine v_iconst (v := 1) X dX7_sends_56 (by decide) ?_
            refine v_goto X 61 dX7_sends_57 (by decide) ?_
            obtain ⟨rv23, gv22, qv21, h⟩ := bd2_some h
            refine v_callVI (As := [.int x1, .int x2, .int (1 : Int32)]) (rest := []) X (c_X2_bestToSend l D ad cy X.2.2.2.2.2.2.2.2.1 N x1 x2 (1 : Int32) gv14 rv23 gv22  qv21) mw_X2_bestToSend ml_X7_235 (by decide) (by decide +kernel) (by decide) rfl rfl rfl rfl (Nat.le_of_ble_eq_true rfl) dX7_sends_61 ?_
            obtain ⟨er, eg⟩ := Prod.mk.inj (Option.some.inj h)
            exact v_iret X dX7_sends_64 er eg
        · replace h := (if_pos cv16).symm.trans h
          refine v_ldc X kc_X7_75 dX7_sends_42 ?_
          obtain ⟨er, eg⟩ := Prod.mk.inj (Option.some.inj h)
          exact v_iret X dX7_sends_44 er eg
  · replace h := (if_pos cv4).symm.trans h
    refine v_ldc X kc_X7_148 dX7_sends_10 ?_
    obtain ⟨er, eg⟩ := Prod.mk.inj (Option.some.inj h)
    exact v_iret X dX7_sends_12 er eg
def F_X7_set (N : Nat) (x1 : Int32) (x2 : Int32) (x3 : Int32) (g : GS) : Option (Int32 × GS) := bd2 (F_X7_isRow N x1 g) (fun rv3 gv2 => if rv3 = 0 then some ((-1000001 : Int32), gv2) else bd1 (ix x1 8) (fun jv5 => bd2 (F_X5_isMissing N jv5 gv2) (fun rv9 gv8 => if rv9 = 0 then bd2 (F_X5_hasPlaces N jv5 x2 (1 : Int32) gv8) (fun rv13 gv12 => if rv13 = 0 then bd2 (F_X7_found N (2 : Int32) gv12) (fun rv23 gv22 => some (rv23, gv22)) else bd2 (F_X5_put N jv5 x2 x3 gv12) (fun rv17 gv16 => bd2 (F_X7_unfound N rv17 gv16) (fun rv20 gv19 => some (rv20, gv19)))) else bd2 (F_X7_found N (1 : Int32) gv8) (fun rv26 gv25 => some (rv26, gv25)))))
set_option maxRecDepth 100000 in
set_option maxHeartbeats 4000000 in
theorem c_X7_set (l : Launch) (D : va_G) (ad : Ky → Nat) (cy : Nat → ClassId) (hI : Inj ad) (N : Nat) (x1 : Int32) (x2 : Int32) (x3 : Int32) (g : GS) (r : Int32) (gq : GS) (h : F_X7_set N x1 x2 x3 g = some (r, gq)) : CtI l D ad cy yX7_set cX7_set 5 (some .int) 2 [.ref (ad (7, 0, 0)), .int x1, .int x2, .int x3] g r gq := by
  refine CtI.of 1 hI (by decide +kernel) rfl (Nat.le_of_ble_eq_true rfl) (fun p e s m args below meth c X => ?_)
  unfold F_X7_set at h
  show Vy _ _ _ _ _ _ _ _ _ _ _ _ _ _ _ 0 [some (.ref (ad (7, 0, 0))), some (.int x1), some (.int x2), some (.int x3), none] [] g
  refine v_iloadn X dX7_set_0 rfl rfl ?_
  obtain ⟨rv3, gv2, qv1, h⟩ := bd2_some h
  refine v_callSI (As := [.int x1]) (rest := []) X (c_X7_isRow l D ad cy X.2.2.2.2.2.2.2.2.1 N x1 g rv3 gv2  qv1) mw_X7_isRow ml_X7_67 (by decide) rfl rfl (Nat.le_of_ble_eq_true rfl) dX7_set_1 ?_
  refine v_if_ne X 10 dX7_set_4 (by decide) (fun cv4 => ?_) (fun cv4 => ?_)
  · replace h := (if_neg cv4).symm.trans h
    refine v_aloadn X dX7_set_10 rfl rfl ?_
    refine gf_X7_11 X dX7_set_11 ?_
    refine v_iloadn X dX7_set_14 rfl rfl ?_
    obtain ⟨jv5, qv6, h⟩ := bd1_some h
    obtain ⟨ejv5, ljv5⟩ := ix_spec qv6
    refine aaR X jv5 ejv5 ljv5 dX7_set_15 ?_
    refine v_astore (lc' := [some (.ref (ad (7, 0, 0))), some (.int x1), some (.int x2), some (.int x3), some (.ref (ad (5, jv5, 0)))]) X dX7_set_16 (by decide) rfl rfl ?_
    refine v_aload X dX7_set_18 rfl ?_
    obtain ⟨rv9, gv8, qv7, h⟩ := bd2_some h
    refine v_callVI (As := []) (rest := []) X (c_X5_isMissing l D ad cy X.2.2.2.2.2.2.2.2.1 N jv5 gv2 rv9 gv8 (by omega) qv7) mw_X5_isMissing ml_X7_87 (by decide) (k_row (by omega)) (by decide) rfl rfl rfl rfl (Nat.le_of_ble_eq_true rfl) dX7_set_20 ?_
    refine v_if_eq X 32 dX7_set_23 (by decide) (fun cv10 => ?_) (fun cv10 => ?_)
    · replace h := (if_pos cv10).symm.trans h
      refine v_aload X dX7_set_32 rfl ?_
      refine v_iloadn X dX7_set_34 rfl rfl ?_
      refine v_iconst (v := 1) X dX7_set_35 (by decide) ?_
      obtain ⟨rv13, gv12, qv11, h⟩ := bd2_some h
      refine v_callVI (As := [.int x2, .int (1 : Int32)]) (rest := []) X (c_X5_hasPlaces l D ad cy X.2.2.2.2.2.2.2.2.1 N jv5 x2 (1 : Int32) gv8 rv13 gv12 (by omega) qv11) mw_X5_hasPlaces ml_X7_91 (by decide) (k_row (by omega)) (by decide) rfl rfl rfl rfl (Nat.le_of_ble_eq_true rfl) dX7_set_36 ?_
      refine v_if_ne X 48 dX7_set_39 (by decide) (fun cv14 => ?_) (fun cv14 => ?_)
      · replace h := (if_neg cv14).symm.trans h
        refine v_aloadn X dX7_set_48 rfl rfl ?_
        refine v_aload X dX7_set_49 rfl ?_
        refine v_iloadn X dX7_set_51 rfl rfl ?_
        refine v_iloadn X dX7_set_52 rfl rfl ?_
        obtain ⟨rv17, gv16, qv15, h⟩ := bd2_some h
        refine v_callVI (As := [.int x2, .int x3]) (rest := [.ref (ad (7, 0, 0))]) X (c_X5_put l D ad cy X.2.2.2.2.2.2.2.2.1 N jv5 x2 x3 gv12 rv17 gv16 (by omega) qv15) mw_X5_put ml_X7_95 (by decide) (k_row (by omega)) (by decide) rfl rfl rfl rfl (Nat.le_of_ble_eq_true rfl) dX7_set_53 ?_
        obtain ⟨rv20, gv19, qv18, h⟩ := bd2_some h
        refine v_callVI (As := [.int rv17]) (rest := []) X (c_X7_unfound l D ad cy X.2.2.2.2.2.2.2.2.1 N rv17 gv16 rv20 gv19  qv18) mw_X7_unfound ml_X7_84 (by decide) (by decide +kernel) (by decide) rfl rfl rfl rfl (Nat.le_of_ble_eq_true rfl) dX7_set_56 ?_
        obtain ⟨er, eg⟩ := Prod.mk.inj (Option.some.inj h)
        exact v_iret X dX7_set_59 er eg
      · replace h := (if_pos cv14).symm.trans h
        refine v_aloadn X dX7_set_42 rfl rfl ?_
        refine v_iconst (v := 2) X dX7_set_43 (by decide) ?_
        obtain ⟨rv23, gv22, qv21, h⟩ := bd2_some h
        refine v_callVI (As := [.int (2 : Int32)]) (rest := []) X (c_X7_found l D ad cy X.2.2.2.2.2.2.2.2.1 N (2 : Int32) gv12 rv23 gv22  qv21) mw_X7_found ml_X7_76 (by decide) (by decide +kernel) (by decide) rfl rfl rfl rfl (Nat.le_of_ble_eq_true rfl) dX7_set_44 ?_
        obtain ⟨er, eg⟩ := Prod.mk.inj (Option.some.inj h)
        exact v_iret X dX7_set_47 er eg
    · replace h := (if_neg cv10).symm.trans h
      refine v_aloadn X dX7_set_26 rfl rfl ?_
      refine v_iconst (v := 1) X dX7_set_27 (by decide) ?_
      obtain ⟨rv26, gv25, qv24, h⟩ := bd2_some h
      refine v_callVI (As := [.int (1 : Int32)]) (rest := []) X (c_X7_found l D ad cy X.2.2.2.2.2.2.2.2.1 N (1 : Int32) gv8 rv26 gv25  qv24) mw_X7_found ml_X7_76 (by decide) (by decide +kernel) (by decide) rfl rfl rfl rfl (Nat.le_of_ble_eq_true rfl) dX7_set_28 ?_
      obtain ⟨er, eg⟩ := Prod.mk.inj (Option.some.inj h)
      exact v_iret X dX7_set_31 er eg
  · replace h := (if_pos cv4).symm.trans h
    refine v_ldc X kc_X7_75 dX7_set_7 ?_
    obtain ⟨er, eg⟩ := Prod.mk.inj (Option.some.inj h)
    exact v_iret X dX7_set_9 er eg
def F_X7_stand (N : Nat) (x1 : Int32) (g : GS) : Option (Int32 × GS) := bd2 (F_X4_isRead N 0 g) (fun rv3 gv2 => if rv3 = 0 then some ((-1000002 : Int32), gv2) else if x1 = 0 then bd2 (F_X4_bitsOf N 0 (1 : Int32) gv2) (fun rv8 gv7 => some (rv8, gv7)) else if x1 = 1 then bd2 (F_X4_policyBits N 0 gv2) (fun rv12 gv11 => some (rv12, gv11)) else if x1 = 2 then bd2 (F_X4_bitsOf N 0 (2 : Int32) gv2) (fun rv16 gv15 => some (rv16, gv15)) else if x1 = 3 then some ((gv2 0 0 0), gv2) else if x1 = 4 then some ((gv2 0 0 1), gv2) else some ((-1000001 : Int32), gv2))
set_option maxRecDepth 100000 in
set_option maxHeartbeats 4000000 in
theorem c_X7_stand (l : Launch) (D : va_G) (ad : Ky → Nat) (cy : Nat → ClassId) (hI : Inj ad) (N : Nat) (x1 : Int32) (g : GS) (r : Int32) (gq : GS) (h : F_X7_stand N x1 g = some (r, gq)) : CtI l D ad cy yX7_stand cX7_stand 2 (some .int) 3 [.ref (ad (7, 0, 0)), .int x1] g r gq := by
  refine CtI.of 0 hI (by decide +kernel) rfl (Nat.le_of_ble_eq_true rfl) (fun p e s m args below meth c X => ?_)
  unfold F_X7_stand at h
  show Vy _ _ _ _ _ _ _ _ _ _ _ _ _ _ _ 0 [some (.ref (ad (7, 0, 0))), some (.int x1)] [] g
  refine v_aloadn X dX7_stand_0 rfl rfl ?_
  refine gf_X7_33 X dX7_stand_1 ?_
  obtain ⟨rv3, gv2, qv1, h⟩ := bd2_some h
  refine v_callVI (As := []) (rest := []) X (c_X4_isRead l D ad cy X.2.2.2.2.2.2.2.2.1 N 0 g rv3 gv2 (by omega) qv1) mw_X4_isRead ml_X7_152 (by decide) (k_roof (by omega)) (by decide) rfl rfl rfl rfl (Nat.le_of_ble_eq_true rfl) dX7_stand_4 ?_
  refine v_if_ne X 13 dX7_stand_7 (by decide) (fun cv4 => ?_) (fun cv4 => ?_)
  · replace h := (if_neg cv4).symm.trans h
    refine v_iloadn X dX7_stand_13 rfl rfl ?_
    by_cases cv5 : x1 = 0
    · replace h := (if_pos cv5).symm.trans h
      refine v_tableIn X 48 dX7_stand_14 (by rw [cv5]; decide) (by rw [cv5]; decide) (by rw [cv5]; rfl) (by decide) ?_
      refine v_aloadn X dX7_stand_48 rfl rfl ?_
      refine gf_X7_33 X dX7_stand_49 ?_
      refine v_iconst (v := 1) X dX7_stand_52 (by decide) ?_
      obtain ⟨rv8, gv7, qv6, h⟩ := bd2_some h
      refine v_callVI (As := [.int (1 : Int32)]) (rest := []) X (c_X4_bitsOf l D ad cy X.2.2.2.2.2.2.2.2.1 N 0 (1 : Int32) gv2 rv8 gv7 (by omega) qv6) mw_X4_bitsOf ml_X7_186 (by decide) (k_roof (by omega)) (by decide) rfl rfl rfl rfl (Nat.le_of_ble_eq_true rfl) dX7_stand_53 ?_
      obtain ⟨er, eg⟩ := Prod.mk.inj (Option.some.inj h)
      exact v_iret X dX7_stand_56 er eg
    replace h := (if_neg cv5).symm.trans h
    by_cases cv9 : x1 = 1
    · replace h := (if_pos cv9).symm.trans h
      refine v_tableIn X 57 dX7_stand_14 (by rw [cv9]; decide) (by rw [cv9]; decide) (by rw [cv9]; rfl) (by decide) ?_
      refine v_aloadn X dX7_stand_57 rfl rfl ?_
      refine gf_X7_33 X dX7_stand_58 ?_
      obtain ⟨rv12, gv11, qv10, h⟩ := bd2_some h
      refine v_callVI (As := []) (rest := []) X (c_X4_policyBits l D ad cy X.2.2.2.2.2.2.2.2.1 N 0 gv2 rv12 gv11 (by omega) qv10) mw_X4_policyBits ml_X7_167 (by decide) (k_roof (by omega)) (by decide) rfl rfl rfl rfl (Nat.le_of_ble_eq_true rfl) dX7_stand_61 ?_
      obtain ⟨er, eg⟩ := Prod.mk.inj (Option.some.inj h)
      exact v_iret X dX7_stand_64 er eg
    replace h := (if_neg cv9).symm.trans h
    by_cases cv13 : x1 = 2
    · replace h := (if_pos cv13).symm.trans h
      refine v_tableIn X 65 dX7_stand_14 (by rw [cv13]; decide) (by rw [cv13]; decide) (by rw [cv13]; rfl) (by decide) ?_
      refine v_aloadn X dX7_stand_65 rfl rfl ?_
      refine gf_X7_33 X dX7_stand_66 ?_
      refine v_iconst (v := 2) X dX7_stand_69 (by decide) ?_
      obtain ⟨rv16, gv15, qv14, h⟩ := bd2_some h
      refine v_callVI (As := [.int (2 : Int32)]) (rest := []) X (c_X4_bitsOf l D ad cy X.2.2.2.2.2.2.2.2.1 N 0 (2 : Int32) gv2 rv16 gv15 (by omega) qv14) mw_X4_bitsOf ml_X7_186 (by decide) (k_roof (by omega)) (by decide) rfl rfl rfl rfl (Nat.le_of_ble_eq_true rfl) dX7_stand_70 ?_
      obtain ⟨er, eg⟩ := Prod.mk.inj (Option.some.inj h)
      exact v_iret X dX7_stand_73 er eg
    replace h := (if_neg cv13).symm.trans h
    by_cases cv17 : x1 = 3
    · replace h := (if_pos cv17).symm.trans h
      refine v_tableIn X 74 dX7_stand_14 (by rw [cv17]; decide) (by rw [cv17]; decide) (by rw [cv17]; rfl) (by decide) ?_
      refine v_aloadn X dX7_stand_74 rfl rfl ?_
      refine gf_X7_33 X dX7_stand_75 ?_
      refine gf_X7_219 X (k_roof (by omega)) dX7_stand_78 ?_
      obtain ⟨er, eg⟩ := Prod.mk.inj (Option.some.inj h)
      exact v_iret X dX7_stand_81 er eg
    replace h := (if_neg cv17).symm.trans h
    by_cases cv18 : x1 = 4
    · replace h := (if_pos cv18).symm.trans h
      refine v_tableIn X 82 dX7_stand_14 (by rw [cv18]; decide) (by rw [cv18]; decide) (by rw [cv18]; rfl) (by decide) ?_
      refine v_aloadn X dX7_stand_82 rfl rfl ?_
      refine gf_X7_33 X dX7_stand_83 ?_
      refine gf_X7_222 X (k_roof (by omega)) dX7_stand_86 ?_
      obtain ⟨er, eg⟩ := Prod.mk.inj (Option.some.inj h)
      exact v_iret X dX7_stand_89 er eg
    replace h := (if_neg cv18).symm.trans h
    have tv19 := tab_ne (k := 0) (n := 0) cv5 (by decide)
    have tv20 := tab_ne (k := 1) (n := 1) cv9 (by decide)
    have tv21 := tab_ne (k := 2) (n := 2) cv13 (by decide)
    have tv22 := tab_ne (k := 3) (n := 3) cv17 (by decide)
    have tv23 := tab_ne (k := 4) (n := 4) cv18 (by decide)
    refine v_tableOut X 90 dX7_stand_14 (by omega) (by decide) ?_
    refine v_ldc X kc_X7_75 dX7_stand_90 ?_
    obtain ⟨er, eg⟩ := Prod.mk.inj (Option.some.inj h)
    exact v_iret X dX7_stand_92 er eg
  · replace h := (if_pos cv4).symm.trans h
    refine v_ldc X kc_X7_148 dX7_stand_10 ?_
    obtain ⟨er, eg⟩ := Prod.mk.inj (Option.some.inj h)
    exact v_iret X dX7_stand_12 er eg
def F_X7_status (N : Nat) (g : GS) : Option (Int32 × GS) := some ((g 9 0 1), g)
set_option maxRecDepth 100000 in
set_option maxHeartbeats 4000000 in
theorem c_X7_status (l : Launch) (D : va_G) (ad : Ky → Nat) (cy : Nat → ClassId) (hI : Inj ad) (N : Nat) (g : GS) (r : Int32) (gq : GS) (h : F_X7_status N  g = some (r, gq)) : CtI l D ad cy yX7_status cX7_status 1 (some .int) 0 [.ref (ad (7, 0, 0))] g r gq := by
  refine CtI.of 0 hI (by decide +kernel) rfl (Nat.le_of_ble_eq_true rfl) (fun p e s m args below meth c X => ?_)
  unfold F_X7_status at h
  show Vy _ _ _ _ _ _ _ _ _ _ _ _ _ _ _ 0 [some (.ref (ad (7, 0, 0)))] [] g
  refine v_aloadn X dX7_status_0 rfl rfl ?_
  refine gf_X7_62 X dX7_status_1 ?_
  obtain ⟨er, eg⟩ := Prod.mk.inj (Option.some.inj h)
  exact v_iret X dX7_status_4 er eg
def F_X7_watchRow (N : Nat) (x1 : Int32) (x2 : Int32) (x3 : Int32) (x4 : Int32) (g : GS) : Option (Int32 × GS) := bd1 (ix x2 8) (fun jv1 => bd2 (F_X5_isMissing N jv1 g) (fun rv5 gv4 => if rv5 = 0 then bd2 (F_X5_hasPlaces N jv1 x3 x4 gv4) (fun rv9 gv8 => if rv9 = 0 then some ((2 : Int32), gv8) else bd1 (F_X2_watch N x1 jv1 x3 x4 gv8) (fun gv12 => some ((0 : Int32), gv12))) else some ((1 : Int32), gv4)))
set_option maxRecDepth 100000 in
set_option maxHeartbeats 4000000 in
theorem c_X7_watchRow (l : Launch) (D : va_G) (ad : Ky → Nat) (cy : Nat → ClassId) (hI : Inj ad) (N : Nat) (x1 : Int32) (x2 : Int32) (x3 : Int32) (x4 : Int32) (g : GS) (r : Int32) (gq : GS) (h : F_X7_watchRow N x1 x2 x3 x4 g = some (r, gq)) : CtI l D ad cy yX7_watchRow cX7_watchRow 5 (some .int) 1 [.ref (ad (7, 0, 0)), .int x1, .int x2, .int x3, .int x4] g r gq := by
  refine CtI.of 0 hI (by decide +kernel) rfl (Nat.le_of_ble_eq_true rfl) (fun p e s m args below meth c X => ?_)
  unfold F_X7_watchRow at h
  show Vy _ _ _ _ _ _ _ _ _ _ _ _ _ _ _ 0 [some (.ref (ad (7, 0, 0))), some (.int x1), some (.int x2), some (.int x3), some (.int x4)] [] g
  refine v_aloadn X dX7_watchRow_0 rfl rfl ?_
  refine gf_X7_11 X dX7_watchRow_1 ?_
  refine v_iloadn X dX7_watchRow_4 rfl rfl ?_
  obtain ⟨jv1, qv2, h⟩ := bd1_some h
  obtain ⟨ejv1, ljv1⟩ := ix_spec qv2
  refine aaR X jv1 ejv1 ljv1 dX7_watchRow_5 ?_
  obtain ⟨rv5, gv4, qv3, h⟩ := bd2_some h
  refine v_callVI (As := []) (rest := []) X (c_X5_isMissing l D ad cy X.2.2.2.2.2.2.2.2.1 N jv1 g rv5 gv4 (by omega) qv3) mw_X5_isMissing ml_X7_87 (by decide) (k_row (by omega)) (by decide) rfl rfl rfl rfl (Nat.le_of_ble_eq_true rfl) dX7_watchRow_6 ?_
  refine v_if_eq X 14 dX7_watchRow_9 (by decide) (fun cv6 => ?_) (fun cv6 => ?_)
  · replace h := (if_pos cv6).symm.trans h
    refine v_aloadn X dX7_watchRow_14 rfl rfl ?_
    refine gf_X7_11 X dX7_watchRow_15 ?_
    refine v_iloadn X dX7_watchRow_18 rfl rfl ?_
    refine aaR X jv1 ejv1 ljv1 dX7_watchRow_19 ?_
    refine v_iloadn X dX7_watchRow_20 rfl rfl ?_
    refine v_iload X dX7_watchRow_21 rfl ?_
    obtain ⟨rv9, gv8, qv7, h⟩ := bd2_some h
    refine v_callVI (As := [.int x3, .int x4]) (rest := []) X (c_X5_hasPlaces l D ad cy X.2.2.2.2.2.2.2.2.1 N jv1 x3 x4 gv4 rv9 gv8 (by omega) qv7) mw_X5_hasPlaces ml_X7_91 (by decide) (k_row (by omega)) (by decide) rfl rfl rfl rfl (Nat.le_of_ble_eq_true rfl) dX7_watchRow_23 ?_
    refine v_if_ne X 31 dX7_watchRow_26 (by decide) (fun cv10 => ?_) (fun cv10 => ?_)
    · replace h := (if_neg cv10).symm.trans h
      refine v_aloadn X dX7_watchRow_31 rfl rfl ?_
      refine gf_X7_25 X dX7_watchRow_32 ?_
      refine v_iloadn X dX7_watchRow_35 rfl rfl ?_
      refine v_aloadn X dX7_watchRow_36 rfl rfl ?_
      refine gf_X7_11 X dX7_watchRow_37 ?_
      refine v_iloadn X dX7_watchRow_40 rfl rfl ?_
      refine aaR X jv1 ejv1 ljv1 dX7_watchRow_41 ?_
      refine v_iloadn X dX7_watchRow_42 rfl rfl ?_
      refine v_iload X dX7_watchRow_43 rfl ?_
      obtain ⟨gv12, qv11, h⟩ := bd1_some h
      refine v_callVV (As := [.int x1, .ref (ad (5, jv1, 0)), .int x3, .int x4]) (rest := []) X (c_X2_watch l D ad cy X.2.2.2.2.2.2.2.2.1 N x1 jv1 x3 x4 gv8 gv12 (by omega) qv11) mw_X2_watch ml_X7_318 (by decide) (by decide +kernel) (by decide) rfl rfl rfl rfl (Nat.le_of_ble_eq_true rfl) dX7_watchRow_45 ?_
      refine v_iconst (v := 0) X dX7_watchRow_48 (by decide) ?_
      obtain ⟨er, eg⟩ := Prod.mk.inj (Option.some.inj h)
      exact v_iret X dX7_watchRow_49 er eg
    · replace h := (if_pos cv10).symm.trans h
      refine v_iconst (v := 2) X dX7_watchRow_29 (by decide) ?_
      obtain ⟨er, eg⟩ := Prod.mk.inj (Option.some.inj h)
      exact v_iret X dX7_watchRow_30 er eg
  · replace h := (if_neg cv6).symm.trans h
    refine v_iconst (v := 1) X dX7_watchRow_12 (by decide) ?_
    obtain ⟨er, eg⟩ := Prod.mk.inj (Option.some.inj h)
    exact v_iret X dX7_watchRow_13 er eg
def F_X7_tapes (N : Nat) (x1 : Int32) (x2 : Int32) (x3 : Int32) (x4 : Int32) (x5 : Int32) (g : GS) : Option (Int32 × GS) := bd2 (F_X4_hasPaper N 0 x1 g) (fun rv3 gv2 => if rv3 = 0 then some ((-1000001 : Int32), gv2) else bd2 (F_X7_isWithin N x2 (0 : Int32) (1 : Int32) gv2) (fun rv7 gv6 => if rv7 = 0 then some ((-1000001 : Int32), gv6) else bd2 (F_X7_isRow N x3 gv6) (fun rv11 gv10 => if rv11 = 0 then some ((-1000001 : Int32), gv10) else bd2 (F_X7_isWithin N x5 (1 : Int32) (12 : Int32) gv10) (fun rv15 gv14 => if rv15 = 0 then some ((-1000001 : Int32), gv14) else bd2 (F_X7_watchRow N x1 x3 x4 x5 gv14) (fun rv19 gv18 => if rv19 = 0 then bd2 (F_X2_fittingTapes N x2 gv18) (fun rv23 gv22 => bd2 (F_X7_unfound N rv23 gv22) (fun rv26 gv25 => some (rv26, gv25))) else bd2 (F_X7_found N rv19 gv18) (fun rv29 gv28 => some (rv29, gv28)))))))
set_option maxRecDepth 100000 in
set_option maxHeartbeats 4000000 in
theorem c_X7_tapes (l : Launch) (D : va_G) (ad : Ky → Nat) (cy : Nat → ClassId) (hI : Inj ad) (N : Nat) (x1 : Int32) (x2 : Int32) (x3 : Int32) (x4 : Int32) (x5 : Int32) (g : GS) (r : Int32) (gq : GS) (h : F_X7_tapes N x1 x2 x3 x4 x5 g = some (r, gq)) : CtI l D ad cy yX7_tapes cX7_tapes 7 (some .int) 6 [.ref (ad (7, 0, 0)), .int x1, .int x2, .int x3, .int x4, .int x5] g r gq := by
  refine CtI.of 1 hI (by decide +kernel) rfl (Nat.le_of_ble_eq_true rfl) (fun p e s m args below meth c X => ?_)
  unfold F_X7_tapes at h
  show Vy _ _ _ _ _ _ _ _ _ _ _ _ _ _ _ 0 [some (.ref (ad (7, 0, 0))), some (.int x1), some (.int x2), some (.int x3), some (.int x4), some (.int x5), none] [] g
  refine v_aloadn X dX7_tapes_0 rfl rfl ?_
  refine gf_X7_33 X dX7_tapes_1 ?_
  refine v_iloadn X dX7_tapes_4 rfl rfl ?_
  obtain ⟨rv3, gv2, qv1, h⟩ := bd2_some h
  refine v_callVI (As := [.int x1]) (rest := []) X (c_X4_hasPaper l D ad cy X.2.2.2.2.2.2.2.2.1 N 0 x1 g rv3 gv2 (by omega) qv1) mw_X4_hasPaper ml_X7_171 (by decide) (k_roof (by omega)) (by decide) rfl rfl rfl rfl (Nat.le_of_ble_eq_true rfl) dX7_tapes_5 ?_
  refine v_if_eq X 38 dX7_tapes_8 (by decide) (fun cv4 => ?_) (fun cv4 => ?_)
  · replace h := (if_pos cv4).symm.trans h
    refine v_ldc X kc_X7_75 dX7_tapes_38 ?_
    obtain ⟨er, eg⟩ := Prod.mk.inj (Option.some.inj h)
    exact v_iret X dX7_tapes_40 er eg
  · replace h := (if_neg cv4).symm.trans h
    refine v_iloadn X dX7_tapes_11 rfl rfl ?_
    refine v_iconst (v := 0) X dX7_tapes_12 (by decide) ?_
    refine v_iconst (v := 1) X dX7_tapes_13 (by decide) ?_
    obtain ⟨rv7, gv6, qv5, h⟩ := bd2_some h
    refine v_callSI (As := [.int x2, .int (0 : Int32), .int (1 : Int32)]) (rest := []) X (c_X7_isWithin l D ad cy X.2.2.2.2.2.2.2.2.1 N x2 (0 : Int32) (1 : Int32) gv2 rv7 gv6  qv5) mw_X7_isWithin ml_X7_71 (by decide) rfl rfl (Nat.le_of_ble_eq_true rfl) dX7_tapes_14 ?_
    refine v_if_eq X 38 dX7_tapes_17 (by decide) (fun cv8 => ?_) (fun cv8 => ?_)
    · replace h := (if_pos cv8).symm.trans h
      refine v_ldc X kc_X7_75 dX7_tapes_38 ?_
      obtain ⟨er, eg⟩ := Prod.mk.inj (Option.some.inj h)
      exact v_iret X dX7_tapes_40 er eg
    · replace h := (if_neg cv8).symm.trans h
      refine v_iloadn X dX7_tapes_20 rfl rfl ?_
      obtain ⟨rv11, gv10, qv9, h⟩ := bd2_some h
      refine v_callSI (As := [.int x3]) (rest := []) X (c_X7_isRow l D ad cy X.2.2.2.2.2.2.2.2.1 N x3 gv6 rv11 gv10  qv9) mw_X7_isRow ml_X7_67 (by decide) rfl rfl (Nat.le_of_ble_eq_true rfl) dX7_tapes_21 ?_
      refine v_if_eq X 38 dX7_tapes_24 (by decide) (fun cv12 => ?_) (fun cv12 => ?_)
      · replace h := (if_pos cv12).symm.trans h
        refine v_ldc X kc_X7_75 dX7_tapes_38 ?_
        obtain ⟨er, eg⟩ := Prod.mk.inj (Option.some.inj h)
        exact v_iret X dX7_tapes_40 er eg
      · replace h := (if_neg cv12).symm.trans h
        refine v_iload X dX7_tapes_27 rfl ?_
        refine v_iconst (v := 1) X dX7_tapes_29 (by decide) ?_
        refine v_bipush (v := 12) X dX7_tapes_30 (by decide) ?_
        obtain ⟨rv15, gv14, qv13, h⟩ := bd2_some h
        refine v_callSI (As := [.int x5, .int (1 : Int32), .int (12 : Int32)]) (rest := []) X (c_X7_isWithin l D ad cy X.2.2.2.2.2.2.2.2.1 N x5 (1 : Int32) (12 : Int32) gv10 rv15 gv14  qv13) mw_X7_isWithin ml_X7_71 (by decide) rfl rfl (Nat.le_of_ble_eq_true rfl) dX7_tapes_32 ?_
        refine v_if_ne X 41 dX7_tapes_35 (by decide) (fun cv16 => ?_) (fun cv16 => ?_)
        · replace h := (if_neg cv16).symm.trans h
          refine v_aloadn X dX7_tapes_41 rfl rfl ?_
          refine v_iloadn X dX7_tapes_42 rfl rfl ?_
          refine v_iloadn X dX7_tapes_43 rfl rfl ?_
          refine v_iload X dX7_tapes_44 rfl ?_
          refine v_iload X dX7_tapes_46 rfl ?_
          obtain ⟨rv19, gv18, qv17, h⟩ := bd2_some h
          refine v_callVI (As := [.int x1, .int x3, .int x4, .int x5]) (rest := []) X (c_X7_watchRow l D ad cy X.2.2.2.2.2.2.2.2.1 N x1 x3 x4 x5 gv14 rv19 gv18  qv17) mw_X7_watchRow ml_X7_255 (by decide) (by decide +kernel) (by decide) rfl rfl rfl rfl (Nat.le_of_ble_eq_true rfl) dX7_tapes_48 ?_
          refine v_istore (lc' := [some (.ref (ad (7, 0, 0))), some (.int x1), some (.int x2), some (.int x3), some (.int x4), some (.int x5), some (.int rv19)]) X dX7_tapes_51 (by decide) rfl rfl ?_
          refine v_iload X dX7_tapes_53 rfl ?_
          refine v_if_eq X 65 dX7_tapes_55 (by decide) (fun cv20 => ?_) (fun cv20 => ?_)
          · replace h := (if_pos cv20).symm.trans h
            refine v_aloadn X dX7_tapes_65 rfl rfl ?_
            refine v_aloadn X dX7_tapes_66 rfl rfl ?_
            refine gf_X7_25 X dX7_tapes_67 ?_
            refine v_iloadn X dX7_tapes_70 rfl rfl ?_
            obtain ⟨rv23, gv22, qv21, h⟩ := bd2_some h
            refine v_callVI (As := [.int x2]) (rest := [.ref (ad (7, 0, 0))]) X (c_X2_fittingTapes l D ad cy X.2.2.2.2.2.2.2.2.1 N x2 gv18 rv23 gv22  qv21) mw_X2_fittingTapes ml_X7_265 (by decide) (by decide +kernel) (by decide) rfl rfl rfl rfl (Nat.le_of_ble_eq_true rfl) dX7_tapes_71 ?_
            obtain ⟨rv26, gv25, qv24, h⟩ := bd2_some h
            refine v_callVI (As := [.int rv23]) (rest := []) X (c_X7_unfound l D ad cy X.2.2.2.2.2.2.2.2.1 N rv23 gv22 rv26 gv25  qv24) mw_X7_unfound ml_X7_84 (by decide) (by decide +kernel) (by decide) rfl rfl rfl rfl (Nat.le_of_ble_eq_true rfl) dX7_tapes_74 ?_
            obtain ⟨er, eg⟩ := Prod.mk.inj (Option.some.inj h)
            exact v_iret X dX7_tapes_77 er eg
          · replace h := (if_neg cv20).symm.trans h
            refine v_aloadn X dX7_tapes_58 rfl rfl ?_
            refine v_iload X dX7_tapes_59 rfl ?_
            obtain ⟨rv29, gv28, qv27, h⟩ := bd2_some h
            refine v_callVI (As := [.int rv19]) (rest := []) X (c_X7_found l D ad cy X.2.2.2.2.2.2.2.2.1 N rv19 gv18 rv29 gv28  qv27) mw_X7_found ml_X7_76 (by decide) (by decide +kernel) (by decide) rfl rfl rfl rfl (Nat.le_of_ble_eq_true rfl) dX7_tapes_61 ?_
            obtain ⟨er, eg⟩ := Prod.mk.inj (Option.some.inj h)
            exact v_iret X dX7_tapes_64 er eg
        · replace h := (if_pos cv16).symm.trans h
          refine v_ldc X kc_X7_75 dX7_tapes_38 ?_
          obtain ⟨er, eg⟩ := Prod.mk.inj (Option.some.inj h)
          exact v_iret X dX7_tapes_40 er eg
def F_X7_trace (N : Nat) (x1 : Int32) (g : GS) : Option (Int32 × GS) := bd2 (F_X1_traced N x1 g) (fun rv3 gv2 => some (rv3, gv2))
set_option maxRecDepth 100000 in
set_option maxHeartbeats 4000000 in
theorem c_X7_trace (l : Launch) (D : va_G) (ad : Ky → Nat) (cy : Nat → ClassId) (hI : Inj ad) (N : Nat) (x1 : Int32) (g : GS) (r : Int32) (gq : GS) (h : F_X7_trace N x1 g = some (r, gq)) : CtI l D ad cy yX7_trace cX7_trace 2 (some .int) 1 [.ref (ad (7, 0, 0)), .int x1] g r gq := by
  refine CtI.of 0 hI (by decide +kernel) rfl (Nat.le_of_ble_eq_true rfl) (fun p e s m args below meth c X => ?_)
  unfold F_X7_trace at h
  show Vy _ _ _ _ _ _ _ _ _ _ _ _ _ _ _ 0 [some (.ref (ad (7, 0, 0))), some (.int x1)] [] g
  refine v_aloadn X dX7_trace_0 rfl rfl ?_
  refine gf_X7_54 X dX7_trace_1 ?_
  refine v_iloadn X dX7_trace_4 rfl rfl ?_
  obtain ⟨rv3, gv2, qv1, h⟩ := bd2_some h
  refine v_callVI (As := [.int x1]) (rest := []) X (c_X1_traced l D ad cy X.2.2.2.2.2.2.2.2.1 N x1 g rv3 gv2  qv1) mw_X1_traced ml_X7_308 (by decide) (by decide +kernel) (by decide) rfl rfl rfl rfl (Nat.le_of_ble_eq_true rfl) dX7_trace_5 ?_
  obtain ⟨er, eg⟩ := Prod.mk.inj (Option.some.inj h)
  exact v_iret X dX7_trace_8 er eg
def F_X7_undo (N : Nat) (g : GS) : Option (Int32 × GS) := if (g 6 0 1) = 0 then some ((-1000002 : Int32), g) else bd1 (F_X0_takeBack N 0 g) (fun gv3 => some ((gv3 6 0 1), gv3))
set_option maxRecDepth 100000 in
set_option maxHeartbeats 4000000 in
theorem c_X7_undo (l : Launch) (D : va_G) (ad : Ky → Nat) (cy : Nat → ClassId) (hI : Inj ad) (N : Nat) (g : GS) (r : Int32) (gq : GS) (h : F_X7_undo N  g = some (r, gq)) : CtI l D ad cy yX7_undo cX7_undo 1 (some .int) 3 [.ref (ad (7, 0, 0))] g r gq := by
  refine CtI.of 0 hI (by decide +kernel) rfl (Nat.le_of_ble_eq_true rfl) (fun p e s m args below meth c X => ?_)
  unfold F_X7_undo at h
  show Vy _ _ _ _ _ _ _ _ _ _ _ _ _ _ _ 0 [some (.ref (ad (7, 0, 0)))] [] g
  refine v_aloadn X dX7_undo_0 rfl rfl ?_
  refine gf_X7_41 X dX7_undo_1 ?_
  refine gf_X7_145 X dX7_undo_4 ?_
  refine v_if_ne X 13 dX7_undo_7 (by decide) (fun cv1 => ?_) (fun cv1 => ?_)
  · replace h := (if_neg cv1).symm.trans h
    refine v_aloadn X dX7_undo_13 rfl rfl ?_
    refine gf_X7_41 X dX7_undo_14 ?_
    refine v_aloadn X dX7_undo_17 rfl rfl ?_
    refine gf_X7_33 X dX7_undo_18 ?_
    obtain ⟨gv3, qv2, h⟩ := bd1_some h
    refine v_callVV (As := [.ref (ad (4, 0, 0))]) (rest := []) X (c_X0_takeBack l D ad cy X.2.2.2.2.2.2.2.2.1 N 0 g gv3 (by omega) qv2) mw_X0_takeBack ml_X7_149 (by decide) (by decide +kernel) (by decide) rfl rfl rfl rfl (Nat.le_of_ble_eq_true rfl) dX7_undo_21 ?_
    refine v_aloadn X dX7_undo_24 rfl rfl ?_
    refine gf_X7_41 X dX7_undo_25 ?_
    refine gf_X7_145 X dX7_undo_28 ?_
    obtain ⟨er, eg⟩ := Prod.mk.inj (Option.some.inj h)
    exact v_iret X dX7_undo_31 er eg
  · replace h := (if_pos cv1).symm.trans h
    refine v_ldc X kc_X7_148 dX7_undo_10 ?_
    obtain ⟨er, eg⟩ := Prod.mk.inj (Option.some.inj h)
    exact v_iret X dX7_undo_12 er eg
def F_X7_weigh (N : Nat) (x1 : Int32) (x2 : Int32) (g : GS) : Option (Int32 × GS) := bd2 (F_X4_hasPaper N 0 x1 g) (fun rv3 gv2 => if rv3 = 0 then some ((-1000001 : Int32), gv2) else bd2 (F_X7_isWithin N x2 (1 : Int32) (60 : Int32) gv2) (fun rv7 gv6 => if rv7 = 0 then some ((-1000001 : Int32), gv6) else bd1 (F_X0_keep N 0 gv6) (fun gv10 => bd1 (ix x1 6) (fun jv11 => some ((gv10 13 0 (7 * jv11 + 2)), (g3 gv10 13 0 (7 * jv11 + 2) x2))))))
set_option maxRecDepth 100000 in
set_option maxHeartbeats 4000000 in
theorem c_X7_weigh (l : Launch) (D : va_G) (ad : Ky → Nat) (cy : Nat → ClassId) (hI : Inj ad) (N : Nat) (x1 : Int32) (x2 : Int32) (g : GS) (r : Int32) (gq : GS) (h : F_X7_weigh N x1 x2 g = some (r, gq)) : CtI l D ad cy yX7_weigh cX7_weigh 4 (some .int) 3 [.ref (ad (7, 0, 0)), .int x1, .int x2] g r gq := by
  refine CtI.of 1 hI (by decide +kernel) rfl (Nat.le_of_ble_eq_true rfl) (fun p e s m args below meth c X => ?_)
  unfold F_X7_weigh at h
  show Vy _ _ _ _ _ _ _ _ _ _ _ _ _ _ _ 0 [some (.ref (ad (7, 0, 0))), some (.int x1), some (.int x2), none] [] g
  refine v_aloadn X dX7_weigh_0 rfl rfl ?_
  refine gf_X7_33 X dX7_weigh_1 ?_
  refine v_iloadn X dX7_weigh_4 rfl rfl ?_
  obtain ⟨rv3, gv2, qv1, h⟩ := bd2_some h
  refine v_callVI (As := [.int x1]) (rest := []) X (c_X4_hasPaper l D ad cy X.2.2.2.2.2.2.2.2.1 N 0 x1 g rv3 gv2 (by omega) qv1) mw_X4_hasPaper ml_X7_171 (by decide) (k_roof (by omega)) (by decide) rfl rfl rfl rfl (Nat.le_of_ble_eq_true rfl) dX7_weigh_5 ?_
  refine v_if_eq X 21 dX7_weigh_8 (by decide) (fun cv4 => ?_) (fun cv4 => ?_)
  · replace h := (if_pos cv4).symm.trans h
    refine v_ldc X kc_X7_75 dX7_weigh_21 ?_
    obtain ⟨er, eg⟩ := Prod.mk.inj (Option.some.inj h)
    exact v_iret X dX7_weigh_23 er eg
  · replace h := (if_neg cv4).symm.trans h
    refine v_iloadn X dX7_weigh_11 rfl rfl ?_
    refine v_iconst (v := 1) X dX7_weigh_12 (by decide) ?_
    refine v_bipush (v := 60) X dX7_weigh_13 (by decide) ?_
    obtain ⟨rv7, gv6, qv5, h⟩ := bd2_some h
    refine v_callSI (As := [.int x2, .int (1 : Int32), .int (60 : Int32)]) (rest := []) X (c_X7_isWithin l D ad cy X.2.2.2.2.2.2.2.2.1 N x2 (1 : Int32) (60 : Int32) gv2 rv7 gv6  qv5) mw_X7_isWithin ml_X7_71 (by decide) rfl rfl (Nat.le_of_ble_eq_true rfl) dX7_weigh_15 ?_
    refine v_if_ne X 24 dX7_weigh_18 (by decide) (fun cv8 => ?_) (fun cv8 => ?_)
    · replace h := (if_neg cv8).symm.trans h
      refine v_aloadn X dX7_weigh_24 rfl rfl ?_
      refine gf_X7_41 X dX7_weigh_25 ?_
      refine v_aloadn X dX7_weigh_28 rfl rfl ?_
      refine gf_X7_33 X dX7_weigh_29 ?_
      obtain ⟨gv10, qv9, h⟩ := bd1_some h
      refine v_callVV (As := [.ref (ad (4, 0, 0))]) (rest := []) X (c_X0_keep l D ad cy X.2.2.2.2.2.2.2.2.1 N 0 gv6 gv10 (by omega) qv9) mw_X0_keep ml_X7_158 (by decide) (by decide +kernel) (by decide) rfl rfl rfl rfl (Nat.le_of_ble_eq_true rfl) dX7_weigh_32 ?_
      refine v_aloadn X dX7_weigh_35 rfl rfl ?_
      refine gf_X7_33 X dX7_weigh_36 ?_
      refine gf_X7_174 X (k_roof (by omega)) dX7_weigh_39 ?_
      refine v_iloadn X dX7_weigh_42 rfl rfl ?_
      obtain ⟨jv11, qv12, h⟩ := bd1_some h
      obtain ⟨ejv11, ljv11⟩ := ix_spec qv12
      refine aaP X (k_papers (by omega)) jv11 ejv11 ljv11 dX7_weigh_43 ?_
      refine gf_X7_198 X (k_paper (by omega) (by omega)) dX7_weigh_44 ?_
      refine v_istoren (lc' := [some (.ref (ad (7, 0, 0))), some (.int x1), some (.int x2), some (.int (gv10 13 0 (7 * jv11 + 2)))]) X dX7_weigh_47 rfl (by decide) rfl rfl ?_
      refine v_aloadn X dX7_weigh_48 rfl rfl ?_
      refine gf_X7_33 X dX7_weigh_49 ?_
      refine gf_X7_174 X (k_roof (by omega)) dX7_weigh_52 ?_
      refine v_iloadn X dX7_weigh_55 rfl rfl ?_
      refine aaP X (k_papers (by omega)) jv11 ejv11 ljv11 dX7_weigh_56 ?_
      refine v_iloadn X dX7_weigh_57 rfl rfl ?_
      refine pf_X7_198 X (k_paper (by omega) (by omega)) dX7_weigh_58 ?_
      refine v_iloadn X dX7_weigh_61 rfl rfl ?_
      obtain ⟨er, eg⟩ := Prod.mk.inj (Option.some.inj h)
      exact v_iret X dX7_weigh_62 er eg
    · replace h := (if_pos cv8).symm.trans h
      refine v_ldc X kc_X7_75 dX7_weigh_21 ?_
      obtain ⟨er, eg⟩ := Prod.mk.inj (Option.some.inj h)
      exact v_iret X dX7_weigh_23 er eg
def F_X7_when (N : Nat) (x1 : Int32) (x2 : Int32) (g : GS) : Option (Int32 × GS) := bd2 (F_X4_hasPaper N 0 x1 g) (fun rv3 gv2 => if rv3 = 0 then some ((-1000001 : Int32), gv2) else bd2 (F_X7_isWithin N x2 (1 : Int32) (2 : Int32) gv2) (fun rv7 gv6 => if rv7 = 0 then some ((-1000001 : Int32), gv6) else if x2 = (2 : Int32) then bd2 (F_X2_firstHour N x1 (1 : Int32) gv6) (fun rv15 gv14 => some (rv15, gv14)) else bd2 (F_X2_firstHour N x1 (0 : Int32) gv6) (fun rv12 gv11 => some (rv12, gv11))))
set_option maxRecDepth 100000 in
set_option maxHeartbeats 4000000 in
theorem c_X7_when (l : Launch) (D : va_G) (ad : Ky → Nat) (cy : Nat → ClassId) (hI : Inj ad) (N : Nat) (x1 : Int32) (x2 : Int32) (g : GS) (r : Int32) (gq : GS) (h : F_X7_when N x1 x2 g = some (r, gq)) : CtI l D ad cy yX7_when cX7_when 3 (some .int) 4 [.ref (ad (7, 0, 0)), .int x1, .int x2] g r gq := by
  refine CtI.of 0 hI (by decide +kernel) rfl (Nat.le_of_ble_eq_true rfl) (fun p e s m args below meth c X => ?_)
  unfold F_X7_when at h
  show Vy _ _ _ _ _ _ _ _ _ _ _ _ _ _ _ 0 [some (.ref (ad (7, 0, 0))), some (.int x1), some (.int x2)] [] g
  refine v_aloadn X dX7_when_0 rfl rfl ?_
  refine gf_X7_33 X dX7_when_1 ?_
  refine v_iloadn X dX7_when_4 rfl rfl ?_
  obtain ⟨rv3, gv2, qv1, h⟩ := bd2_some h
  refine v_callVI (As := [.int x1]) (rest := []) X (c_X4_hasPaper l D ad cy X.2.2.2.2.2.2.2.2.1 N 0 x1 g rv3 gv2 (by omega) qv1) mw_X4_hasPaper ml_X7_171 (by decide) (k_roof (by omega)) (by decide) rfl rfl rfl rfl (Nat.le_of_ble_eq_true rfl) dX7_when_5 ?_
  refine v_if_eq X 20 dX7_when_8 (by decide) (fun cv4 => ?_) (fun cv4 => ?_)
  · replace h := (if_pos cv4).symm.trans h
    refine v_ldc X kc_X7_75 dX7_when_20 ?_
    obtain ⟨er, eg⟩ := Prod.mk.inj (Option.some.inj h)
    exact v_iret X dX7_when_22 er eg
  · replace h := (if_neg cv4).symm.trans h
    refine v_iloadn X dX7_when_11 rfl rfl ?_
    refine v_iconst (v := 1) X dX7_when_12 (by decide) ?_
    refine v_iconst (v := 2) X dX7_when_13 (by decide) ?_
    obtain ⟨rv7, gv6, qv5, h⟩ := bd2_some h
    refine v_callSI (As := [.int x2, .int (1 : Int32), .int (2 : Int32)]) (rest := []) X (c_X7_isWithin l D ad cy X.2.2.2.2.2.2.2.2.1 N x2 (1 : Int32) (2 : Int32) gv2 rv7 gv6  qv5) mw_X7_isWithin ml_X7_71 (by decide) rfl rfl (Nat.le_of_ble_eq_true rfl) dX7_when_14 ?_
    refine v_if_ne X 23 dX7_when_17 (by decide) (fun cv8 => ?_) (fun cv8 => ?_)
    · replace h := (if_neg cv8).symm.trans h
      refine v_aloadn X dX7_when_23 rfl rfl ?_
      refine gf_X7_25 X dX7_when_24 ?_
      refine v_iloadn X dX7_when_27 rfl rfl ?_
      refine v_iloadn X dX7_when_28 rfl rfl ?_
      refine v_iconst (v := 2) X dX7_when_29 (by decide) ?_
      refine v_icmp_ne X 37 dX7_when_30 (by decide) (fun cv9 => ?_) (fun cv9 => ?_)
      · replace h := (if_neg cv9).symm.trans h
        refine v_iconst (v := 0) X dX7_when_37 (by decide) ?_
        obtain ⟨rv12, gv11, qv10, h⟩ := bd2_some h
        refine v_callVI (As := [.int x1, .int (0 : Int32)]) (rest := []) X (c_X2_firstHour l D ad cy X.2.2.2.2.2.2.2.2.1 N x1 (0 : Int32) gv6 rv12 gv11  qv10) mw_X2_firstHour ml_X7_228 (by decide) (by decide +kernel) (by decide) rfl rfl rfl rfl (Nat.le_of_ble_eq_true rfl) dX7_when_38 ?_
        obtain ⟨er, eg⟩ := Prod.mk.inj (Option.some.inj h)
        exact v_iret X dX7_when_41 er eg
      · replace h := (if_pos cv9).symm.trans h
        refine v_iconst (v := 1) X dX7_when_33 (by decide) ?_
        refine v_goto X 38 dX7_when_34 (by decide) ?_
        obtain ⟨rv15, gv14, qv13, h⟩ := bd2_some h
        refine v_callVI (As := [.int x1, .int (1 : Int32)]) (rest := []) X (c_X2_firstHour l D ad cy X.2.2.2.2.2.2.2.2.1 N x1 (1 : Int32) gv6 rv15 gv14  qv13) mw_X2_firstHour ml_X7_228 (by decide) (by decide +kernel) (by decide) rfl rfl rfl rfl (Nat.le_of_ble_eq_true rfl) dX7_when_38 ?_
        obtain ⟨er, eg⟩ := Prod.mk.inj (Option.some.inj h)
        exact v_iret X dX7_when_41 er eg
    · replace h := (if_pos cv8).symm.trans h
      refine v_ldc X kc_X7_75 dX7_when_20 ?_
      obtain ⟨er, eg⟩ := Prod.mk.inj (Option.some.inj h)
      exact v_iret X dX7_when_22 er eg
def F_X7_who (N : Nat) (x1 : Int32) (x2 : Int32) (x3 : Int32) (x4 : Int32) (x5 : Int32) (g : GS) : Option (Int32 × GS) := bd2 (F_X4_hasPaper N 0 x1 g) (fun rv3 gv2 => if rv3 = 0 then some ((-1000001 : Int32), gv2) else bd2 (F_X7_isWithin N x2 (0 : Int32) (4 : Int32) gv2) (fun rv7 gv6 => if rv7 = 0 then some ((-1000001 : Int32), gv6) else bd2 (F_X7_isRow N x3 gv6) (fun rv11 gv10 => if rv11 = 0 then some ((-1000001 : Int32), gv10) else bd2 (F_X7_isWithin N x5 (1 : Int32) (12 : Int32) gv10) (fun rv15 gv14 => if rv15 = 0 then some ((-1000001 : Int32), gv14) else bd2 (F_X7_watchRow N x1 x3 x4 x5 gv14) (fun rv19 gv18 => if rv19 = 0 then bd2 (F_X2_fittingPapers N x2 gv18) (fun rv23 gv22 => bd2 (F_X7_unfound N rv23 gv22) (fun rv26 gv25 => some (rv26, gv25))) else bd2 (F_X7_found N rv19 gv18) (fun rv29 gv28 => some (rv29, gv28)))))))
set_option maxRecDepth 100000 in
set_option maxHeartbeats 4000000 in
theorem c_X7_who (l : Launch) (D : va_G) (ad : Ky → Nat) (cy : Nat → ClassId) (hI : Inj ad) (N : Nat) (x1 : Int32) (x2 : Int32) (x3 : Int32) (x4 : Int32) (x5 : Int32) (g : GS) (r : Int32) (gq : GS) (h : F_X7_who N x1 x2 x3 x4 x5 g = some (r, gq)) : CtI l D ad cy yX7_who cX7_who 7 (some .int) 6 [.ref (ad (7, 0, 0)), .int x1, .int x2, .int x3, .int x4, .int x5] g r gq := by
  refine CtI.of 1 hI (by decide +kernel) rfl (Nat.le_of_ble_eq_true rfl) (fun p e s m args below meth c X => ?_)
  unfold F_X7_who at h
  show Vy _ _ _ _ _ _ _ _ _ _ _ _ _ _ _ 0 [some (.ref (ad (7, 0, 0))), some (.int x1), some (.int x2), some (.int x3), some (.int x4), some (.int x5), none] [] g
  refine v_aloadn X dX7_who_0 rfl rfl ?_
  refine gf_X7_33 X dX7_who_1 ?_
  refine v_iloadn X dX7_who_4 rfl rfl ?_
  obtain ⟨rv3, gv2, qv1, h⟩ := bd2_some h
  refine v_callVI (As := [.int x1]) (rest := []) X (c_X4_hasPaper l D ad cy X.2.2.2.2.2.2.2.2.1 N 0 x1 g rv3 gv2 (by omega) qv1) mw_X4_hasPaper ml_X7_171 (by decide) (k_roof (by omega)) (by decide) rfl rfl rfl rfl (Nat.le_of_ble_eq_true rfl) dX7_who_5 ?_
  refine v_if_eq X 38 dX7_who_8 (by decide) (fun cv4 => ?_) (fun cv4 => ?_)
  · replace h := (if_pos cv4).symm.trans h
    refine v_ldc X kc_X7_75 dX7_who_38 ?_
    obtain ⟨er, eg⟩ := Prod.mk.inj (Option.some.inj h)
    exact v_iret X dX7_who_40 er eg
  · replace h := (if_neg cv4).symm.trans h
    refine v_iloadn X dX7_who_11 rfl rfl ?_
    refine v_iconst (v := 0) X dX7_who_12 (by decide) ?_
    refine v_iconst (v := 4) X dX7_who_13 (by decide) ?_
    obtain ⟨rv7, gv6, qv5, h⟩ := bd2_some h
    refine v_callSI (As := [.int x2, .int (0 : Int32), .int (4 : Int32)]) (rest := []) X (c_X7_isWithin l D ad cy X.2.2.2.2.2.2.2.2.1 N x2 (0 : Int32) (4 : Int32) gv2 rv7 gv6  qv5) mw_X7_isWithin ml_X7_71 (by decide) rfl rfl (Nat.le_of_ble_eq_true rfl) dX7_who_14 ?_
    refine v_if_eq X 38 dX7_who_17 (by decide) (fun cv8 => ?_) (fun cv8 => ?_)
    · replace h := (if_pos cv8).symm.trans h
      refine v_ldc X kc_X7_75 dX7_who_38 ?_
      obtain ⟨er, eg⟩ := Prod.mk.inj (Option.some.inj h)
      exact v_iret X dX7_who_40 er eg
    · replace h := (if_neg cv8).symm.trans h
      refine v_iloadn X dX7_who_20 rfl rfl ?_
      obtain ⟨rv11, gv10, qv9, h⟩ := bd2_some h
      refine v_callSI (As := [.int x3]) (rest := []) X (c_X7_isRow l D ad cy X.2.2.2.2.2.2.2.2.1 N x3 gv6 rv11 gv10  qv9) mw_X7_isRow ml_X7_67 (by decide) rfl rfl (Nat.le_of_ble_eq_true rfl) dX7_who_21 ?_
      refine v_if_eq X 38 dX7_who_24 (by decide) (fun cv12 => ?_) (fun cv12 => ?_)
      · replace h := (if_pos cv12).symm.trans h
        refine v_ldc X kc_X7_75 dX7_who_38 ?_
        obtain ⟨er, eg⟩ := Prod.mk.inj (Option.some.inj h)
        exact v_iret X dX7_who_40 er eg
      · replace h := (if_neg cv12).symm.trans h
        refine v_iload X dX7_who_27 rfl ?_
        refine v_iconst (v := 1) X dX7_who_29 (by decide) ?_
        refine v_bipush (v := 12) X dX7_who_30 (by decide) ?_
        obtain ⟨rv15, gv14, qv13, h⟩ := bd2_some h
        refine v_callSI (As := [.int x5, .int (1 : Int32), .int (12 : Int32)]) (rest := []) X (c_X7_isWithin l D ad cy X.2.2.2.2.2.2.2.2.1 N x5 (1 : Int32) (12 : Int32) gv10 rv15 gv14  qv13) mw_X7_isWithin ml_X7_71 (by decide) rfl rfl (Nat.le_of_ble_eq_true rfl) dX7_who_32 ?_
        refine v_if_ne X 41 dX7_who_35 (by decide) (fun cv16 => ?_) (fun cv16 => ?_)
        · replace h := (if_neg cv16).symm.trans h
          refine v_aloadn X dX7_who_41 rfl rfl ?_
          refine v_iloadn X dX7_who_42 rfl rfl ?_
          refine v_iloadn X dX7_who_43 rfl rfl ?_
          refine v_iload X dX7_who_44 rfl ?_
          refine v_iload X dX7_who_46 rfl ?_
          obtain ⟨rv19, gv18, qv17, h⟩ := bd2_some h
          refine v_callVI (As := [.int x1, .int x3, .int x4, .int x5]) (rest := []) X (c_X7_watchRow l D ad cy X.2.2.2.2.2.2.2.2.1 N x1 x3 x4 x5 gv14 rv19 gv18  qv17) mw_X7_watchRow ml_X7_255 (by decide) (by decide +kernel) (by decide) rfl rfl rfl rfl (Nat.le_of_ble_eq_true rfl) dX7_who_48 ?_
          refine v_istore (lc' := [some (.ref (ad (7, 0, 0))), some (.int x1), some (.int x2), some (.int x3), some (.int x4), some (.int x5), some (.int rv19)]) X dX7_who_51 (by decide) rfl rfl ?_
          refine v_iload X dX7_who_53 rfl ?_
          refine v_if_eq X 65 dX7_who_55 (by decide) (fun cv20 => ?_) (fun cv20 => ?_)
          · replace h := (if_pos cv20).symm.trans h
            refine v_aloadn X dX7_who_65 rfl rfl ?_
            refine v_aloadn X dX7_who_66 rfl rfl ?_
            refine gf_X7_25 X dX7_who_67 ?_
            refine v_iloadn X dX7_who_70 rfl rfl ?_
            obtain ⟨rv23, gv22, qv21, h⟩ := bd2_some h
            refine v_callVI (As := [.int x2]) (rest := [.ref (ad (7, 0, 0))]) X (c_X2_fittingPapers l D ad cy X.2.2.2.2.2.2.2.2.1 N x2 gv18 rv23 gv22  qv21) mw_X2_fittingPapers ml_X7_259 (by decide) (by decide +kernel) (by decide) rfl rfl rfl rfl (Nat.le_of_ble_eq_true rfl) dX7_who_71 ?_
            obtain ⟨rv26, gv25, qv24, h⟩ := bd2_some h
            refine v_callVI (As := [.int rv23]) (rest := []) X (c_X7_unfound l D ad cy X.2.2.2.2.2.2.2.2.1 N rv23 gv22 rv26 gv25  qv24) mw_X7_unfound ml_X7_84 (by decide) (by decide +kernel) (by decide) rfl rfl rfl rfl (Nat.le_of_ble_eq_true rfl) dX7_who_74 ?_
            obtain ⟨er, eg⟩ := Prod.mk.inj (Option.some.inj h)
            exact v_iret X dX7_who_77 er eg
          · replace h := (if_neg cv20).symm.trans h
            refine v_aloadn X dX7_who_58 rfl rfl ?_
            refine v_iload X dX7_who_59 rfl ?_
            obtain ⟨rv29, gv28, qv27, h⟩ := bd2_some h
            refine v_callVI (As := [.int rv19]) (rest := []) X (c_X7_found l D ad cy X.2.2.2.2.2.2.2.2.1 N rv19 gv18 rv29 gv28  qv27) mw_X7_found ml_X7_76 (by decide) (by decide +kernel) (by decide) rfl rfl rfl rfl (Nat.le_of_ble_eq_true rfl) dX7_who_61 ?_
            obtain ⟨er, eg⟩ := Prod.mk.inj (Option.some.inj h)
            exact v_iret X dX7_who_64 er eg
        · replace h := (if_pos cv16).symm.trans h
          refine v_ldc X kc_X7_75 dX7_who_38 ?_
          obtain ⟨er, eg⟩ := Prod.mk.inj (Option.some.inj h)
          exact v_iret X dX7_who_40 er eg
def F_X7_winds (N : Nat) (x1 : Int32) (x2 : Int32) (x3 : Int32) (x4 : Int32) (x5 : Int32) (g : GS) : Option (Int32 × GS) := bd2 (F_X4_hasPaper N 0 x1 g) (fun rv3 gv2 => if rv3 = 0 then some ((-1000001 : Int32), gv2) else bd2 (F_X4_hasWind N 0 x2 gv2) (fun rv7 gv6 => if rv7 = 0 then some ((-1000001 : Int32), gv6) else bd2 (F_X7_isRow N x3 gv6) (fun rv11 gv10 => if rv11 = 0 then some ((-1000001 : Int32), gv10) else bd2 (F_X7_isWithin N x5 (1 : Int32) (12 : Int32) gv10) (fun rv15 gv14 => if rv15 = 0 then some ((-1000001 : Int32), gv14) else bd2 (F_X7_watchRow N x1 x3 x4 x5 gv14) (fun rv19 gv18 => if rv19 = 0 then bd2 (F_X2_fittingForces N x2 gv18) (fun rv23 gv22 => bd2 (F_X7_unfound N rv23 gv22) (fun rv26 gv25 => some (rv26, gv25))) else bd2 (F_X7_found N rv19 gv18) (fun rv29 gv28 => some (rv29, gv28)))))))
set_option maxRecDepth 100000 in
set_option maxHeartbeats 4000000 in
theorem c_X7_winds (l : Launch) (D : va_G) (ad : Ky → Nat) (cy : Nat → ClassId) (hI : Inj ad) (N : Nat) (x1 : Int32) (x2 : Int32) (x3 : Int32) (x4 : Int32) (x5 : Int32) (g : GS) (r : Int32) (gq : GS) (h : F_X7_winds N x1 x2 x3 x4 x5 g = some (r, gq)) : CtI l D ad cy yX7_winds cX7_winds 7 (some .int) 6 [.ref (ad (7, 0, 0)), .int x1, .int x2, .int x3, .int x4, .int x5] g r gq := by
  refine CtI.of 1 hI (by decide +kernel) rfl (Nat.le_of_ble_eq_true rfl) (fun p e s m args below meth c X => ?_)
  unfold F_X7_winds at h
  show Vy _ _ _ _ _ _ _ _ _ _ _ _ _ _ _ 0 [some (.ref (ad (7, 0, 0))), some (.int x1), some (.int x2), some (.int x3), some (.int x4), some (.int x5), none] [] g
  refine v_aloadn X dX7_winds_0 rfl rfl ?_
  refine gf_X7_33 X dX7_winds_1 ?_
  refine v_iloadn X dX7_winds_4 rfl rfl ?_
  obtain ⟨rv3, gv2, qv1, h⟩ := bd2_some h
  refine v_callVI (As := [.int x1]) (rest := []) X (c_X4_hasPaper l D ad cy X.2.2.2.2.2.2.2.2.1 N 0 x1 g rv3 gv2 (by omega) qv1) mw_X4_hasPaper ml_X7_171 (by decide) (k_roof (by omega)) (by decide) rfl rfl rfl rfl (Nat.le_of_ble_eq_true rfl) dX7_winds_5 ?_
  refine v_if_eq X 40 dX7_winds_8 (by decide) (fun cv4 => ?_) (fun cv4 => ?_)
  · replace h := (if_pos cv4).symm.trans h
    refine v_ldc X kc_X7_75 dX7_winds_40 ?_
    obtain ⟨er, eg⟩ := Prod.mk.inj (Option.some.inj h)
    exact v_iret X dX7_winds_42 er eg
  · replace h := (if_neg cv4).symm.trans h
    refine v_aloadn X dX7_winds_11 rfl rfl ?_
    refine gf_X7_33 X dX7_winds_12 ?_
    refine v_iloadn X dX7_winds_15 rfl rfl ?_
    obtain ⟨rv7, gv6, qv5, h⟩ := bd2_some h
    refine v_callVI (As := [.int x2]) (rest := []) X (c_X4_hasWind l D ad cy X.2.2.2.2.2.2.2.2.1 N 0 x2 gv2 rv7 gv6 (by omega) qv5) mw_X4_hasWind ml_X7_201 (by decide) (k_roof (by omega)) (by decide) rfl rfl rfl rfl (Nat.le_of_ble_eq_true rfl) dX7_winds_16 ?_
    refine v_if_eq X 40 dX7_winds_19 (by decide) (fun cv8 => ?_) (fun cv8 => ?_)
    · replace h := (if_pos cv8).symm.trans h
      refine v_ldc X kc_X7_75 dX7_winds_40 ?_
      obtain ⟨er, eg⟩ := Prod.mk.inj (Option.some.inj h)
      exact v_iret X dX7_winds_42 er eg
    · replace h := (if_neg cv8).symm.trans h
      refine v_iloadn X dX7_winds_22 rfl rfl ?_
      obtain ⟨rv11, gv10, qv9, h⟩ := bd2_some h
      refine v_callSI (As := [.int x3]) (rest := []) X (c_X7_isRow l D ad cy X.2.2.2.2.2.2.2.2.1 N x3 gv6 rv11 gv10  qv9) mw_X7_isRow ml_X7_67 (by decide) rfl rfl (Nat.le_of_ble_eq_true rfl) dX7_winds_23 ?_
      refine v_if_eq X 40 dX7_winds_26 (by decide) (fun cv12 => ?_) (fun cv12 => ?_)
      · replace h := (if_pos cv12).symm.trans h
        refine v_ldc X kc_X7_75 dX7_winds_40 ?_
        obtain ⟨er, eg⟩ := Prod.mk.inj (Option.some.inj h)
        exact v_iret X dX7_winds_42 er eg
      · replace h := (if_neg cv12).symm.trans h
        refine v_iload X dX7_winds_29 rfl ?_
        refine v_iconst (v := 1) X dX7_winds_31 (by decide) ?_
        refine v_bipush (v := 12) X dX7_winds_32 (by decide) ?_
        obtain ⟨rv15, gv14, qv13, h⟩ := bd2_some h
        refine v_callSI (As := [.int x5, .int (1 : Int32), .int (12 : Int32)]) (rest := []) X (c_X7_isWithin l D ad cy X.2.2.2.2.2.2.2.2.1 N x5 (1 : Int32) (12 : Int32) gv10 rv15 gv14  qv13) mw_X7_isWithin ml_X7_71 (by decide) rfl rfl (Nat.le_of_ble_eq_true rfl) dX7_winds_34 ?_
        refine v_if_ne X 43 dX7_winds_37 (by decide) (fun cv16 => ?_) (fun cv16 => ?_)
        · replace h := (if_neg cv16).symm.trans h
          refine v_aloadn X dX7_winds_43 rfl rfl ?_
          refine v_iloadn X dX7_winds_44 rfl rfl ?_
          refine v_iloadn X dX7_winds_45 rfl rfl ?_
          refine v_iload X dX7_winds_46 rfl ?_
          refine v_iload X dX7_winds_48 rfl ?_
          obtain ⟨rv19, gv18, qv17, h⟩ := bd2_some h
          refine v_callVI (As := [.int x1, .int x3, .int x4, .int x5]) (rest := []) X (c_X7_watchRow l D ad cy X.2.2.2.2.2.2.2.2.1 N x1 x3 x4 x5 gv14 rv19 gv18  qv17) mw_X7_watchRow ml_X7_255 (by decide) (by decide +kernel) (by decide) rfl rfl rfl rfl (Nat.le_of_ble_eq_true rfl) dX7_winds_50 ?_
          refine v_istore (lc' := [some (.ref (ad (7, 0, 0))), some (.int x1), some (.int x2), some (.int x3), some (.int x4), some (.int x5), some (.int rv19)]) X dX7_winds_53 (by decide) rfl rfl ?_
          refine v_iload X dX7_winds_55 rfl ?_
          refine v_if_eq X 67 dX7_winds_57 (by decide) (fun cv20 => ?_) (fun cv20 => ?_)
          · replace h := (if_pos cv20).symm.trans h
            refine v_aloadn X dX7_winds_67 rfl rfl ?_
            refine v_aloadn X dX7_winds_68 rfl rfl ?_
            refine gf_X7_25 X dX7_winds_69 ?_
            refine v_iloadn X dX7_winds_72 rfl rfl ?_
            obtain ⟨rv23, gv22, qv21, h⟩ := bd2_some h
            refine v_callVI (As := [.int x2]) (rest := [.ref (ad (7, 0, 0))]) X (c_X2_fittingForces l D ad cy X.2.2.2.2.2.2.2.2.1 N x2 gv18 rv23 gv22  qv21) mw_X2_fittingForces ml_X7_262 (by decide) (by decide +kernel) (by decide) rfl rfl rfl rfl (Nat.le_of_ble_eq_true rfl) dX7_winds_73 ?_
            obtain ⟨rv26, gv25, qv24, h⟩ := bd2_some h
            refine v_callVI (As := [.int rv23]) (rest := []) X (c_X7_unfound l D ad cy X.2.2.2.2.2.2.2.2.1 N rv23 gv22 rv26 gv25  qv24) mw_X7_unfound ml_X7_84 (by decide) (by decide +kernel) (by decide) rfl rfl rfl rfl (Nat.le_of_ble_eq_true rfl) dX7_winds_76 ?_
            obtain ⟨er, eg⟩ := Prod.mk.inj (Option.some.inj h)
            exact v_iret X dX7_winds_79 er eg
          · replace h := (if_neg cv20).symm.trans h
            refine v_aloadn X dX7_winds_60 rfl rfl ?_
            refine v_iload X dX7_winds_61 rfl ?_
            obtain ⟨rv29, gv28, qv27, h⟩ := bd2_some h
            refine v_callVI (As := [.int rv19]) (rest := []) X (c_X7_found l D ad cy X.2.2.2.2.2.2.2.2.1 N rv19 gv18 rv29 gv28  qv27) mw_X7_found ml_X7_76 (by decide) (by decide +kernel) (by decide) rfl rfl rfl rfl (Nat.le_of_ble_eq_true rfl) dX7_winds_63 ?_
            obtain ⟨er, eg⟩ := Prod.mk.inj (Option.some.inj h)
            exact v_iret X dX7_winds_66 er eg
        · replace h := (if_pos cv16).symm.trans h
          refine v_ldc X kc_X7_75 dX7_winds_40 ?_
          obtain ⟨er, eg⟩ := Prod.mk.inj (Option.some.inj h)
          exact v_iret X dX7_winds_42 er eg
