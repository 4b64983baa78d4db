def F_X6_append (N : Nat) (x1 : Int32) (g : GS) : Option GS := if (100 : Int32) ≤ (g 3 0 0) then some g else bd1 (ix (g 3 0 0) 100) (fun jv2 => some (g3 (g3 g 4 0 jv2 x1) 3 0 0 ((g 3 0 0) + (1 : Int32))))
set_option maxRecDepth 100000 in
set_option maxHeartbeats 4000000 in
theorem c_X6_append (l : Launch) (D : va_G) (ad : Ky → Nat) (cy : Nat → ClassId) (hI : Inj ad) (N : Nat) (x1 : Int32) (g : GS) (gq : GS) (h : F_X6_append N x1 g = some gq) : CtV l D ad cy yX6_append cX6_append 2 0 [.ref (ad (6, 0, 0)), .int x1] g gq := by
  refine CtV.of 0 hI (by decide +kernel) rfl (Nat.le_of_ble_eq_true rfl) (fun p e s m args below meth c X => ?_)
  unfold F_X6_append at h
  show Vy _ _ _ _ _ _ _ _ _ _ _ _ _ _ _ 0 [some (.ref (ad (6, 0, 0))), some (.int x1)] [] g
  refine v_aloadn X dX6_append_0 rfl rfl ?_
  refine gf_X6_15 X dX6_append_1 ?_
  refine v_bipush (v := 100) X dX6_append_4 (by decide) ?_
  refine v_icmp_ge X 29 dX6_append_6 (by decide) (fun cv1 => ?_) (fun cv1 => ?_)
  · replace h := (if_pos cv1).symm.trans h
    exact v_vret X dX6_append_29 (Option.some.inj h)
  · replace h := (if_neg cv1).symm.trans h
    refine v_aloadn X dX6_append_9 rfl rfl ?_
    refine gf_X6_9 X dX6_append_10 ?_
    refine v_aloadn X dX6_append_13 rfl rfl ?_
    refine gf_X6_15 X dX6_append_14 ?_
    refine v_iloadn X dX6_append_17 rfl rfl ?_
    obtain ⟨jv2, qv3, h⟩ := bd1_some h
    obtain ⟨ejv2, ljv2⟩ := ix_spec qv3
    refine asT X jv2 ejv2 ljv2 dX6_append_18 ?_
    refine v_aloadn X dX6_append_19 rfl rfl ?_
    refine v_dup X dX6_append_20 rfl ?_
    refine gf_X6_15 X dX6_append_21 ?_
    refine v_vali (v2 := (g 3 0 0)) rfl ?_
    refine v_iconst (v := 1) X dX6_append_24 (by decide) ?_
    refine v_iadd X dX6_append_25 ?_
    refine pf_X6_15 X dX6_append_26 ?_
    exact v_vret X dX6_append_29 (Option.some.inj h)
def F_X6_byteAt (N : Nat) (x1 : Int32) (g : GS) : Option (Int32 × GS) := if x1 < 0 then some ((-1 : Int32), g) else if (g 3 0 0) ≤ x1 then some ((-1 : Int32), g) else if (100 : Int32) ≤ x1 then some ((-1 : Int32), g) else bd1 (ix x1 100) (fun jv4 => some ((g 4 0 jv4), g))
set_option maxRecDepth 100000 in
set_option maxHeartbeats 4000000 in
theorem c_X6_byteAt (l : Launch) (D : va_G) (ad : Ky → Nat) (cy : Nat → ClassId) (hI : Inj ad) (N : Nat) (x1 : Int32) (g : GS) (r : Int32) (gq : GS) (h : F_X6_byteAt N x1 g = some (r, gq)) : CtI l D ad cy yX6_byteAt cX6_byteAt 2 (some .int) 0 [.ref (ad (6, 0, 0)), .int x1] g r gq := by
  refine CtI.of 0 hI (by decide +kernel) rfl (Nat.le_of_ble_eq_true rfl) (fun p e s m args below meth c X => ?_)
  unfold F_X6_byteAt at h
  show Vy _ _ _ _ _ _ _ _ _ _ _ _ _ _ _ 0 [some (.ref (ad (6, 0, 0))), some (.int x1)] [] g
  refine v_iloadn X dX6_byteAt_0 rfl rfl ?_
  refine v_if_lt X 27 dX6_byteAt_1 (by decide) (fun cv1 => ?_) (fun cv1 => ?_)
  · replace h := (if_pos cv1).symm.trans h
    refine v_iconst (v := -1) X dX6_byteAt_27 (by decide) ?_
    obtain ⟨er, eg⟩ := Prod.mk.inj (Option.some.inj h)
    exact v_iret X dX6_byteAt_28 er eg
  · replace h := (if_neg cv1).symm.trans h
    refine v_iloadn X dX6_byteAt_4 rfl rfl ?_
    refine v_aloadn X dX6_byteAt_5 rfl rfl ?_
    refine gf_X6_15 X dX6_byteAt_6 ?_
    refine v_icmp_ge X 27 dX6_byteAt_9 (by decide) (fun cv2 => ?_) (fun cv2 => ?_)
    · replace h := (if_pos cv2).symm.trans h
      refine v_iconst (v := -1) X dX6_byteAt_27 (by decide) ?_
      obtain ⟨er, eg⟩ := Prod.mk.inj (Option.some.inj h)
      exact v_iret X dX6_byteAt_28 er eg
    · replace h := (if_neg cv2).symm.trans h
      refine v_iloadn X dX6_byteAt_12 rfl rfl ?_
      refine v_bipush (v := 100) X dX6_byteAt_13 (by decide) ?_
      refine v_icmp_ge X 27 dX6_byteAt_15 (by decide) (fun cv3 => ?_) (fun cv3 => ?_)
      · replace h := (if_pos cv3).symm.trans h
        refine v_iconst (v := -1) X dX6_byteAt_27 (by decide) ?_
        obtain ⟨er, eg⟩ := Prod.mk.inj (Option.some.inj h)
        exact v_iret X dX6_byteAt_28 er eg
      · replace h := (if_neg cv3).symm.trans h
        refine v_aloadn X dX6_byteAt_18 rfl rfl ?_
        refine gf_X6_9 X dX6_byteAt_19 ?_
        refine v_iloadn X dX6_byteAt_22 rfl rfl ?_
        obtain ⟨jv4, qv5, h⟩ := bd1_some h
        obtain ⟨ejv4, ljv4⟩ := ix_spec qv5
        refine alT X jv4 ejv4 ljv4 dX6_byteAt_23 ?_
        refine v_goto X 28 dX6_byteAt_24 (by decide) ?_
        obtain ⟨er, eg⟩ := Prod.mk.inj (Option.some.inj h)
        exact v_iret X dX6_byteAt_28 er eg
def F_X6_isFigure (N : Nat) (x0 : Int32) (g : GS) : Option (Int32 × GS) := if x0 < (48 : Int32) then some ((0 : Int32), g) else if (57 : Int32) < x0 then some ((0 : Int32), g) else some ((1 : Int32), g)
set_option maxRecDepth 100000 in
set_option maxHeartbeats 4000000 in
theorem c_X6_isFigure (l : Launch) (D : va_G) (ad : Ky → Nat) (cy : Nat → ClassId) (hI : Inj ad) (N : Nat) (x0 : Int32) (g : GS) (r : Int32) (gq : GS) (h : F_X6_isFigure N x0 g = some (r, gq)) : CtI l D ad cy yX6_isFigure cX6_isFigure 1 (some .boolean) 0 [.int x0] g r gq := by
  refine CtI.of 0 hI (by decide +kernel) rfl (Nat.le_of_ble_eq_true rfl) (fun p e s m args below meth c X => ?_)
  unfold F_X6_isFigure at h
  show Vy _ _ _ _ _ _ _ _ _ _ _ _ _ _ _ 0 [some (.int x0)] [] g
  refine v_iloadn X dX6_isFigure_0 rfl rfl ?_
  refine v_bipush (v := 48) X dX6_isFigure_1 (by decide) ?_
  refine v_icmp_lt X 16 dX6_isFigure_3 (by decide) (fun cv1 => ?_) (fun cv1 => ?_)
  · replace h := (if_pos cv1).symm.trans h
    refine v_iconst (v := 0) X dX6_isFigure_16 (by decide) ?_
    obtain ⟨er, eg⟩ := Prod.mk.inj (Option.some.inj h)
    exact v_zret X dX6_isFigure_17 rfl er eg
  · replace h := (if_neg cv1).symm.trans h
    refine v_iloadn X dX6_isFigure_6 rfl rfl ?_
    refine v_bipush (v := 57) X dX6_isFigure_7 (by decide) ?_
    refine v_icmp_gt X 16 dX6_isFigure_9 (by decide) (fun cv2 => ?_) (fun cv2 => ?_)
    · replace h := (if_pos cv2).symm.trans h
      refine v_iconst (v := 0) X dX6_isFigure_16 (by decide) ?_
      obtain ⟨er, eg⟩ := Prod.mk.inj (Option.some.inj h)
      exact v_zret X dX6_isFigure_17 rfl er eg
    · replace h := (if_neg cv2).symm.trans h
      refine v_iconst (v := 1) X dX6_isFigure_12 (by decide) ?_
      refine v_goto X 17 dX6_isFigure_13 (by decide) ?_
      obtain ⟨er, eg⟩ := Prod.mk.inj (Option.some.inj h)
      exact v_zret X dX6_isFigure_17 rfl er eg
def L_X6_figuresHere_2 (N : Nat) : Nat → Int32 → GS → Option (Int32 × GS)
  | 0, _, _ => none
  | n + 1, y1, g => if (3 : Int32) ≤ y1 then some (y1, g) else bd2 (F_X6_byteAt N ((g 3 0 1) + y1) g) (fun rv4 gv3 => bd2 (F_X6_isFigure N rv4 gv3) (fun rv7 gv6 => if rv7 = 0 then some (y1, gv6) else L_X6_figuresHere_2 N n (y1 + 1) gv6))
def F_X6_figuresHere (N : Nat) (g : GS) : Option (Int32 × GS) := bd2 (L_X6_figuresHere_2 N N (0 : Int32) g) (fun xv9 gv10 => some (xv9, gv10))
set_option maxRecDepth 100000 in
set_option maxHeartbeats 4000000 in
theorem w_X6_figuresHere_2 {p : Program} {l : Launch} {e : Env} {s : State} {m : MethodId} {args : Array Value} {below : List Frame} {meth : Method} {c : Code} {D : va_G} {ad : Ky → Nat} {cy : Nat → ClassId} {r : Int32} {gq : GS} {N : Nat} (X : Cx p (rmd 1) s m args meth c RX6 cX6_figuresHere 2 (some .int) D ad cy) : ∀ (n : Nat) (y1 : Int32) (g : GS) (y1' : Int32) (g' : GS), L_X6_figuresHere_2 N n y1 g = some (y1', g') → Vy p l e (rmd 1) s m args below meth c 2 D ad cy (QI D ad cy below args s r gq) 29 [some (.ref (ad (6, 0, 0))), some (.int y1')] [] g' → Vy p l e (rmd 1) s m args below meth c 2 D ad cy (QI D ad cy below args s r gq) 2 [some (.ref (ad (6, 0, 0))), some (.int y1)] [] g := by
  intro n
  induction n with
  | zero => intro y1 g y1' g' h k; cases h
  | succ n ih =>
    intro y1 g y1' g' h k
    rw [L_X6_figuresHere_2] at h
    refine v_iloadn X dX6_figuresHere_2 rfl rfl ?_
    refine v_iconst (v := 3) X dX6_figuresHere_3 (by decide) ?_
    refine v_icmp_ge X 29 dX6_figuresHere_4 (by decide) (fun cv1 => ?_) (fun cv1 => ?_)
    · replace h := (if_pos cv1).symm.trans h
      cases h
      exact k
    · replace h := (if_neg cv1).symm.trans h
      refine v_aloadn X dX6_figuresHere_7 rfl rfl ?_
      refine v_aloadn X dX6_figuresHere_8 rfl rfl ?_
      refine gf_X6_19 X dX6_figuresHere_9 ?_
      refine v_iloadn X dX6_figuresHere_12 rfl rfl ?_
      refine v_iadd X dX6_figuresHere_13 ?_
      obtain ⟨rv4, gv3, qv2, h⟩ := bd2_some h
      refine v_callVI (As := [.int ((g 3 0 1) + y1)]) (rest := []) X (c_X6_byteAt l D ad cy X.2.2.2.2.2.2.2.2.1 N ((g 3 0 1) + y1) g rv4 gv3  qv2) mw_X6_byteAt ml_X6_102 (by decide) (by decide +kernel) (by decide) rfl rfl rfl rfl (Nat.le_of_ble_eq_true rfl) dX6_figuresHere_14 ?_
      obtain ⟨rv7, gv6, qv5, h⟩ := bd2_some h
      refine v_callSI (As := [.int rv4]) (rest := []) X (c_X6_isFigure l D ad cy X.2.2.2.2.2.2.2.2.1 N rv4 gv3 rv7 gv6  qv5) mw_X6_isFigure ml_X6_108 (by decide) rfl rfl (Nat.le_of_ble_eq_true rfl) dX6_figuresHere_17 ?_
      refine v_if_eq X 29 dX6_figuresHere_20 (by decide) (fun cv8 => ?_) (fun cv8 => ?_)
      · replace h := (if_pos cv8).symm.trans h
        cases h
        exact k
      · replace h := (if_neg cv8).symm.trans h
        refine v_iinc (v := (y1 + 1)) (lc' := [some (.ref (ad (6, 0, 0))), some (.int (y1 + 1))]) X dX6_figuresHere_23 rfl rfl (by decide) rfl rfl ?_
        refine v_goto X 2 dX6_figuresHere_26 (by decide) ?_
        exact ih (y1 + 1) gv6 _ _ h k
set_option maxRecDepth 100000 in
set_option maxHeartbeats 4000000 in
theorem c_X6_figuresHere (l : Launch) (D : va_G) (ad : Ky → Nat) (cy : Nat → ClassId) (hI : Inj ad) (N : Nat) (g : GS) (r : Int32) (gq : GS) (h : F_X6_figuresHere N  g = some (r, gq)) : CtI l D ad cy yX6_figuresHere cX6_figuresHere 2 (some .int) 1 [.ref (ad (6, 0, 0))] g r gq := by
  refine CtI.of 1 hI (by decide +kernel) rfl (Nat.le_of_ble_eq_true rfl) (fun p e s m args below meth c X => ?_)
  unfold F_X6_figuresHere at h
  show Vy _ _ _ _ _ _ _ _ _ _ _ _ _ _ _ 0 [some (.ref (ad (6, 0, 0))), none] [] g
  refine v_iconst (v := 0) X dX6_figuresHere_0 (by decide) ?_
  refine v_istoren (lc' := [some (.ref (ad (6, 0, 0))), some (.int (0 : Int32))]) X dX6_figuresHere_1 rfl (by decide) rfl rfl ?_
  obtain ⟨xv9, gv10, qv11, h⟩ := bd2_some h
  refine w_X6_figuresHere_2 X  N (0 : Int32) g xv9 gv10 qv11 ?_
  refine v_iloadn X dX6_figuresHere_29 rfl rfl ?_
  obtain ⟨er, eg⟩ := Prod.mk.inj (Option.some.inj h)
  exact v_iret X dX6_figuresHere_30 er eg
def F_X6_hasFault (N : Nat) (x1 : Int32) (g : GS) : Option (Int32 × GS) := some ((0 : Int32), (g3 g 3 0 2 x1))
set_option maxRecDepth 100000 in
set_option maxHeartbeats 4000000 in
theorem c_X6_hasFault (l : Launch) (D : va_G) (ad : Ky → Nat) (cy : Nat → ClassId) (hI : Inj ad) (N : Nat) (x1 : Int32) (g : GS) (r : Int32) (gq : GS) (h : F_X6_hasFault N x1 g = some (r, gq)) : CtI l D ad cy yX6_hasFault cX6_hasFault 2 (some .boolean) 0 [.ref (ad (6, 0, 0)), .int x1] g r gq := by
  refine CtI.of 0 hI (by decide +kernel) rfl (Nat.le_of_ble_eq_true rfl) (fun p e s m args below meth c X => ?_)
  unfold F_X6_hasFault at h
  show Vy _ _ _ _ _ _ _ _ _ _ _ _ _ _ _ 0 [some (.ref (ad (6, 0, 0))), some (.int x1)] [] g
  refine v_aloadn X dX6_hasFault_0 rfl rfl ?_
  refine v_iloadn X dX6_hasFault_1 rfl rfl ?_
  refine pf_X6_22 X dX6_hasFault_2 ?_
  refine v_iconst (v := 0) X dX6_hasFault_5 (by decide) ?_
  obtain ⟨er, eg⟩ := Prod.mk.inj (Option.some.inj h)
  exact v_zret X dX6_hasFault_6 rfl er eg
def F_X6_next (N : Nat) (g : GS) : Option (Int32 × GS) := bd2 (F_X6_byteAt N (g 3 0 1) g) (fun rv3 gv2 => some (rv3, gv2))
set_option maxRecDepth 100000 in
set_option maxHeartbeats 4000000 in
theorem c_X6_next (l : Launch) (D : va_G) (ad : Ky → Nat) (cy : Nat → ClassId) (hI : Inj ad) (N : Nat) (g : GS) (r : Int32) (gq : GS) (h : F_X6_next N  g = some (r, gq)) : CtI l D ad cy yX6_next cX6_next 1 (some .int) 1 [.ref (ad (6, 0, 0))] g r gq := by
  refine CtI.of 0 hI (by decide +kernel) rfl (Nat.le_of_ble_eq_true rfl) (fun p e s m args below meth c X => ?_)
  unfold F_X6_next at h
  show Vy _ _ _ _ _ _ _ _ _ _ _ _ _ _ _ 0 [some (.ref (ad (6, 0, 0)))] [] g
  refine v_aloadn X dX6_next_0 rfl rfl ?_
  refine v_aloadn X dX6_next_1 rfl rfl ?_
  refine gf_X6_19 X dX6_next_2 ?_
  obtain ⟨rv3, gv2, qv1, h⟩ := bd2_some h
  refine v_callVI (As := [.int (g 3 0 1)]) (rest := []) X (c_X6_byteAt l D ad cy X.2.2.2.2.2.2.2.2.1 N (g 3 0 1) g rv3 gv2  qv1) mw_X6_byteAt ml_X6_102 (by decide) (by decide +kernel) (by decide) rfl rfl rfl rfl (Nat.le_of_ble_eq_true rfl) dX6_next_5 ?_
  obtain ⟨er, eg⟩ := Prod.mk.inj (Option.some.inj h)
  exact v_iret X dX6_next_8 er eg
def F_X6_take (N : Nat) (x1 : Int32) (g : GS) : Option (Int32 × GS) := bd2 (F_X6_next N  g) (fun rv3 gv2 => if rv3 = x1 then some ((1 : Int32), (g3 gv2 3 0 1 ((gv2 3 0 1) + (1 : Int32)))) else bd2 (F_X6_hasFault N (1 : Int32) gv2) (fun rv7 gv6 => if rv7 = 0 ∨ rv7 = 1 then some (rv7, gv6) else none))
set_option maxRecDepth 100000 in
set_option maxHeartbeats 4000000 in
theorem c_X6_take (l : Launch) (D : va_G) (ad : Ky → Nat) (cy : Nat → ClassId) (hI : Inj ad) (N : Nat) (x1 : Int32) (g : GS) (r : Int32) (gq : GS) (h : F_X6_take N x1 g = some (r, gq)) : CtI l D ad cy yX6_take cX6_take 2 (some .boolean) 2 [.ref (ad (6, 0, 0)), .int x1] g r gq := by
  refine CtI.of 0 hI (by decide +kernel) rfl (Nat.le_of_ble_eq_true rfl) (fun p e s m args below meth c X => ?_)
  unfold F_X6_take at h
  show Vy _ _ _ _ _ _ _ _ _ _ _ _ _ _ _ 0 [some (.ref (ad (6, 0, 0))), some (.int x1)] [] g
  refine v_aloadn X dX6_take_0 rfl rfl ?_
  obtain ⟨rv3, gv2, qv1, h⟩ := bd2_some h
  refine v_callVI (As := []) (rest := []) X (c_X6_next l D ad cy X.2.2.2.2.2.2.2.2.1 N  g rv3 gv2  qv1) mw_X6_next ml_X6_64 (by decide) (by decide +kernel) (by decide) rfl rfl rfl rfl (Nat.le_of_ble_eq_true rfl) dX6_take_1 ?_
  refine v_iloadn X dX6_take_4 rfl rfl ?_
  refine v_icmp_eq X 14 dX6_take_5 (by decide) (fun cv4 => ?_) (fun cv4 => ?_)
  · replace h := (if_pos cv4).symm.trans h
    refine v_aloadn X dX6_take_14 rfl rfl ?_
    refine v_dup X dX6_take_15 rfl ?_
    refine gf_X6_19 X dX6_take_16 ?_
    refine v_iconst (v := 1) X dX6_take_19 (by decide) ?_
    refine v_iadd X dX6_take_20 ?_
    refine pf_X6_19 X dX6_take_21 ?_
    refine v_iconst (v := 1) X dX6_take_24 (by decide) ?_
    obtain ⟨er, eg⟩ := Prod.mk.inj (Option.some.inj h)
    exact v_zret X dX6_take_25 rfl er eg
  · replace h := (if_neg cv4).symm.trans h
    refine v_aloadn X dX6_take_8 rfl rfl ?_
    refine v_iconst (v := 1) X dX6_take_9 (by decide) ?_
    obtain ⟨rv7, gv6, qv5, h⟩ := bd2_some h
    refine v_callVI (As := [.int (1 : Int32)]) (rest := []) X (c_X6_hasFault l D ad cy X.2.2.2.2.2.2.2.2.1 N (1 : Int32) gv2 rv7 gv6  qv5) mw_X6_hasFault ml_X6_68 (by decide) (by decide +kernel) (by decide) rfl rfl rfl rfl (Nat.le_of_ble_eq_true rfl) dX6_take_10 ?_
    by_cases cv8 : rv7 = 0 ∨ rv7 = 1
    · replace h := (if_pos cv8).symm.trans h
      obtain ⟨er, eg⟩ := Prod.mk.inj (Option.some.inj h)
      exact v_zret X dX6_take_13 (nb cv8) er eg
    · replace h := (if_neg cv8).symm.trans h
      cases h
def F_X6_takeNumber (N : Nat) (x1 : Int32) (x2 : Int32) (g : GS) : Option (Int32 × GS) := bd2 (F_X6_figuresHere N  g) (fun rv3 gv2 => if rv3 < (1 : Int32) then bd2 (F_X6_hasFault N (1 : Int32) gv2) (fun rv7 gv6 => some ((-1 : Int32), gv6)) else if rv3 ≤ (2 : Int32) then bd2 (F_X6_next N  gv2) (fun rv11 gv10 => if rv3 = (2 : Int32) then bd2 (F_X6_byteAt N ((gv10 3 0 1) + (1 : Int32)) gv10) (fun rv23 gv22 => if ((((10 : Int32) * (rv11 - (48 : Int32))) + rv23) - (48 : Int32)) < x1 then bd2 (F_X6_hasFault N (2 : Int32) gv22) (fun rv27 gv26 => some ((-1 : Int32), gv26)) else if ((((10 : Int32) * (rv11 - (48 : Int32))) + rv23) - (48 : Int32)) ≤ x2 then some (((((10 : Int32) * (rv11 - (48 : Int32))) + rv23) - (48 : Int32)), (g3 gv22 3 0 1 ((gv22 3 0 1) + rv3))) else bd2 (F_X6_hasFault N (2 : Int32) gv22) (fun rv31 gv30 => some ((-1 : Int32), gv30))) else if (rv11 - (48 : Int32)) < x1 then bd2 (F_X6_hasFault N (2 : Int32) gv10) (fun rv16 gv15 => some ((-1 : Int32), gv15)) else if (rv11 - (48 : Int32)) ≤ x2 then some ((rv11 - (48 : Int32)), (g3 gv10 3 0 1 ((gv10 3 0 1) + rv3))) else bd2 (F_X6_hasFault N (2 : Int32) gv10) (fun rv20 gv19 => some ((-1 : Int32), gv19))) else bd2 (F_X6_hasFault N (1 : Int32) gv2) (fun rv34 gv33 => some ((-1 : Int32), gv33)))
set_option maxRecDepth 100000 in
set_option maxHeartbeats 4000000 in
theorem c_X6_takeNumber (l : Launch) (D : va_G) (ad : Ky → Nat) (cy : Nat → ClassId) (hI : Inj ad) (N : Nat) (x1 : Int32) (x2 : Int32) (g : GS) (r : Int32) (gq : GS) (h : F_X6_takeNumber N x1 x2 g = some (r, gq)) : CtI l D ad cy yX6_takeNumber cX6_takeNumber 5 (some .int) 2 [.ref (ad (6, 0, 0)), .int x1, .int x2] g r gq := by
  refine CtI.of 2 hI (by decide +kernel) rfl (Nat.le_of_ble_eq_true rfl) (fun p e s m args below meth c X => ?_)
  unfold F_X6_takeNumber at h
  show Vy _ _ _ _ _ _ _ _ _ _ _ _ _ _ _ 0 [some (.ref (ad (6, 0, 0))), some (.int x1), some (.int x2), none, none] [] g
  refine v_aloadn X dX6_takeNumber_0 rfl rfl ?_
  obtain ⟨rv3, gv2, qv1, h⟩ := bd2_some h
  refine v_callVI (As := []) (rest := []) X (c_X6_figuresHere l D ad cy X.2.2.2.2.2.2.2.2.1 N  g rv3 gv2  qv1) mw_X6_figuresHere ml_X6_105 (by decide) (by decide +kernel) (by decide) rfl rfl rfl rfl (Nat.le_of_ble_eq_true rfl) dX6_takeNumber_1 ?_
  refine v_istoren (lc' := [some (.ref (ad (6, 0, 0))), some (.int x1), some (.int x2), some (.int rv3), none]) X dX6_takeNumber_4 rfl (by decide) rfl rfl ?_
  refine v_iloadn X dX6_takeNumber_5 rfl rfl ?_
  refine v_iconst (v := 1) X dX6_takeNumber_6 (by decide) ?_
  refine v_icmp_lt X 15 dX6_takeNumber_7 (by decide) (fun cv4 => ?_) (fun cv4 => ?_)
  · replace h := (if_pos cv4).symm.trans h
    refine v_aloadn X dX6_takeNumber_15 rfl rfl ?_
    refine v_iconst (v := 1) X dX6_takeNumber_16 (by decide) ?_
    obtain ⟨rv7, gv6, qv5, h⟩ := bd2_some h
    refine v_callVI (As := [.int (1 : Int32)]) (rest := []) X (c_X6_hasFault l D ad cy X.2.2.2.2.2.2.2.2.1 N (1 : Int32) gv2 rv7 gv6  qv5) mw_X6_hasFault ml_X6_68 (by decide) (by decide +kernel) (by decide) rfl rfl rfl rfl (Nat.le_of_ble_eq_true rfl) dX6_takeNumber_17 ?_
    refine v_pop X dX6_takeNumber_20 rfl ?_
    refine v_iconst (v := -1) X dX6_takeNumber_21 (by decide) ?_
    obtain ⟨er, eg⟩ := Prod.mk.inj (Option.some.inj h)
    exact v_iret X dX6_takeNumber_22 er eg
  · replace h := (if_neg cv4).symm.trans h
    refine v_iloadn X dX6_takeNumber_10 rfl rfl ?_
    refine v_iconst (v := 2) X dX6_takeNumber_11 (by decide) ?_
    refine v_icmp_le X 23 dX6_takeNumber_12 (by decide) (fun cv8 => ?_) (fun cv8 => ?_)
    · replace h := (if_pos cv8).symm.trans h
      refine v_aloadn X dX6_takeNumber_23 rfl rfl ?_
      obtain ⟨rv11, gv10, qv9, h⟩ := bd2_some h
      refine v_callVI (As := []) (rest := []) X (c_X6_next l D ad cy X.2.2.2.2.2.2.2.2.1 N  gv2 rv11 gv10  qv9) mw_X6_next ml_X6_64 (by decide) (by decide +kernel) (by decide) rfl rfl rfl rfl (Nat.le_of_ble_eq_true rfl) dX6_takeNumber_24 ?_
      refine v_bipush (v := 48) X dX6_takeNumber_27 (by decide) ?_
      refine v_isub X dX6_takeNumber_29 ?_
      refine v_istore (lc' := [some (.ref (ad (6, 0, 0))), some (.int x1), some (.int x2), some (.int rv3), some (.int (rv11 - (48 : Int32)))]) X dX6_takeNumber_30 (by decide) rfl rfl ?_
      refine v_iloadn X dX6_takeNumber_32 rfl rfl ?_
      refine v_iconst (v := 2) X dX6_takeNumber_33 (by decide) ?_
      refine v_icmp_ne X 58 dX6_takeNumber_34 (by decide) (fun cv12 => ?_) (fun cv12 => ?_)
      · replace h := (if_neg cv12).symm.trans h
        refine v_iload X dX6_takeNumber_58 rfl ?_
        refine v_iloadn X dX6_takeNumber_60 rfl rfl ?_
        refine v_icmp_lt X 70 dX6_takeNumber_61 (by decide) (fun cv13 => ?_) (fun cv13 => ?_)
        · replace h := (if_pos cv13).symm.trans h
          refine v_aloadn X dX6_takeNumber_70 rfl rfl ?_
          refine v_iconst (v := 2) X dX6_takeNumber_71 (by decide) ?_
          obtain ⟨rv16, gv15, qv14, h⟩ := bd2_some h
          refine v_callVI (As := [.int (2 : Int32)]) (rest := []) X (c_X6_hasFault l D ad cy X.2.2.2.2.2.2.2.2.1 N (2 : Int32) gv10 rv16 gv15  qv14) mw_X6_hasFault ml_X6_68 (by decide) (by decide +kernel) (by decide) rfl rfl rfl rfl (Nat.le_of_ble_eq_true rfl) dX6_takeNumber_72 ?_
          refine v_pop X dX6_takeNumber_75 rfl ?_
          refine v_iconst (v := -1) X dX6_takeNumber_76 (by decide) ?_
          obtain ⟨er, eg⟩ := Prod.mk.inj (Option.some.inj h)
          exact v_iret X dX6_takeNumber_77 er eg
        · replace h := (if_neg cv13).symm.trans h
          refine v_iload X dX6_takeNumber_64 rfl ?_
          refine v_iloadn X dX6_takeNumber_66 rfl rfl ?_
          refine v_icmp_le X 78 dX6_takeNumber_67 (by decide) (fun cv17 => ?_) (fun cv17 => ?_)
          · replace h := (if_pos cv17).symm.trans h
            refine v_aloadn X dX6_takeNumber_78 rfl rfl ?_
            refine v_dup X dX6_takeNumber_79 rfl ?_
            refine gf_X6_19 X dX6_takeNumber_80 ?_
            refine v_iloadn X dX6_takeNumber_83 rfl rfl ?_
            refine v_iadd X dX6_takeNumber_84 ?_
            refine pf_X6_19 X dX6_takeNumber_85 ?_
            refine v_iload X dX6_takeNumber_88 rfl ?_
            obtain ⟨er, eg⟩ := Prod.mk.inj (Option.some.inj h)
            exact v_iret X dX6_takeNumber_90 er eg
          · replace h := (if_neg cv17).symm.trans h
            refine v_aloadn X dX6_takeNumber_70 rfl rfl ?_
            refine v_iconst (v := 2) X dX6_takeNumber_71 (by decide) ?_
            obtain ⟨rv20, gv19, qv18, h⟩ := bd2_some h
            refine v_callVI (As := [.int (2 : Int32)]) (rest := []) X (c_X6_hasFault l D ad cy X.2.2.2.2.2.2.2.2.1 N (2 : Int32) gv10 rv20 gv19  qv18) mw_X6_hasFault ml_X6_68 (by decide) (by decide +kernel) (by decide) rfl rfl rfl rfl (Nat.le_of_ble_eq_true rfl) dX6_takeNumber_72 ?_
            refine v_pop X dX6_takeNumber_75 rfl ?_
            refine v_iconst (v := -1) X dX6_takeNumber_76 (by decide) ?_
            obtain ⟨er, eg⟩ := Prod.mk.inj (Option.some.inj h)
            exact v_iret X dX6_takeNumber_77 er eg
      · replace h := (if_pos cv12).symm.trans h
        refine v_bipush (v := 10) X dX6_takeNumber_37 (by decide) ?_
        refine v_iload X dX6_takeNumber_39 rfl ?_
        refine v_imul X dX6_takeNumber_41 ?_
        refine v_aloadn X dX6_takeNumber_42 rfl rfl ?_
        refine v_aloadn X dX6_takeNumber_43 rfl rfl ?_
        refine gf_X6_19 X dX6_takeNumber_44 ?_
        refine v_iconst (v := 1) X dX6_takeNumber_47 (by decide) ?_
        refine v_iadd X dX6_takeNumber_48 ?_
        obtain ⟨rv23, gv22, qv21, h⟩ := bd2_some h
        refine v_callVI (As := [.int ((gv10 3 0 1) + (1 : Int32))]) (rest := [.int ((10 : Int32) * (rv11 - (48 : Int32)))]) X (c_X6_byteAt l D ad cy X.2.2.2.2.2.2.2.2.1 N ((gv10 3 0 1) + (1 : Int32)) gv10 rv23 gv22  qv21) mw_X6_byteAt ml_X6_102 (by decide) (by decide +kernel) (by decide) rfl rfl rfl rfl (Nat.le_of_ble_eq_true rfl) dX6_takeNumber_49 ?_
        refine v_iadd X dX6_takeNumber_52 ?_
        refine v_bipush (v := 48) X dX6_takeNumber_53 (by decide) ?_
        refine v_isub X dX6_takeNumber_55 ?_
        refine v_istore (lc' := [some (.ref (ad (6, 0, 0))), some (.int x1), some (.int x2), some (.int rv3), some (.int ((((10 : Int32) * (rv11 - (48 : Int32))) + rv23) - (48 : Int32)))]) X dX6_takeNumber_56 (by decide) rfl rfl ?_
        refine v_iload X dX6_takeNumber_58 rfl ?_
        refine v_iloadn X dX6_takeNumber_60 rfl rfl ?_
        refine v_icmp_lt X 70 dX6_takeNumber_61 (by decide) (fun cv24 => ?_) (fun cv24 => ?_)
        · replace h := (if_pos cv24).symm.trans h
          refine v_aloadn X dX6_takeNumber_70 rfl rfl ?_
          refine v_iconst (v := 2) X dX6_takeNumber_71 (by decide) ?_
          obtain ⟨rv27, gv26, qv25, h⟩ := bd2_some h
          refine v_callVI (As := [.int (2 : Int32)]) (rest := []) X (c_X6_hasFault l D ad cy X.2.2.2.2.2.2.2.2.1 N (2 : Int32) gv22 rv27 gv26  qv25) mw_X6_hasFault ml_X6_68 (by decide) (by decide +kernel) (by decide) rfl rfl rfl rfl (Nat.le_of_ble_eq_true rfl) dX6_takeNumber_72 ?_
          refine v_pop X dX6_takeNumber_75 rfl ?_
          refine v_iconst (v := -1) X dX6_takeNumber_76 (by decide) ?_
          obtain ⟨er, eg⟩ := Prod.mk.inj (Option.some.inj h)
          exact v_iret X dX6_takeNumber_77 er eg
        · replace h := (if_neg cv24).symm.trans h
          refine v_iload X dX6_takeNumber_64 rfl ?_
          refine v_iloadn X dX6_takeNumber_66 rfl rfl ?_
          refine v_icmp_le X 78 dX6_takeNumber_67 (by decide) (fun cv28 => ?_) (fun cv28 => ?_)
          · replace h := (if_pos cv28).symm.trans h
            refine v_aloadn X dX6_takeNumber_78 rfl rfl ?_
            refine v_dup X dX6_takeNumber_79 rfl ?_
            refine gf_X6_19 X dX6_takeNumber_80 ?_
            refine v_iloadn X dX6_takeNumber_83 rfl rfl ?_
            refine v_iadd X dX6_takeNumber_84 ?_
            refine pf_X6_19 X dX6_takeNumber_85 ?_
            refine v_iload X dX6_takeNumber_88 rfl ?_
            obtain ⟨er, eg⟩ := Prod.mk.inj (Option.some.inj h)
            exact v_iret X dX6_takeNumber_90 er eg
          · replace h := (if_neg cv28).symm.trans h
            refine v_aloadn X dX6_takeNumber_70 rfl rfl ?_
            refine v_iconst (v := 2) X dX6_takeNumber_71 (by decide) ?_
            obtain ⟨rv31, gv30, qv29, h⟩ := bd2_some h
            refine v_callVI (As := [.int (2 : Int32)]) (rest := []) X (c_X6_hasFault l D ad cy X.2.2.2.2.2.2.2.2.1 N (2 : Int32) gv22 rv31 gv30  qv29) mw_X6_hasFault ml_X6_68 (by decide) (by decide +kernel) (by decide) rfl rfl rfl rfl (Nat.le_of_ble_eq_true rfl) dX6_takeNumber_72 ?_
            refine v_pop X dX6_takeNumber_75 rfl ?_
            refine v_iconst (v := -1) X dX6_takeNumber_76 (by decide) ?_
            obtain ⟨er, eg⟩ := Prod.mk.inj (Option.some.inj h)
            exact v_iret X dX6_takeNumber_77 er eg
    · replace h := (if_neg cv8).symm.trans h
      refine v_aloadn X dX6_takeNumber_15 rfl rfl ?_
      refine v_iconst (v := 1) X dX6_takeNumber_16 (by decide) ?_
      obtain ⟨rv34, gv33, qv32, h⟩ := bd2_some h
      refine v_callVI (As := [.int (1 : Int32)]) (rest := []) X (c_X6_hasFault l D ad cy X.2.2.2.2.2.2.2.2.1 N (1 : Int32) gv2 rv34 gv33  qv32) mw_X6_hasFault ml_X6_68 (by decide) (by decide +kernel) (by decide) rfl rfl rfl rfl (Nat.le_of_ble_eq_true rfl) dX6_takeNumber_17 ?_
      refine v_pop X dX6_takeNumber_20 rfl ?_
      refine v_iconst (v := -1) X dX6_takeNumber_21 (by decide) ?_
      obtain ⟨er, eg⟩ := Prod.mk.inj (Option.some.inj h)
      exact v_iret X dX6_takeNumber_22 er eg
def F_X6_readLaw (N : Nat) (r1 : Nat) (g : GS) : Option (Int32 × GS) := bd2 (F_X6_take N (114 : Int32) g) (fun rv3 gv2 => if rv3 = 0 then some ((0 : Int32), gv2) else bd2 (F_X6_takeNumber N (1 : Int32) (40 : Int32) gv2) (fun rv7 gv6 => if rv7 = (-1 : Int32) then some ((0 : Int32), (g3 gv6 0 r1 0 rv7)) else bd2 (F_X6_take N (44 : Int32) (g3 gv6 0 r1 0 rv7)) (fun rv11 gv10 => if rv11 = 0 then some ((0 : Int32), gv10) else bd2 (F_X6_takeNumber N (1 : Int32) (99 : Int32) gv10) (fun rv15 gv14 => if rv15 = (-1 : Int32) then some ((0 : Int32), (g3 gv14 0 r1 1 rv15)) else bd2 (F_X6_take N (59 : Int32) (g3 gv14 0 r1 1 rv15)) (fun rv19 gv18 => if rv19 = 0 then some ((0 : Int32), gv18) else some ((1 : Int32), gv18))))))
set_option maxRecDepth 100000 in
set_option maxHeartbeats 4000000 in
theorem c_X6_readLaw (l : Launch) (D : va_G) (ad : Ky → Nat) (cy : Nat → ClassId) (hI : Inj ad) (N : Nat) (r1 : Nat) (g : GS) (r : Int32) (gq : GS) (hr1 : r1 < 28) (h : F_X6_readLaw N r1 g = some (r, gq)) : CtI l D ad cy yX6_readLaw cX6_readLaw 2 (some .boolean) 3 [.ref (ad (6, 0, 0)), .ref (ad (4, r1, 0))] g r gq := by
  refine CtI.of 0 hI (by decide +kernel) rfl (Nat.le_of_ble_eq_true rfl) (fun p e s m args below meth c X => ?_)
  unfold F_X6_readLaw at h
  show Vy _ _ _ _ _ _ _ _ _ _ _ _ _ _ _ 0 [some (.ref (ad (6, 0, 0))), some (.ref (ad (4, r1, 0)))] [] g
  refine v_aloadn X dX6_readLaw_0 rfl rfl ?_
  refine v_bipush (v := 114) X dX6_readLaw_1 (by decide) ?_
  obtain ⟨rv3, gv2, qv1, h⟩ := bd2_some h
  refine v_callVI (As := [.int (114 : Int32)]) (rest := []) X (c_X6_take l D ad cy X.2.2.2.2.2.2.2.2.1 N (114 : Int32) g rv3 gv2  qv1) mw_X6_take ml_X6_50 (by decide) (by decide +kernel) (by decide) rfl rfl rfl rfl (Nat.le_of_ble_eq_true rfl) dX6_readLaw_3 ?_
  refine v_if_ne X 11 dX6_readLaw_6 (by decide) (fun cv4 => ?_) (fun cv4 => ?_)
  · replace h := (if_neg cv4).symm.trans h
    refine v_aloadn X dX6_readLaw_11 rfl rfl ?_
    refine v_aloadn X dX6_readLaw_12 rfl rfl ?_
    refine v_iconst (v := 1) X dX6_readLaw_13 (by decide) ?_
    refine v_bipush (v := 40) X dX6_readLaw_14 (by decide) ?_
    obtain ⟨rv7, gv6, qv5, h⟩ := bd2_some h
    refine v_callVI (As := [.int (1 : Int32), .int (40 : Int32)]) (rest := [.ref (ad (4, r1, 0))]) X (c_X6_takeNumber l D ad cy X.2.2.2.2.2.2.2.2.1 N (1 : Int32) (40 : Int32) gv2 rv7 gv6  qv5) mw_X6_takeNumber ml_X6_54 (by decide) (by decide +kernel) (by decide) rfl rfl rfl rfl (Nat.le_of_ble_eq_true rfl) dX6_readLaw_16 ?_
    refine pf_X6_58 X (k_roof (by omega)) dX6_readLaw_19 ?_
    refine v_aloadn X dX6_readLaw_22 rfl rfl ?_
    refine gf_X6_58 X (k_roof (by omega)) dX6_readLaw_23 ?_
    refine v_vali (v2 := rv7) (by simp [g3, va_up]) ?_
    refine v_iconst (v := -1) X dX6_readLaw_26 (by decide) ?_
    refine v_icmp_eq X 39 dX6_readLaw_27 (by decide) (fun cv8 => ?_) (fun cv8 => ?_)
    · replace h := (if_pos cv8).symm.trans h
      refine v_iconst (v := 0) X dX6_readLaw_39 (by decide) ?_
      obtain ⟨er, eg⟩ := Prod.mk.inj (Option.some.inj h)
      exact v_zret X dX6_readLaw_40 rfl er eg
    · replace h := (if_neg cv8).symm.trans h
      refine v_aloadn X dX6_readLaw_30 rfl rfl ?_
      refine v_bipush (v := 44) X dX6_readLaw_31 (by decide) ?_
      obtain ⟨rv11, gv10, qv9, h⟩ := bd2_some h
      refine v_callVI (As := [.int (44 : Int32)]) (rest := []) X (c_X6_take l D ad cy X.2.2.2.2.2.2.2.2.1 N (44 : Int32) (g3 gv6 0 r1 0 rv7) rv11 gv10  qv9) mw_X6_take ml_X6_50 (by decide) (by decide +kernel) (by decide) rfl rfl rfl rfl (Nat.le_of_ble_eq_true rfl) dX6_readLaw_33 ?_
      refine v_if_ne X 41 dX6_readLaw_36 (by decide) (fun cv12 => ?_) (fun cv12 => ?_)
      · replace h := (if_neg cv12).symm.trans h
        refine v_aloadn X dX6_readLaw_41 rfl rfl ?_
        refine v_aloadn X dX6_readLaw_42 rfl rfl ?_
        refine v_iconst (v := 1) X dX6_readLaw_43 (by decide) ?_
        refine v_bipush (v := 99) X dX6_readLaw_44 (by decide) ?_
        obtain ⟨rv15, gv14, qv13, h⟩ := bd2_some h
        refine v_callVI (As := [.int (1 : Int32), .int (99 : Int32)]) (rest := [.ref (ad (4, r1, 0))]) X (c_X6_takeNumber l D ad cy X.2.2.2.2.2.2.2.2.1 N (1 : Int32) (99 : Int32) gv10 rv15 gv14  qv13) mw_X6_takeNumber ml_X6_54 (by decide) (by decide +kernel) (by decide) rfl rfl rfl rfl (Nat.le_of_ble_eq_true rfl) dX6_readLaw_46 ?_
        refine pf_X6_61 X (k_roof (by omega)) dX6_readLaw_49 ?_
        refine v_aloadn X dX6_readLaw_52 rfl rfl ?_
        refine gf_X6_61 X (k_roof (by omega)) dX6_readLaw_53 ?_
        refine v_vali (v2 := rv15) (by simp [g3, va_up]) ?_
        refine v_iconst (v := -1) X dX6_readLaw_56 (by decide) ?_
        refine v_icmp_eq X 73 dX6_readLaw_57 (by decide) (fun cv16 => ?_) (fun cv16 => ?_)
        · replace h := (if_pos cv16).symm.trans h
          refine v_iconst (v := 0) X dX6_readLaw_73 (by decide) ?_
          obtain ⟨er, eg⟩ := Prod.mk.inj (Option.some.inj h)
          exact v_zret X dX6_readLaw_74 rfl er eg
        · replace h := (if_neg cv16).symm.trans h
          refine v_aloadn X dX6_readLaw_60 rfl rfl ?_
          refine v_bipush (v := 59) X dX6_readLaw_61 (by decide) ?_
          obtain ⟨rv19, gv18, qv17, h⟩ := bd2_some h
          refine v_callVI (As := [.int (59 : Int32)]) (rest := []) X (c_X6_take l D ad cy X.2.2.2.2.2.2.2.2.1 N (59 : Int32) (g3 gv14 0 r1 1 rv15) rv19 gv18  qv17) mw_X6_take ml_X6_50 (by decide) (by decide +kernel) (by decide) rfl rfl rfl rfl (Nat.le_of_ble_eq_true rfl) dX6_readLaw_63 ?_
          refine v_if_eq X 73 dX6_readLaw_66 (by decide) (fun cv20 => ?_) (fun cv20 => ?_)
          · replace h := (if_pos cv20).symm.trans h
            refine v_iconst (v := 0) X dX6_readLaw_73 (by decide) ?_
            obtain ⟨er, eg⟩ := Prod.mk.inj (Option.some.inj h)
            exact v_zret X dX6_readLaw_74 rfl er eg
          · replace h := (if_neg cv20).symm.trans h
            refine v_iconst (v := 1) X dX6_readLaw_69 (by decide) ?_
            refine v_goto X 74 dX6_readLaw_70 (by decide) ?_
            obtain ⟨er, eg⟩ := Prod.mk.inj (Option.some.inj h)
            exact v_zret X dX6_readLaw_74 rfl er eg
      · replace h := (if_pos cv12).symm.trans h
        refine v_iconst (v := 0) X dX6_readLaw_39 (by decide) ?_
        obtain ⟨er, eg⟩ := Prod.mk.inj (Option.some.inj h)
        exact v_zret X dX6_readLaw_40 rfl er eg
  · replace h := (if_pos cv4).symm.trans h
    refine v_iconst (v := 0) X dX6_readLaw_9 (by decide) ?_
    obtain ⟨er, eg⟩ := Prod.mk.inj (Option.some.inj h)
    exact v_zret X dX6_readLaw_10 rfl er eg
def F_X6_sortOf (N : Nat) (x0 : Int32) (g : GS) : Option (Int32 × GS) := if x0 = 98 then some ((1 : Int32), g) else if x0 = 99 then some ((5 : Int32), g) else if x0 = 102 then some ((2 : Int32), g) else if x0 = 108 then some ((4 : Int32), g) else if x0 = 116 then some ((3 : Int32), g) else some ((0 : Int32), g)
set_option maxRecDepth 100000 in
set_option maxHeartbeats 4000000 in
theorem c_X6_sortOf (l : Launch) (D : va_G) (ad : Ky → Nat) (cy : Nat → ClassId) (hI : Inj ad) (N : Nat) (x0 : Int32) (g : GS) (r : Int32) (gq : GS) (h : F_X6_sortOf N x0 g = some (r, gq)) : CtI l D ad cy yX6_sortOf cX6_sortOf 1 (some .int) 0 [.int x0] g r gq := by
  refine CtI.of 0 hI (by decide +kernel) rfl (Nat.le_of_ble_eq_true rfl) (fun p e s m args below meth c X => ?_)
  unfold F_X6_sortOf at h
  show Vy _ _ _ _ _ _ _ _ _ _ _ _ _ _ _ 0 [some (.int x0)] [] g
  refine v_iloadn X dX6_sortOf_0 rfl rfl ?_
  by_cases cv1 : x0 = 98
  · replace h := (if_pos cv1).symm.trans h
    refine v_lookup (off := 51) X 52 dX6_sortOf_1 (by decide) (by rw [cv1]; first | done | rfl) (by decide) ?_
    refine v_iconst (v := 1) X dX6_sortOf_52 (by decide) ?_
    obtain ⟨er, eg⟩ := Prod.mk.inj (Option.some.inj h)
    exact v_iret X dX6_sortOf_53 er eg
  replace h := (if_neg cv1).symm.trans h
  by_cases cv2 : x0 = 99
  · replace h := (if_pos cv2).symm.trans h
    refine v_lookup (off := 59) X 60 dX6_sortOf_1 (by decide) (by rw [cv2]; first | done | rfl) (by decide) ?_
    refine v_iconst (v := 5) X dX6_sortOf_60 (by decide) ?_
    obtain ⟨er, eg⟩ := Prod.mk.inj (Option.some.inj h)
    exact v_iret X dX6_sortOf_61 er eg
  replace h := (if_neg cv2).symm.trans h
  by_cases cv3 : x0 = 102
  · replace h := (if_pos cv3).symm.trans h
    refine v_lookup (off := 53) X 54 dX6_sortOf_1 (by decide) (by rw [cv3]; first | done | rfl) (by decide) ?_
    refine v_iconst (v := 2) X dX6_sortOf_54 (by decide) ?_
    obtain ⟨er, eg⟩ := Prod.mk.inj (Option.some.inj h)
    exact v_iret X dX6_sortOf_55 er eg
  replace h := (if_neg cv3).symm.trans h
  by_cases cv4 : x0 = 108
  · replace h := (if_pos cv4).symm.trans h
    refine v_lookup (off := 57) X 58 dX6_sortOf_1 (by decide) (by rw [cv4]; first | done | rfl) (by decide) ?_
    refine v_iconst (v := 4) X dX6_sortOf_58 (by decide) ?_
    obtain ⟨er, eg⟩ := Prod.mk.inj (Option.some.inj h)
    exact v_iret X dX6_sortOf_59 er eg
  replace h := (if_neg cv4).symm.trans h
  by_cases cv5 : x0 = 116
  · replace h := (if_pos cv5).symm.trans h
    refine v_lookup (off := 55) X 56 dX6_sortOf_1 (by decide) (by rw [cv5]; first | done | rfl) (by decide) ?_
    refine v_iconst (v := 3) X dX6_sortOf_56 (by decide) ?_
    obtain ⟨er, eg⟩ := Prod.mk.inj (Option.some.inj h)
    exact v_iret X dX6_sortOf_57 er eg
  replace h := (if_neg cv5).symm.trans h
  refine v_lookup (off := 61) X 62 dX6_sortOf_1 (by decide) (by show Op.lookupswitch.offset [(98, 51), (99, 59), (102, 53), (108, 57), (116, 55)] 61 _ = _; rw [lv_osw (a := 98) cv1 (by decide), lv_osw (a := 99) cv2 (by decide), lv_osw (a := 102) cv3 (by decide), lv_osw (a := 108) cv4 (by decide), lv_osw (a := 116) cv5 (by decide)]; first | done | rfl) (by decide) ?_
  refine v_iconst (v := 0) X dX6_sortOf_62 (by decide) ?_
  obtain ⟨er, eg⟩ := Prod.mk.inj (Option.some.inj h)
  exact v_iret X dX6_sortOf_63 er eg
def F_X6_readPaper (N : Nat) (r1 : Nat) (i1 : Nat) (g : GS) : Option (Int32 × GS) := bd2 (F_X6_next N  g) (fun rv3 gv2 => bd2 (F_X6_sortOf N rv3 gv2) (fun rv6 gv5 => bd2 (F_X6_takeNumber N (0 : Int32) (9 : Int32) (g3 (g3 gv5 13 r1 (7 * i1) rv6) 3 0 1 ((gv5 3 0 1) + (1 : Int32)))) (fun rv9 gv8 => if rv9 = (-1 : Int32) then some ((0 : Int32), (g3 gv8 13 r1 (7 * i1 + 1) rv9)) else bd2 (F_X6_take N (44 : Int32) (g3 gv8 13 r1 (7 * i1 + 1) rv9)) (fun rv13 gv12 => if rv13 = 0 then some ((0 : Int32), gv12) else bd2 (F_X6_takeNumber N (1 : Int32) (60 : Int32) gv12) (fun rv17 gv16 => bd1 (F_X3_settle N r1 i1 (0 : Int32) (-1000000 : Int32) (g3 gv16 13 r1 (7 * i1 + 2) rv17)) (fun gv19 => if (gv19 13 r1 (7 * i1 + 2)) = (-1 : Int32) then some ((0 : Int32), gv19) else bd2 (F_X6_take N (59 : Int32) gv19) (fun rv23 gv22 => if rv23 = 0 then some ((0 : Int32), gv22) else some ((1 : Int32), gv22))))))))
set_option maxRecDepth 100000 in
set_option maxHeartbeats 4000000 in
theorem c_X6_readPaper (l : Launch) (D : va_G) (ad : Ky → Nat) (cy : Nat → ClassId) (hI : Inj ad) (N : Nat) (r1 : Nat) (i1 : Nat) (g : GS) (r : Int32) (gq : GS) (hr1 : r1 < 28) (hi1 : i1 < 6) (h : F_X6_readPaper N r1 i1 g = some (r, gq)) : CtI l D ad cy yX6_readPaper cX6_readPaper 2 (some .boolean) 3 [.ref (ad (6, 0, 0)), .ref (ad (3, r1, i1))] g r gq := by
  refine CtI.of 0 hI (by decide +kernel) rfl (Nat.le_of_ble_eq_true rfl) (fun p e s m args below meth c X => ?_)
  unfold F_X6_readPaper at h
  show Vy _ _ _ _ _ _ _ _ _ _ _ _ _ _ _ 0 [some (.ref (ad (6, 0, 0))), some (.ref (ad (3, r1, i1)))] [] g
  refine v_aloadn X dX6_readPaper_0 rfl rfl ?_
  refine v_aloadn X dX6_readPaper_1 rfl rfl ?_
  obtain ⟨rv3, gv2, qv1, h⟩ := bd2_some h
  refine v_callVI (As := []) (rest := [.ref (ad (3, r1, i1))]) X (c_X6_next l D ad cy X.2.2.2.2.2.2.2.2.1 N  g rv3 gv2  qv1) mw_X6_next ml_X6_64 (by decide) (by decide +kernel) (by decide) rfl rfl rfl rfl (Nat.le_of_ble_eq_true rfl) dX6_readPaper_2 ?_
  obtain ⟨rv6, gv5, qv4, h⟩ := bd2_some h
  refine v_callSI (As := [.int rv3]) (rest := [.ref (ad (3, r1, i1))]) X (c_X6_sortOf l D ad cy X.2.2.2.2.2.2.2.2.1 N rv3 gv2 rv6 gv5  qv4) mw_X6_sortOf ml_X6_74 (by decide) rfl rfl (Nat.le_of_ble_eq_true rfl) dX6_readPaper_5 ?_
  refine pf_X6_86 X (k_paper (by omega) (by omega)) dX6_readPaper_8 ?_
  refine v_aloadn X dX6_readPaper_11 rfl rfl ?_
  refine v_dup X dX6_readPaper_12 rfl ?_
  refine gf_X6_19 X dX6_readPaper_13 ?_
  refine v_vali (v2 := (gv5 3 0 1)) rfl ?_
  refine v_iconst (v := 1) X dX6_readPaper_16 (by decide) ?_
  refine v_iadd X dX6_readPaper_17 ?_
  refine pf_X6_19 X dX6_readPaper_18 ?_
  refine v_aloadn X dX6_readPaper_21 rfl rfl ?_
  refine v_aloadn X dX6_readPaper_22 rfl rfl ?_
  refine v_iconst (v := 0) X dX6_readPaper_23 (by decide) ?_
  refine v_bipush (v := 9) X dX6_readPaper_24 (by decide) ?_
  obtain ⟨rv9, gv8, qv7, h⟩ := bd2_some h
  refine v_callVI (As := [.int (0 : Int32), .int (9 : Int32)]) (rest := [.ref (ad (3, r1, i1))]) X (c_X6_takeNumber l D ad cy X.2.2.2.2.2.2.2.2.1 N (0 : Int32) (9 : Int32) (g3 (g3 gv5 13 r1 (7 * i1) rv6) 3 0 1 ((gv5 3 0 1) + (1 : Int32))) rv9 gv8  qv7) mw_X6_takeNumber ml_X6_54 (by decide) (by decide +kernel) (by decide) rfl rfl rfl rfl (Nat.le_of_ble_eq_true rfl) dX6_readPaper_26 ?_
  refine pf_X6_91 X (k_paper (by omega) (by omega)) dX6_readPaper_29 ?_
  refine v_aloadn X dX6_readPaper_32 rfl rfl ?_
  refine gf_X6_91 X (k_paper (by omega) (by omega)) dX6_readPaper_33 ?_
  refine v_vali (v2 := rv9) (by simp [g3, va_up]) ?_
  refine v_iconst (v := -1) X dX6_readPaper_36 (by decide) ?_
  refine v_icmp_eq X 49 dX6_readPaper_37 (by decide) (fun cv10 => ?_) (fun cv10 => ?_)
  · replace h := (if_pos cv10).symm.trans h
    refine v_iconst (v := 0) X dX6_readPaper_49 (by decide) ?_
    obtain ⟨er, eg⟩ := Prod.mk.inj (Option.some.inj h)
    exact v_zret X dX6_readPaper_50 rfl er eg
  · replace h := (if_neg cv10).symm.trans h
    refine v_aloadn X dX6_readPaper_40 rfl rfl ?_
    refine v_bipush (v := 44) X dX6_readPaper_41 (by decide) ?_
    obtain ⟨rv13, gv12, qv11, h⟩ := bd2_some h
    refine v_callVI (As := [.int (44 : Int32)]) (rest := []) X (c_X6_take l D ad cy X.2.2.2.2.2.2.2.2.1 N (44 : Int32) (g3 gv8 13 r1 (7 * i1 + 1) rv9) rv13 gv12  qv11) mw_X6_take ml_X6_50 (by decide) (by decide +kernel) (by decide) rfl rfl rfl rfl (Nat.le_of_ble_eq_true rfl) dX6_readPaper_43 ?_
    refine v_if_ne X 51 dX6_readPaper_46 (by decide) (fun cv14 => ?_) (fun cv14 => ?_)
    · replace h := (if_neg cv14).symm.trans h
      refine v_aloadn X dX6_readPaper_51 rfl rfl ?_
      refine v_aloadn X dX6_readPaper_52 rfl rfl ?_
      refine v_iconst (v := 1) X dX6_readPaper_53 (by decide) ?_
      refine v_bipush (v := 60) X dX6_readPaper_54 (by decide) ?_
      obtain ⟨rv17, gv16, qv15, h⟩ := bd2_some h
      refine v_callVI (As := [.int (1 : Int32), .int (60 : Int32)]) (rest := [.ref (ad (3, r1, i1))]) X (c_X6_takeNumber l D ad cy X.2.2.2.2.2.2.2.2.1 N (1 : Int32) (60 : Int32) gv12 rv17 gv16  qv15) mw_X6_takeNumber ml_X6_54 (by decide) (by decide +kernel) (by decide) rfl rfl rfl rfl (Nat.le_of_ble_eq_true rfl) dX6_readPaper_56 ?_
      refine pf_X6_94 X (k_paper (by omega) (by omega)) dX6_readPaper_59 ?_
      refine v_aloadn X dX6_readPaper_62 rfl rfl ?_
      refine v_iconst (v := 0) X dX6_readPaper_63 (by decide) ?_
      refine v_ldc X kc_X6_97 dX6_readPaper_64 ?_
      obtain ⟨gv19, qv18, h⟩ := bd1_some h
      refine v_callVV (As := [.int (0 : Int32), .int (-1000000 : Int32)]) (rest := []) X (c_X3_settle l D ad cy X.2.2.2.2.2.2.2.2.1 N r1 i1 (0 : Int32) (-1000000 : Int32) (g3 gv16 13 r1 (7 * i1 + 2) rv17) gv19 (by omega) (by omega) qv18) mw_X3_settle ml_X6_98 (by decide) (k_paper (by omega) (by omega)) (by decide) rfl rfl rfl rfl (Nat.le_of_ble_eq_true rfl) dX6_readPaper_66 ?_
      refine v_aloadn X dX6_readPaper_69 rfl rfl ?_
      refine gf_X6_94 X (k_paper (by omega) (by omega)) dX6_readPaper_70 ?_
      refine v_iconst (v := -1) X dX6_readPaper_73 (by decide) ?_
      refine v_icmp_eq X 90 dX6_readPaper_74 (by decide) (fun cv20 => ?_) (fun cv20 => ?_)
      · replace h := (if_pos cv20).symm.trans h
        refine v_iconst (v := 0) X dX6_readPaper_90 (by decide) ?_
        obtain ⟨er, eg⟩ := Prod.mk.inj (Option.some.inj h)
        exact v_zret X dX6_readPaper_91 rfl er eg
      · replace h := (if_neg cv20).symm.trans h
        refine v_aloadn X dX6_readPaper_77 rfl rfl ?_
        refine v_bipush (v := 59) X dX6_readPaper_78 (by decide) ?_
        obtain ⟨rv23, gv22, qv21, h⟩ := bd2_some h
        refine v_callVI (As := [.int (59 : Int32)]) (rest := []) X (c_X6_take l D ad cy X.2.2.2.2.2.2.2.2.1 N (59 : Int32) gv19 rv23 gv22  qv21) mw_X6_take ml_X6_50 (by decide) (by decide +kernel) (by decide) rfl rfl rfl rfl (Nat.le_of_ble_eq_true rfl) dX6_readPaper_80 ?_
        refine v_if_eq X 90 dX6_readPaper_83 (by decide) (fun cv24 => ?_) (fun cv24 => ?_)
        · replace h := (if_pos cv24).symm.trans h
          refine v_iconst (v := 0) X dX6_readPaper_90 (by decide) ?_
          obtain ⟨er, eg⟩ := Prod.mk.inj (Option.some.inj h)
          exact v_zret X dX6_readPaper_91 rfl er eg
        · replace h := (if_neg cv24).symm.trans h
          refine v_iconst (v := 1) X dX6_readPaper_86 (by decide) ?_
          refine v_goto X 91 dX6_readPaper_87 (by decide) ?_
          obtain ⟨er, eg⟩ := Prod.mk.inj (Option.some.inj h)
          exact v_zret X dX6_readPaper_91 rfl er eg
    · replace h := (if_pos cv14).symm.trans h
      refine v_iconst (v := 0) X dX6_readPaper_49 (by decide) ?_
      obtain ⟨er, eg⟩ := Prod.mk.inj (Option.some.inj h)
      exact v_zret X dX6_readPaper_50 rfl er eg
def L_X6_readPapers_2 (N : Nat) (w1_0 : Nat) : Nat → Int32 → GS → Option ((Int32 × GS) ⊕ (Int32 × GS))
  | 0, _, _ => none
  | n + 1, y2, g => if (6 : Int32) < y2 then some (.inr (y2, g)) else bd2 (F_X6_next N  g) (fun rv4 gv3 => bd2 (F_X6_sortOf N rv4 gv3) (fun rv7 gv6 => if rv7 = 0 then some (.inr (y2, gv6)) else if y2 = (6 : Int32) then bd2 (F_X6_hasFault N (3 : Int32) gv6) (fun rv18 gv17 => if rv18 = 0 ∨ rv18 = 1 then some (.inl (rv18, gv17)) else none) else bd1 (ix y2 6) (fun jv10 => bd2 (F_X6_readPaper N w1_0 jv10 gv6) (fun rv14 gv13 => if rv14 = 0 then some (.inl ((0 : Int32), gv13)) else L_X6_readPapers_2 N w1_0 n (y2 + 1) (g3 gv13 0 w1_0 4 (y2 + (1 : Int32)))))))
def F_X6_readPapers (N : Nat) (r1 : Nat) (g : GS) : Option (Int32 × GS) := bs2 (L_X6_readPapers_2 N r1 N (0 : Int32) g) (fun rv28 gv29 => some (rv28, gv29)) (fun xv20 gv21 => if 0 < (gv21 0 r1 4) then some ((1 : Int32), gv21) else bd2 (F_X6_hasFault N (1 : Int32) gv21) (fun rv26 gv25 => if rv26 = 0 then some ((0 : Int32), gv25) else some ((1 : Int32), gv25)))
set_option maxRecDepth 100000 in
set_option maxHeartbeats 4000000 in
theorem w_X6_readPapers_2 {p : Program} {l : Launch} {e : Env} {s : State} {m : MethodId} {args : Array Value} {below : List Frame} {meth : Method} {c : Code} {D : va_G} {ad : Ky → Nat} {cy : Nat → ClassId} {r : Int32} {gq : GS} {N : Nat} (X : Cx p (rmd 4) s m args meth c RX6 cX6_readPapers 3 (some .boolean) D ad cy) (w1_0 : Nat) (hh0 : w1_0 < 28) : ∀ (n : Nat) (y2 : Int32) (g : GS) (res : _), L_X6_readPapers_2 N w1_0 n y2 g = some res → (∀ (r1 : Int32) (g1 : GS), res = .inl (r1, g1) → r1 = r ∧ g1 = gq) → (∀ (y2' : Int32) (g' : GS), res = .inr (y2', g') → Vy p l e (rmd 4) s m args below meth c 3 D ad cy (QI D ad cy below args s r gq) 58 [some (.ref (ad (6, 0, 0))), some (.ref (ad (4, w1_0, 0))), some (.int y2')] [] g') → Vy p l e (rmd 4) s m args below meth c 3 D ad cy (QI D ad cy below args s r gq) 2 [some (.ref (ad (6, 0, 0))), some (.ref (ad (4, w1_0, 0))), some (.int y2)] [] g := by
  intro n
  induction n with
  | zero => intro y2 g res h kr k; cases h
  | succ n ih =>
    intro y2 g res h kr k
    rw [L_X6_readPapers_2] at h
    refine v_iloadn X dX6_readPapers_2 rfl rfl ?_
    refine v_bipush (v := 6) X dX6_readPapers_3 (by decide) ?_
    refine v_icmp_gt X 58 dX6_readPapers_5 (by decide) (fun cv1 => ?_) (fun cv1 => ?_)
    · replace h := (if_pos cv1).symm.trans h
      cases h
      exact k _ _ rfl
    · replace h := (if_neg cv1).symm.trans h
      refine v_aloadn X dX6_readPapers_8 rfl rfl ?_
      obtain ⟨rv4, gv3, qv2, h⟩ := bd2_some h
      refine v_callVI (As := []) (rest := []) X (c_X6_next l D ad cy X.2.2.2.2.2.2.2.2.1 N  g rv4 gv3  qv2) mw_X6_next ml_X6_64 (by decide) (by decide +kernel) (by decide) rfl rfl rfl rfl (Nat.le_of_ble_eq_true rfl) dX6_readPapers_9 ?_
      obtain ⟨rv7, gv6, qv5, h⟩ := bd2_some h
      refine v_callSI (As := [.int rv4]) (rest := []) X (c_X6_sortOf l D ad cy X.2.2.2.2.2.2.2.2.1 N rv4 gv3 rv7 gv6  qv5) mw_X6_sortOf ml_X6_74 (by decide) rfl rfl (Nat.le_of_ble_eq_true rfl) dX6_readPapers_12 ?_
      refine v_if_eq X 58 dX6_readPapers_15 (by decide) (fun cv8 => ?_) (fun cv8 => ?_)
      · replace h := (if_pos cv8).symm.trans h
        cases h
        exact k _ _ rfl
      · replace h := (if_neg cv8).symm.trans h
        refine v_iloadn X dX6_readPapers_18 rfl rfl ?_
        refine v_bipush (v := 6) X dX6_readPapers_19 (by decide) ?_
        refine v_icmp_ne X 30 dX6_readPapers_21 (by decide) (fun cv9 => ?_) (fun cv9 => ?_)
        · replace h := (if_neg cv9).symm.trans h
          refine v_aloadn X dX6_readPapers_30 rfl rfl ?_
          refine v_aloadn X dX6_readPapers_31 rfl rfl ?_
          refine gf_X6_78 X (k_roof (by omega)) dX6_readPapers_32 ?_
          refine v_iloadn X dX6_readPapers_35 rfl rfl ?_
          obtain ⟨jv10, qv11, h⟩ := bd1_some h
          obtain ⟨ejv10, ljv10⟩ := ix_spec qv11
          refine aaP X (k_papers (by omega)) jv10 ejv10 ljv10 dX6_readPapers_36 ?_
          obtain ⟨rv14, gv13, qv12, h⟩ := bd2_some h
          refine v_callVI (As := [.ref (ad (3, w1_0, jv10))]) (rest := []) X (c_X6_readPaper l D ad cy X.2.2.2.2.2.2.2.2.1 N w1_0 jv10 gv6 rv14 gv13 (by omega) (by omega) qv12) mw_X6_readPaper ml_X6_82 (by decide) (by decide +kernel) (by decide) rfl rfl rfl rfl (Nat.le_of_ble_eq_true rfl) dX6_readPapers_37 ?_
          refine v_if_ne X 45 dX6_readPapers_40 (by decide) (fun cv15 => ?_) (fun cv15 => ?_)
          · replace h := (if_neg cv15).symm.trans h
            refine v_aloadn X dX6_readPapers_45 rfl rfl ?_
            refine v_iloadn X dX6_readPapers_46 rfl rfl ?_
            refine v_iconst (v := 1) X dX6_readPapers_47 (by decide) ?_
            refine v_iadd X dX6_readPapers_48 ?_
            refine pf_X6_33 X (k_roof (by omega)) dX6_readPapers_49 ?_
            refine v_iinc (v := (y2 + 1)) (lc' := [some (.ref (ad (6, 0, 0))), some (.ref (ad (4, w1_0, 0))), some (.int (y2 + 1))]) X dX6_readPapers_52 rfl rfl (by decide) rfl rfl ?_
            refine v_goto X 2 dX6_readPapers_55 (by decide) ?_
            exact ih (y2 + 1) (g3 gv13 0 w1_0 4 (y2 + (1 : Int32))) _ h kr k
          · replace h := (if_pos cv15).symm.trans h
            refine v_iconst (v := 0) X dX6_readPapers_43 (by decide) ?_
            obtain ⟨er, eg⟩ := kr _ _ (Option.some.inj h).symm
            exact v_zret X dX6_readPapers_44 rfl er eg
        · replace h := (if_pos cv9).symm.trans h
          refine v_aloadn X dX6_readPapers_24 rfl rfl ?_
          refine v_iconst (v := 3) X dX6_readPapers_25 (by decide) ?_
          obtain ⟨rv18, gv17, qv16, h⟩ := bd2_some h
          refine v_callVI (As := [.int (3 : Int32)]) (rest := []) X (c_X6_hasFault l D ad cy X.2.2.2.2.2.2.2.2.1 N (3 : Int32) gv6 rv18 gv17  qv16) mw_X6_hasFault ml_X6_68 (by decide) (by decide +kernel) (by decide) rfl rfl rfl rfl (Nat.le_of_ble_eq_true rfl) dX6_readPapers_26 ?_
          by_cases cv19 : rv18 = 0 ∨ rv18 = 1
          · replace h := (if_pos cv19).symm.trans h
            obtain ⟨er, eg⟩ := kr _ _ (Option.some.inj h).symm
            exact v_zret X dX6_readPapers_29 (nb cv19) er eg
          · replace h := (if_neg cv19).symm.trans h
            cases h
set_option maxRecDepth 100000 in
set_option maxHeartbeats 4000000 in
theorem c_X6_readPapers (l : Launch) (D : va_G) (ad : Ky → Nat) (cy : Nat → ClassId) (hI : Inj ad) (N : Nat) (r1 : Nat) (g : GS) (r : Int32) (gq : GS) (hr1 : r1 < 28) (h : F_X6_readPapers N r1 g = some (r, gq)) : CtI l D ad cy yX6_readPapers cX6_readPapers 3 (some .boolean) 4 [.ref (ad (6, 0, 0)), .ref (ad (4, r1, 0))] g r gq := by
  refine CtI.of 1 hI (by decide +kernel) rfl (Nat.le_of_ble_eq_true rfl) (fun p e s m args below meth c X => ?_)
  unfold F_X6_readPapers at h
  show Vy _ _ _ _ _ _ _ _ _ _ _ _ _ _ _ 0 [some (.ref (ad (6, 0, 0))), some (.ref (ad (4, r1, 0))), none] [] g
  refine v_iconst (v := 0) X dX6_readPapers_0 (by decide) ?_
  refine v_istoren (lc' := [some (.ref (ad (6, 0, 0))), some (.ref (ad (4, r1, 0))), some (.int (0 : Int32))]) X dX6_readPapers_1 rfl (by decide) rfl rfl ?_
  obtain ⟨zv30, qv22, h⟩ := bs2_some h
  refine w_X6_readPapers_2 X r1 (by omega) N (0 : Int32) g _ qv22 ?_ ?_
  · intro rv28 gv29 e1
    subst e1
    dsimp only at h
    cases h
    exact ⟨rfl, rfl⟩
  · intro xv20 gv21 e1
    subst e1
    dsimp only at h
    refine v_aloadn X dX6_readPapers_58 rfl rfl ?_
    refine gf_X6_33 X (k_roof (by omega)) dX6_readPapers_59 ?_
    refine v_if_gt X 73 dX6_readPapers_62 (by decide) (fun cv23 => ?_) (fun cv23 => ?_)
    · replace h := (if_pos cv23).symm.trans h
      refine v_iconst (v := 1) X dX6_readPapers_73 (by decide) ?_
      refine v_goto X 78 dX6_readPapers_74 (by decide) ?_
      obtain ⟨er, eg⟩ := Prod.mk.inj (Option.some.inj h)
      exact v_zret X dX6_readPapers_78 rfl er eg
    · replace h := (if_neg cv23).symm.trans h
      refine v_aloadn X dX6_readPapers_65 rfl rfl ?_
      refine v_iconst (v := 1) X dX6_readPapers_66 (by decide) ?_
      obtain ⟨rv26, gv25, qv24, h⟩ := bd2_some h
      refine v_callVI (As := [.int (1 : Int32)]) (rest := []) X (c_X6_hasFault l D ad cy X.2.2.2.2.2.2.2.2.1 N (1 : Int32) gv21 rv26 gv25  qv24) mw_X6_hasFault ml_X6_68 (by decide) (by decide +kernel) (by decide) rfl rfl rfl rfl (Nat.le_of_ble_eq_true rfl) dX6_readPapers_67 ?_
      refine v_if_eq X 77 dX6_readPapers_70 (by decide) (fun cv27 => ?_) (fun cv27 => ?_)
      · replace h := (if_pos cv27).symm.trans h
        refine v_iconst (v := 0) X dX6_readPapers_77 (by decide) ?_
        obtain ⟨er, eg⟩ := Prod.mk.inj (Option.some.inj h)
        exact v_zret X dX6_readPapers_78 rfl er eg
      · replace h := (if_neg cv27).symm.trans h
        refine v_iconst (v := 1) X dX6_readPapers_73 (by decide) ?_
        refine v_goto X 78 dX6_readPapers_74 (by decide) ?_
        obtain ⟨er, eg⟩ := Prod.mk.inj (Option.some.inj h)
        exact v_zret X dX6_readPapers_78 rfl er eg
def L_X6_readWinds_2 (N : Nat) (w1_0 : Nat) : Nat → Int32 → GS → Option ((Int32 × GS) ⊕ (Int32 × GS))
  | 0, _, _ => none
  | n + 1, y2, g => if (6 : Int32) < y2 then some (.inr (y2, g)) else bd2 (F_X6_next N  g) (fun rv4 gv3 => if rv4 = (119 : Int32) then if y2 = (6 : Int32) then bd2 (F_X6_hasFault N (3 : Int32) gv3) (fun rv19 gv18 => if rv19 = 0 ∨ rv19 = 1 then some (.inl (rv19, gv18)) else none) else bd2 (F_X6_takeNumber N (0 : Int32) (9 : Int32) (g3 gv3 3 0 1 ((gv3 3 0 1) + (1 : Int32)))) (fun rv9 gv8 => if rv9 = (-1 : Int32) then some (.inl ((0 : Int32), gv8)) else bd2 (F_X6_take N (59 : Int32) gv8) (fun rv13 gv12 => if rv13 = 0 then some (.inl ((0 : Int32), gv12)) else bd1 (ix y2 6) (fun jv15 => L_X6_readWinds_2 N w1_0 n (y2 + 1) (g3 (g3 gv12 12 w1_0 jv15 rv9) 0 w1_0 3 (y2 + (1 : Int32)))))) else some (.inr (y2, gv3)))
def F_X6_readWinds (N : Nat) (r1 : Nat) (g : GS) : Option (Int32 × GS) := bs2 (L_X6_readWinds_2 N r1 N (0 : Int32) g) (fun rv24 gv25 => some (rv24, gv25)) (fun xv21 gv22 => some ((1 : Int32), gv22))
set_option maxRecDepth 100000 in
set_option maxHeartbeats 4000000 in
theorem w_X6_readWinds_2 {p : Program} {l : Launch} {e : Env} {s : State} {m : MethodId} {args : Array Value} {below : List Frame} {meth : Method} {c : Code} {D : va_G} {ad : Ky → Nat} {cy : Nat → ClassId} {r : Int32} {gq : GS} {N : Nat} (X : Cx p (rmd 3) s m args meth c RX6 cX6_readWinds 4 (some .boolean) D ad cy) (w1_0 : Nat) (hh0 : w1_0 < 28) : ∀ (n : Nat) (y2 : Int32) (g : GS) (res : _), L_X6_readWinds_2 N w1_0 n y2 g = some res → (∀ (r1 : Int32) (g1 : GS), res = .inl (r1, g1) → r1 = r ∧ g1 = gq) → (∀ (y2' : Int32) (g' : GS), res = .inr (y2', g') → Vy p l e (rmd 3) s m args below meth c 4 D ad cy (QI D ad cy below args s r gq) 83 [some (.ref (ad (6, 0, 0))), some (.ref (ad (4, w1_0, 0))), some (.int y2'), none] [] g') → Vy p l e (rmd 3) s m args below meth c 4 D ad cy (QI D ad cy below args s r gq) 2 [some (.ref (ad (6, 0, 0))), some (.ref (ad (4, w1_0, 0))), some (.int y2), none] [] g := by
  intro n
  induction n with
  | zero => intro y2 g res h kr k; cases h
  | succ n ih =>
    intro y2 g res h kr k
    rw [L_X6_readWinds_2] at h
    refine v_iloadn X dX6_readWinds_2 rfl rfl ?_
    refine v_bipush (v := 6) X dX6_readWinds_3 (by decide) ?_
    refine v_icmp_gt X 83 dX6_readWinds_5 (by decide) (fun cv1 => ?_) (fun cv1 => ?_)
    · replace h := (if_pos cv1).symm.trans h
      cases h
      exact k _ _ rfl
    · replace h := (if_neg cv1).symm.trans h
      refine v_aloadn X dX6_readWinds_8 rfl rfl ?_
      obtain ⟨rv4, gv3, qv2, h⟩ := bd2_some h
      refine v_callVI (As := []) (rest := []) X (c_X6_next l D ad cy X.2.2.2.2.2.2.2.2.1 N  g rv4 gv3  qv2) mw_X6_next ml_X6_64 (by decide) (by decide +kernel) (by decide) rfl rfl rfl rfl (Nat.le_of_ble_eq_true rfl) dX6_readWinds_9 ?_
      refine v_bipush (v := 119) X dX6_readWinds_12 (by decide) ?_
      refine v_icmp_ne X 83 dX6_readWinds_14 (by decide) (fun cv5 => ?_) (fun cv5 => ?_)
      · replace h := (if_neg cv5).symm.trans h
        cases h
        exact k _ _ rfl
      · replace h := (if_pos cv5).symm.trans h
        refine v_iloadn X dX6_readWinds_17 rfl rfl ?_
        refine v_bipush (v := 6) X dX6_readWinds_18 (by decide) ?_
        refine v_icmp_ne X 29 dX6_readWinds_20 (by decide) (fun cv6 => ?_) (fun cv6 => ?_)
        · replace h := (if_neg cv6).symm.trans h
          refine v_aloadn X dX6_readWinds_29 rfl rfl ?_
          refine v_dup X dX6_readWinds_30 rfl ?_
          refine gf_X6_19 X dX6_readWinds_31 ?_
          refine v_iconst (v := 1) X dX6_readWinds_34 (by decide) ?_
          refine v_iadd X dX6_readWinds_35 ?_
          refine pf_X6_19 X dX6_readWinds_36 ?_
          refine v_aloadn X dX6_readWinds_39 rfl rfl ?_
          refine v_iconst (v := 0) X dX6_readWinds_40 (by decide) ?_
          refine v_bipush (v := 9) X dX6_readWinds_41 (by decide) ?_
          obtain ⟨rv9, gv8, qv7, h⟩ := bd2_some h
          refine v_callVI (As := [.int (0 : Int32), .int (9 : Int32)]) (rest := []) X (c_X6_takeNumber l D ad cy X.2.2.2.2.2.2.2.2.1 N (0 : Int32) (9 : Int32) (g3 gv3 3 0 1 ((gv3 3 0 1) + (1 : Int32))) rv9 gv8  qv7) mw_X6_takeNumber ml_X6_54 (by decide) (by decide +kernel) (by decide) rfl rfl rfl rfl (Nat.le_of_ble_eq_true rfl) dX6_readWinds_43 ?_
          refine v_istoren (lc' := [some (.ref (ad (6, 0, 0))), some (.ref (ad (4, w1_0, 0))), some (.int y2), some (.int rv9)]) X dX6_readWinds_46 rfl (by decide) rfl rfl ?_
          refine v_iloadn X dX6_readWinds_47 rfl rfl ?_
          refine v_iconst (v := -1) X dX6_readWinds_48 (by decide) ?_
          refine v_icmp_eq X 61 dX6_readWinds_49 (by decide) (fun cv10 => ?_) (fun cv10 => ?_)
          · replace h := (if_pos cv10).symm.trans h
            refine v_iconst (v := 0) X dX6_readWinds_61 (by decide) ?_
            obtain ⟨er, eg⟩ := kr _ _ (Option.some.inj h).symm
            exact v_zret X dX6_readWinds_62 rfl er eg
          · replace h := (if_neg cv10).symm.trans h
            refine v_aloadn X dX6_readWinds_52 rfl rfl ?_
            refine v_bipush (v := 59) X dX6_readWinds_53 (by decide) ?_
            obtain ⟨rv13, gv12, qv11, h⟩ := bd2_some h
            refine v_callVI (As := [.int (59 : Int32)]) (rest := []) X (c_X6_take l D ad cy X.2.2.2.2.2.2.2.2.1 N (59 : Int32) gv8 rv13 gv12  qv11) mw_X6_take ml_X6_50 (by decide) (by decide +kernel) (by decide) rfl rfl rfl rfl (Nat.le_of_ble_eq_true rfl) dX6_readWinds_55 ?_
            refine v_if_ne X 63 dX6_readWinds_58 (by decide) (fun cv14 => ?_) (fun cv14 => ?_)
            · replace h := (if_neg cv14).symm.trans h
              refine v_aloadn X dX6_readWinds_63 rfl rfl ?_
              refine gf_X6_71 X (k_roof (by omega)) dX6_readWinds_64 ?_
              refine v_iloadn X dX6_readWinds_67 rfl rfl ?_
              refine v_iloadn X dX6_readWinds_68 rfl rfl ?_
              obtain ⟨jv15, qv16, h⟩ := bd1_some h
              obtain ⟨ejv15, ljv15⟩ := ix_spec qv16
              refine asF X (k_forces (by omega)) jv15 ejv15 ljv15 dX6_readWinds_69 ?_
              refine v_aloadn X dX6_readWinds_70 rfl rfl ?_
              refine v_iloadn X dX6_readWinds_71 rfl rfl ?_
              refine v_iconst (v := 1) X dX6_readWinds_72 (by decide) ?_
              refine v_iadd X dX6_readWinds_73 ?_
              refine pf_X6_30 X (k_roof (by omega)) dX6_readWinds_74 ?_
              refine v_iinc (v := (y2 + 1)) (lc' := [some (.ref (ad (6, 0, 0))), some (.ref (ad (4, w1_0, 0))), some (.int (y2 + 1)), some (.int rv9)]) X dX6_readWinds_77 rfl rfl (by decide) rfl rfl ?_
              refine v_goto X 2 dX6_readWinds_80 (by decide) ?_
              refine v_weak (lc2 := [some (.ref (ad (6, 0, 0))), some (.ref (ad (4, w1_0, 0))), some (.int (y2 + 1)), none]) ⟨rfl, rfl, rfl, trivial⟩ ?_
              exact ih (y2 + 1) (g3 (g3 gv12 12 w1_0 jv15 rv9) 0 w1_0 3 (y2 + (1 : Int32))) _ h kr k
            · replace h := (if_pos cv14).symm.trans h
              refine v_iconst (v := 0) X dX6_readWinds_61 (by decide) ?_
              obtain ⟨er, eg⟩ := kr _ _ (Option.some.inj h).symm
              exact v_zret X dX6_readWinds_62 rfl er eg
        · replace h := (if_pos cv6).symm.trans h
          refine v_aloadn X dX6_readWinds_23 rfl rfl ?_
          refine v_iconst (v := 3) X dX6_readWinds_24 (by decide) ?_
          obtain ⟨rv19, gv18, qv17, h⟩ := bd2_some h
          refine v_callVI (As := [.int (3 : Int32)]) (rest := []) X (c_X6_hasFault l D ad cy X.2.2.2.2.2.2.2.2.1 N (3 : Int32) gv3 rv19 gv18  qv17) mw_X6_hasFault ml_X6_68 (by decide) (by decide +kernel) (by decide) rfl rfl rfl rfl (Nat.le_of_ble_eq_true rfl) dX6_readWinds_25 ?_
          by_cases cv20 : rv19 = 0 ∨ rv19 = 1
          · replace h := (if_pos cv20).symm.trans h
            obtain ⟨er, eg⟩ := kr _ _ (Option.some.inj h).symm
            exact v_zret X dX6_readWinds_28 (nb cv20) er eg
          · replace h := (if_neg cv20).symm.trans h
            cases h
set_option maxRecDepth 100000 in
set_option maxHeartbeats 4000000 in
theorem c_X6_readWinds (l : Launch) (D : va_G) (ad : Ky → Nat) (cy : Nat → ClassId) (hI : Inj ad) (N : Nat) (r1 : Nat) (g : GS) (r : Int32) (gq : GS) (hr1 : r1 < 28) (h : F_X6_readWinds N r1 g = some (r, gq)) : CtI l D ad cy yX6_readWinds cX6_readWinds 4 (some .boolean) 3 [.ref (ad (6, 0, 0)), .ref (ad (4, r1, 0))] g r gq := by
  refine CtI.of 2 hI (by decide +kernel) rfl (Nat.le_of_ble_eq_true rfl) (fun p e s m args below meth c X => ?_)
  unfold F_X6_readWinds at h
  show Vy _ _ _ _ _ _ _ _ _ _ _ _ _ _ _ 0 [some (.ref (ad (6, 0, 0))), some (.ref (ad (4, r1, 0))), none, none] [] g
  refine v_iconst (v := 0) X dX6_readWinds_0 (by decide) ?_
  refine v_istoren (lc' := [some (.ref (ad (6, 0, 0))), some (.ref (ad (4, r1, 0))), some (.int (0 : Int32)), none]) X dX6_readWinds_1 rfl (by decide) rfl rfl ?_
  obtain ⟨zv26, qv23, h⟩ := bs2_some h
  refine w_X6_readWinds_2 X r1 (by omega) N (0 : Int32) g _ qv23 ?_ ?_
  · intro rv24 gv25 e1
    subst e1
    dsimp only at h
    cases h
    exact ⟨rfl, rfl⟩
  · intro xv21 gv22 e1
    subst e1
    dsimp only at h
    refine v_iconst (v := 1) X dX6_readWinds_83 (by decide) ?_
    obtain ⟨er, eg⟩ := Prod.mk.inj (Option.some.inj h)
    exact v_zret X dX6_readWinds_84 rfl er eg
def F_X6_takeEnd (N : Nat) (g : GS) : Option (Int32 × GS) := bd2 (F_X6_next N  g) (fun rv3 gv2 => if rv3 = (-1 : Int32) then some ((1 : Int32), gv2) else bd2 (F_X6_hasFault N (1 : Int32) gv2) (fun rv7 gv6 => if rv7 = 0 then some ((0 : Int32), gv6) else some ((1 : Int32), gv6)))
set_option maxRecDepth 100000 in
set_option maxHeartbeats 4000000 in
theorem c_X6_takeEnd (l : Launch) (D : va_G) (ad : Ky → Nat) (cy : Nat → ClassId) (hI : Inj ad) (N : Nat) (g : GS) (r : Int32) (gq : GS) (h : F_X6_takeEnd N  g = some (r, gq)) : CtI l D ad cy yX6_takeEnd cX6_takeEnd 1 (some .boolean) 2 [.ref (ad (6, 0, 0))] g r gq := by
  refine CtI.of 0 hI (by decide +kernel) rfl (Nat.le_of_ble_eq_true rfl) (fun p e s m args below meth c X => ?_)
  unfold F_X6_takeEnd at h
  show Vy _ _ _ _ _ _ _ _ _ _ _ _ _ _ _ 0 [some (.ref (ad (6, 0, 0)))] [] g
  refine v_aloadn X dX6_takeEnd_0 rfl rfl ?_
  obtain ⟨rv3, gv2, qv1, h⟩ := bd2_some h
  refine v_callVI (As := []) (rest := []) X (c_X6_next l D ad cy X.2.2.2.2.2.2.2.2.1 N  g rv3 gv2  qv1) mw_X6_next ml_X6_64 (by decide) (by decide +kernel) (by decide) rfl rfl rfl rfl (Nat.le_of_ble_eq_true rfl) dX6_takeEnd_1 ?_
  refine v_iconst (v := -1) X dX6_takeEnd_4 (by decide) ?_
  refine v_icmp_eq X 16 dX6_takeEnd_5 (by decide) (fun cv4 => ?_) (fun cv4 => ?_)
  · replace h := (if_pos cv4).symm.trans h
    refine v_iconst (v := 1) X dX6_takeEnd_16 (by decide) ?_
    refine v_goto X 21 dX6_takeEnd_17 (by decide) ?_
    obtain ⟨er, eg⟩ := Prod.mk.inj (Option.some.inj h)
    exact v_zret X dX6_takeEnd_21 rfl er eg
  · replace h := (if_neg cv4).symm.trans h
    refine v_aloadn X dX6_takeEnd_8 rfl rfl ?_
    refine v_iconst (v := 1) X dX6_takeEnd_9 (by decide) ?_
    obtain ⟨rv7, gv6, qv5, h⟩ := bd2_some h
    refine v_callVI (As := [.int (1 : Int32)]) (rest := []) X (c_X6_hasFault l D ad cy X.2.2.2.2.2.2.2.2.1 N (1 : Int32) gv2 rv7 gv6  qv5) mw_X6_hasFault ml_X6_68 (by decide) (by decide +kernel) (by decide) rfl rfl rfl rfl (Nat.le_of_ble_eq_true rfl) dX6_takeEnd_10 ?_
    refine v_if_eq X 20 dX6_takeEnd_13 (by decide) (fun cv8 => ?_) (fun cv8 => ?_)
    · replace h := (if_pos cv8).symm.trans h
      refine v_iconst (v := 0) X dX6_takeEnd_20 (by decide) ?_
      obtain ⟨er, eg⟩ := Prod.mk.inj (Option.some.inj h)
      exact v_zret X dX6_takeEnd_21 rfl er eg
    · replace h := (if_neg cv8).symm.trans h
      refine v_iconst (v := 1) X dX6_takeEnd_16 (by decide) ?_
      refine v_goto X 21 dX6_takeEnd_17 (by decide) ?_
      obtain ⟨er, eg⟩ := Prod.mk.inj (Option.some.inj h)
      exact v_zret X dX6_takeEnd_21 rfl er eg
def F_X6_readInto (N : Nat) (r1 : Nat) (g : GS) : Option (Int32 × GS) := bd2 (F_X6_readLaw N r1 (g3 (g3 (g3 (g3 (g3 g 3 0 1 (0 : Int32)) 3 0 2 (0 : Int32)) 0 r1 2 (0 : Int32)) 0 r1 3 (0 : Int32)) 0 r1 4 (0 : Int32))) (fun rv3 gv2 => if rv3 = 0 then some ((0 : Int32), gv2) else bd2 (F_X6_readWinds N r1 gv2) (fun rv7 gv6 => if rv7 = 0 then some ((0 : Int32), gv6) else bd2 (F_X6_readPapers N r1 gv6) (fun rv11 gv10 => if rv11 = 0 then some ((0 : Int32), gv10) else bd2 (F_X6_takeEnd N  gv10) (fun rv15 gv14 => if rv15 = 0 then some ((0 : Int32), gv14) else some ((1 : Int32), gv14)))))
set_option maxRecDepth 100000 in
set_option maxHeartbeats 4000000 in
theorem c_X6_readInto (l : Launch) (D : va_G) (ad : Ky → Nat) (cy : Nat → ClassId) (hI : Inj ad) (N : Nat) (r1 : Nat) (g : GS) (r : Int32) (gq : GS) (hr1 : r1 < 28) (h : F_X6_readInto N r1 g = some (r, gq)) : CtI l D ad cy yX6_readInto cX6_readInto 2 (some .boolean) 5 [.ref (ad (6, 0, 0)), .ref (ad (4, r1, 0))] g r gq := by
  refine CtI.of 0 hI (by decide +kernel) rfl (Nat.le_of_ble_eq_true rfl) (fun p e s m args below meth c X => ?_)
  unfold F_X6_readInto at h
  show Vy _ _ _ _ _ _ _ _ _ _ _ _ _ _ _ 0 [some (.ref (ad (6, 0, 0))), some (.ref (ad (4, r1, 0)))] [] g
  refine v_aloadn X dX6_readInto_0 rfl rfl ?_
  refine v_iconst (v := 0) X dX6_readInto_1 (by decide) ?_
  refine pf_X6_19 X dX6_readInto_2 ?_
  refine v_aloadn X dX6_readInto_5 rfl rfl ?_
  refine v_iconst (v := 0) X dX6_readInto_6 (by decide) ?_
  refine pf_X6_22 X dX6_readInto_7 ?_
  refine v_aloadn X dX6_readInto_10 rfl rfl ?_
  refine v_iconst (v := 0) X dX6_readInto_11 (by decide) ?_
  refine pf_X6_25 X (k_roof (by omega)) dX6_readInto_12 ?_
  refine v_aloadn X dX6_readInto_15 rfl rfl ?_
  refine v_iconst (v := 0) X dX6_readInto_16 (by decide) ?_
  refine pf_X6_30 X (k_roof (by omega)) dX6_readInto_17 ?_
  refine v_aloadn X dX6_readInto_20 rfl rfl ?_
  refine v_iconst (v := 0) X dX6_readInto_21 (by decide) ?_
  refine pf_X6_33 X (k_roof (by omega)) dX6_readInto_22 ?_
  refine v_aloadn X dX6_readInto_25 rfl rfl ?_
  refine v_aloadn X dX6_readInto_26 rfl rfl ?_
  obtain ⟨rv3, gv2, qv1, h⟩ := bd2_some h
  refine v_callVI (As := [.ref (ad (4, r1, 0))]) (rest := []) X (c_X6_readLaw l D ad cy X.2.2.2.2.2.2.2.2.1 N r1 (g3 (g3 (g3 (g3 (g3 g 3 0 1 (0 : Int32)) 3 0 2 (0 : Int32)) 0 r1 2 (0 : Int32)) 0 r1 3 (0 : Int32)) 0 r1 4 (0 : Int32)) rv3 gv2 (by omega) qv1) mw_X6_readLaw ml_X6_36 (by decide) (by decide +kernel) (by decide) rfl rfl rfl rfl (Nat.le_of_ble_eq_true rfl) dX6_readInto_27 ?_
  refine v_if_eq X 60 dX6_readInto_30 (by decide) (fun cv4 => ?_) (fun cv4 => ?_)
  · replace h := (if_pos cv4).symm.trans h
    refine v_iconst (v := 0) X dX6_readInto_60 (by decide) ?_
    obtain ⟨er, eg⟩ := Prod.mk.inj (Option.some.inj h)
    exact v_zret X dX6_readInto_61 rfl er eg
  · replace h := (if_neg cv4).symm.trans h
    refine v_aloadn X dX6_readInto_33 rfl rfl ?_
    refine v_aloadn X dX6_readInto_34 rfl rfl ?_
    obtain ⟨rv7, gv6, qv5, h⟩ := bd2_some h
    refine v_callVI (As := [.ref (ad (4, r1, 0))]) (rest := []) X (c_X6_readWinds l D ad cy X.2.2.2.2.2.2.2.2.1 N r1 gv2 rv7 gv6 (by omega) qv5) mw_X6_readWinds ml_X6_40 (by decide) (by decide +kernel) (by decide) rfl rfl rfl rfl (Nat.le_of_ble_eq_true rfl) dX6_readInto_35 ?_
    refine v_if_eq X 60 dX6_readInto_38 (by decide) (fun cv8 => ?_) (fun cv8 => ?_)
    · replace h := (if_pos cv8).symm.trans h
      refine v_iconst (v := 0) X dX6_readInto_60 (by decide) ?_
      obtain ⟨er, eg⟩ := Prod.mk.inj (Option.some.inj h)
      exact v_zret X dX6_readInto_61 rfl er eg
    · replace h := (if_neg cv8).symm.trans h
      refine v_aloadn X dX6_readInto_41 rfl rfl ?_
      refine v_aloadn X dX6_readInto_42 rfl rfl ?_
      obtain ⟨rv11, gv10, qv9, h⟩ := bd2_some h
      refine v_callVI (As := [.ref (ad (4, r1, 0))]) (rest := []) X (c_X6_readPapers l D ad cy X.2.2.2.2.2.2.2.2.1 N r1 gv6 rv11 gv10 (by omega) qv9) mw_X6_readPapers ml_X6_43 (by decide) (by decide +kernel) (by decide) rfl rfl rfl rfl (Nat.le_of_ble_eq_true rfl) dX6_readInto_43 ?_
      refine v_if_eq X 60 dX6_readInto_46 (by decide) (fun cv12 => ?_) (fun cv12 => ?_)
      · replace h := (if_pos cv12).symm.trans h
        refine v_iconst (v := 0) X dX6_readInto_60 (by decide) ?_
        obtain ⟨er, eg⟩ := Prod.mk.inj (Option.some.inj h)
        exact v_zret X dX6_readInto_61 rfl er eg
      · replace h := (if_neg cv12).symm.trans h
        refine v_aloadn X dX6_readInto_49 rfl rfl ?_
        obtain ⟨rv15, gv14, qv13, h⟩ := bd2_some h
        refine v_callVI (As := []) (rest := []) X (c_X6_takeEnd l D ad cy X.2.2.2.2.2.2.2.2.1 N  gv10 rv15 gv14  qv13) mw_X6_takeEnd ml_X6_46 (by decide) (by decide +kernel) (by decide) rfl rfl rfl rfl (Nat.le_of_ble_eq_true rfl) dX6_readInto_50 ?_
        refine v_if_eq X 60 dX6_readInto_53 (by decide) (fun cv16 => ?_) (fun cv16 => ?_)
        · replace h := (if_pos cv16).symm.trans h
          refine v_iconst (v := 0) X dX6_readInto_60 (by decide) ?_
          obtain ⟨er, eg⟩ := Prod.mk.inj (Option.some.inj h)
          exact v_zret X dX6_readInto_61 rfl er eg
        · replace h := (if_neg cv16).symm.trans h
          refine v_iconst (v := 1) X dX6_readInto_56 (by decide) ?_
          refine v_goto X 61 dX6_readInto_57 (by decide) ?_
          obtain ⟨er, eg⟩ := Prod.mk.inj (Option.some.inj h)
          exact v_zret X dX6_readInto_61 rfl er eg
