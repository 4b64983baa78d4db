def L_X7_power_5 (N : Nat) (z0 : Int64) (z2 : Int32) : Nat → Int64 → Int32 → GS → Option (Int64 × Int32 × GS)
  | 0, _, _, _ => none
  | n + 1, y3, y5, g => if z2 ≤ y5 then some (y3, y5, g) else L_X7_power_5 N z0 z2 n (y3 * z0) (y5 + 1) g
def F_X7_power (N : Nat) (x0 : Int64) (x2 : Int32) (g : GS) : Option (Int64 × GS) := bd3 (L_X7_power_5 N x0 x2 N (1 : Int64) (0 : Int32) g) (fun xv2 xv3 gv4 => some (xv2, gv4))
set_option maxRecDepth 100000 in
set_option maxHeartbeats 4000000 in
theorem w_X7_power_5 {p : Program} {l : Launch} {e : Env} {s : State} {m : MethodId} {args : Array Value} {below : List Frame} {meth : Method} {c : Code} {D : va_G} {ad : Ky → Nat} {cy : Nat → ClassId} {r : Int64} {gq : GS} {N : Nat} (X : Cx p (rmd 0) s m args meth c RX7 cX7_power 6 (some .long) D ad cy) (z0 : Int64) (z2 : Int32) : ∀ (n : Nat) (y3 : Int64) (y5 : Int32) (g : GS) (y3' : Int64) (y5' : Int32) (g' : GS), L_X7_power_5 N z0 z2 n y3 y5 g = some (y3', y5', g') → Vy p l e (rmd 0) s m args below meth c 6 D ad cy (QL D ad cy below args s r gq) 21 [some (.long z0), none, some (.int z2), some (.long y3'), none, some (.int y5')] [] g' → Vy p l e (rmd 0) s m args below meth c 6 D ad cy (QL D ad cy below args s r gq) 5 [some (.long z0), none, some (.int z2), some (.long y3), none, some (.int y5)] [] g := by
  intro n
  induction n with
  | zero => intro y3 y5 g y3' y5' g' h k; cases h
  | succ n ih =>
    intro y3 y5 g y3' y5' g' h k
    rw [L_X7_power_5] at h
    refine v_iload X dX7_power_5 rfl ?_
    refine v_iloadn X dX7_power_7 rfl rfl ?_
    refine v_icmp_ge X 21 dX7_power_8 (by decide) (fun cv1 => ?_) (fun cv1 => ?_)
    · replace h := (if_pos cv1).symm.trans h
      cases h
      exact k
    · replace h := (if_neg cv1).symm.trans h
      refine v_lloadn X dX7_power_11 rfl rfl ?_
      refine v_lloadn X dX7_power_12 rfl rfl ?_
      refine v_lmul X dX7_power_13 ?_
      refine v_lstoren (lc' := [some (.long z0), none, some (.int z2), some (.long (y3 * z0)), none, some (.int y5)]) X dX7_power_14 rfl (by decide) rfl rfl ?_
      refine v_iinc (v := (y5 + 1)) (lc' := [some (.long z0), none, some (.int z2), some (.long (y3 * z0)), none, some (.int (y5 + 1))]) X dX7_power_15 rfl rfl (by decide) rfl rfl ?_
      refine v_goto X 5 dX7_power_18 (by decide) ?_
      exact ih (y3 * z0) (y5 + 1) g _ _ _ h k
set_option maxRecDepth 100000 in
set_option maxHeartbeats 4000000 in
theorem c_X7_power (l : Launch) (D : va_G) (ad : Ky → Nat) (cy : Nat → ClassId) (hI : Inj ad) (N : Nat) (x0 : Int64) (x2 : Int32) (g : GS) (r : Int64) (gq : GS) (h : F_X7_power N x0 x2 g = some (r, gq)) : CtL l D ad cy yX7_power cX7_power 6 0 [.long x0, .int x2] g r gq := by
  refine CtL.of 3 hI (by decide +kernel) rfl (Nat.le_of_ble_eq_true rfl) (fun p e s m args below meth c X => ?_)
  unfold F_X7_power at h
  show Vy _ _ _ _ _ _ _ _ _ _ _ _ _ _ _ 0 [some (.long x0), none, some (.int x2), none, none, none] [] g
  refine v_lconst (v := 1) X dX7_power_0 (by decide) ?_
  refine v_lstoren (lc' := [some (.long x0), none, some (.int x2), some (.long (1 : Int64)), none, none]) X dX7_power_1 rfl (by decide) rfl rfl ?_
  refine v_iconst (v := 0) X dX7_power_2 (by decide) ?_
  refine v_istore (lc' := [some (.long x0), none, some (.int x2), some (.long (1 : Int64)), none, some (.int (0 : Int32))]) X dX7_power_3 (by decide) rfl rfl ?_
  obtain ⟨xv2, xv3, gv4, qv5, h⟩ := bd3_some h
  refine w_X7_power_5 X x0 x2 N (1 : Int64) (0 : Int32) g xv2 xv3 gv4 qv5 ?_
  refine v_lloadn X dX7_power_21 rfl rfl ?_
  obtain ⟨er, eg⟩ := Prod.mk.inj (Option.some.inj h)
  exact v_lret X dX7_power_22 er eg
def F_X2_lettingAt (N : Nat) (x0 : Int32) (x1 : Int32) (x2 : Int32) (g : GS) : Option (Int32 × GS) := some (((x0 >>> (((2 : Int32) * ((x1 - (1 : Int32)) - x2)) &&& 31)) &&& (3 : Int32)), g)
set_option maxRecDepth 100000 in
set_option maxHeartbeats 4000000 in
theorem c_X2_lettingAt (l : Launch) (D : va_G) (ad : Ky → Nat) (cy : Nat → ClassId) (hI : Inj ad) (N : Nat) (x0 : Int32) (x1 : Int32) (x2 : Int32) (g : GS) (r : Int32) (gq : GS) (h : F_X2_lettingAt N x0 x1 x2 g = some (r, gq)) : CtI l D ad cy yX2_lettingAt cX2_lettingAt 3 (some .int) 0 [.int x0, .int x1, .int x2] g r gq := by
  refine CtI.of 0 hI (by decide +kernel) rfl (Nat.le_of_ble_eq_true rfl) (fun p e s m args below meth c X => ?_)
  unfold F_X2_lettingAt at h
  show Vy _ _ _ _ _ _ _ _ _ _ _ _ _ _ _ 0 [some (.int x0), some (.int x1), some (.int x2)] [] g
  refine v_iloadn X dX2_lettingAt_0 rfl rfl ?_
  refine v_iconst (v := 2) X dX2_lettingAt_1 (by decide) ?_
  refine v_iloadn X dX2_lettingAt_2 rfl rfl ?_
  refine v_iconst (v := 1) X dX2_lettingAt_3 (by decide) ?_
  refine v_isub X dX2_lettingAt_4 ?_
  refine v_iloadn X dX2_lettingAt_5 rfl rfl ?_
  refine v_isub X dX2_lettingAt_6 ?_
  refine v_imul X dX2_lettingAt_7 ?_
  refine v_ishr X dX2_lettingAt_8 ?_
  refine v_iconst (v := 3) X dX2_lettingAt_9 (by decide) ?_
  refine v_iand X dX2_lettingAt_10 ?_
  obtain ⟨er, eg⟩ := Prod.mk.inj (Option.some.inj h)
  exact v_iret X dX2_lettingAt_11 er eg
def F_X2_yardsOf (N : Nat) (x0 : Int32) (g : GS) : Option (Int32 × GS) := if x0 = (3 : Int32) then some ((-5 : Int32), g) else some (((5 : Int32) * x0), g)
set_option maxRecDepth 100000 in
set_option maxHeartbeats 4000000 in
theorem c_X2_yardsOf (l : Launch) (D : va_G) (ad : Ky → Nat) (cy : Nat → ClassId) (hI : Inj ad) (N : Nat) (x0 : Int32) (g : GS) (r : Int32) (gq : GS) (h : F_X2_yardsOf N x0 g = some (r, gq)) : CtI l D ad cy yX2_yardsOf cX2_yardsOf 1 (some .int) 0 [.int x0] g r gq := by
  refine CtI.of 0 hI (by decide +kernel) rfl (Nat.le_of_ble_eq_true rfl) (fun p e s m args below meth c X => ?_)
  unfold F_X2_yardsOf at h
  show Vy _ _ _ _ _ _ _ _ _ _ _ _ _ _ _ 0 [some (.int x0)] [] g
  refine v_iloadn X dX2_yardsOf_0 rfl rfl ?_
  refine v_iconst (v := 3) X dX2_yardsOf_1 (by decide) ?_
  refine v_icmp_ne X 10 dX2_yardsOf_2 (by decide) (fun cv1 => ?_) (fun cv1 => ?_)
  · replace h := (if_neg cv1).symm.trans h
    refine v_iconst (v := 5) X dX2_yardsOf_10 (by decide) ?_
    refine v_iloadn X dX2_yardsOf_11 rfl rfl ?_
    refine v_imul X dX2_yardsOf_12 ?_
    obtain ⟨er, eg⟩ := Prod.mk.inj (Option.some.inj h)
    exact v_iret X dX2_yardsOf_13 er eg
  · replace h := (if_pos cv1).symm.trans h
    refine v_bipush (v := -5) X dX2_yardsOf_5 (by decide) ?_
    refine v_goto X 13 dX2_yardsOf_7 (by decide) ?_
    obtain ⟨er, eg⟩ := Prod.mk.inj (Option.some.inj h)
    exact v_iret X dX2_yardsOf_13 er eg
def L_X2_highBy_25 (N : Nat) (z1 : Int32) (z2 : Int32) (z3 : Int32) (w4_1 : Nat) : Nat → Int32 → GS → Option (Int32 × GS)
  | 0, _, _ => none
  | n + 1, y5, g => if z3 ≤ y5 then some (y5, g) else bd2 (F_X3_isUp N 1 w4_1 g) (fun rv8 gv7 => if rv8 = 0 then some (y5, gv7) else bd2 (F_X2_lettingAt N z1 z3 y5 gv7) (fun rv12 gv11 => bd2 (F_X2_yardsOf N rv12 gv11) (fun rv15 gv14 => bd1 (F_X3_letOutBy N 1 w4_1 rv15 gv14) (fun gv17 => bd2 (F_X4_forceAfter N 1 (0 : Int32) gv17) (fun rv20 gv19 => bd1 (F_X4_passHourIn N 1 rv20 gv19) (fun gv22 => L_X2_highBy_25 N z1 z2 z3 w4_1 n (y5 + 1) gv22))))))
def F_X2_highBy (N : Nat) (x1 : Int32) (x2 : Int32) (x3 : Int32) (g : GS) : Option (Int32 × GS) := bd1 (F_X4_become N 1 0 g) (fun gv2 => bd1 (ix x2 6) (fun jv3 => bd2 (L_X2_highBy_25 N x1 x2 x3 jv3 N (0 : Int32) gv2) (fun xv23 gv24 => bd2 (F_X3_isUp N 1 jv3 gv24) (fun rv28 gv27 => if rv28 = 0 then some ((-1 : Int32), gv27) else some ((gv27 13 1 (7 * jv3 + 4)), gv27)))))
set_option maxRecDepth 100000 in
set_option maxHeartbeats 4000000 in
theorem w_X2_highBy_25 {p : Program} {l : Launch} {e : Env} {s : State} {m : MethodId} {args : Array Value} {below : List Frame} {meth : Method} {c : Code} {D : va_G} {ad : Ky → Nat} {cy : Nat → ClassId} {r : Int32} {gq : GS} {N : Nat} (X : Cx p (rmd 3) s m args meth c RX2 cX2_highBy 6 (some .int) D ad cy) (z1 : Int32) (z2 : Int32) (z3 : Int32) (w4_1 : Nat) (hh0 : 1 < 28) (hh1 : w4_1 < 6) : ∀ (n : Nat) (y5 : Int32) (g : GS) (y5' : Int32) (g' : GS), L_X2_highBy_25 N z1 z2 z3 w4_1 n y5 g = some (y5', g') → Vy p l e (rmd 3) s m args below meth c 6 D ad cy (QI D ad cy below args s r gq) 75 [some (.ref (ad (2, 0, 0))), some (.int z1), some (.int z2), some (.int z3), some (.ref (ad (3, 1, w4_1))), some (.int y5')] [] g' → Vy p l e (rmd 3) s m args below meth c 6 D ad cy (QI D ad cy below args s r gq) 25 [some (.ref (ad (2, 0, 0))), some (.int z1), some (.int z2), some (.int z3), some (.ref (ad (3, 1, w4_1))), some (.int y5)] [] g := by
  intro n
  induction n with
  | zero => intro y5 g y5' g' h k; cases h
  | succ n ih =>
    intro y5 g y5' g' h k
    rw [L_X2_highBy_25] at h
    refine v_iload X dX2_highBy_25 rfl ?_
    refine v_iloadn X dX2_highBy_27 rfl rfl ?_
    refine v_icmp_ge X 75 dX2_highBy_28 (by decide) (fun cv5 => ?_) (fun cv5 => ?_)
    · replace h := (if_pos cv5).symm.trans h
      cases h
      exact k
    · replace h := (if_neg cv5).symm.trans h
      refine v_aload X dX2_highBy_31 rfl ?_
      obtain ⟨rv8, gv7, qv6, h⟩ := bd2_some h
      refine v_callVI (As := []) (rest := []) X (c_X3_isUp l D ad cy X.2.2.2.2.2.2.2.2.1 N 1 w4_1 g rv8 gv7 (by omega) (by omega) qv6) mw_X3_isUp ml_X2_99 (by decide) (k_paper (by omega) (by omega)) (by decide) rfl rfl rfl rfl (Nat.le_of_ble_eq_true rfl) dX2_highBy_33 ?_
      refine v_if_eq X 75 dX2_highBy_36 (by decide) (fun cv9 => ?_) (fun cv9 => ?_)
      · replace h := (if_pos cv9).symm.trans h
        cases h
        exact k
      · replace h := (if_neg cv9).symm.trans h
        refine v_aload X dX2_highBy_39 rfl ?_
        refine v_iloadn X dX2_highBy_41 rfl rfl ?_
        refine v_iloadn X dX2_highBy_42 rfl rfl ?_
        refine v_iload X dX2_highBy_43 rfl ?_
        obtain ⟨rv12, gv11, qv10, h⟩ := bd2_some h
        refine v_callSI (As := [.int z1, .int z3, .int y5]) (rest := [.ref (ad (3, 1, w4_1))]) X (c_X2_lettingAt l D ad cy X.2.2.2.2.2.2.2.2.1 N z1 z3 y5 gv7 rv12 gv11  qv10) mw_X2_lettingAt ml_X2_96 (by decide) rfl rfl (Nat.le_of_ble_eq_true rfl) dX2_highBy_45 ?_
        obtain ⟨rv15, gv14, qv13, h⟩ := bd2_some h
        refine v_callSI (As := [.int rv12]) (rest := [.ref (ad (3, 1, w4_1))]) X (c_X2_yardsOf l D ad cy X.2.2.2.2.2.2.2.2.1 N rv12 gv11 rv15 gv14  qv13) mw_X2_yardsOf ml_X2_103 (by decide) rfl rfl (Nat.le_of_ble_eq_true rfl) dX2_highBy_48 ?_
        obtain ⟨gv17, qv16, h⟩ := bd1_some h
        refine v_callVV (As := [.int rv15]) (rest := []) X (c_X3_letOutBy l D ad cy X.2.2.2.2.2.2.2.2.1 N 1 w4_1 rv15 gv14 gv17 (by omega) (by omega) qv16) mw_X3_letOutBy ml_X2_106 (by decide) (k_paper (by omega) (by omega)) (by decide) rfl rfl rfl rfl (Nat.le_of_ble_eq_true rfl) dX2_highBy_51 ?_
        refine v_aloadn X dX2_highBy_54 rfl rfl ?_
        refine gf_X2_18 X dX2_highBy_55 ?_
        refine v_aloadn X dX2_highBy_58 rfl rfl ?_
        refine gf_X2_18 X dX2_highBy_59 ?_
        refine v_iconst (v := 0) X dX2_highBy_62 (by decide) ?_
        obtain ⟨rv20, gv19, qv18, h⟩ := bd2_some h
        refine v_callVI (As := [.int (0 : Int32)]) (rest := [.ref (ad (4, 1, 0))]) X (c_X4_forceAfter l D ad cy X.2.2.2.2.2.2.2.2.1 N 1 (0 : Int32) gv17 rv20 gv19 (by omega) qv18) mw_X4_forceAfter ml_X2_56 (by decide) (k_roof (by omega)) (by decide) rfl rfl rfl rfl (Nat.le_of_ble_eq_true rfl) dX2_highBy_63 ?_
        obtain ⟨gv22, qv21, h⟩ := bd1_some h
        refine v_callVV (As := [.int rv20]) (rest := []) X (c_X4_passHourIn l D ad cy X.2.2.2.2.2.2.2.2.1 N 1 rv20 gv19 gv22 (by omega) qv21) mw_X4_passHourIn ml_X2_60 (by decide) (k_roof (by omega)) (by decide) rfl rfl rfl rfl (Nat.le_of_ble_eq_true rfl) dX2_highBy_66 ?_
        refine v_iinc (v := (y5 + 1)) (lc' := [some (.ref (ad (2, 0, 0))), some (.int z1), some (.int z2), some (.int z3), some (.ref (ad (3, 1, w4_1))), some (.int (y5 + 1))]) X dX2_highBy_69 rfl rfl (by decide) rfl rfl ?_
        refine v_goto X 25 dX2_highBy_72 (by decide) ?_
        exact ih (y5 + 1) gv22 _ _ h k
set_option maxRecDepth 100000 in
set_option maxHeartbeats 4000000 in
theorem c_X2_highBy (l : Launch) (D : va_G) (ad : Ky → Nat) (cy : Nat → ClassId) (hI : Inj ad) (N : Nat) (x1 : Int32) (x2 : Int32) (x3 : Int32) (g : GS) (r : Int32) (gq : GS) (h : F_X2_highBy N x1 x2 x3 g = some (r, gq)) : CtI l D ad cy yX2_highBy cX2_highBy 6 (some .int) 3 [.ref (ad (2, 0, 0)), .int x1, .int x2, .int x3] g r gq := by
  refine CtI.of 2 hI (by decide +kernel) rfl (Nat.le_of_ble_eq_true rfl) (fun p e s m args below meth c X => ?_)
  unfold F_X2_highBy at h
  show Vy _ _ _ _ _ _ _ _ _ _ _ _ _ _ _ 0 [some (.ref (ad (2, 0, 0))), some (.int x1), some (.int x2), some (.int x3), none, none] [] g
  refine v_aloadn X dX2_highBy_0 rfl rfl ?_
  refine gf_X2_18 X dX2_highBy_1 ?_
  refine v_aloadn X dX2_highBy_4 rfl rfl ?_
  refine gf_X2_12 X dX2_highBy_5 ?_
  obtain ⟨gv2, qv1, h⟩ := bd1_some h
  refine v_callVV (As := [.ref (ad (4, 0, 0))]) (rest := []) X (c_X4_become l D ad cy X.2.2.2.2.2.2.2.2.1 N 1 0 g gv2 (by omega) (by omega) qv1) mw_X4_become ml_X2_48 (by decide) (k_roof (by omega)) (by decide) rfl rfl rfl rfl (Nat.le_of_ble_eq_true rfl) dX2_highBy_8 ?_
  refine v_aloadn X dX2_highBy_11 rfl rfl ?_
  refine gf_X2_18 X dX2_highBy_12 ?_
  refine gf_X2_63 X (k_roof (by omega)) dX2_highBy_15 ?_
  refine v_iloadn X dX2_highBy_18 rfl rfl ?_
  obtain ⟨jv3, qv4, h⟩ := bd1_some h
  obtain ⟨ejv3, ljv3⟩ := ix_spec qv4
  refine aaP X (k_papers (by omega)) jv3 ejv3 ljv3 dX2_highBy_19 ?_
  refine v_astore (lc' := [some (.ref (ad (2, 0, 0))), some (.int x1), some (.int x2), some (.int x3), some (.ref (ad (3, 1, jv3))), none]) X dX2_highBy_20 (by decide) rfl rfl ?_
  refine v_iconst (v := 0) X dX2_highBy_22 (by decide) ?_
  refine v_istore (lc' := [some (.ref (ad (2, 0, 0))), some (.int x1), some (.int x2), some (.int x3), some (.ref (ad (3, 1, jv3))), some (.int (0 : Int32))]) X dX2_highBy_23 (by decide) rfl rfl ?_
  obtain ⟨xv23, gv24, qv25, h⟩ := bd2_some h
  refine w_X2_highBy_25 X x1 x2 x3 jv3 (by omega) (by omega) N (0 : Int32) gv2 xv23 gv24 qv25 ?_
  refine v_aload X dX2_highBy_75 rfl ?_
  obtain ⟨rv28, gv27, qv26, h⟩ := bd2_some h
  refine v_callVI (As := []) (rest := []) X (c_X3_isUp l D ad cy X.2.2.2.2.2.2.2.2.1 N 1 jv3 gv24 rv28 gv27 (by omega) (by omega) qv26) mw_X3_isUp ml_X2_99 (by decide) (k_paper (by omega) (by omega)) (by decide) rfl rfl rfl rfl (Nat.le_of_ble_eq_true rfl) dX2_highBy_77 ?_
  refine v_if_eq X 91 dX2_highBy_80 (by decide) (fun cv29 => ?_) (fun cv29 => ?_)
  · replace h := (if_pos cv29).symm.trans h
    refine v_iconst (v := -1) X dX2_highBy_91 (by decide) ?_
    obtain ⟨er, eg⟩ := Prod.mk.inj (Option.some.inj h)
    exact v_iret X dX2_highBy_92 er eg
  · replace h := (if_neg cv29).symm.trans h
    refine v_aload X dX2_highBy_83 rfl ?_
    refine gf_X2_109 X (k_paper (by omega) (by omega)) dX2_highBy_85 ?_
    refine v_goto X 92 dX2_highBy_88 (by decide) ?_
    obtain ⟨er, eg⟩ := Prod.mk.inj (Option.some.inj h)
    exact v_iret X dX2_highBy_92 er eg
def L_X2_bestLetting_16 (N : Nat) (z1 : Int32) (z2 : Int32) (z3 : Int32) (z4 : Int32) : Nat → Int32 → Int32 → Int32 → GS → Option (Int32 × Int32 × Int32 × GS)
  | 0, _, _, _, _ => none
  | n + 1, y5, y6, y7, g => if z4 ≤ y7 then some (y5, y6, y7, g) else bd2 (F_X2_highBy N y7 z1 z2 g) (fun rv4 gv3 => if rv4 ≤ y6 then L_X2_bestLetting_16 N z1 z2 z3 z4 n y5 y6 (y7 + 1) gv3 else L_X2_bestLetting_16 N z1 z2 z3 z4 n y7 rv4 (y7 + 1) gv3)
def F_X2_bestLetting (N : Nat) (x1 : Int32) (x2 : Int32) (x3 : Int32) (g : GS) : Option (Int32 × GS) := bd4 (L_X2_bestLetting_16 N x1 x2 x3 ((1 : Int32) <<< (((2 : Int32) * x2) &&& 31)) N (0 : Int32) (-1 : Int32) (0 : Int32) g) (fun xv6 xv7 xv8 gv9 => if xv7 < 0 then some ((-1000000 : Int32), gv9) else if x3 < x2 then if 0 ≤ x3 then bd2 (F_X2_lettingAt N xv6 x2 x3 gv9) (fun rv16 gv15 => some (rv16, gv15)) else some (xv7, gv9) else some ((-1000000 : Int32), gv9))
set_option maxRecDepth 100000 in
set_option maxHeartbeats 4000000 in
theorem w_X2_bestLetting_16 {p : Program} {l : Launch} {e : Env} {s : State} {m : MethodId} {args : Array Value} {below : List Frame} {meth : Method} {c : Code} {D : va_G} {ad : Ky → Nat} {cy : Nat → ClassId} {r : Int32} {gq : GS} {N : Nat} (X : Cx p (rmd 4) s m args meth c RX2 cX2_bestLetting 9 (some .int) D ad cy) (z1 : Int32) (z2 : Int32) (z3 : Int32) (z4 : Int32) : ∀ (n : Nat) (y5 : Int32) (y6 : Int32) (y7 : Int32) (g : GS) (y5' : Int32) (y6' : Int32) (y7' : Int32) (g' : GS), L_X2_bestLetting_16 N z1 z2 z3 z4 n y5 y6 y7 g = some (y5', y6', y7', g') → Vy p l e (rmd 4) s m args below meth c 9 D ad cy (QI D ad cy below args s r gq) 54 [some (.ref (ad (2, 0, 0))), some (.int z1), some (.int z2), some (.int z3), some (.int z4), some (.int y5'), some (.int y6'), some (.int y7'), none] [] g' → Vy p l e (rmd 4) s m args below meth c 9 D ad cy (QI D ad cy below args s r gq) 16 [some (.ref (ad (2, 0, 0))), some (.int z1), some (.int z2), some (.int z3), some (.int z4), some (.int y5), some (.int y6), some (.int y7), none] [] g := by
  intro n
  induction n with
  | zero => intro y5 y6 y7 g y5' y6' y7' g' h k; cases h
  | succ n ih =>
    intro y5 y6 y7 g y5' y6' y7' g' h k
    rw [L_X2_bestLetting_16] at h
    refine v_iload X dX2_bestLetting_16 rfl ?_
    refine v_iload X dX2_bestLetting_18 rfl ?_
    refine v_icmp_ge X 54 dX2_bestLetting_20 (by decide) (fun cv1 => ?_) (fun cv1 => ?_)
    · replace h := (if_pos cv1).symm.trans h
      cases h
      exact k
    · replace h := (if_neg cv1).symm.trans h
      refine v_aloadn X dX2_bestLetting_23 rfl rfl ?_
      refine v_iload X dX2_bestLetting_24 rfl ?_
      refine v_iloadn X dX2_bestLetting_26 rfl rfl ?_
      refine v_iloadn X dX2_bestLetting_27 rfl rfl ?_
      obtain ⟨rv4, gv3, qv2, h⟩ := bd2_some h
      refine v_callVI (As := [.int y7, .int z1, .int z2]) (rest := []) X (c_X2_highBy l D ad cy X.2.2.2.2.2.2.2.2.1 N y7 z1 z2 g rv4 gv3  qv2) mw_X2_highBy ml_X2_92 (by decide) (by decide +kernel) (by decide) rfl rfl rfl rfl (Nat.le_of_ble_eq_true rfl) dX2_bestLetting_28 ?_
      refine v_istore (lc' := [some (.ref (ad (2, 0, 0))), some (.int z1), some (.int z2), some (.int z3), some (.int z4), some (.int y5), some (.int y6), some (.int y7), some (.int rv4)]) X dX2_bestLetting_31 (by decide) rfl rfl ?_
      refine v_iload X dX2_bestLetting_33 rfl ?_
      refine v_iload X dX2_bestLetting_35 rfl ?_
      refine v_icmp_le X 48 dX2_bestLetting_37 (by decide) (fun cv5 => ?_) (fun cv5 => ?_)
      · replace h := (if_pos cv5).symm.trans h
        refine v_iinc (v := (y7 + 1)) (lc' := [some (.ref (ad (2, 0, 0))), some (.int z1), some (.int z2), some (.int z3), some (.int z4), some (.int y5), some (.int y6), some (.int (y7 + 1)), some (.int rv4)]) X dX2_bestLetting_48 rfl rfl (by decide) rfl rfl ?_
        refine v_goto X 16 dX2_bestLetting_51 (by decide) ?_
        refine v_weak (lc2 := [some (.ref (ad (2, 0, 0))), some (.int z1), some (.int z2), some (.int z3), some (.int z4), some (.int y5), some (.int y6), some (.int (y7 + 1)), none]) ⟨rfl, rfl, rfl, rfl, rfl, rfl, rfl, rfl, trivial⟩ ?_
        exact ih y5 y6 (y7 + 1) gv3 _ _ _ _ h k
      · replace h := (if_neg cv5).symm.trans h
        refine v_iload X dX2_bestLetting_40 rfl ?_
        refine v_istore (lc' := [some (.ref (ad (2, 0, 0))), some (.int z1), some (.int z2), some (.int z3), some (.int z4), some (.int y5), some (.int rv4), some (.int y7), some (.int rv4)]) X dX2_bestLetting_42 (by decide) rfl rfl ?_
        refine v_iload X dX2_bestLetting_44 rfl ?_
        refine v_istore (lc' := [some (.ref (ad (2, 0, 0))), some (.int z1), some (.int z2), some (.int z3), some (.int z4), some (.int y7), some (.int rv4), some (.int y7), some (.int rv4)]) X dX2_bestLetting_46 (by decide) rfl rfl ?_
        refine v_iinc (v := (y7 + 1)) (lc' := [some (.ref (ad (2, 0, 0))), some (.int z1), some (.int z2), some (.int z3), some (.int z4), some (.int y7), some (.int rv4), some (.int (y7 + 1)), some (.int rv4)]) X dX2_bestLetting_48 rfl rfl (by decide) rfl rfl ?_
        refine v_goto X 16 dX2_bestLetting_51 (by decide) ?_
        refine v_weak (lc2 := [some (.ref (ad (2, 0, 0))), some (.int z1), some (.int z2), some (.int z3), some (.int z4), some (.int y7), some (.int rv4), some (.int (y7 + 1)), none]) ⟨rfl, rfl, rfl, rfl, rfl, rfl, rfl, rfl, trivial⟩ ?_
        exact ih y7 rv4 (y7 + 1) gv3 _ _ _ _ h k
set_option maxRecDepth 100000 in
set_option maxHeartbeats 4000000 in
theorem c_X2_bestLetting (l : Launch) (D : va_G) (ad : Ky → Nat) (cy : Nat → ClassId) (hI : Inj ad) (N : Nat) (x1 : Int32) (x2 : Int32) (x3 : Int32) (g : GS) (r : Int32) (gq : GS) (h : F_X2_bestLetting N x1 x2 x3 g = some (r, gq)) : CtI l D ad cy yX2_bestLetting cX2_bestLetting 9 (some .int) 4 [.ref (ad (2, 0, 0)), .int x1, .int x2, .int x3] g r gq := by
  refine CtI.of 5 hI (by decide +kernel) rfl (Nat.le_of_ble_eq_true rfl) (fun p e s m args below meth c X => ?_)
  unfold F_X2_bestLetting at h
  show Vy _ _ _ _ _ _ _ _ _ _ _ _ _ _ _ 0 [some (.ref (ad (2, 0, 0))), some (.int x1), some (.int x2), some (.int x3), none, none, none, none, none] [] g
  refine v_iconst (v := 1) X dX2_bestLetting_0 (by decide) ?_
  refine v_iconst (v := 2) X dX2_bestLetting_1 (by decide) ?_
  refine v_iloadn X dX2_bestLetting_2 rfl rfl ?_
  refine v_imul X dX2_bestLetting_3 ?_
  refine v_ishl X dX2_bestLetting_4 ?_
  refine v_istore (lc' := [some (.ref (ad (2, 0, 0))), some (.int x1), some (.int x2), some (.int x3), some (.int ((1 : Int32) <<< (((2 : Int32) * x2) &&& 31))), none, none, none, none]) X dX2_bestLetting_5 (by decide) rfl rfl ?_
  refine v_iconst (v := 0) X dX2_bestLetting_7 (by decide) ?_
  refine v_istore (lc' := [some (.ref (ad (2, 0, 0))), some (.int x1), some (.int x2), some (.int x3), some (.int ((1 : Int32) <<< (((2 : Int32) * x2) &&& 31))), some (.int (0 : Int32)), none, none, none]) X dX2_bestLetting_8 (by decide) rfl rfl ?_
  refine v_iconst (v := -1) X dX2_bestLetting_10 (by decide) ?_
  refine v_istore (lc' := [some (.ref (ad (2, 0, 0))), some (.int x1), some (.int x2), some (.int x3), some (.int ((1 : Int32) <<< (((2 : Int32) * x2) &&& 31))), some (.int (0 : Int32)), some (.int (-1 : Int32)), none, none]) X dX2_bestLetting_11 (by decide) rfl rfl ?_
  refine v_iconst (v := 0) X dX2_bestLetting_13 (by decide) ?_
  refine v_istore (lc' := [some (.ref (ad (2, 0, 0))), some (.int x1), some (.int x2), some (.int x3), some (.int ((1 : Int32) <<< (((2 : Int32) * x2) &&& 31))), some (.int (0 : Int32)), some (.int (-1 : Int32)), some (.int (0 : Int32)), none]) X dX2_bestLetting_14 (by decide) rfl rfl ?_
  obtain ⟨xv6, xv7, xv8, gv9, qv10, h⟩ := bd4_some h
  refine w_X2_bestLetting_16 X x1 x2 x3 ((1 : Int32) <<< (((2 : Int32) * x2) &&& 31)) N (0 : Int32) (-1 : Int32) (0 : Int32) g xv6 xv7 xv8 gv9 qv10 ?_
  refine v_iload X dX2_bestLetting_54 rfl ?_
  refine v_if_lt X 64 dX2_bestLetting_56 (by decide) (fun cv11 => ?_) (fun cv11 => ?_)
  · replace h := (if_pos cv11).symm.trans h
    refine v_ldc X kc_X2_41 dX2_bestLetting_64 ?_
    obtain ⟨er, eg⟩ := Prod.mk.inj (Option.some.inj h)
    exact v_iret X dX2_bestLetting_66 er eg
  · replace h := (if_neg cv11).symm.trans h
    refine v_iloadn X dX2_bestLetting_59 rfl rfl ?_
    refine v_iloadn X dX2_bestLetting_60 rfl rfl ?_
    refine v_icmp_lt X 67 dX2_bestLetting_61 (by decide) (fun cv12 => ?_) (fun cv12 => ?_)
    · replace h := (if_pos cv12).symm.trans h
      refine v_iloadn X dX2_bestLetting_67 rfl rfl ?_
      refine v_if_ge X 76 dX2_bestLetting_68 (by decide) (fun cv13 => ?_) (fun cv13 => ?_)
      · replace h := (if_pos cv13).symm.trans h
        refine v_iload X dX2_bestLetting_76 rfl ?_
        refine v_iloadn X dX2_bestLetting_78 rfl rfl ?_
        refine v_iloadn X dX2_bestLetting_79 rfl rfl ?_
        obtain ⟨rv16, gv15, qv14, h⟩ := bd2_some h
        refine v_callSI (As := [.int xv6, .int x2, .int x3]) (rest := []) X (c_X2_lettingAt l D ad cy X.2.2.2.2.2.2.2.2.1 N xv6 x2 x3 gv9 rv16 gv15  qv14) mw_X2_lettingAt ml_X2_96 (by decide) rfl rfl (Nat.le_of_ble_eq_true rfl) dX2_bestLetting_80 ?_
        obtain ⟨er, eg⟩ := Prod.mk.inj (Option.some.inj h)
        exact v_iret X dX2_bestLetting_83 er eg
      · replace h := (if_neg cv13).symm.trans h
        refine v_iload X dX2_bestLetting_71 rfl ?_
        refine v_goto X 83 dX2_bestLetting_73 (by decide) ?_
        obtain ⟨er, eg⟩ := Prod.mk.inj (Option.some.inj h)
        exact v_iret X dX2_bestLetting_83 er eg
    · replace h := (if_neg cv12).symm.trans h
      refine v_ldc X kc_X2_41 dX2_bestLetting_64 ?_
      obtain ⟨er, eg⟩ := Prod.mk.inj (Option.some.inj h)
      exact v_iret X dX2_bestLetting_66 er eg
def L_X2_passDraft_2 (N : Nat) (z1 : Int32) : Nat → Int32 → GS → Option (Int32 × GS)
  | 0, _, _ => none
  | n + 1, y2, g => if z1 ≤ y2 then some (y2, g) else bd2 (F_X4_forceAfter N 1 (0 : Int32) g) (fun rv4 gv3 => bd1 (F_X4_passHourIn N 1 rv4 gv3) (fun gv6 => L_X2_passDraft_2 N z1 n (y2 + 1) gv6))
def F_X2_passDraft (N : Nat) (x1 : Int32) (g : GS) : Option GS := bd2 (L_X2_passDraft_2 N x1 N (0 : Int32) g) (fun xv7 gv8 => some gv8)
set_option maxRecDepth 100000 in
set_option maxHeartbeats 4000000 in
theorem w_X2_passDraft_2 {p : Program} {l : Launch} {e : Env} {s : State} {m : MethodId} {args : Array Value} {below : List Frame} {meth : Method} {c : Code} {D : va_G} {ad : Ky → Nat} {cy : Nat → ClassId} {gq : GS} {N : Nat} (X : Cx p (rmd 3) s m args meth c RX2 cX2_passDraft 3 none D ad cy) (z1 : Int32) : ∀ (n : Nat) (y2 : Int32) (g : GS) (y2' : Int32) (g' : GS), L_X2_passDraft_2 N z1 n y2 g = some (y2', g') → Vy p l e (rmd 3) s m args below meth c 3 D ad cy (QV D ad cy below args s gq) 28 [some (.ref (ad (2, 0, 0))), some (.int z1), some (.int y2')] [] g' → Vy p l e (rmd 3) s m args below meth c 3 D ad cy (QV D ad cy below args s gq) 2 [some (.ref (ad (2, 0, 0))), some (.int z1), some (.int y2)] [] g := by
  intro n
  induction n with
  | zero => intro y2 g y2' g' h k; cases h
  | succ n ih =>
    intro y2 g y2' g' h k
    rw [L_X2_passDraft_2] at h
    refine v_iloadn X dX2_passDraft_2 rfl rfl ?_
    refine v_iloadn X dX2_passDraft_3 rfl rfl ?_
    refine v_icmp_ge X 28 dX2_passDraft_4 (by decide) (fun cv1 => ?_) (fun cv1 => ?_)
    · replace h := (if_pos cv1).symm.trans h
      cases h
      exact k
    · replace h := (if_neg cv1).symm.trans h
      refine v_aloadn X dX2_passDraft_7 rfl rfl ?_
      refine gf_X2_18 X dX2_passDraft_8 ?_
      refine v_aloadn X dX2_passDraft_11 rfl rfl ?_
      refine gf_X2_18 X dX2_passDraft_12 ?_
      refine v_iconst (v := 0) X dX2_passDraft_15 (by decide) ?_
      obtain ⟨rv4, gv3, qv2, h⟩ := bd2_some h
      refine v_callVI (As := [.int (0 : Int32)]) (rest := [.ref (ad (4, 1, 0))]) X (c_X4_forceAfter l D ad cy X.2.2.2.2.2.2.2.2.1 N 1 (0 : Int32) g rv4 gv3 (by omega) qv2) mw_X4_forceAfter ml_X2_56 (by decide) (k_roof (by omega)) (by decide) rfl rfl rfl rfl (Nat.le_of_ble_eq_true rfl) dX2_passDraft_16 ?_
      obtain ⟨gv6, qv5, h⟩ := bd1_some h
      refine v_callVV (As := [.int rv4]) (rest := []) X (c_X4_passHourIn l D ad cy X.2.2.2.2.2.2.2.2.1 N 1 rv4 gv3 gv6 (by omega) qv5) mw_X4_passHourIn ml_X2_60 (by decide) (k_roof (by omega)) (by decide) rfl rfl rfl rfl (Nat.le_of_ble_eq_true rfl) dX2_passDraft_19 ?_
      refine v_iinc (v := (y2 + 1)) (lc' := [some (.ref (ad (2, 0, 0))), some (.int z1), some (.int (y2 + 1))]) X dX2_passDraft_22 rfl rfl (by decide) rfl rfl ?_
      refine v_goto X 2 dX2_passDraft_25 (by decide) ?_
      exact ih (y2 + 1) gv6 _ _ h k
set_option maxRecDepth 100000 in
set_option maxHeartbeats 4000000 in
theorem c_X2_passDraft (l : Launch) (D : va_G) (ad : Ky → Nat) (cy : Nat → ClassId) (hI : Inj ad) (N : Nat) (x1 : Int32) (g : GS) (gq : GS) (h : F_X2_passDraft N x1 g = some gq) : CtV l D ad cy yX2_passDraft cX2_passDraft 3 3 [.ref (ad (2, 0, 0)), .int x1] g gq := by
  refine CtV.of 1 hI (by decide +kernel) rfl (Nat.le_of_ble_eq_true rfl) (fun p e s m args below meth c X => ?_)
  unfold F_X2_passDraft at h
  show Vy _ _ _ _ _ _ _ _ _ _ _ _ _ _ _ 0 [some (.ref (ad (2, 0, 0))), some (.int x1), none] [] g
  refine v_iconst (v := 0) X dX2_passDraft_0 (by decide) ?_
  refine v_istoren (lc' := [some (.ref (ad (2, 0, 0))), some (.int x1), some (.int (0 : Int32))]) X dX2_passDraft_1 rfl (by decide) rfl rfl ?_
  obtain ⟨xv7, gv8, qv9, h⟩ := bd2_some h
  refine w_X2_passDraft_2 X x1 N (0 : Int32) g xv7 gv8 qv9 ?_
  exact v_vret X dX2_passDraft_28 (Option.some.inj h)
def L_X2_bestToSend_19 (N : Nat) (z1 : Int32) (z2 : Int32) (z3 : Int32) (z4 : Int32) : Nat → Int32 → Int32 → Int32 → GS → Option (Int32 × Int32 × Int32 × GS)
  | 0, _, _, _, _ => none
  | n + 1, y5, y6, y7, g => if (64 : Int32) ≤ y7 then some (y5, y6, y7, g) else if (y7 &&& (z4 ^^^ (-1 : Int32))) = 0 then bd1 (F_X4_become N 1 0 g) (fun gv7 => bd1 (F_X4_sendAll N 1 y7 z2 gv7) (fun gv9 => bd1 (F_X2_passDraft N z1 gv9) (fun gv11 => bd2 (F_X4_policyBits N 1 gv11) (fun rv14 gv13 => bd2 (F_J6_bitCount_0f7a4 N rv14 gv13) (fun rv17 gv16 => bd2 (F_J6_bitCount_0f7a4 N y7 gv16) (fun rv20 gv19 => bd2 (F_J6_bitCount_0f7a4 N y5 gv19) (fun rv23 gv22 => if rv23 ≤ rv20 then if y6 < rv17 then L_X2_bestToSend_19 N z1 z2 z3 z4 n y7 rv17 (y7 + 1) gv22 else if rv17 = y6 then if (0 : Int32) = 0 then L_X2_bestToSend_19 N z1 z2 z3 z4 n y5 y6 (y7 + 1) gv22 else L_X2_bestToSend_19 N z1 z2 z3 z4 n y7 rv17 (y7 + 1) gv22 else L_X2_bestToSend_19 N z1 z2 z3 z4 n y5 y6 (y7 + 1) gv22 else if y6 < rv17 then L_X2_bestToSend_19 N z1 z2 z3 z4 n y7 rv17 (y7 + 1) gv22 else if rv17 = y6 then if (1 : Int32) = 0 then L_X2_bestToSend_19 N z1 z2 z3 z4 n y5 y6 (y7 + 1) gv22 else L_X2_bestToSend_19 N z1 z2 z3 z4 n y7 rv17 (y7 + 1) gv22 else L_X2_bestToSend_19 N z1 z2 z3 z4 n y5 y6 (y7 + 1) gv22))))))) else L_X2_bestToSend_19 N z1 z2 z3 z4 n y5 y6 (y7 + 1) g
def F_X2_bestToSend (N : Nat) (x1 : Int32) (x2 : Int32) (x3 : Int32) (g : GS) : Option (Int32 × GS) := bd2 (F_X4_bitsOf N 0 (0 : Int32) g) (fun rv3 gv2 => bd4 (L_X2_bestToSend_19 N x1 x2 x3 rv3 N (0 : Int32) (-1 : Int32) (0 : Int32) gv2) (fun xv31 xv32 xv33 gv34 => if x3 = 0 then some (xv31, gv34) else some (xv32, gv34)))
set_option maxRecDepth 100000 in
set_option maxHeartbeats 4000000 in
theorem w_X2_bestToSend_19 {p : Program} {l : Launch} {e : Env} {s : State} {m : MethodId} {args : Array Value} {below : List Frame} {meth : Method} {c : Code} {D : va_G} {ad : Ky → Nat} {cy : Nat → ClassId} {r : Int32} {gq : GS} {N : Nat} (X : Cx p (rmd 4) s m args meth c RX2 cX2_bestToSend 10 (some .int) D ad cy) (z1 : Int32) (z2 : Int32) (z3 : Int32) (z4 : Int32) : ∀ (n : Nat) (y5 : Int32) (y6 : Int32) (y7 : Int32) (g : GS) (y5' : Int32) (y6' : Int32) (y7' : Int32) (g' : GS), L_X2_bestToSend_19 N z1 z2 z3 z4 n y5 y6 y7 g = some (y5', y6', y7', g') → Vy p l e (rmd 4) s m args below meth c 10 D ad cy (QI D ad cy below args s r gq) 130 [some (.ref (ad (2, 0, 0))), some (.int z1), some (.int z2), some (.int z3), some (.int z4), some (.int y5'), some (.int y6'), some (.int y7'), none, none] [] g' → Vy p l e (rmd 4) s m args below meth c 10 D ad cy (QI D ad cy below args s r gq) 19 [some (.ref (ad (2, 0, 0))), some (.int z1), some (.int z2), some (.int z3), some (.int z4), some (.int y5), some (.int y6), some (.int y7), none, none] [] g := by
  intro n
  induction n with
  | zero => intro y5 y6 y7 g y5' y6' y7' g' h k; cases h
  | succ n ih =>
    intro y5 y6 y7 g y5' y6' y7' g' h k
    rw [L_X2_bestToSend_19] at h
    refine v_iload X dX2_bestToSend_19 rfl ?_
    refine v_bipush (v := 64) X dX2_bestToSend_21 (by decide) ?_
    refine v_icmp_ge X 130 dX2_bestToSend_23 (by decide) (fun cv4 => ?_) (fun cv4 => ?_)
    · replace h := (if_pos cv4).symm.trans h
      cases h
      exact k
    · replace h := (if_neg cv4).symm.trans h
      refine v_iload X dX2_bestToSend_26 rfl ?_
      refine v_iload X dX2_bestToSend_28 rfl ?_
      refine v_iconst (v := -1) X dX2_bestToSend_30 (by decide) ?_
      refine v_ixor X dX2_bestToSend_31 ?_
      refine v_iand X dX2_bestToSend_32 ?_
      refine v_if_eq X 39 dX2_bestToSend_33 (by decide) (fun cv5 => ?_) (fun cv5 => ?_)
      · replace h := (if_pos cv5).symm.trans h
        refine v_aloadn X dX2_bestToSend_39 rfl rfl ?_
        refine gf_X2_18 X dX2_bestToSend_40 ?_
        refine v_aloadn X dX2_bestToSend_43 rfl rfl ?_
        refine gf_X2_12 X dX2_bestToSend_44 ?_
        obtain ⟨gv7, qv6, h⟩ := bd1_some h
        refine v_callVV (As := [.ref (ad (4, 0, 0))]) (rest := []) X (c_X4_become l D ad cy X.2.2.2.2.2.2.2.2.1 N 1 0 g gv7 (by omega) (by omega) qv6) mw_X4_become ml_X2_48 (by decide) (k_roof (by omega)) (by decide) rfl rfl rfl rfl (Nat.le_of_ble_eq_true rfl) dX2_bestToSend_47 ?_
        refine v_aloadn X dX2_bestToSend_50 rfl rfl ?_
        refine gf_X2_18 X dX2_bestToSend_51 ?_
        refine v_iload X dX2_bestToSend_54 rfl ?_
        refine v_iloadn X dX2_bestToSend_56 rfl rfl ?_
        obtain ⟨gv9, qv8, h⟩ := bd1_some h
        refine v_callVV (As := [.int y7, .int z2]) (rest := []) X (c_X4_sendAll l D ad cy X.2.2.2.2.2.2.2.2.1 N 1 y7 z2 gv7 gv9 (by omega) qv8) mw_X4_sendAll ml_X2_79 (by decide) (k_roof (by omega)) (by decide) rfl rfl rfl rfl (Nat.le_of_ble_eq_true rfl) dX2_bestToSend_57 ?_
        refine v_aloadn X dX2_bestToSend_60 rfl rfl ?_
        refine v_iloadn X dX2_bestToSend_61 rfl rfl ?_
        obtain ⟨gv11, qv10, h⟩ := bd1_some h
        refine v_callVV (As := [.int z1]) (rest := []) X (c_X2_passDraft l D ad cy X.2.2.2.2.2.2.2.2.1 N z1 gv9 gv11  qv10) mw_X2_passDraft ml_X2_52 (by decide) (by decide +kernel) (by decide) rfl rfl rfl rfl (Nat.le_of_ble_eq_true rfl) dX2_bestToSend_62 ?_
        refine v_aloadn X dX2_bestToSend_65 rfl rfl ?_
        refine gf_X2_18 X dX2_bestToSend_66 ?_
        obtain ⟨rv14, gv13, qv12, h⟩ := bd2_some h
        refine v_callVI (As := []) (rest := []) X (c_X4_policyBits l D ad cy X.2.2.2.2.2.2.2.2.1 N 1 gv11 rv14 gv13 (by omega) qv12) mw_X4_policyBits ml_X2_83 (by decide) (k_roof (by omega)) (by decide) rfl rfl rfl rfl (Nat.le_of_ble_eq_true rfl) dX2_bestToSend_69 ?_
        obtain ⟨rv17, gv16, qv15, h⟩ := bd2_some h
        refine v_callSI (As := [.int rv14]) (rest := []) X (c_J6_bitCount_0f7a4 l D ad cy X.2.2.2.2.2.2.2.2.1 N rv14 gv13 rv17 gv16  qv15) mw_J6_bitCount_0f7a4 ml_X2_87 (by decide) rfl rfl (Nat.le_of_ble_eq_true rfl) dX2_bestToSend_72 ?_
        refine v_istore (lc' := [some (.ref (ad (2, 0, 0))), some (.int z1), some (.int z2), some (.int z3), some (.int z4), some (.int y5), some (.int y6), some (.int y7), some (.int rv17), none]) X dX2_bestToSend_75 (by decide) rfl rfl ?_
        refine v_iload X dX2_bestToSend_77 rfl ?_
        obtain ⟨rv20, gv19, qv18, h⟩ := bd2_some h
        refine v_callSI (As := [.int y7]) (rest := []) X (c_J6_bitCount_0f7a4 l D ad cy X.2.2.2.2.2.2.2.2.1 N y7 gv16 rv20 gv19  qv18) mw_J6_bitCount_0f7a4 ml_X2_87 (by decide) rfl rfl (Nat.le_of_ble_eq_true rfl) dX2_bestToSend_79 ?_
        refine v_iload X dX2_bestToSend_82 rfl ?_
        obtain ⟨rv23, gv22, qv21, h⟩ := bd2_some h
        refine v_callSI (As := [.int y5]) (rest := [.int rv20]) X (c_J6_bitCount_0f7a4 l D ad cy X.2.2.2.2.2.2.2.2.1 N y5 gv19 rv23 gv22  qv21) mw_J6_bitCount_0f7a4 ml_X2_87 (by decide) rfl rfl (Nat.le_of_ble_eq_true rfl) dX2_bestToSend_84 ?_
        refine v_icmp_ge X 94 dX2_bestToSend_87 (by decide) (fun cv24 => ?_) (fun cv24 => ?_)
        · replace h := (if_pos cv24).symm.trans h
          refine v_iconst (v := 0) X dX2_bestToSend_94 (by decide) ?_
          refine v_istore (lc' := [some (.ref (ad (2, 0, 0))), some (.int z1), some (.int z2), some (.int z3), some (.int z4), some (.int y5), some (.int y6), some (.int y7), some (.int rv17), some (.int (0 : Int32))]) X dX2_bestToSend_95 (by decide) rfl rfl ?_
          refine v_iload X dX2_bestToSend_97 rfl ?_
          refine v_iload X dX2_bestToSend_99 rfl ?_
          refine v_icmp_gt X 116 dX2_bestToSend_101 (by decide) (fun cv25 => ?_) (fun cv25 => ?_)
          · replace h := (if_pos cv25).symm.trans h
            refine v_iload X dX2_bestToSend_116 rfl ?_
            refine v_istore (lc' := [some (.ref (ad (2, 0, 0))), some (.int z1), some (.int z2), some (.int z3), some (.int z4), some (.int y5), some (.int rv17), some (.int y7), some (.int rv17), some (.int (0 : Int32))]) X dX2_bestToSend_118 (by decide) rfl rfl ?_
            refine v_iload X dX2_bestToSend_120 rfl ?_
            refine v_istore (lc' := [some (.ref (ad (2, 0, 0))), some (.int z1), some (.int z2), some (.int z3), some (.int z4), some (.int y7), some (.int rv17), some (.int y7), some (.int rv17), some (.int (0 : Int32))]) X dX2_bestToSend_122 (by decide) rfl rfl ?_
            refine v_iinc (v := (y7 + 1)) (lc' := [some (.ref (ad (2, 0, 0))), some (.int z1), some (.int z2), some (.int z3), some (.int z4), some (.int y7), some (.int rv17), some (.int (y7 + 1)), some (.int rv17), some (.int (0 : Int32))]) X dX2_bestToSend_124 rfl rfl (by decide) rfl rfl ?_
            refine v_goto X 19 dX2_bestToSend_127 (by decide) ?_
            refine v_weak (lc2 := [some (.ref (ad (2, 0, 0))), some (.int z1), some (.int z2), some (.int z3), some (.int z4), some (.int y7), some (.int rv17), some (.int (y7 + 1)), none, none]) ⟨rfl, rfl, rfl, rfl, rfl, rfl, rfl, rfl, trivial⟩ ?_
            exact ih y7 rv17 (y7 + 1) gv22 _ _ _ _ h k
          · replace h := (if_neg cv25).symm.trans h
            refine v_iload X dX2_bestToSend_104 rfl ?_
            refine v_iload X dX2_bestToSend_106 rfl ?_
            refine v_icmp_ne X 124 dX2_bestToSend_108 (by decide) (fun cv26 => ?_) (fun cv26 => ?_)
            · replace h := (if_neg cv26).symm.trans h
              refine v_iinc (v := (y7 + 1)) (lc' := [some (.ref (ad (2, 0, 0))), some (.int z1), some (.int z2), some (.int z3), some (.int z4), some (.int y5), some (.int y6), some (.int (y7 + 1)), some (.int rv17), some (.int (0 : Int32))]) X dX2_bestToSend_124 rfl rfl (by decide) rfl rfl ?_
              refine v_goto X 19 dX2_bestToSend_127 (by decide) ?_
              refine v_weak (lc2 := [some (.ref (ad (2, 0, 0))), some (.int z1), some (.int z2), some (.int z3), some (.int z4), some (.int y5), some (.int y6), some (.int (y7 + 1)), none, none]) ⟨rfl, rfl, rfl, rfl, rfl, rfl, rfl, rfl, trivial⟩ ?_
              exact ih y5 y6 (y7 + 1) gv22 _ _ _ _ h k
            · replace h := (if_pos cv26).symm.trans h
              refine v_iload X dX2_bestToSend_111 rfl ?_
              refine v_if_eq X 124 dX2_bestToSend_113 (by decide) (fun cv27 => ?_) (fun cv27 => ?_)
              · replace h := (if_pos cv27).symm.trans h
                refine v_iinc (v := (y7 + 1)) (lc' := [some (.ref (ad (2, 0, 0))), some (.int z1), some (.int z2), some (.int z3), some (.int z4), some (.int y5), some (.int y6), some (.int (y7 + 1)), some (.int rv17), some (.int (0 : Int32))]) X dX2_bestToSend_124 rfl rfl (by decide) rfl rfl ?_
                refine v_goto X 19 dX2_bestToSend_127 (by decide) ?_
                refine v_weak (lc2 := [some (.ref (ad (2, 0, 0))), some (.int z1), some (.int z2), some (.int z3), some (.int z4), some (.int y5), some (.int y6), some (.int (y7 + 1)), none, none]) ⟨rfl, rfl, rfl, rfl, rfl, rfl, rfl, rfl, trivial⟩ ?_
                exact ih y5 y6 (y7 + 1) gv22 _ _ _ _ h k
              · replace h := (if_neg cv27).symm.trans h
                refine v_iload X dX2_bestToSend_116 rfl ?_
                refine v_istore (lc' := [some (.ref (ad (2, 0, 0))), some (.int z1), some (.int z2), some (.int z3), some (.int z4), some (.int y5), some (.int rv17), some (.int y7), some (.int rv17), some (.int (0 : Int32))]) X dX2_bestToSend_118 (by decide) rfl rfl ?_
                refine v_iload X dX2_bestToSend_120 rfl ?_
                refine v_istore (lc' := [some (.ref (ad (2, 0, 0))), some (.int z1), some (.int z2), some (.int z3), some (.int z4), some (.int y7), some (.int rv17), some (.int y7), some (.int rv17), some (.int (0 : Int32))]) X dX2_bestToSend_122 (by decide) rfl rfl ?_
                refine v_iinc (v := (y7 + 1)) (lc' := [some (.ref (ad (2, 0, 0))), some (.int z1), some (.int z2), some (.int z3), some (.int z4), some (.int y7), some (.int rv17), some (.int (y7 + 1)), some (.int rv17), some (.int (0 : Int32))]) X dX2_bestToSend_124 rfl rfl (by decide) rfl rfl ?_
                refine v_goto X 19 dX2_bestToSend_127 (by decide) ?_
                refine v_weak (lc2 := [some (.ref (ad (2, 0, 0))), some (.int z1), some (.int z2), some (.int z3), some (.int z4), some (.int y7), some (.int rv17), some (.int (y7 + 1)), none, none]) ⟨rfl, rfl, rfl, rfl, rfl, rfl, rfl, rfl, trivial⟩ ?_
                exact ih y7 rv17 (y7 + 1) gv22 _ _ _ _ h k
        · replace h := (if_neg cv24).symm.trans h
          refine v_iconst (v := 1) X dX2_bestToSend_90 (by decide) ?_
          refine v_goto X 95 dX2_bestToSend_91 (by decide) ?_
          refine v_istore (lc' := [some (.ref (ad (2, 0, 0))), some (.int z1), some (.int z2), some (.int z3), some (.int z4), some (.int y5), some (.int y6), some (.int y7), some (.int rv17), some (.int (1 : Int32))]) X dX2_bestToSend_95 (by decide) rfl rfl ?_
          refine v_iload X dX2_bestToSend_97 rfl ?_
          refine v_iload X dX2_bestToSend_99 rfl ?_
          refine v_icmp_gt X 116 dX2_bestToSend_101 (by decide) (fun cv28 => ?_) (fun cv28 => ?_)
          · replace h := (if_pos cv28).symm.trans h
            refine v_iload X dX2_bestToSend_116 rfl ?_
            refine v_istore (lc' := [some (.ref (ad (2, 0, 0))), some (.int z1), some (.int z2), some (.int z3), some (.int z4), some (.int y5), some (.int rv17), some (.int y7), some (.int rv17), some (.int (1 : Int32))]) X dX2_bestToSend_118 (by decide) rfl rfl ?_
            refine v_iload X dX2_bestToSend_120 rfl ?_
            refine v_istore (lc' := [some (.ref (ad (2, 0, 0))), some (.int z1), some (.int z2), some (.int z3), some (.int z4), some (.int y7), some (.int rv17), some (.int y7), some (.int rv17), some (.int (1 : Int32))]) X dX2_bestToSend_122 (by decide) rfl rfl ?_
            refine v_iinc (v := (y7 + 1)) (lc' := [some (.ref (ad (2, 0, 0))), some (.int z1), some (.int z2), some (.int z3), some (.int z4), some (.int y7), some (.int rv17), some (.int (y7 + 1)), some (.int rv17), some (.int (1 : Int32))]) X dX2_bestToSend_124 rfl rfl (by decide) rfl rfl ?_
            refine v_goto X 19 dX2_bestToSend_127 (by decide) ?_
            refine v_weak (lc2 := [some (.ref (ad (2, 0, 0))), some (.int z1), some (.int z2), some (.int z3), some (.int z4), some (.int y7), some (.int rv17), some (.int (y7 + 1)), none, none]) ⟨rfl, rfl, rfl, rfl, rfl, rfl, rfl, rfl, trivial⟩ ?_
            exact ih y7 rv17 (y7 + 1) gv22 _ _ _ _ h k
          · replace h := (if_neg cv28).symm.trans h
            refine v_iload X dX2_bestToSend_104 rfl ?_
            refine v_iload X dX2_bestToSend_106 rfl ?_
            refine v_icmp_ne X 124 dX2_bestToSend_108 (by decide) (fun cv29 => ?_) (fun cv29 => ?_)
            · replace h := (if_neg cv29).symm.trans h
              refine v_iinc (v := (y7 + 1)) (lc' := [some (.ref (ad (2, 0, 0))), some (.int z1), some (.int z2), some (.int z3), some (.int z4), some (.int y5), some (.int y6), some (.int (y7 + 1)), some (.int rv17), some (.int (1 : Int32))]) X dX2_bestToSend_124 rfl rfl (by decide) rfl rfl ?_
              refine v_goto X 19 dX2_bestToSend_127 (by decide) ?_
              refine v_weak (lc2 := [some (.ref (ad (2, 0, 0))), some (.int z1), some (.int z2), some (.int z3), some (.int z4), some (.int y5), some (.int y6), some (.int (y7 + 1)), none, none]) ⟨rfl, rfl, rfl, rfl, rfl, rfl, rfl, rfl, trivial⟩ ?_
              exact ih y5 y6 (y7 + 1) gv22 _ _ _ _ h k
            · replace h := (if_pos cv29).symm.trans h
              refine v_iload X dX2_bestToSend_111 rfl ?_
              refine v_if_eq X 124 dX2_bestToSend_113 (by decide) (fun cv30 => ?_) (fun cv30 => ?_)
              · replace h := (if_pos cv30).symm.trans h
                refine v_iinc (v := (y7 + 1)) (lc' := [some (.ref (ad (2, 0, 0))), some (.int z1), some (.int z2), some (.int z3), some (.int z4), some (.int y5), some (.int y6), some (.int (y7 + 1)), some (.int rv17), some (.int (1 : Int32))]) X dX2_bestToSend_124 rfl rfl (by decide) rfl rfl ?_
                refine v_goto X 19 dX2_bestToSend_127 (by decide) ?_
                refine v_weak (lc2 := [some (.ref (ad (2, 0, 0))), some (.int z1), some (.int z2), some (.int z3), some (.int z4), some (.int y5), some (.int y6), some (.int (y7 + 1)), none, none]) ⟨rfl, rfl, rfl, rfl, rfl, rfl, rfl, rfl, trivial⟩ ?_
                exact ih y5 y6 (y7 + 1) gv22 _ _ _ _ h k
              · replace h := (if_neg cv30).symm.trans h
                refine v_iload X dX2_bestToSend_116 rfl ?_
                refine v_istore (lc' := [some (.ref (ad (2, 0, 0))), some (.int z1), some (.int z2), some (.int z3), some (.int z4), some (.int y5), some (.int rv17), some (.int y7), some (.int rv17), some (.int (1 : Int32))]) X dX2_bestToSend_118 (by decide) rfl rfl ?_
                refine v_iload X dX2_bestToSend_120 rfl ?_
                refine v_istore (lc' := [some (.ref (ad (2, 0, 0))), some (.int z1), some (.int z2), some (.int z3), some (.int z4), some (.int y7), some (.int rv17), some (.int y7), some (.int rv17), some (.int (1 : Int32))]) X dX2_bestToSend_122 (by decide) rfl rfl ?_
                refine v_iinc (v := (y7 + 1)) (lc' := [some (.ref (ad (2, 0, 0))), some (.int z1), some (.int z2), some (.int z3), some (.int z4), some (.int y7), some (.int rv17), some (.int (y7 + 1)), some (.int rv17), some (.int (1 : Int32))]) X dX2_bestToSend_124 rfl rfl (by decide) rfl rfl ?_
                refine v_goto X 19 dX2_bestToSend_127 (by decide) ?_
                refine v_weak (lc2 := [some (.ref (ad (2, 0, 0))), some (.int z1), some (.int z2), some (.int z3), some (.int z4), some (.int y7), some (.int rv17), some (.int (y7 + 1)), none, none]) ⟨rfl, rfl, rfl, rfl, rfl, rfl, rfl, rfl, trivial⟩ ?_
                exact ih y7 rv17 (y7 + 1) gv22 _ _ _ _ h k
      · replace h := (if_neg cv5).symm.trans h
        refine v_goto X 124 dX2_bestToSend_36 (by decide) ?_
        refine v_iinc (v := (y7 + 1)) (lc' := [some (.ref (ad (2, 0, 0))), some (.int z1), some (.int z2), some (.int z3), some (.int z4), some (.int y5), some (.int y6), some (.int (y7 + 1)), none, none]) X dX2_bestToSend_124 rfl rfl (by decide) rfl rfl ?_
        refine v_goto X 19 dX2_bestToSend_127 (by decide) ?_
        exact ih y5 y6 (y7 + 1) g _ _ _ _ h k
set_option maxRecDepth 100000 in
set_option maxHeartbeats 4000000 in
theorem c_X2_bestToSend (l : Launch) (D : va_G) (ad : Ky → Nat) (cy : Nat → ClassId) (hI : Inj ad) (N : Nat) (x1 : Int32) (x2 : Int32) (x3 : Int32) (g : GS) (r : Int32) (gq : GS) (h : F_X2_bestToSend N x1 x2 x3 g = some (r, gq)) : CtI l D ad cy yX2_bestToSend cX2_bestToSend 10 (some .int) 4 [.ref (ad (2, 0, 0)), .int x1, .int x2, .int x3] g r gq := by
  refine CtI.of 6 hI (by decide +kernel) rfl (Nat.le_of_ble_eq_true rfl) (fun p e s m args below meth c X => ?_)
  unfold F_X2_bestToSend at h
  show Vy _ _ _ _ _ _ _ _ _ _ _ _ _ _ _ 0 [some (.ref (ad (2, 0, 0))), some (.int x1), some (.int x2), some (.int x3), none, none, none, none, none, none] [] g
  refine v_aloadn X dX2_bestToSend_0 rfl rfl ?_
  refine gf_X2_12 X dX2_bestToSend_1 ?_
  refine v_iconst (v := 0) X dX2_bestToSend_4 (by decide) ?_
  obtain ⟨rv3, gv2, qv1, h⟩ := bd2_some h
  refine v_callVI (As := [.int (0 : Int32)]) (rest := []) X (c_X4_bitsOf l D ad cy X.2.2.2.2.2.2.2.2.1 N 0 (0 : Int32) g rv3 gv2 (by omega) qv1) mw_X4_bitsOf ml_X2_76 (by decide) (k_roof (by omega)) (by decide) rfl rfl rfl rfl (Nat.le_of_ble_eq_true rfl) dX2_bestToSend_5 ?_
  refine v_istore (lc' := [some (.ref (ad (2, 0, 0))), some (.int x1), some (.int x2), some (.int x3), some (.int rv3), none, none, none, none, none]) X dX2_bestToSend_8 (by decide) rfl rfl ?_
  refine v_iconst (v := 0) X dX2_bestToSend_10 (by decide) ?_
  refine v_istore (lc' := [some (.ref (ad (2, 0, 0))), some (.int x1), some (.int x2), some (.int x3), some (.int rv3), some (.int (0 : Int32)), none, none, none, none]) X dX2_bestToSend_11 (by decide) rfl rfl ?_
  refine v_iconst (v := -1) X dX2_bestToSend_13 (by decide) ?_
  refine v_istore (lc' := [some (.ref (ad (2, 0, 0))), some (.int x1), some (.int x2), some (.int x3), some (.int rv3), some (.int (0 : Int32)), some (.int (-1 : Int32)), none, none, none]) X dX2_bestToSend_14 (by decide) rfl rfl ?_
  refine v_iconst (v := 0) X dX2_bestToSend_16 (by decide) ?_
  refine v_istore (lc' := [some (.ref (ad (2, 0, 0))), some (.int x1), some (.int x2), some (.int x3), some (.int rv3), some (.int (0 : Int32)), some (.int (-1 : Int32)), some (.int (0 : Int32)), none, none]) X dX2_bestToSend_17 (by decide) rfl rfl ?_
  obtain ⟨xv31, xv32, xv33, gv34, qv35, h⟩ := bd4_some h
  refine w_X2_bestToSend_19 X x1 x2 x3 rv3 N (0 : Int32) (-1 : Int32) (0 : Int32) gv2 xv31 xv32 xv33 gv34 qv35 ?_
  refine v_iloadn X dX2_bestToSend_130 rfl rfl ?_
  refine v_if_eq X 139 dX2_bestToSend_131 (by decide) (fun cv36 => ?_) (fun cv36 => ?_)
  · replace h := (if_pos cv36).symm.trans h
    refine v_iload X dX2_bestToSend_139 rfl ?_
    obtain ⟨er, eg⟩ := Prod.mk.inj (Option.some.inj h)
    exact v_iret X dX2_bestToSend_141 er eg
  · replace h := (if_neg cv36).symm.trans h
    refine v_iload X dX2_bestToSend_134 rfl ?_
    refine v_goto X 141 dX2_bestToSend_136 (by decide) ?_
    obtain ⟨er, eg⟩ := Prod.mk.inj (Option.some.inj h)
    exact v_iret X dX2_bestToSend_141 er eg
def L_X2_calmCases_28 (N : Nat) (z1 : Int32) (z2 : Int32) (z3 : Int32) (z4 : Int64) (z6 : Int32) : Nat → Int32 → GS → Option (Int32 × GS)
  | 0, _, _ => none
  | n + 1, y7, g => if z2 ≤ y7 then some (y7, g) else if ((z6 >>> (y7 &&& 31)) &&& (1 : Int32)) = (1 : Int32) then bd1 (F_X4_passHourIn N 1 (0 : Int32) g) (fun gv12 => L_X2_calmCases_28 N z1 z2 z3 z4 z6 n (y7 + 1) gv12) else bd2 (F_X4_forceAfter N 1 (0 : Int32) g) (fun rv8 gv7 => bd1 (F_X4_passHourIn N 1 rv8 gv7) (fun gv10 => L_X2_calmCases_28 N z1 z2 z3 z4 z6 n (y7 + 1) gv10))
def L_X2_calmCases_6 (N : Nat) (z1 : Int32) (z2 : Int32) (z3 : Int32) : Nat → Int64 → Int32 → GS → Option (Int64 × Int32 × GS)
  | 0, _, _, _ => none
  | n + 1, y4, y6, g => if ((1 : Int32) <<< (z2 &&& 31)) ≤ y6 then some (y4, y6, g) else bd1 (F_X4_become N 1 0 g) (fun gv3 => bd2 (L_X2_calmCases_28 N z1 z2 z3 y4 y6 N (0 : Int32) gv3) (fun xv13 gv14 => bd2 (F_X4_isPolicy N 1 z1 gv14) (fun rv18 gv17 => if rv18 = 0 then L_X2_calmCases_6 N z1 z2 z3 n y4 (y6 + 1) gv17 else bd2 (F_J6_bitCount_0f7a4 N y6 gv17) (fun rv22 gv21 => bd2 (F_X7_power N (z3.toInt64) rv22 gv21) (fun rv24 gv25 => bd2 (F_X7_power N (((10 : Int32) - z3).toInt64) (z2 - rv22) gv25) (fun rv27 gv28 => L_X2_calmCases_6 N z1 z2 z3 n (y4 + (rv24 * rv27)) (y6 + 1) gv28))))))
def F_X2_calmCases (N : Nat) (x1 : Int32) (x2 : Int32) (x3 : Int32) (g : GS) : Option (Int64 × GS) := bd3 (L_X2_calmCases_6 N x1 x2 x3 N (0 : Int64) (0 : Int32) g) (fun xv29 xv30 gv31 => some (xv29, gv31))
set_option maxRecDepth 100000 in
set_option maxHeartbeats 4000000 in
theorem w_X2_calmCases_28 {p : Program} {l : Launch} {e : Env} {s : State} {m : MethodId} {args : Array Value} {below : List Frame} {meth : Method} {c : Code} {D : va_G} {ad : Ky → Nat} {cy : Nat → ClassId} {r : Int64} {gq : GS} {N : Nat} (X : Cx p (rmd 3) s m args meth c RX2 cX2_calmCases 8 (some .long) D ad cy) (z1 : Int32) (z2 : Int32) (z3 : Int32) (z4 : Int64) (z6 : Int32) : ∀ (n : Nat) (y7 : Int32) (g : GS) (y7' : Int32) (g' : GS), L_X2_calmCases_28 N z1 z2 z3 z4 z6 n y7 g = some (y7', g') → Vy p l e (rmd 3) s m args below meth c 8 D ad cy (QL D ad cy below args s r gq) 70 [some (.ref (ad (2, 0, 0))), some (.int z1), some (.int z2), some (.int z3), some (.long z4), none, some (.int z6), some (.int y7')] [] g' → Vy p l e (rmd 3) s m args below meth c 8 D ad cy (QL D ad cy below args s r gq) 28 [some (.ref (ad (2, 0, 0))), some (.int z1), some (.int z2), some (.int z3), some (.long z4), none, some (.int z6), some (.int y7)] [] g := by
  intro n
  induction n with
  | zero => intro y7 g y7' g' h k; cases h
  | succ n ih =>
    intro y7 g y7' g' h k
    rw [L_X2_calmCases_28] at h
    refine v_iload X dX2_calmCases_28 rfl ?_
    refine v_iloadn X dX2_calmCases_30 rfl rfl ?_
    refine v_icmp_ge X 70 dX2_calmCases_31 (by decide) (fun cv4 => ?_) (fun cv4 => ?_)
    · replace h := (if_pos cv4).symm.trans h
      cases h
      exact k
    · replace h := (if_neg cv4).symm.trans h
      refine v_aloadn X dX2_calmCases_34 rfl rfl ?_
      refine gf_X2_18 X dX2_calmCases_35 ?_
      refine v_iload X dX2_calmCases_38 rfl ?_
      refine v_iload X dX2_calmCases_40 rfl ?_
      refine v_ishr X dX2_calmCases_42 ?_
      refine v_iconst (v := 1) X dX2_calmCases_43 (by decide) ?_
      refine v_iand X dX2_calmCases_44 ?_
      refine v_iconst (v := 1) X dX2_calmCases_45 (by decide) ?_
      refine v_icmp_ne X 53 dX2_calmCases_46 (by decide) (fun cv5 => ?_) (fun cv5 => ?_)
      · replace h := (if_neg cv5).symm.trans h
        refine v_aloadn X dX2_calmCases_53 rfl rfl ?_
        refine gf_X2_18 X dX2_calmCases_54 ?_
        refine v_iconst (v := 0) X dX2_calmCases_57 (by decide) ?_
        obtain ⟨rv8, gv7, qv6, h⟩ := bd2_some h
        refine v_callVI (As := [.int (0 : Int32)]) (rest := [.ref (ad (4, 1, 0))]) X (c_X4_forceAfter l D ad cy X.2.2.2.2.2.2.2.2.1 N 1 (0 : Int32) g rv8 gv7 (by omega) qv6) mw_X4_forceAfter ml_X2_56 (by decide) (k_roof (by omega)) (by decide) rfl rfl rfl rfl (Nat.le_of_ble_eq_true rfl) dX2_calmCases_58 ?_
        obtain ⟨gv10, qv9, h⟩ := bd1_some h
        refine v_callVV (As := [.int rv8]) (rest := []) X (c_X4_passHourIn l D ad cy X.2.2.2.2.2.2.2.2.1 N 1 rv8 gv7 gv10 (by omega) qv9) mw_X4_passHourIn ml_X2_60 (by decide) (k_roof (by omega)) (by decide) rfl rfl rfl rfl (Nat.le_of_ble_eq_true rfl) dX2_calmCases_61 ?_
        refine v_iinc (v := (y7 + 1)) (lc' := [some (.ref (ad (2, 0, 0))), some (.int z1), some (.int z2), some (.int z3), some (.long z4), none, some (.int z6), some (.int (y7 + 1))]) X dX2_calmCases_64 rfl rfl (by decide) rfl rfl ?_
        refine v_goto X 28 dX2_calmCases_67 (by decide) ?_
        exact ih (y7 + 1) gv10 _ _ h k
      · replace h := (if_pos cv5).symm.trans h
        refine v_iconst (v := 0) X dX2_calmCases_49 (by decide) ?_
        refine v_goto X 61 dX2_calmCases_50 (by decide) ?_
        obtain ⟨gv12, qv11, h⟩ := bd1_some h
        refine v_callVV (As := [.int (0 : Int32)]) (rest := []) X (c_X4_passHourIn l D ad cy X.2.2.2.2.2.2.2.2.1 N 1 (0 : Int32) g gv12 (by omega) qv11) mw_X4_passHourIn ml_X2_60 (by decide) (k_roof (by omega)) (by decide) rfl rfl rfl rfl (Nat.le_of_ble_eq_true rfl) dX2_calmCases_61 ?_
        refine v_iinc (v := (y7 + 1)) (lc' := [some (.ref (ad (2, 0, 0))), some (.int z1), some (.int z2), some (.int z3), some (.long z4), none, some (.int z6), some (.int (y7 + 1))]) X dX2_calmCases_64 rfl rfl (by decide) rfl rfl ?_
        refine v_goto X 28 dX2_calmCases_67 (by decide) ?_
        exact ih (y7 + 1) gv12 _ _ h k
set_option maxRecDepth 100000 in
set_option maxHeartbeats 4000000 in
theorem w_X2_calmCases_6 {p : Program} {l : Launch} {e : Env} {s : State} {m : MethodId} {args : Array Value} {below : List Frame} {meth : Method} {c : Code} {D : va_G} {ad : Ky → Nat} {cy : Nat → ClassId} {r : Int64} {gq : GS} {N : Nat} (X : Cx p (rmd 3) s m args meth c RX2 cX2_calmCases 8 (some .long) D ad cy) (z1 : Int32) (z2 : Int32) (z3 : Int32) : ∀ (n : Nat) (y4 : Int64) (y6 : Int32) (g : GS) (y4' : Int64) (y6' : Int32) (g' : GS), L_X2_calmCases_6 N z1 z2 z3 n y4 y6 g = some (y4', y6', g') → Vy p l e (rmd 3) s m args below meth c 8 D ad cy (QL D ad cy below args s r gq) 119 [some (.ref (ad (2, 0, 0))), some (.int z1), some (.int z2), some (.int z3), some (.long y4'), none, some (.int y6'), none] [] g' → Vy p l e (rmd 3) s m args below meth c 8 D ad cy (QL D ad cy below args s r gq) 6 [some (.ref (ad (2, 0, 0))), some (.int z1), some (.int z2), some (.int z3), some (.long y4), none, some (.int y6), none] [] g := by
  intro n
  induction n with
  | zero => intro y4 y6 g y4' y6' g' h k; cases h
  | succ n ih =>
    intro y4 y6 g y4' y6' g' h k
    rw [L_X2_calmCases_6] at h
    refine v_iload X dX2_calmCases_6 rfl ?_
    refine v_iconst (v := 1) X dX2_calmCases_8 (by decide) ?_
    refine v_iloadn X dX2_calmCases_9 rfl rfl ?_
    refine v_ishl X dX2_calmCases_10 ?_
    refine v_icmp_ge X 119 dX2_calmCases_11 (by decide) (fun cv1 => ?_) (fun cv1 => ?_)
    · replace h := (if_pos cv1).symm.trans h
      cases h
      exact k
    · replace h := (if_neg cv1).symm.trans h
      refine v_aloadn X dX2_calmCases_14 rfl rfl ?_
      refine gf_X2_18 X dX2_calmCases_15 ?_
      refine v_aloadn X dX2_calmCases_18 rfl rfl ?_
      refine gf_X2_12 X dX2_calmCases_19 ?_
      obtain ⟨gv3, qv2, h⟩ := bd1_some h
      refine v_callVV (As := [.ref (ad (4, 0, 0))]) (rest := []) X (c_X4_become l D ad cy X.2.2.2.2.2.2.2.2.1 N 1 0 g gv3 (by omega) (by omega) qv2) mw_X4_become ml_X2_48 (by decide) (k_roof (by omega)) (by decide) rfl rfl rfl rfl (Nat.le_of_ble_eq_true rfl) dX2_calmCases_22 ?_
      refine v_iconst (v := 0) X dX2_calmCases_25 (by decide) ?_
      refine v_istore (lc' := [some (.ref (ad (2, 0, 0))), some (.int z1), some (.int z2), some (.int z3), some (.long y4), none, some (.int y6), some (.int (0 : Int32))]) X dX2_calmCases_26 (by decide) rfl rfl ?_
      obtain ⟨xv13, gv14, qv15, h⟩ := bd2_some h
      refine w_X2_calmCases_28 X z1 z2 z3 y4 y6 N (0 : Int32) gv3 xv13 gv14 qv15 ?_
      refine v_aloadn X dX2_calmCases_70 rfl rfl ?_
      refine gf_X2_18 X dX2_calmCases_71 ?_
      refine v_iloadn X dX2_calmCases_74 rfl rfl ?_
      obtain ⟨rv18, gv17, qv16, h⟩ := bd2_some h
      refine v_callVI (As := [.int z1]) (rest := []) X (c_X4_isPolicy l D ad cy X.2.2.2.2.2.2.2.2.1 N 1 z1 gv14 rv18 gv17 (by omega) qv16) mw_X4_isPolicy ml_X2_72 (by decide) (k_roof (by omega)) (by decide) rfl rfl rfl rfl (Nat.le_of_ble_eq_true rfl) dX2_calmCases_75 ?_
      refine v_if_eq X 113 dX2_calmCases_78 (by decide) (fun cv19 => ?_) (fun cv19 => ?_)
      · replace h := (if_pos cv19).symm.trans h
        refine v_iinc (v := (y6 + 1)) (lc' := [some (.ref (ad (2, 0, 0))), some (.int z1), some (.int z2), some (.int z3), some (.long y4), none, some (.int (y6 + 1)), some (.int xv13)]) X dX2_calmCases_113 rfl rfl (by decide) rfl rfl ?_
        refine v_goto X 6 dX2_calmCases_116 (by decide) ?_
        refine v_weak (lc2 := [some (.ref (ad (2, 0, 0))), some (.int z1), some (.int z2), some (.int z3), some (.long y4), none, some (.int (y6 + 1)), none]) ⟨rfl, rfl, rfl, rfl, rfl, rfl, trivial⟩ ?_
        exact ih y4 (y6 + 1) gv17 _ _ _ h k
      · replace h := (if_neg cv19).symm.trans h
        refine v_iload X dX2_calmCases_81 rfl ?_
        obtain ⟨rv22, gv21, qv20, h⟩ := bd2_some h
        refine v_callSI (As := [.int y6]) (rest := []) X (c_J6_bitCount_0f7a4 l D ad cy X.2.2.2.2.2.2.2.2.1 N y6 gv17 rv22 gv21  qv20) mw_J6_bitCount_0f7a4 ml_X2_87 (by decide) rfl rfl (Nat.le_of_ble_eq_true rfl) dX2_calmCases_83 ?_
        refine v_istore (lc' := [some (.ref (ad (2, 0, 0))), some (.int z1), some (.int z2), some (.int z3), some (.long y4), none, some (.int y6), some (.int rv22)]) X dX2_calmCases_86 (by decide) rfl rfl ?_
        refine v_lload X dX2_calmCases_88 rfl ?_
        refine v_iloadn X dX2_calmCases_90 rfl rfl ?_
        refine v_i2l X dX2_calmCases_91 ?_
        refine v_iload X dX2_calmCases_92 rfl ?_
        obtain ⟨rv24, gv25, qv23, h⟩ := bd2_some h
        refine v_power (rest := [.long y4]) X (c_X7_power l D ad cy X.2.2.2.2.2.2.2.2.1 N (z3.toInt64) rv22 gv21 rv24 gv25 qv23) (by decide) (Nat.le_of_ble_eq_true rfl) dX2_calmCases_94 ?_
        refine v_bipush (v := 10) X dX2_calmCases_97 (by decide) ?_
        refine v_iloadn X dX2_calmCases_99 rfl rfl ?_
        refine v_isub X dX2_calmCases_100 ?_
        refine v_i2l X dX2_calmCases_101 ?_
        refine v_iloadn X dX2_calmCases_102 rfl rfl ?_
        refine v_iload X dX2_calmCases_103 rfl ?_
        refine v_isub X dX2_calmCases_105 ?_
        obtain ⟨rv27, gv28, qv26, h⟩ := bd2_some h
        refine v_power (rest := [.long rv24, .long y4]) X (c_X7_power l D ad cy X.2.2.2.2.2.2.2.2.1 N (((10 : Int32) - z3).toInt64) (z2 - rv22) gv25 rv27 gv28 qv26) (by decide) (Nat.le_of_ble_eq_true rfl) dX2_calmCases_106 ?_
        refine v_lmul X dX2_calmCases_109 ?_
        refine v_ladd X dX2_calmCases_110 ?_
        refine v_lstore (lc' := [some (.ref (ad (2, 0, 0))), some (.int z1), some (.int z2), some (.int z3), some (.long (y4 + (rv24 * rv27))), none, some (.int y6), some (.int rv22)]) X dX2_calmCases_111 (by decide) rfl rfl ?_
        refine v_iinc (v := (y6 + 1)) (lc' := [some (.ref (ad (2, 0, 0))), some (.int z1), some (.int z2), some (.int z3), some (.long (y4 + (rv24 * rv27))), none, some (.int (y6 + 1)), some (.int rv22)]) X dX2_calmCases_113 rfl rfl (by decide) rfl rfl ?_
        refine v_goto X 6 dX2_calmCases_116 (by decide) ?_
        refine v_weak (lc2 := [some (.ref (ad (2, 0, 0))), some (.int z1), some (.int z2), some (.int z3), some (.long (y4 + (rv24 * rv27))), none, some (.int (y6 + 1)), none]) ⟨rfl, rfl, rfl, rfl, rfl, rfl, trivial⟩ ?_
        exact ih (y4 + (rv24 * rv27)) (y6 + 1) gv28 _ _ _ h k
set_option maxRecDepth 100000 in
set_option maxHeartbeats 4000000 in
theorem c_X2_calmCases (l : Launch) (D : va_G) (ad : Ky → Nat) (cy : Nat → ClassId) (hI : Inj ad) (N : Nat) (x1 : Int32) (x2 : Int32) (x3 : Int32) (g : GS) (r : Int64) (gq : GS) (h : F_X2_calmCases N x1 x2 x3 g = some (r, gq)) : CtL l D ad cy yX2_calmCases cX2_calmCases 8 3 [.ref (ad (2, 0, 0)), .int x1, .int x2, .int x3] g r gq := by
  refine CtL.of 4 hI (by decide +kernel) rfl (Nat.le_of_ble_eq_true rfl) (fun p e s m args below meth c X => ?_)
  unfold F_X2_calmCases at h
  show Vy _ _ _ _ _ _ _ _ _ _ _ _ _ _ _ 0 [some (.ref (ad (2, 0, 0))), some (.int x1), some (.int x2), some (.int x3), none, none, none, none] [] g
  refine v_lconst (v := 0) X dX2_calmCases_0 (by decide) ?_
  refine v_lstore (lc' := [some (.ref (ad (2, 0, 0))), some (.int x1), some (.int x2), some (.int x3), some (.long (0 : Int64)), none, none, none]) X dX2_calmCases_1 (by decide) rfl rfl ?_
  refine v_iconst (v := 0) X dX2_calmCases_3 (by decide) ?_
  refine v_istore (lc' := [some (.ref (ad (2, 0, 0))), some (.int x1), some (.int x2), some (.int x3), some (.long (0 : Int64)), none, some (.int (0 : Int32)), none]) X dX2_calmCases_4 (by decide) rfl rfl ?_
  obtain ⟨xv29, xv30, gv31, qv32, h⟩ := bd3_some h
  refine w_X2_calmCases_6 X x1 x2 x3 N (0 : Int64) (0 : Int32) g xv29 xv30 gv31 qv32 ?_
  refine v_lload X dX2_calmCases_119 rfl ?_
  obtain ⟨er, eg⟩ := Prod.mk.inj (Option.some.inj h)
  exact v_lret X dX2_calmCases_121 er eg
def F_X2_draftAhead (N : Nat) (x1 : Int32) (g : GS) : Option GS := bd1 (F_X4_become N 1 0 g) (fun gv2 => bd1 (F_X2_passDraft N x1 gv2) (fun gv4 => some gv4))
set_option maxRecDepth 100000 in
set_option maxHeartbeats 4000000 in
theorem c_X2_draftAhead (l : Launch) (D : va_G) (ad : Ky → Nat) (cy : Nat → ClassId) (hI : Inj ad) (N : Nat) (x1 : Int32) (g : GS) (gq : GS) (h : F_X2_draftAhead N x1 g = some gq) : CtV l D ad cy yX2_draftAhead cX2_draftAhead 2 4 [.ref (ad (2, 0, 0)), .int x1] g gq := by
  refine CtV.of 0 hI (by decide +kernel) rfl (Nat.le_of_ble_eq_true rfl) (fun p e s m args below meth c X => ?_)
  unfold F_X2_draftAhead at h
  show Vy _ _ _ _ _ _ _ _ _ _ _ _ _ _ _ 0 [some (.ref (ad (2, 0, 0))), some (.int x1)] [] g
  refine v_aloadn X dX2_draftAhead_0 rfl rfl ?_
  refine gf_X2_18 X dX2_draftAhead_1 ?_
  refine v_aloadn X dX2_draftAhead_4 rfl rfl ?_
  refine gf_X2_12 X dX2_draftAhead_5 ?_
  obtain ⟨gv2, qv1, h⟩ := bd1_some h
  refine v_callVV (As := [.ref (ad (4, 0, 0))]) (rest := []) X (c_X4_become l D ad cy X.2.2.2.2.2.2.2.2.1 N 1 0 g gv2 (by omega) (by omega) qv1) mw_X4_become ml_X2_48 (by decide) (k_roof (by omega)) (by decide) rfl rfl rfl rfl (Nat.le_of_ble_eq_true rfl) dX2_draftAhead_8 ?_
  refine v_aloadn X dX2_draftAhead_11 rfl rfl ?_
  refine v_iloadn X dX2_draftAhead_12 rfl rfl ?_
  obtain ⟨gv4, qv3, h⟩ := bd1_some h
  refine v_callVV (As := [.int x1]) (rest := []) X (c_X2_passDraft l D ad cy X.2.2.2.2.2.2.2.2.1 N x1 gv2 gv4  qv3) mw_X2_passDraft ml_X2_52 (by decide) (by decide +kernel) (by decide) rfl rfl rfl rfl (Nat.le_of_ble_eq_true rfl) dX2_draftAhead_13 ?_
  exact v_vret X dX2_draftAhead_16 (Option.some.inj h)
def L_X2_draftIsAsSeen_29 (N : Nat) : Nat → Int32 → GS → Option ((Int32 × GS) ⊕ (Int32 × GS))
  | 0, _, _ => none
  | n + 1, y1, g => if (g 5 0 3) ≤ y1 then some (.inr (y1, g)) else bd2 (F_X4_forceAfter N 1 (0 : Int32) g) (fun rv11 gv10 => bd1 (F_X4_passHourIn N 1 rv11 gv10) (fun gv13 => bd1 (ix (gv13 5 0 0) 6) (fun jv14 => bd1 (sk (gv13 5 0 1)) (fun jv16 => bd1 (ix ((gv13 5 0 2) + y1) 40) (fun jv18 => if (gv13 13 1 (7 * jv14 + 4)) = (gv13 2 jv16 jv18) then L_X2_draftIsAsSeen_29 N n (y1 + 1) gv13 else some (.inl ((0 : Int32), gv13)))))))
def F_X2_draftIsAsSeen (N : Nat) (g : GS) : Option (Int32 × GS) := if (g 5 0 1) = 0 then some ((0 : Int32), g) else bd1 (sk (g 5 0 1)) (fun jv2 => bd2 (F_X5_hasPlaces N jv2 (g 5 0 2) (g 5 0 3) g) (fun rv6 gv5 => if rv6 = 0 then some ((0 : Int32), gv5) else bs2 (L_X2_draftIsAsSeen_29 N N (0 : Int32) gv5) (fun rv24 gv25 => some (rv24, gv25)) (fun xv21 gv22 => some ((1 : Int32), gv22))))
set_option maxRecDepth 100000 in
set_option maxHeartbeats 4000000 in
theorem w_X2_draftIsAsSeen_29 {p : Program} {l : Launch} {e : Env} {s : State} {m : MethodId} {args : Array Value} {below : List Frame} {meth : Method} {c : Code} {D : va_G} {ad : Ky → Nat} {cy : Nat → ClassId} {r : Int32} {gq : GS} {N : Nat} (X : Cx p (rmd 3) s m args meth c RX2 cX2_draftIsAsSeen 2 (some .boolean) D ad cy) : ∀ (n : Nat) (y1 : Int32) (g : GS) (res : _), L_X2_draftIsAsSeen_29 N n y1 g = some res → (∀ (r1 : Int32) (g1 : GS), res = .inl (r1, g1) → r1 = r ∧ g1 = gq) → (∀ (y1' : Int32) (g' : GS), res = .inr (y1', g') → Vy p l e (rmd 3) s m args below meth c 2 D ad cy (QI D ad cy below args s r gq) 92 [some (.ref (ad (2, 0, 0))), some (.int y1')] [] g') → Vy p l e (rmd 3) s m args below meth c 2 D ad cy (QI D ad cy below args s r gq) 29 [some (.ref (ad (2, 0, 0))), some (.int y1)] [] g := by
  intro n
  induction n with
  | zero => intro y1 g res h kr k; cases h
  | succ n ih =>
    intro y1 g res h kr k
    rw [L_X2_draftIsAsSeen_29] at h
    refine v_iloadn X dX2_draftIsAsSeen_29 rfl rfl ?_
    refine v_aloadn X dX2_draftIsAsSeen_30 rfl rfl ?_
    refine gf_X2_32 X dX2_draftIsAsSeen_31 ?_
    refine v_icmp_ge X 92 dX2_draftIsAsSeen_34 (by decide) (fun cv8 => ?_) (fun cv8 => ?_)
    · replace h := (if_pos cv8).symm.trans h
      cases h
      exact k _ _ rfl
    · replace h := (if_neg cv8).symm.trans h
      refine v_aloadn X dX2_draftIsAsSeen_37 rfl rfl ?_
      refine gf_X2_18 X dX2_draftIsAsSeen_38 ?_
      refine v_aloadn X dX2_draftIsAsSeen_41 rfl rfl ?_
      refine gf_X2_18 X dX2_draftIsAsSeen_42 ?_
      refine v_iconst (v := 0) X dX2_draftIsAsSeen_45 (by decide) ?_
      obtain ⟨rv11, gv10, qv9, h⟩ := bd2_some h
      refine v_callVI (As := [.int (0 : Int32)]) (rest := [.ref (ad (4, 1, 0))]) X (c_X4_forceAfter l D ad cy X.2.2.2.2.2.2.2.2.1 N 1 (0 : Int32) g rv11 gv10 (by omega) qv9) mw_X4_forceAfter ml_X2_56 (by decide) (k_roof (by omega)) (by decide) rfl rfl rfl rfl (Nat.le_of_ble_eq_true rfl) dX2_draftIsAsSeen_46 ?_
      obtain ⟨gv13, qv12, h⟩ := bd1_some h
      refine v_callVV (As := [.int rv11]) (rest := []) X (c_X4_passHourIn l D ad cy X.2.2.2.2.2.2.2.2.1 N 1 rv11 gv10 gv13 (by omega) qv12) mw_X4_passHourIn ml_X2_60 (by decide) (k_roof (by omega)) (by decide) rfl rfl rfl rfl (Nat.le_of_ble_eq_true rfl) dX2_draftIsAsSeen_49 ?_
      refine v_aloadn X dX2_draftIsAsSeen_52 rfl rfl ?_
      refine gf_X2_18 X dX2_draftIsAsSeen_53 ?_
      refine gf_X2_63 X (k_roof (by omega)) dX2_draftIsAsSeen_56 ?_
      refine v_aloadn X dX2_draftIsAsSeen_59 rfl rfl ?_
      refine gf_X2_21 X dX2_draftIsAsSeen_60 ?_
      obtain ⟨jv14, qv15, h⟩ := bd1_some h
      obtain ⟨ejv14, ljv14⟩ := ix_spec qv15
      refine aaP X (k_papers (by omega)) jv14 ejv14 ljv14 dX2_draftIsAsSeen_63 ?_
      refine gf_X2_109 X (k_paper (by omega) (by omega)) dX2_draftIsAsSeen_64 ?_
      refine v_aloadn X dX2_draftIsAsSeen_67 rfl rfl ?_
      obtain ⟨jv16, qv17, h⟩ := bd1_some h
      have ljv16 := sk_lt qv17
      refine gs_X2_25 X qv17 dX2_draftIsAsSeen_68 ?_
      refine gf_X2_155 X (k_row (by omega)) dX2_draftIsAsSeen_71 ?_
      refine v_aloadn X dX2_draftIsAsSeen_74 rfl rfl ?_
      refine gf_X2_29 X dX2_draftIsAsSeen_75 ?_
      refine v_iloadn X dX2_draftIsAsSeen_78 rfl rfl ?_
      refine v_iadd X dX2_draftIsAsSeen_79 ?_
      obtain ⟨jv18, qv19, h⟩ := bd1_some h
      obtain ⟨ejv18, ljv18⟩ := ix_spec qv19
      refine alI X (k_items (by omega)) jv18 ejv18 ljv18 dX2_draftIsAsSeen_80 ?_
      refine v_icmp_eq X 86 dX2_draftIsAsSeen_81 (by decide) (fun cv20 => ?_) (fun cv20 => ?_)
      · replace h := (if_pos cv20).symm.trans h
        refine v_iinc (v := (y1 + 1)) (lc' := [some (.ref (ad (2, 0, 0))), some (.int (y1 + 1))]) X dX2_draftIsAsSeen_86 rfl rfl (by decide) rfl rfl ?_
        refine v_goto X 29 dX2_draftIsAsSeen_89 (by decide) ?_
        exact ih (y1 + 1) gv13 _ h kr k
      · replace h := (if_neg cv20).symm.trans h
        refine v_iconst (v := 0) X dX2_draftIsAsSeen_84 (by decide) ?_
        obtain ⟨er, eg⟩ := kr _ _ (Option.some.inj h).symm
        exact v_zret X dX2_draftIsAsSeen_85 rfl er eg
set_option maxRecDepth 100000 in
set_option maxHeartbeats 4000000 in
theorem c_X2_draftIsAsSeen (l : Launch) (D : va_G) (ad : Ky → Nat) (cy : Nat → ClassId) (hI : Inj ad) (N : Nat) (g : GS) (r : Int32) (gq : GS) (h : F_X2_draftIsAsSeen N  g = some (r, gq)) : CtI l D ad cy yX2_draftIsAsSeen cX2_draftIsAsSeen 2 (some .boolean) 3 [.ref (ad (2, 0, 0))] g r gq := by
  refine CtI.of 1 hI (by decide +kernel) rfl (Nat.le_of_ble_eq_true rfl) (fun p e s m args below meth c X => ?_)
  unfold F_X2_draftIsAsSeen at h
  show Vy _ _ _ _ _ _ _ _ _ _ _ _ _ _ _ 0 [some (.ref (ad (2, 0, 0))), none] [] g
  refine v_aloadn X dX2_draftIsAsSeen_0 rfl rfl ?_
  refine gf_X2_25 X dX2_draftIsAsSeen_1 ?_
  refine v_ifnull_seen X 25 dX2_draftIsAsSeen_4 (by decide) (fun cv1 => ?_) (fun cv1 => ?_)
  · replace h := (if_pos cv1).symm.trans h
    refine v_iconst (v := 0) X dX2_draftIsAsSeen_25 (by decide) ?_
    obtain ⟨er, eg⟩ := Prod.mk.inj (Option.some.inj h)
    exact v_zret X dX2_draftIsAsSeen_26 rfl er eg
  · replace h := (if_neg cv1).symm.trans h
    refine v_aloadn X dX2_draftIsAsSeen_7 rfl rfl ?_
    obtain ⟨jv2, qv3, h⟩ := bd1_some h
    have ljv2 := sk_lt qv3
    refine gs_X2_25 X qv3 dX2_draftIsAsSeen_8 ?_
    refine v_aloadn X dX2_draftIsAsSeen_11 rfl rfl ?_
    refine gf_X2_29 X dX2_draftIsAsSeen_12 ?_
    refine v_aloadn X dX2_draftIsAsSeen_15 rfl rfl ?_
    refine gf_X2_32 X dX2_draftIsAsSeen_16 ?_
    obtain ⟨rv6, gv5, qv4, h⟩ := bd2_some h
    refine v_callVI (As := [.int (g 5 0 2), .int (g 5 0 3)]) (rest := []) X (c_X5_hasPlaces l D ad cy X.2.2.2.2.2.2.2.2.1 N jv2 (g 5 0 2) (g 5 0 3) g rv6 gv5 (by omega) qv4) mw_X5_hasPlaces ml_X2_150 (by decide) (k_row (by omega)) (by decide) rfl rfl rfl rfl (Nat.le_of_ble_eq_true rfl) dX2_draftIsAsSeen_19 ?_
    refine v_if_ne X 27 dX2_draftIsAsSeen_22 (by decide) (fun cv7 => ?_) (fun cv7 => ?_)
    · replace h := (if_neg cv7).symm.trans h
      refine v_iconst (v := 0) X dX2_draftIsAsSeen_27 (by decide) ?_
      refine v_istoren (lc' := [some (.ref (ad (2, 0, 0))), some (.int (0 : Int32))]) X dX2_draftIsAsSeen_28 rfl (by decide) rfl rfl ?_
      obtain ⟨zv26, qv23, h⟩ := bs2_some h
      refine w_X2_draftIsAsSeen_29 X  N (0 : Int32) gv5 _ qv23 ?_ ?_
      · intro rv24 gv25 e1
        subst e1
        dsimp only at h
        cases h
        exact ⟨rfl, rfl⟩
      · intro xv21 gv22 e1
        subst e1
        dsimp only at h
        refine v_iconst (v := 1) X dX2_draftIsAsSeen_92 (by decide) ?_
        obtain ⟨er, eg⟩ := Prod.mk.inj (Option.some.inj h)
        exact v_zret X dX2_draftIsAsSeen_93 rfl er eg
    · replace h := (if_pos cv7).symm.trans h
      refine v_iconst (v := 0) X dX2_draftIsAsSeen_25 (by decide) ?_
      obtain ⟨er, eg⟩ := Prod.mk.inj (Option.some.inj h)
      exact v_zret X dX2_draftIsAsSeen_26 rfl er eg
def F_X2_draftWith (N : Nat) (x1 : Int32) (x2 : Int32) (x3 : Int32) (g : GS) : Option GS := bd1 (F_X4_become N 1 0 g) (fun gv2 => if x1 = 0 then bd1 (ix x2 6) (fun jv4 => some (g3 gv2 13 1 (7 * jv4) x3)) else if x1 = 1 then bd1 (ix x2 6) (fun jv7 => some (g3 gv2 13 1 (7 * jv7 + 1) x3)) else if x1 = 2 then bd1 (ix x2 6) (fun jv10 => some (g3 gv2 13 1 (7 * jv10 + 2) x3)) else if x1 = 3 then bd1 (ix x2 6) (fun jv13 => some (g3 gv2 12 1 jv13 x3)) else some (g3 gv2 0 1 1 x3))
set_option maxRecDepth 100000 in
set_option maxHeartbeats 4000000 in
theorem c_X2_draftWith (l : Launch) (D : va_G) (ad : Ky → Nat) (cy : Nat → ClassId) (hI : Inj ad) (N : Nat) (x1 : Int32) (x2 : Int32) (x3 : Int32) (g : GS) (gq : GS) (h : F_X2_draftWith N x1 x2 x3 g = some gq) : CtV l D ad cy yX2_draftWith cX2_draftWith 4 2 [.ref (ad (2, 0, 0)), .int x1, .int x2, .int x3] g gq := by
  refine CtV.of 0 hI (by decide +kernel) rfl (Nat.le_of_ble_eq_true rfl) (fun p e s m args below meth c X => ?_)
  unfold F_X2_draftWith at h
  show Vy _ _ _ _ _ _ _ _ _ _ _ _ _ _ _ 0 [some (.ref (ad (2, 0, 0))), some (.int x1), some (.int x2), some (.int x3)] [] g
  refine v_aloadn X dX2_draftWith_0 rfl rfl ?_
  refine gf_X2_18 X dX2_draftWith_1 ?_
  refine v_aloadn X dX2_draftWith_4 rfl rfl ?_
  refine gf_X2_12 X dX2_draftWith_5 ?_
  obtain ⟨gv2, qv1, h⟩ := bd1_some h
  refine v_callVV (As := [.ref (ad (4, 0, 0))]) (rest := []) X (c_X4_become l D ad cy X.2.2.2.2.2.2.2.2.1 N 1 0 g gv2 (by omega) (by omega) qv1) mw_X4_become ml_X2_48 (by decide) (k_roof (by omega)) (by decide) rfl rfl rfl rfl (Nat.le_of_ble_eq_true rfl) dX2_draftWith_8 ?_
  refine v_iloadn X dX2_draftWith_11 rfl rfl ?_
  by_cases cv3 : x1 = 0
  · replace h := (if_pos cv3).symm.trans h
    refine v_tableIn X 44 dX2_draftWith_12 (by rw [cv3]; decide) (by rw [cv3]; decide) (by rw [cv3]; rfl) (by decide) ?_
    refine v_aloadn X dX2_draftWith_44 rfl rfl ?_
    refine gf_X2_18 X dX2_draftWith_45 ?_
    refine gf_X2_63 X (k_roof (by omega)) dX2_draftWith_48 ?_
    refine v_iloadn X dX2_draftWith_51 rfl rfl ?_
    obtain ⟨jv4, qv5, h⟩ := bd1_some h
    obtain ⟨ejv4, ljv4⟩ := ix_spec qv5
    refine aaP X (k_papers (by omega)) jv4 ejv4 ljv4 dX2_draftWith_52 ?_
    refine v_iloadn X dX2_draftWith_53 rfl rfl ?_
    refine pf_X2_137 X (k_paper (by omega) (by omega)) dX2_draftWith_54 ?_
    refine v_goto X 113 dX2_draftWith_57 (by decide) ?_
    exact v_vret X dX2_draftWith_113 (Option.some.inj h)
  replace h := (if_neg cv3).symm.trans h
  by_cases cv6 : x1 = 1
  · replace h := (if_pos cv6).symm.trans h
    refine v_tableIn X 60 dX2_draftWith_12 (by rw [cv6]; decide) (by rw [cv6]; decide) (by rw [cv6]; rfl) (by decide) ?_
    refine v_aloadn X dX2_draftWith_60 rfl rfl ?_
    refine gf_X2_18 X dX2_draftWith_61 ?_
    refine gf_X2_63 X (k_roof (by omega)) dX2_draftWith_64 ?_
    refine v_iloadn X dX2_draftWith_67 rfl rfl ?_
    obtain ⟨jv7, qv8, h⟩ := bd1_some h
    obtain ⟨ejv7, ljv7⟩ := ix_spec qv8
    refine aaP X (k_papers (by omega)) jv7 ejv7 ljv7 dX2_draftWith_68 ?_
    refine v_iloadn X dX2_draftWith_69 rfl rfl ?_
    refine pf_X2_140 X (k_paper (by omega) (by omega)) dX2_draftWith_70 ?_
    refine v_goto X 113 dX2_draftWith_73 (by decide) ?_
    exact v_vret X dX2_draftWith_113 (Option.some.inj h)
  replace h := (if_neg cv6).symm.trans h
  by_cases cv9 : x1 = 2
  · replace h := (if_pos cv9).symm.trans h
    refine v_tableIn X 76 dX2_draftWith_12 (by rw [cv9]; decide) (by rw [cv9]; decide) (by rw [cv9]; rfl) (by decide) ?_
    refine v_aloadn X dX2_draftWith_76 rfl rfl ?_
    refine gf_X2_18 X dX2_draftWith_77 ?_
    refine gf_X2_63 X (k_roof (by omega)) dX2_draftWith_80 ?_
    refine v_iloadn X dX2_draftWith_83 rfl rfl ?_
    obtain ⟨jv10, qv11, h⟩ := bd1_some h
    obtain ⟨ejv10, ljv10⟩ := ix_spec qv11
    refine aaP X (k_papers (by omega)) jv10 ejv10 ljv10 dX2_draftWith_84 ?_
    refine v_iloadn X dX2_draftWith_85 rfl rfl ?_
    refine pf_X2_143 X (k_paper (by omega) (by omega)) dX2_draftWith_86 ?_
    refine v_goto X 113 dX2_draftWith_89 (by decide) ?_
    exact v_vret X dX2_draftWith_113 (Option.some.inj h)
  replace h := (if_neg cv9).symm.trans h
  by_cases cv12 : x1 = 3
  · replace h := (if_pos cv12).symm.trans h
    refine v_tableIn X 92 dX2_draftWith_12 (by rw [cv12]; decide) (by rw [cv12]; decide) (by rw [cv12]; rfl) (by decide) ?_
    refine v_aloadn X dX2_draftWith_92 rfl rfl ?_
    refine gf_X2_18 X dX2_draftWith_93 ?_
    refine gf_X2_146 X (k_roof (by omega)) dX2_draftWith_96 ?_
    refine v_iloadn X dX2_draftWith_99 rfl rfl ?_
    refine v_iloadn X dX2_draftWith_100 rfl rfl ?_
    obtain ⟨jv13, qv14, h⟩ := bd1_some h
    obtain ⟨ejv13, ljv13⟩ := ix_spec qv14
    refine asF X (k_forces (by omega)) jv13 ejv13 ljv13 dX2_draftWith_101 ?_
    refine v_goto X 113 dX2_draftWith_102 (by decide) ?_
    exact v_vret X dX2_draftWith_113 (Option.some.inj h)
  replace h := (if_neg cv12).symm.trans h
  have tv15 := tab_ne (k := 0) (n := 0) cv3 (by decide)
  have tv16 := tab_ne (k := 1) (n := 1) cv6 (by decide)
  have tv17 := tab_ne (k := 2) (n := 2) cv9 (by decide)
  have tv18 := tab_ne (k := 3) (n := 3) cv12 (by decide)
  refine v_tableOut X 105 dX2_draftWith_12 (by omega) (by decide) ?_
  refine v_aloadn X dX2_draftWith_105 rfl rfl ?_
  refine gf_X2_18 X dX2_draftWith_106 ?_
  refine v_iloadn X dX2_draftWith_109 rfl rfl ?_
  refine pf_X2_120 X (k_roof (by omega)) dX2_draftWith_110 ?_
  exact v_vret X dX2_draftWith_113 (Option.some.inj h)
def F_X2_drawAct (N : Nat) (x1 : Int32) (g : GS) : Option GS := if (1 : Int32) ≤ (g 0 1 4) then if (g 0 1 4) = 0 then none else bd1 (ix (x1 - x1 / (g 0 1 4) * (g 0 1 4)) 6) (fun jv3 => if (g 13 1 (7 * jv3 + 3)) = 0 then bd1 (F_X3_rise N 1 jv3 ((x1 - x1 / (40 : Int32) * (40 : Int32)) + (1 : Int32)) g) (fun gv14 => some gv14) else bd2 (F_X3_isUp N 1 jv3 g) (fun rv8 gv7 => if rv8 = 0 then some gv7 else if (x1 - x1 / (2 : Int32) * (2 : Int32)) = 0 then bd1 (F_X3_letOutBy N 1 jv3 (5 : Int32) gv7) (fun gv12 => some gv12) else some gv7)) else some g
set_option maxRecDepth 100000 in
set_option maxHeartbeats 4000000 in
theorem c_X2_drawAct (l : Launch) (D : va_G) (ad : Ky → Nat) (cy : Nat → ClassId) (hI : Inj ad) (N : Nat) (x1 : Int32) (g : GS) (gq : GS) (h : F_X2_drawAct N x1 g = some gq) : CtV l D ad cy yX2_drawAct cX2_drawAct 3 2 [.ref (ad (2, 0, 0)), .int x1] g gq := by
  refine CtV.of 1 hI (by decide +kernel) rfl (Nat.le_of_ble_eq_true rfl) (fun p e s m args below meth c X => ?_)
  unfold F_X2_drawAct at h
  show Vy _ _ _ _ _ _ _ _ _ _ _ _ _ _ _ 0 [some (.ref (ad (2, 0, 0))), some (.int x1), none] [] g
  refine v_aloadn X dX2_drawAct_0 rfl rfl ?_
  refine gf_X2_18 X dX2_drawAct_1 ?_
  refine gf_X2_171 X (k_roof (by omega)) dX2_drawAct_4 ?_
  refine v_iconst (v := 1) X dX2_drawAct_7 (by decide) ?_
  refine v_icmp_ge X 12 dX2_drawAct_8 (by decide) (fun cv1 => ?_) (fun cv1 => ?_)
  · replace h := (if_pos cv1).symm.trans h
    refine v_aloadn X dX2_drawAct_12 rfl rfl ?_
    refine gf_X2_18 X dX2_drawAct_13 ?_
    refine gf_X2_63 X (k_roof (by omega)) dX2_drawAct_16 ?_
    refine v_iloadn X dX2_drawAct_19 rfl rfl ?_
    refine v_aloadn X dX2_drawAct_20 rfl rfl ?_
    refine gf_X2_18 X dX2_drawAct_21 ?_
    refine gf_X2_171 X (k_roof (by omega)) dX2_drawAct_24 ?_
    by_cases cv2 : (g 0 1 4) = 0
    · replace h := (if_pos cv2).symm.trans h
      cases h
    replace h := (if_neg cv2).symm.trans h
    refine v_irem X dX2_drawAct_27 cv2 ?_
    obtain ⟨jv3, qv4, h⟩ := bd1_some h
    obtain ⟨ejv3, ljv3⟩ := ix_spec qv4
    refine aaP X (k_papers (by omega)) jv3 ejv3 ljv3 dX2_drawAct_28 ?_
    refine v_astoren (lc' := [some (.ref (ad (2, 0, 0))), some (.int x1), some (.ref (ad (3, 1, jv3)))]) X dX2_drawAct_29 rfl (by decide) rfl rfl ?_
    refine v_aloadn X dX2_drawAct_30 rfl rfl ?_
    refine gf_X2_67 X (k_paper (by omega) (by omega)) dX2_drawAct_31 ?_
    refine v_if_ne X 50 dX2_drawAct_34 (by decide) (fun cv5 => ?_) (fun cv5 => ?_)
    · replace h := (if_neg cv5).symm.trans h
      refine v_aloadn X dX2_drawAct_50 rfl rfl ?_
      obtain ⟨rv8, gv7, qv6, h⟩ := bd2_some h
      refine v_callVI (As := []) (rest := []) X (c_X3_isUp l D ad cy X.2.2.2.2.2.2.2.2.1 N 1 jv3 g rv8 gv7 (by omega) (by omega) qv6) mw_X3_isUp ml_X2_99 (by decide) (k_paper (by omega) (by omega)) (by decide) rfl rfl rfl rfl (Nat.le_of_ble_eq_true rfl) dX2_drawAct_51 ?_
      refine v_if_eq X 68 dX2_drawAct_54 (by decide) (fun cv9 => ?_) (fun cv9 => ?_)
      · replace h := (if_pos cv9).symm.trans h
        exact v_vret X dX2_drawAct_68 (Option.some.inj h)
      · replace h := (if_neg cv9).symm.trans h
        refine v_iloadn X dX2_drawAct_57 rfl rfl ?_
        refine v_iconst (v := 2) X dX2_drawAct_58 (by decide) ?_
        refine v_irem X dX2_drawAct_59 (by decide) ?_
        refine v_if_ne X 68 dX2_drawAct_60 (by decide) (fun cv10 => ?_) (fun cv10 => ?_)
        · replace h := (if_neg cv10).symm.trans h
          exact v_vret X dX2_drawAct_68 (Option.some.inj h)
        · replace h := (if_pos cv10).symm.trans h
          refine v_aloadn X dX2_drawAct_63 rfl rfl ?_
          refine v_iconst (v := 5) X dX2_drawAct_64 (by decide) ?_
          obtain ⟨gv12, qv11, h⟩ := bd1_some h
          refine v_callVV (As := [.int (5 : Int32)]) (rest := []) X (c_X3_letOutBy l D ad cy X.2.2.2.2.2.2.2.2.1 N 1 jv3 (5 : Int32) gv7 gv12 (by omega) (by omega) qv11) mw_X3_letOutBy ml_X2_106 (by decide) (k_paper (by omega) (by omega)) (by decide) rfl rfl rfl rfl (Nat.le_of_ble_eq_true rfl) dX2_drawAct_65 ?_
          exact v_vret X dX2_drawAct_68 (Option.some.inj h)
    · replace h := (if_pos cv5).symm.trans h
      refine v_aloadn X dX2_drawAct_37 rfl rfl ?_
      refine v_iloadn X dX2_drawAct_38 rfl rfl ?_
      refine v_bipush (v := 40) X dX2_drawAct_39 (by decide) ?_
      refine v_irem X dX2_drawAct_41 (by decide) ?_
      refine v_iconst (v := 1) X dX2_drawAct_42 (by decide) ?_
      refine v_iadd X dX2_drawAct_43 ?_
      obtain ⟨gv14, qv13, h⟩ := bd1_some h
      refine v_callVV (As := [.int ((x1 - x1 / (40 : Int32) * (40 : Int32)) + (1 : Int32))]) (rest := []) X (c_X3_rise l D ad cy X.2.2.2.2.2.2.2.2.1 N 1 jv3 ((x1 - x1 / (40 : Int32) * (40 : Int32)) + (1 : Int32)) g gv14 (by omega) (by omega) qv13) mw_X3_rise ml_X2_174 (by decide) (k_paper (by omega) (by omega)) (by decide) rfl rfl rfl rfl (Nat.le_of_ble_eq_true rfl) dX2_drawAct_44 ?_
      refine v_goto X 68 dX2_drawAct_47 (by decide) ?_
      exact v_vret X dX2_drawAct_68 (Option.some.inj h)
  · replace h := (if_neg cv1).symm.trans h
    exact v_vret X dX2_drawAct_11 (Option.some.inj h)
def L_X2_draftYears_17 (N : Nat) (z1 : Int32) (z2 : Int32) : Nat → Int64 → Int32 → GS → Option (Int64 × Int32 × GS)
  | 0, _, _, _ => none
  | n + 1, y3, y5, g => if z1 ≤ y5 then some (y3, y5, g) else bd1 (F_X2_drawAct N (((y3 * (16807 : Int64)) - (y3 * (16807 : Int64)) / (2147483647 : Int64) * (2147483647 : Int64)).toInt32) g) (fun gv5 => bd1 (F_X4_passHourIn N 1 ((((y3 * (16807 : Int64)) - (y3 * (16807 : Int64)) / (2147483647 : Int64) * (2147483647 : Int64)) - ((y3 * (16807 : Int64)) - (y3 * (16807 : Int64)) / (2147483647 : Int64) * (2147483647 : Int64)) / (10 : Int64) * (10 : Int64)).toInt32) gv5) (fun gv7 => L_X2_draftYears_17 N z1 z2 n ((y3 * (16807 : Int64)) - (y3 * (16807 : Int64)) / (2147483647 : Int64) * (2147483647 : Int64)) (y5 + 1) gv7))
def F_X2_draftYears (N : Nat) (x1 : Int32) (x2 : Int32) (g : GS) : Option GS := bd1 (F_X4_become N 1 0 g) (fun gv2 => bd3 (L_X2_draftYears_17 N x1 x2 N (x2.toInt64) (0 : Int32) gv2) (fun xv8 xv9 gv10 => some gv10))
set_option maxRecDepth 100000 in
set_option maxHeartbeats 4000000 in
theorem w_X2_draftYears_17 {p : Program} {l : Launch} {e : Env} {s : State} {m : MethodId} {args : Array Value} {below : List Frame} {meth : Method} {c : Code} {D : va_G} {ad : Ky → Nat} {cy : Nat → ClassId} {gq : GS} {N : Nat} (X : Cx p (rmd 3) s m args meth c RX2 cX2_draftYears 6 none D ad cy) (z1 : Int32) (z2 : Int32) : ∀ (n : Nat) (y3 : Int64) (y5 : Int32) (g : GS) (y3' : Int64) (y5' : Int32) (g' : GS), L_X2_draftYears_17 N z1 z2 n y3 y5 g = some (y3', y5', g') → Vy p l e (rmd 3) s m args below meth c 6 D ad cy (QV D ad cy below args s gq) 58 [some (.ref (ad (2, 0, 0))), some (.int z1), some (.int z2), some (.long y3'), none, some (.int y5')] [] g' → Vy p l e (rmd 3) s m args below meth c 6 D ad cy (QV D ad cy below args s gq) 17 [some (.ref (ad (2, 0, 0))), some (.int z1), some (.int z2), some (.long y3), none, some (.int y5)] [] g := by
  intro n
  induction n with
  | zero => intro y3 y5 g y3' y5' g' h k; cases h
  | succ n ih =>
    intro y3 y5 g y3' y5' g' h k
    rw [L_X2_draftYears_17] at h
    refine v_iload X dX2_draftYears_17 rfl ?_
    refine v_iloadn X dX2_draftYears_19 rfl rfl ?_
    refine v_icmp_ge X 58 dX2_draftYears_20 (by decide) (fun cv3 => ?_) (fun cv3 => ?_)
    · replace h := (if_pos cv3).symm.trans h
      cases h
      exact k
    · replace h := (if_neg cv3).symm.trans h
      refine v_lloadn X dX2_draftYears_23 rfl rfl ?_
      refine v_ldc2 X kl_X2_162 dX2_draftYears_24 ?_
      refine v_lmul X dX2_draftYears_27 ?_
      refine v_ldc2 X kl_X2_164 dX2_draftYears_28 ?_
      refine v_lrem X dX2_draftYears_31 (by decide) ?_
      refine v_lstoren (lc' := [some (.ref (ad (2, 0, 0))), some (.int z1), some (.int z2), some (.long ((y3 * (16807 : Int64)) - (y3 * (16807 : Int64)) / (2147483647 : Int64) * (2147483647 : Int64))), none, some (.int y5)]) X dX2_draftYears_32 rfl (by decide) rfl rfl ?_
      refine v_aloadn X dX2_draftYears_33 rfl rfl ?_
      refine v_lloadn X dX2_draftYears_34 rfl rfl ?_
      refine v_l2i X dX2_draftYears_35 ?_
      obtain ⟨gv5, qv4, h⟩ := bd1_some h
      refine v_callVV (As := [.int (((y3 * (16807 : Int64)) - (y3 * (16807 : Int64)) / (2147483647 : Int64) * (2147483647 : Int64)).toInt32)]) (rest := []) X (c_X2_drawAct l D ad cy X.2.2.2.2.2.2.2.2.1 N (((y3 * (16807 : Int64)) - (y3 * (16807 : Int64)) / (2147483647 : Int64) * (2147483647 : Int64)).toInt32) g gv5  qv4) mw_X2_drawAct ml_X2_166 (by decide) (by decide +kernel) (by decide) rfl rfl rfl rfl (Nat.le_of_ble_eq_true rfl) dX2_draftYears_36 ?_
      refine v_aloadn X dX2_draftYears_39 rfl rfl ?_
      refine gf_X2_18 X dX2_draftYears_40 ?_
      refine v_lloadn X dX2_draftYears_43 rfl rfl ?_
      refine v_ldc2 X kl_X2_169 dX2_draftYears_44 ?_
      refine v_lrem X dX2_draftYears_47 (by decide) ?_
      refine v_l2i X dX2_draftYears_48 ?_
      obtain ⟨gv7, qv6, h⟩ := bd1_some h
      refine v_callVV (As := [.int ((((y3 * (16807 : Int64)) - (y3 * (16807 : Int64)) / (2147483647 : Int64) * (2147483647 : Int64)) - ((y3 * (16807 : Int64)) - (y3 * (16807 : Int64)) / (2147483647 : Int64) * (2147483647 : Int64)) / (10 : Int64) * (10 : Int64)).toInt32)]) (rest := []) X (c_X4_passHourIn l D ad cy X.2.2.2.2.2.2.2.2.1 N 1 ((((y3 * (16807 : Int64)) - (y3 * (16807 : Int64)) / (2147483647 : Int64) * (2147483647 : Int64)) - ((y3 * (16807 : Int64)) - (y3 * (16807 : Int64)) / (2147483647 : Int64) * (2147483647 : Int64)) / (10 : Int64) * (10 : Int64)).toInt32) gv5 gv7 (by omega) qv6) mw_X4_passHourIn ml_X2_60 (by decide) (k_roof (by omega)) (by decide) rfl rfl rfl rfl (Nat.le_of_ble_eq_true rfl) dX2_draftYears_49 ?_
      refine v_iinc (v := (y5 + 1)) (lc' := [some (.ref (ad (2, 0, 0))), some (.int z1), some (.int z2), some (.long ((y3 * (16807 : Int64)) - (y3 * (16807 : Int64)) / (2147483647 : Int64) * (2147483647 : Int64))), none, some (.int (y5 + 1))]) X dX2_draftYears_52 rfl rfl (by decide) rfl rfl ?_
      refine v_goto X 17 dX2_draftYears_55 (by decide) ?_
      exact ih ((y3 * (16807 : Int64)) - (y3 * (16807 : Int64)) / (2147483647 : Int64) * (2147483647 : Int64)) (y5 + 1) gv7 _ _ _ h k
set_option maxRecDepth 100000 in
set_option maxHeartbeats 4000000 in
theorem c_X2_draftYears (l : Launch) (D : va_G) (ad : Ky → Nat) (cy : Nat → ClassId) (hI : Inj ad) (N : Nat) (x1 : Int32) (x2 : Int32) (g : GS) (gq : GS) (h : F_X2_draftYears N x1 x2 g = some gq) : CtV l D ad cy yX2_draftYears cX2_draftYears 6 3 [.ref (ad (2, 0, 0)), .int x1, .int x2] g gq := by
  refine CtV.of 3 hI (by decide +kernel) rfl (Nat.le_of_ble_eq_true rfl) (fun p e s m args below meth c X => ?_)
  unfold F_X2_draftYears at h
  show Vy _ _ _ _ _ _ _ _ _ _ _ _ _ _ _ 0 [some (.ref (ad (2, 0, 0))), some (.int x1), some (.int x2), none, none, none] [] g
  refine v_aloadn X dX2_draftYears_0 rfl rfl ?_
  refine gf_X2_18 X dX2_draftYears_1 ?_
  refine v_aloadn X dX2_draftYears_4 rfl rfl ?_
  refine gf_X2_12 X dX2_draftYears_5 ?_
  obtain ⟨gv2, qv1, h⟩ := bd1_some h
  refine v_callVV (As := [.ref (ad (4, 0, 0))]) (rest := []) X (c_X4_become l D ad cy X.2.2.2.2.2.2.2.2.1 N 1 0 g gv2 (by omega) (by omega) qv1) mw_X4_become ml_X2_48 (by decide) (k_roof (by omega)) (by decide) rfl rfl rfl rfl (Nat.le_of_ble_eq_true rfl) dX2_draftYears_8 ?_
  refine v_iloadn X dX2_draftYears_11 rfl rfl ?_
  refine v_i2l X dX2_draftYears_12 ?_
  refine v_lstoren (lc' := [some (.ref (ad (2, 0, 0))), some (.int x1), some (.int x2), some (.long (x2.toInt64)), none, none]) X dX2_draftYears_13 rfl (by decide) rfl rfl ?_
  refine v_iconst (v := 0) X dX2_draftYears_14 (by decide) ?_
  refine v_istore (lc' := [some (.ref (ad (2, 0, 0))), some (.int x1), some (.int x2), some (.long (x2.toInt64)), none, some (.int (0 : Int32))]) X dX2_draftYears_15 (by decide) rfl rfl ?_
  obtain ⟨xv8, xv9, gv10, qv11, h⟩ := bd3_some h
  refine w_X2_draftYears_17 X x1 x2 N (x2.toInt64) (0 : Int32) gv2 xv8 xv9 gv10 qv11 ?_
  exact v_vret X dX2_draftYears_58 (Option.some.inj h)
def L_X2_firstHour_13 (N : Nat) (z1 : Int32) (z2 : Int32) : Nat → Int32 → GS → Option ((Int32 × GS) ⊕ (Int32 × GS))
  | 0, _, _ => none
  | n + 1, y3, g => if (60 : Int32) < y3 then some (.inr (y3, g)) else if z2 = 0 then bd2 (F_X4_isPolicy N 1 z1 g) (fun rv7 gv6 => if rv7 = 0 then bd2 (F_X4_forceAfter N 1 (0 : Int32) gv6) (fun rv11 gv10 => bd1 (F_X4_passHourIn N 1 rv11 gv10) (fun gv13 => L_X2_firstHour_13 N z1 z2 n (y3 + 1) gv13)) else some (.inl (y3, gv6))) else bd1 (ix z1 6) (fun jv14 => if (g 13 1 (7 * jv14 + 3)) = (2 : Int32) then some (.inl (y3, g)) else bd2 (F_X4_forceAfter N 1 (0 : Int32) g) (fun rv19 gv18 => bd1 (F_X4_passHourIn N 1 rv19 gv18) (fun gv21 => L_X2_firstHour_13 N z1 z2 n (y3 + 1) gv21)))
def F_X2_firstHour (N : Nat) (x1 : Int32) (x2 : Int32) (g : GS) : Option (Int32 × GS) := bd1 (F_X4_become N 1 0 g) (fun gv2 => bs2 (L_X2_firstHour_13 N x1 x2 N (0 : Int32) gv2) (fun rv25 gv26 => some (rv25, gv26)) (fun xv22 gv23 => some ((-1000000 : Int32), gv23)))
set_option maxRecDepth 100000 in
set_option maxHeartbeats 4000000 in
theorem w_X2_firstHour_13 {p : Program} {l : Launch} {e : Env} {s : State} {m : MethodId} {args : Array Value} {below : List Frame} {meth : Method} {c : Code} {D : va_G} {ad : Ky → Nat} {cy : Nat → ClassId} {r : Int32} {gq : GS} {N : Nat} (X : Cx p (rmd 3) s m args meth c RX2 cX2_firstHour 4 (some .int) D ad cy) (z1 : Int32) (z2 : Int32) : ∀ (n : Nat) (y3 : Int32) (g : GS) (res : _), L_X2_firstHour_13 N z1 z2 n y3 g = some res → (∀ (r1 : Int32) (g1 : GS), res = .inl (r1, g1) → r1 = r ∧ g1 = gq) → (∀ (y3' : Int32) (g' : GS), res = .inr (y3', g') → Vy p l e (rmd 3) s m args below meth c 4 D ad cy (QI D ad cy below args s r gq) 76 [some (.ref (ad (2, 0, 0))), some (.int z1), some (.int z2), some (.int y3')] [] g') → Vy p l e (rmd 3) s m args below meth c 4 D ad cy (QI D ad cy below args s r gq) 13 [some (.ref (ad (2, 0, 0))), some (.int z1), some (.int z2), some (.int y3)] [] g := by
  intro n
  induction n with
  | zero => intro y3 g res h kr k; cases h
  | succ n ih =>
    intro y3 g res h kr k
    rw [L_X2_firstHour_13] at h
    refine v_iloadn X dX2_firstHour_13 rfl rfl ?_
    refine v_bipush (v := 60) X dX2_firstHour_14 (by decide) ?_
    refine v_icmp_gt X 76 dX2_firstHour_16 (by decide) (fun cv3 => ?_) (fun cv3 => ?_)
    · replace h := (if_pos cv3).symm.trans h
      cases h
      exact k _ _ rfl
    · replace h := (if_neg cv3).symm.trans h
      refine v_iloadn X dX2_firstHour_19 rfl rfl ?_
      refine v_if_eq X 42 dX2_firstHour_20 (by decide) (fun cv4 => ?_) (fun cv4 => ?_)
      · replace h := (if_pos cv4).symm.trans h
        refine v_aloadn X dX2_firstHour_42 rfl rfl ?_
        refine gf_X2_18 X dX2_firstHour_43 ?_
        refine v_iloadn X dX2_firstHour_46 rfl rfl ?_
        obtain ⟨rv7, gv6, qv5, h⟩ := bd2_some h
        refine v_callVI (As := [.int z1]) (rest := []) X (c_X4_isPolicy l D ad cy X.2.2.2.2.2.2.2.2.1 N 1 z1 g rv7 gv6 (by omega) qv5) mw_X4_isPolicy ml_X2_72 (by decide) (k_roof (by omega)) (by decide) rfl rfl rfl rfl (Nat.le_of_ble_eq_true rfl) dX2_firstHour_47 ?_
        refine v_if_eq X 55 dX2_firstHour_50 (by decide) (fun cv8 => ?_) (fun cv8 => ?_)
        · replace h := (if_pos cv8).symm.trans h
          refine v_aloadn X dX2_firstHour_55 rfl rfl ?_
          refine gf_X2_18 X dX2_firstHour_56 ?_
          refine v_aloadn X dX2_firstHour_59 rfl rfl ?_
          refine gf_X2_18 X dX2_firstHour_60 ?_
          refine v_iconst (v := 0) X dX2_firstHour_63 (by decide) ?_
          obtain ⟨rv11, gv10, qv9, h⟩ := bd2_some h
          refine v_callVI (As := [.int (0 : Int32)]) (rest := [.ref (ad (4, 1, 0))]) X (c_X4_forceAfter l D ad cy X.2.2.2.2.2.2.2.2.1 N 1 (0 : Int32) gv6 rv11 gv10 (by omega) qv9) mw_X4_forceAfter ml_X2_56 (by decide) (k_roof (by omega)) (by decide) rfl rfl rfl rfl (Nat.le_of_ble_eq_true rfl) dX2_firstHour_64 ?_
          obtain ⟨gv13, qv12, h⟩ := bd1_some h
          refine v_callVV (As := [.int rv11]) (rest := []) X (c_X4_passHourIn l D ad cy X.2.2.2.2.2.2.2.2.1 N 1 rv11 gv10 gv13 (by omega) qv12) mw_X4_passHourIn ml_X2_60 (by decide) (k_roof (by omega)) (by decide) rfl rfl rfl rfl (Nat.le_of_ble_eq_true rfl) dX2_firstHour_67 ?_
          refine v_iinc (v := (y3 + 1)) (lc' := [some (.ref (ad (2, 0, 0))), some (.int z1), some (.int z2), some (.int (y3 + 1))]) X dX2_firstHour_70 rfl rfl (by decide) rfl rfl ?_
          refine v_goto X 13 dX2_firstHour_73 (by decide) ?_
          exact ih (y3 + 1) gv13 _ h kr k
        · replace h := (if_neg cv8).symm.trans h
          refine v_iloadn X dX2_firstHour_53 rfl rfl ?_
          obtain ⟨er, eg⟩ := kr _ _ (Option.some.inj h).symm
          exact v_iret X dX2_firstHour_54 er eg
      · replace h := (if_neg cv4).symm.trans h
        refine v_aloadn X dX2_firstHour_23 rfl rfl ?_
        refine gf_X2_18 X dX2_firstHour_24 ?_
        refine gf_X2_63 X (k_roof (by omega)) dX2_firstHour_27 ?_
        refine v_iloadn X dX2_firstHour_30 rfl rfl ?_
        obtain ⟨jv14, qv15, h⟩ := bd1_some h
        obtain ⟨ejv14, ljv14⟩ := ix_spec qv15
        refine aaP X (k_papers (by omega)) jv14 ejv14 ljv14 dX2_firstHour_31 ?_
        refine gf_X2_67 X (k_paper (by omega) (by omega)) dX2_firstHour_32 ?_
        refine v_iconst (v := 2) X dX2_firstHour_35 (by decide) ?_
        refine v_icmp_ne X 55 dX2_firstHour_36 (by decide) (fun cv16 => ?_) (fun cv16 => ?_)
        · replace h := (if_neg cv16).symm.trans h
          refine v_aloadn X dX2_firstHour_55 rfl rfl ?_
          refine gf_X2_18 X dX2_firstHour_56 ?_
          refine v_aloadn X dX2_firstHour_59 rfl rfl ?_
          refine gf_X2_18 X dX2_firstHour_60 ?_
          refine v_iconst (v := 0) X dX2_firstHour_63 (by decide) ?_
          obtain ⟨rv19, gv18, qv17, h⟩ := bd2_some h
          refine v_callVI (As := [.int (0 : Int32)]) (rest := [.ref (ad (4, 1, 0))]) X (c_X4_forceAfter l D ad cy X.2.2.2.2.2.2.2.2.1 N 1 (0 : Int32) g rv19 gv18 (by omega) qv17) mw_X4_forceAfter ml_X2_56 (by decide) (k_roof (by omega)) (by decide) rfl rfl rfl rfl (Nat.le_of_ble_eq_true rfl) dX2_firstHour_64 ?_
          obtain ⟨gv21, qv20, h⟩ := bd1_some h
          refine v_callVV (As := [.int rv19]) (rest := []) X (c_X4_passHourIn l D ad cy X.2.2.2.2.2.2.2.2.1 N 1 rv19 gv18 gv21 (by omega) qv20) mw_X4_passHourIn ml_X2_60 (by decide) (k_roof (by omega)) (by decide) rfl rfl rfl rfl (Nat.le_of_ble_eq_true rfl) dX2_firstHour_67 ?_
          refine v_iinc (v := (y3 + 1)) (lc' := [some (.ref (ad (2, 0, 0))), some (.int z1), some (.int z2), some (.int (y3 + 1))]) X dX2_firstHour_70 rfl rfl (by decide) rfl rfl ?_
          refine v_goto X 13 dX2_firstHour_73 (by decide) ?_
          exact ih (y3 + 1) gv21 _ h kr k
        · replace h := (if_pos cv16).symm.trans h
          refine v_goto X 53 dX2_firstHour_39 (by decide) ?_
          refine v_iloadn X dX2_firstHour_53 rfl rfl ?_
          obtain ⟨er, eg⟩ := kr _ _ (Option.some.inj h).symm
          exact v_iret X dX2_firstHour_54 er eg
set_option maxRecDepth 100000 in
set_option maxHeartbeats 4000000 in
theorem c_X2_firstHour (l : Launch) (D : va_G) (ad : Ky → Nat) (cy : Nat → ClassId) (hI : Inj ad) (N : Nat) (x1 : Int32) (x2 : Int32) (g : GS) (r : Int32) (gq : GS) (h : F_X2_firstHour N x1 x2 g = some (r, gq)) : CtI l D ad cy yX2_firstHour cX2_firstHour 4 (some .int) 3 [.ref (ad (2, 0, 0)), .int x1, .int x2] g r gq := by
  refine CtI.of 1 hI (by decide +kernel) rfl (Nat.le_of_ble_eq_true rfl) (fun p e s m args below meth c X => ?_)
  unfold F_X2_firstHour at h
  show Vy _ _ _ _ _ _ _ _ _ _ _ _ _ _ _ 0 [some (.ref (ad (2, 0, 0))), some (.int x1), some (.int x2), none] [] g
  refine v_aloadn X dX2_firstHour_0 rfl rfl ?_
  refine gf_X2_18 X dX2_firstHour_1 ?_
  refine v_aloadn X dX2_firstHour_4 rfl rfl ?_
  refine gf_X2_12 X dX2_firstHour_5 ?_
  obtain ⟨gv2, qv1, h⟩ := bd1_some h
  refine v_callVV (As := [.ref (ad (4, 0, 0))]) (rest := []) X (c_X4_become l D ad cy X.2.2.2.2.2.2.2.2.1 N 1 0 g gv2 (by omega) (by omega) qv1) mw_X4_become ml_X2_48 (by decide) (k_roof (by omega)) (by decide) rfl rfl rfl rfl (Nat.le_of_ble_eq_true rfl) dX2_firstHour_8 ?_
  refine v_iconst (v := 0) X dX2_firstHour_11 (by decide) ?_
  refine v_istoren (lc' := [some (.ref (ad (2, 0, 0))), some (.int x1), some (.int x2), some (.int (0 : Int32))]) X dX2_firstHour_12 rfl (by decide) rfl rfl ?_
  obtain ⟨zv27, qv24, h⟩ := bs2_some h
  refine w_X2_firstHour_13 X x1 x2 N (0 : Int32) gv2 _ qv24 ?_ ?_
  · intro rv25 gv26 e1
    subst e1
    dsimp only at h
    cases h
    exact ⟨rfl, rfl⟩
  · intro xv22 gv23 e1
    subst e1
    dsimp only at h
    refine v_ldc X kc_X2_41 dX2_firstHour_76 ?_
    obtain ⟨er, eg⟩ := Prod.mk.inj (Option.some.inj h)
    exact v_iret X dX2_firstHour_78 er eg
def F_X2_noteFitting (N : Nat) (x1 : Int32) (g : GS) : Option GS := if (g 5 0 5) = 0 then if (9 : Int32) < x1 then some (g3 (g3 (g3 g 5 0 6 x1) 5 0 7 x1) 5 0 5 ((g 5 0 5) + (1 : Int32))) else some (g3 (g3 (g3 (g3 g 5 0 6 x1) 5 0 7 x1) 5 0 5 ((g 5 0 5) + (1 : Int32))) 5 0 4 ((g 5 0 4) ||| ((1 : Int32) <<< (x1 &&& 31)))) else if (9 : Int32) < x1 then some (g3 (g3 g 5 0 7 x1) 5 0 5 ((g 5 0 5) + (1 : Int32))) else some (g3 (g3 (g3 g 5 0 7 x1) 5 0 5 ((g 5 0 5) + (1 : Int32))) 5 0 4 ((g 5 0 4) ||| ((1 : Int32) <<< (x1 &&& 31))))
set_option maxRecDepth 100000 in
set_option maxHeartbeats 4000000 in
theorem c_X2_noteFitting (l : Launch) (D : va_G) (ad : Ky → Nat) (cy : Nat → ClassId) (hI : Inj ad) (N : Nat) (x1 : Int32) (g : GS) (gq : GS) (h : F_X2_noteFitting N x1 g = some gq) : CtV l D ad cy yX2_noteFitting cX2_noteFitting 2 0 [.ref (ad (2, 0, 0)), .int x1] g gq := by
  refine CtV.of 0 hI (by decide +kernel) rfl (Nat.le_of_ble_eq_true rfl) (fun p e s m args below meth c X => ?_)
  unfold F_X2_noteFitting at h
  show Vy _ _ _ _ _ _ _ _ _ _ _ _ _ _ _ 0 [some (.ref (ad (2, 0, 0))), some (.int x1)] [] g
  refine v_aloadn X dX2_noteFitting_0 rfl rfl ?_
  refine gf_X2_38 X dX2_noteFitting_1 ?_
  refine v_if_ne X 12 dX2_noteFitting_4 (by decide) (fun cv1 => ?_) (fun cv1 => ?_)
  · replace h := (if_neg cv1).symm.trans h
    refine v_aloadn X dX2_noteFitting_12 rfl rfl ?_
    refine v_iloadn X dX2_noteFitting_13 rfl rfl ?_
    refine pf_X2_45 X dX2_noteFitting_14 ?_
    refine v_aloadn X dX2_noteFitting_17 rfl rfl ?_
    refine v_dup X dX2_noteFitting_18 rfl ?_
    refine gf_X2_38 X dX2_noteFitting_19 ?_
    refine v_vali (v2 := (g 5 0 5)) rfl ?_
    refine v_iconst (v := 1) X dX2_noteFitting_22 (by decide) ?_
    refine v_iadd X dX2_noteFitting_23 ?_
    refine pf_X2_38 X dX2_noteFitting_24 ?_
    refine v_iloadn X dX2_noteFitting_27 rfl rfl ?_
    refine v_bipush (v := 9) X dX2_noteFitting_28 (by decide) ?_
    refine v_icmp_gt X 45 dX2_noteFitting_30 (by decide) (fun cv2 => ?_) (fun cv2 => ?_)
    · replace h := (if_pos cv2).symm.trans h
      exact v_vret X dX2_noteFitting_45 (Option.some.inj h)
    · replace h := (if_neg cv2).symm.trans h
      refine v_aloadn X dX2_noteFitting_33 rfl rfl ?_
      refine v_dup X dX2_noteFitting_34 rfl ?_
      refine gf_X2_35 X dX2_noteFitting_35 ?_
      refine v_vali (v2 := (g 5 0 4)) rfl ?_
      refine v_iconst (v := 1) X dX2_noteFitting_38 (by decide) ?_
      refine v_iloadn X dX2_noteFitting_39 rfl rfl ?_
      refine v_ishl X dX2_noteFitting_40 ?_
      refine v_ior X dX2_noteFitting_41 ?_
      refine pf_X2_35 X dX2_noteFitting_42 ?_
      exact v_vret X dX2_noteFitting_45 (Option.some.inj h)
  · replace h := (if_pos cv1).symm.trans h
    refine v_aloadn X dX2_noteFitting_7 rfl rfl ?_
    refine v_iloadn X dX2_noteFitting_8 rfl rfl ?_
    refine pf_X2_42 X dX2_noteFitting_9 ?_
    refine v_aloadn X dX2_noteFitting_12 rfl rfl ?_
    refine v_iloadn X dX2_noteFitting_13 rfl rfl ?_
    refine pf_X2_45 X dX2_noteFitting_14 ?_
    refine v_aloadn X dX2_noteFitting_17 rfl rfl ?_
    refine v_dup X dX2_noteFitting_18 rfl ?_
    refine gf_X2_38 X dX2_noteFitting_19 ?_
    refine v_vali (v2 := (g 5 0 5)) rfl ?_
    refine v_iconst (v := 1) X dX2_noteFitting_22 (by decide) ?_
    refine v_iadd X dX2_noteFitting_23 ?_
    refine pf_X2_38 X dX2_noteFitting_24 ?_
    refine v_iloadn X dX2_noteFitting_27 rfl rfl ?_
    refine v_bipush (v := 9) X dX2_noteFitting_28 (by decide) ?_
    refine v_icmp_gt X 45 dX2_noteFitting_30 (by decide) (fun cv3 => ?_) (fun cv3 => ?_)
    · replace h := (if_pos cv3).symm.trans h
      exact v_vret X dX2_noteFitting_45 (Option.some.inj h)
    · replace h := (if_neg cv3).symm.trans h
      refine v_aloadn X dX2_noteFitting_33 rfl rfl ?_
      refine v_dup X dX2_noteFitting_34 rfl ?_
      refine gf_X2_35 X dX2_noteFitting_35 ?_
      refine v_vali (v2 := (g 5 0 4)) rfl ?_
      refine v_iconst (v := 1) X dX2_noteFitting_38 (by decide) ?_
      refine v_iloadn X dX2_noteFitting_39 rfl rfl ?_
      refine v_ishl X dX2_noteFitting_40 ?_
      refine v_ior X dX2_noteFitting_41 ?_
      refine pf_X2_35 X dX2_noteFitting_42 ?_
      exact v_vret X dX2_noteFitting_45 (Option.some.inj h)
def L_X2_search_25 (N : Nat) (z1 : Int32) (z2 : Int32) (z3 : Int32) (z4 : Int32) : Nat → Int32 → GS → Option (Int32 × GS)
  | 0, _, _ => none
  | n + 1, y5, g => if z4 < y5 then some (y5, g) else bd1 (F_X2_draftWith N z1 z2 y5 g) (fun gv3 => bd2 (F_X2_draftIsAsSeen N  gv3) (fun rv6 gv5 => if rv6 = 0 then L_X2_search_25 N z1 z2 z3 z4 n (y5 + 1) gv5 else bd1 (F_X2_noteFitting N y5 gv5) (fun gv9 => L_X2_search_25 N z1 z2 z3 z4 n (y5 + 1) gv9)))
def F_X2_search (N : Nat) (x1 : Int32) (x2 : Int32) (x3 : Int32) (x4 : Int32) (g : GS) : Option GS := bd2 (L_X2_search_25 N x1 x2 x3 x4 N x3 (g3 (g3 (g3 (g3 g 5 0 4 (0 : Int32)) 5 0 5 (0 : Int32)) 5 0 6 (-1000000 : Int32)) 5 0 7 (-1000000 : Int32))) (fun xv10 gv11 => some gv11)
set_option maxRecDepth 100000 in
set_option maxHeartbeats 4000000 in
theorem w_X2_search_25 {p : Program} {l : Launch} {e : Env} {s : State} {m : MethodId} {args : Array Value} {below : List Frame} {meth : Method} {c : Code} {D : va_G} {ad : Ky → Nat} {cy : Nat → ClassId} {gq : GS} {N : Nat} (X : Cx p (rmd 4) s m args meth c RX2 cX2_search 6 none D ad cy) (z1 : Int32) (z2 : Int32) (z3 : Int32) (z4 : Int32) : ∀ (n : Nat) (y5 : Int32) (g : GS) (y5' : Int32) (g' : GS), L_X2_search_25 N z1 z2 z3 z4 n y5 g = some (y5', g') → Vy p l e (rmd 4) s m args below meth c 6 D ad cy (QV D ad cy below args s gq) 59 [some (.ref (ad (2, 0, 0))), some (.int z1), some (.int z2), some (.int z3), some (.int z4), some (.int y5')] [] g' → Vy p l e (rmd 4) s m args below meth c 6 D ad cy (QV D ad cy below args s gq) 25 [some (.ref (ad (2, 0, 0))), some (.int z1), some (.int z2), some (.int z3), some (.int z4), some (.int y5)] [] g := by
  intro n
  induction n with
  | zero => intro y5 g y5' g' h k; cases h
  | succ n ih =>
    intro y5 g y5' g' h k
    rw [L_X2_search_25] at h
    refine v_iload X dX2_search_25 rfl ?_
    refine v_iload X dX2_search_27 rfl ?_
    refine v_icmp_gt X 59 dX2_search_29 (by decide) (fun cv1 => ?_) (fun cv1 => ?_)
    · replace h := (if_pos cv1).symm.trans h
      cases h
      exact k
    · replace h := (if_neg cv1).symm.trans h
      refine v_aloadn X dX2_search_32 rfl rfl ?_
      refine v_iloadn X dX2_search_33 rfl rfl ?_
      refine v_iloadn X dX2_search_34 rfl rfl ?_
      refine v_iload X dX2_search_35 rfl ?_
      obtain ⟨gv3, qv2, h⟩ := bd1_some h
      refine v_callVV (As := [.int z1, .int z2, .int y5]) (rest := []) X (c_X2_draftWith l D ad cy X.2.2.2.2.2.2.2.2.1 N z1 z2 y5 g gv3  qv2) mw_X2_draftWith ml_X2_112 (by decide) (by decide +kernel) (by decide) rfl rfl rfl rfl (Nat.le_of_ble_eq_true rfl) dX2_search_37 ?_
      refine v_aloadn X dX2_search_40 rfl rfl ?_
      obtain ⟨rv6, gv5, qv4, h⟩ := bd2_some h
      refine v_callVI (As := []) (rest := []) X (c_X2_draftIsAsSeen l D ad cy X.2.2.2.2.2.2.2.2.1 N  gv3 rv6 gv5  qv4) mw_X2_draftIsAsSeen ml_X2_131 (by decide) (by decide +kernel) (by decide) rfl rfl rfl rfl (Nat.le_of_ble_eq_true rfl) dX2_search_41 ?_
      refine v_if_eq X 53 dX2_search_44 (by decide) (fun cv7 => ?_) (fun cv7 => ?_)
      · replace h := (if_pos cv7).symm.trans h
        refine v_iinc (v := (y5 + 1)) (lc' := [some (.ref (ad (2, 0, 0))), some (.int z1), some (.int z2), some (.int z3), some (.int z4), some (.int (y5 + 1))]) X dX2_search_53 rfl rfl (by decide) rfl rfl ?_
        refine v_goto X 25 dX2_search_56 (by decide) ?_
        exact ih (y5 + 1) gv5 _ _ h k
      · replace h := (if_neg cv7).symm.trans h
        refine v_aloadn X dX2_search_47 rfl rfl ?_
        refine v_iload X dX2_search_48 rfl ?_
        obtain ⟨gv9, qv8, h⟩ := bd1_some h
        refine v_callVV (As := [.int y5]) (rest := []) X (c_X2_noteFitting l D ad cy X.2.2.2.2.2.2.2.2.1 N y5 gv5 gv9  qv8) mw_X2_noteFitting ml_X2_134 (by decide) (by decide +kernel) (by decide) rfl rfl rfl rfl (Nat.le_of_ble_eq_true rfl) dX2_search_50 ?_
        refine v_iinc (v := (y5 + 1)) (lc' := [some (.ref (ad (2, 0, 0))), some (.int z1), some (.int z2), some (.int z3), some (.int z4), some (.int (y5 + 1))]) X dX2_search_53 rfl rfl (by decide) rfl rfl ?_
        refine v_goto X 25 dX2_search_56 (by decide) ?_
        exact ih (y5 + 1) gv9 _ _ h k
set_option maxRecDepth 100000 in
set_option maxHeartbeats 4000000 in
theorem c_X2_search (l : Launch) (D : va_G) (ad : Ky → Nat) (cy : Nat → ClassId) (hI : Inj ad) (N : Nat) (x1 : Int32) (x2 : Int32) (x3 : Int32) (x4 : Int32) (g : GS) (gq : GS) (h : F_X2_search N x1 x2 x3 x4 g = some gq) : CtV l D ad cy yX2_search cX2_search 6 4 [.ref (ad (2, 0, 0)), .int x1, .int x2, .int x3, .int x4] g gq := by
  refine CtV.of 1 hI (by decide +kernel) rfl (Nat.le_of_ble_eq_true rfl) (fun p e s m args below meth c X => ?_)
  unfold F_X2_search at h
  show Vy _ _ _ _ _ _ _ _ _ _ _ _ _ _ _ 0 [some (.ref (ad (2, 0, 0))), some (.int x1), some (.int x2), some (.int x3), some (.int x4), none] [] g
  refine v_aloadn X dX2_search_0 rfl rfl ?_
  refine v_iconst (v := 0) X dX2_search_1 (by decide) ?_
  refine pf_X2_35 X dX2_search_2 ?_
  refine v_aloadn X dX2_search_5 rfl rfl ?_
  refine v_iconst (v := 0) X dX2_search_6 (by decide) ?_
  refine pf_X2_38 X dX2_search_7 ?_
  refine v_aloadn X dX2_search_10 rfl rfl ?_
  refine v_ldc X kc_X2_41 dX2_search_11 ?_
  refine pf_X2_42 X dX2_search_13 ?_
  refine v_aloadn X dX2_search_16 rfl rfl ?_
  refine v_ldc X kc_X2_41 dX2_search_17 ?_
  refine pf_X2_45 X dX2_search_19 ?_
  refine v_iloadn X dX2_search_22 rfl rfl ?_
  refine v_istore (lc' := [some (.ref (ad (2, 0, 0))), some (.int x1), some (.int x2), some (.int x3), some (.int x4), some (.int x3)]) X dX2_search_23 (by decide) rfl rfl ?_
  obtain ⟨xv10, gv11, qv12, h⟩ := bd2_some h
  refine w_X2_search_25 X x1 x2 x3 x4 N x3 (g3 (g3 (g3 (g3 g 5 0 4 (0 : Int32)) 5 0 5 (0 : Int32)) 5 0 6 (-1000000 : Int32)) 5 0 7 (-1000000 : Int32)) xv10 gv11 qv12 ?_
  exact v_vret X dX2_search_59 (Option.some.inj h)
def F_X2_fittingForces (N : Nat) (x1 : Int32) (g : GS) : Option (Int32 × GS) := bd1 (F_X2_search N (3 : Int32) x1 (0 : Int32) (9 : Int32) g) (fun gv2 => some ((gv2 5 0 4), gv2))
set_option maxRecDepth 100000 in
set_option maxHeartbeats 4000000 in
theorem c_X2_fittingForces (l : Launch) (D : va_G) (ad : Ky → Nat) (cy : Nat → ClassId) (hI : Inj ad) (N : Nat) (x1 : Int32) (g : GS) (r : Int32) (gq : GS) (h : F_X2_fittingForces N x1 g = some (r, gq)) : CtI l D ad cy yX2_fittingForces cX2_fittingForces 2 (some .int) 5 [.ref (ad (2, 0, 0)), .int x1] g r gq := by
  refine CtI.of 0 hI (by decide +kernel) rfl (Nat.le_of_ble_eq_true rfl) (fun p e s m args below meth c X => ?_)
  unfold F_X2_fittingForces at h
  show Vy _ _ _ _ _ _ _ _ _ _ _ _ _ _ _ 0 [some (.ref (ad (2, 0, 0))), some (.int x1)] [] g
  refine v_aloadn X dX2_fittingForces_0 rfl rfl ?_
  refine v_iconst (v := 3) X dX2_fittingForces_1 (by decide) ?_
  refine v_iloadn X dX2_fittingForces_2 rfl rfl ?_
  refine v_iconst (v := 0) X dX2_fittingForces_3 (by decide) ?_
  refine v_bipush (v := 9) X dX2_fittingForces_4 (by decide) ?_
  obtain ⟨gv2, qv1, h⟩ := bd1_some h
  refine v_callVV (As := [.int (3 : Int32), .int x1, .int (0 : Int32), .int (9 : Int32)]) (rest := []) X (c_X2_search l D ad cy X.2.2.2.2.2.2.2.2.1 N (3 : Int32) x1 (0 : Int32) (9 : Int32) g gv2  qv1) mw_X2_search ml_X2_127 (by decide) (by decide +kernel) (by decide) rfl rfl rfl rfl (Nat.le_of_ble_eq_true rfl) dX2_fittingForces_6 ?_
  refine v_aloadn X dX2_fittingForces_9 rfl rfl ?_
  refine gf_X2_35 X dX2_fittingForces_10 ?_
  obtain ⟨er, eg⟩ := Prod.mk.inj (Option.some.inj h)
  exact v_iret X dX2_fittingForces_13 er eg
def F_X2_fittingPapers (N : Nat) (x1 : Int32) (g : GS) : Option (Int32 × GS) := if x1 = 0 then bd1 (F_X2_search N (0 : Int32) (g 5 0 0) (1 : Int32) (5 : Int32) g) (fun gv3 => some ((gv3 5 0 4), gv3)) else if x1 = 1 then bd1 (F_X2_search N (1 : Int32) (g 5 0 0) (0 : Int32) (9 : Int32) g) (fun gv6 => some ((gv6 5 0 4), gv6)) else bd1 (F_X2_search N (2 : Int32) (g 5 0 0) (1 : Int32) (60 : Int32) g) (fun gv8 => if x1 = (2 : Int32) then some ((gv8 5 0 5), gv8) else if x1 = (3 : Int32) then some ((gv8 5 0 6), gv8) else some ((gv8 5 0 7), gv8))
set_option maxRecDepth 100000 in
set_option maxHeartbeats 4000000 in
theorem c_X2_fittingPapers (l : Launch) (D : va_G) (ad : Ky → Nat) (cy : Nat → ClassId) (hI : Inj ad) (N : Nat) (x1 : Int32) (g : GS) (r : Int32) (gq : GS) (h : F_X2_fittingPapers N x1 g = some (r, gq)) : CtI l D ad cy yX2_fittingPapers cX2_fittingPapers 2 (some .int) 5 [.ref (ad (2, 0, 0)), .int x1] g r gq := by
  refine CtI.of 0 hI (by decide +kernel) rfl (Nat.le_of_ble_eq_true rfl) (fun p e s m args below meth c X => ?_)
  unfold F_X2_fittingPapers at h
  show Vy _ _ _ _ _ _ _ _ _ _ _ _ _ _ _ 0 [some (.ref (ad (2, 0, 0))), some (.int x1)] [] g
  refine v_iloadn X dX2_fittingPapers_0 rfl rfl ?_
  by_cases cv1 : x1 = 0
  · replace h := (if_pos cv1).symm.trans h
    refine v_lookup (off := 27) X 28 dX2_fittingPapers_1 (by decide) (by rw [cv1]; first | done | rfl) (by decide) ?_
    refine v_aloadn X dX2_fittingPapers_28 rfl rfl ?_
    refine v_iconst (v := 0) X dX2_fittingPapers_29 (by decide) ?_
    refine v_aloadn X dX2_fittingPapers_30 rfl rfl ?_
    refine gf_X2_21 X dX2_fittingPapers_31 ?_
    refine v_iconst (v := 1) X dX2_fittingPapers_34 (by decide) ?_
    refine v_iconst (v := 5) X dX2_fittingPapers_35 (by decide) ?_
    obtain ⟨gv3, qv2, h⟩ := bd1_some h
    refine v_callVV (As := [.int (0 : Int32), .int (g 5 0 0), .int (1 : Int32), .int (5 : Int32)]) (rest := []) X (c_X2_search l D ad cy X.2.2.2.2.2.2.2.2.1 N (0 : Int32) (g 5 0 0) (1 : Int32) (5 : Int32) g gv3  qv2) mw_X2_search ml_X2_127 (by decide) (by decide +kernel) (by decide) rfl rfl rfl rfl (Nat.le_of_ble_eq_true rfl) dX2_fittingPapers_36 ?_
    refine v_aloadn X dX2_fittingPapers_39 rfl rfl ?_
    refine gf_X2_35 X dX2_fittingPapers_40 ?_
    obtain ⟨er, eg⟩ := Prod.mk.inj (Option.some.inj h)
    exact v_iret X dX2_fittingPapers_43 er eg
  replace h := (if_neg cv1).symm.trans h
  by_cases cv4 : x1 = 1
  · replace h := (if_pos cv4).symm.trans h
    refine v_lookup (off := 43) X 44 dX2_fittingPapers_1 (by decide) (by rw [cv4]; first | done | rfl) (by decide) ?_
    refine v_aloadn X dX2_fittingPapers_44 rfl rfl ?_
    refine v_iconst (v := 1) X dX2_fittingPapers_45 (by decide) ?_
    refine v_aloadn X dX2_fittingPapers_46 rfl rfl ?_
    refine gf_X2_21 X dX2_fittingPapers_47 ?_
    refine v_iconst (v := 0) X dX2_fittingPapers_50 (by decide) ?_
    refine v_bipush (v := 9) X dX2_fittingPapers_51 (by decide) ?_
    obtain ⟨gv6, qv5, h⟩ := bd1_some h
    refine v_callVV (As := [.int (1 : Int32), .int (g 5 0 0), .int (0 : Int32), .int (9 : Int32)]) (rest := []) X (c_X2_search l D ad cy X.2.2.2.2.2.2.2.2.1 N (1 : Int32) (g 5 0 0) (0 : Int32) (9 : Int32) g gv6  qv5) mw_X2_search ml_X2_127 (by decide) (by decide +kernel) (by decide) rfl rfl rfl rfl (Nat.le_of_ble_eq_true rfl) dX2_fittingPapers_53 ?_
    refine v_aloadn X dX2_fittingPapers_56 rfl rfl ?_
    refine gf_X2_35 X dX2_fittingPapers_57 ?_
    obtain ⟨er, eg⟩ := Prod.mk.inj (Option.some.inj h)
    exact v_iret X dX2_fittingPapers_60 er eg
  replace h := (if_neg cv4).symm.trans h
  refine v_lookup (off := 60) X 61 dX2_fittingPapers_1 (by decide) (by show Op.lookupswitch.offset [(0, 27), (1, 43)] 60 _ = _; rw [lv_osw (a := 0) cv1 (by decide), lv_osw (a := 1) cv4 (by decide)]; first | done | rfl) (by decide) ?_
  refine v_aloadn X dX2_fittingPapers_61 rfl rfl ?_
  refine v_iconst (v := 2) X dX2_fittingPapers_62 (by decide) ?_
  refine v_aloadn X dX2_fittingPapers_63 rfl rfl ?_
  refine gf_X2_21 X dX2_fittingPapers_64 ?_
  refine v_iconst (v := 1) X dX2_fittingPapers_67 (by decide) ?_
  refine v_bipush (v := 60) X dX2_fittingPapers_68 (by decide) ?_
  obtain ⟨gv8, qv7, h⟩ := bd1_some h
  refine v_callVV (As := [.int (2 : Int32), .int (g 5 0 0), .int (1 : Int32), .int (60 : Int32)]) (rest := []) X (c_X2_search l D ad cy X.2.2.2.2.2.2.2.2.1 N (2 : Int32) (g 5 0 0) (1 : Int32) (60 : Int32) g gv8  qv7) mw_X2_search ml_X2_127 (by decide) (by decide +kernel) (by decide) rfl rfl rfl rfl (Nat.le_of_ble_eq_true rfl) dX2_fittingPapers_70 ?_
  refine v_iloadn X dX2_fittingPapers_73 rfl rfl ?_
  refine v_iconst (v := 2) X dX2_fittingPapers_74 (by decide) ?_
  refine v_icmp_ne X 83 dX2_fittingPapers_75 (by decide) (fun cv9 => ?_) (fun cv9 => ?_)
  · replace h := (if_neg cv9).symm.trans h
    refine v_iloadn X dX2_fittingPapers_83 rfl rfl ?_
    refine v_iconst (v := 3) X dX2_fittingPapers_84 (by decide) ?_
    refine v_icmp_ne X 95 dX2_fittingPapers_85 (by decide) (fun cv10 => ?_) (fun cv10 => ?_)
    · replace h := (if_neg cv10).symm.trans h
      refine v_aloadn X dX2_fittingPapers_95 rfl rfl ?_
      refine gf_X2_45 X dX2_fittingPapers_96 ?_
      obtain ⟨er, eg⟩ := Prod.mk.inj (Option.some.inj h)
      exact v_iret X dX2_fittingPapers_99 er eg
    · replace h := (if_pos cv10).symm.trans h
      refine v_aloadn X dX2_fittingPapers_88 rfl rfl ?_
      refine gf_X2_42 X dX2_fittingPapers_89 ?_
      refine v_goto X 99 dX2_fittingPapers_92 (by decide) ?_
      obtain ⟨er, eg⟩ := Prod.mk.inj (Option.some.inj h)
      exact v_iret X dX2_fittingPapers_99 er eg
  · replace h := (if_pos cv9).symm.trans h
    refine v_aloadn X dX2_fittingPapers_78 rfl rfl ?_
    refine gf_X2_38 X dX2_fittingPapers_79 ?_
    obtain ⟨er, eg⟩ := Prod.mk.inj (Option.some.inj h)
    exact v_iret X dX2_fittingPapers_82 er eg
def F_X2_fittingTapes (N : Nat) (x1 : Int32) (g : GS) : Option (Int32 × GS) := bd1 (F_X2_search N (4 : Int32) (0 : Int32) (1 : Int32) (99 : Int32) g) (fun gv2 => if x1 = 0 then some ((gv2 5 0 5), gv2) else some ((gv2 5 0 6), gv2))
set_option maxRecDepth 100000 in
set_option maxHeartbeats 4000000 in
theorem c_X2_fittingTapes (l : Launch) (D : va_G) (ad : Ky → Nat) (cy : Nat → ClassId) (hI : Inj ad) (N : Nat) (x1 : Int32) (g : GS) (r : Int32) (gq : GS) (h : F_X2_fittingTapes N x1 g = some (r, gq)) : CtI l D ad cy yX2_fittingTapes cX2_fittingTapes 2 (some .int) 5 [.ref (ad (2, 0, 0)), .int x1] g r gq := by
  refine CtI.of 0 hI (by decide +kernel) rfl (Nat.le_of_ble_eq_true rfl) (fun p e s m args below meth c X => ?_)
  unfold F_X2_fittingTapes at h
  show Vy _ _ _ _ _ _ _ _ _ _ _ _ _ _ _ 0 [some (.ref (ad (2, 0, 0))), some (.int x1)] [] g
  refine v_aloadn X dX2_fittingTapes_0 rfl rfl ?_
  refine v_iconst (v := 4) X dX2_fittingTapes_1 (by decide) ?_
  refine v_iconst (v := 0) X dX2_fittingTapes_2 (by decide) ?_
  refine v_iconst (v := 1) X dX2_fittingTapes_3 (by decide) ?_
  refine v_bipush (v := 99) X dX2_fittingTapes_4 (by decide) ?_
  obtain ⟨gv2, qv1, h⟩ := bd1_some h
  refine v_callVV (As := [.int (4 : Int32), .int (0 : Int32), .int (1 : Int32), .int (99 : Int32)]) (rest := []) X (c_X2_search l D ad cy X.2.2.2.2.2.2.2.2.1 N (4 : Int32) (0 : Int32) (1 : Int32) (99 : Int32) g gv2  qv1) mw_X2_search ml_X2_127 (by decide) (by decide +kernel) (by decide) rfl rfl rfl rfl (Nat.le_of_ble_eq_true rfl) dX2_fittingTapes_6 ?_
  refine v_iloadn X dX2_fittingTapes_9 rfl rfl ?_
  refine v_if_ne X 20 dX2_fittingTapes_10 (by decide) (fun cv3 => ?_) (fun cv3 => ?_)
  · replace h := (if_neg cv3).symm.trans h
    refine v_aloadn X dX2_fittingTapes_20 rfl rfl ?_
    refine gf_X2_42 X dX2_fittingTapes_21 ?_
    obtain ⟨er, eg⟩ := Prod.mk.inj (Option.some.inj h)
    exact v_iret X dX2_fittingTapes_24 er eg
  · replace h := (if_pos cv3).symm.trans h
    refine v_aloadn X dX2_fittingTapes_13 rfl rfl ?_
    refine gf_X2_38 X dX2_fittingTapes_14 ?_
    refine v_goto X 24 dX2_fittingTapes_17 (by decide) ?_
    obtain ⟨er, eg⟩ := Prod.mk.inj (Option.some.inj h)
    exact v_iret X dX2_fittingTapes_24 er eg
def L_X2_greatestWeight_3 (N : Nat) (z1 : Int32) (z2 : Int32) : Nat → Int32 → GS → Option ((Int32 × GS) ⊕ (Int32 × GS))
  | 0, _, _ => none
  | n + 1, y3, g => if y3 < (1 : Int32) then some (.inr (y3, g)) else bd1 (F_X2_draftWith N (2 : Int32) z1 y3 g) (fun gv3 => bd1 (F_X2_passDraft N z2 gv3) (fun gv5 => bd2 (F_X4_isPolicy N 1 z1 gv5) (fun rv8 gv7 => if rv8 = 0 then L_X2_greatestWeight_3 N z1 z2 n (y3 + (-1)) gv7 else some (.inl (y3, gv7)))))
def F_X2_greatestWeight (N : Nat) (x1 : Int32) (x2 : Int32) (g : GS) : Option (Int32 × GS) := bs2 (L_X2_greatestWeight_3 N x1 x2 N (60 : Int32) g) (fun rv13 gv14 => some (rv13, gv14)) (fun xv10 gv11 => some ((-1000000 : Int32), gv11))
set_option maxRecDepth 100000 in
set_option maxHeartbeats 4000000 in
theorem w_X2_greatestWeight_3 {p : Program} {l : Launch} {e : Env} {s : State} {m : MethodId} {args : Array Value} {below : List Frame} {meth : Method} {c : Code} {D : va_G} {ad : Ky → Nat} {cy : Nat → ClassId} {r : Int32} {gq : GS} {N : Nat} (X : Cx p (rmd 4) s m args meth c RX2 cX2_greatestWeight 4 (some .int) D ad cy) (z1 : Int32) (z2 : Int32) : ∀ (n : Nat) (y3 : Int32) (g : GS) (res : _), L_X2_greatestWeight_3 N z1 z2 n y3 g = some res → (∀ (r1 : Int32) (g1 : GS), res = .inl (r1, g1) → r1 = r ∧ g1 = gq) → (∀ (y3' : Int32) (g' : GS), res = .inr (y3', g') → Vy p l e (rmd 4) s m args below meth c 4 D ad cy (QI D ad cy below args s r gq) 39 [some (.ref (ad (2, 0, 0))), some (.int z1), some (.int z2), some (.int y3')] [] g') → Vy p l e (rmd 4) s m args below meth c 4 D ad cy (QI D ad cy below args s r gq) 3 [some (.ref (ad (2, 0, 0))), some (.int z1), some (.int z2), some (.int y3)] [] g := by
  intro n
  induction n with
  | zero => intro y3 g res h kr k; cases h
  | succ n ih =>
    intro y3 g res h kr k
    rw [L_X2_greatestWeight_3] at h
    refine v_iloadn X dX2_greatestWeight_3 rfl rfl ?_
    refine v_iconst (v := 1) X dX2_greatestWeight_4 (by decide) ?_
    refine v_icmp_lt X 39 dX2_greatestWeight_5 (by decide) (fun cv1 => ?_) (fun cv1 => ?_)
    · replace h := (if_pos cv1).symm.trans h
      cases h
      exact k _ _ rfl
    · replace h := (if_neg cv1).symm.trans h
      refine v_aloadn X dX2_greatestWeight_8 rfl rfl ?_
      refine v_iconst (v := 2) X dX2_greatestWeight_9 (by decide) ?_
      refine v_iloadn X dX2_greatestWeight_10 rfl rfl ?_
      refine v_iloadn X dX2_greatestWeight_11 rfl rfl ?_
      obtain ⟨gv3, qv2, h⟩ := bd1_some h
      refine v_callVV (As := [.int (2 : Int32), .int z1, .int y3]) (rest := []) X (c_X2_draftWith l D ad cy X.2.2.2.2.2.2.2.2.1 N (2 : Int32) z1 y3 g gv3  qv2) mw_X2_draftWith ml_X2_112 (by decide) (by decide +kernel) (by decide) rfl rfl rfl rfl (Nat.le_of_ble_eq_true rfl) dX2_greatestWeight_12 ?_
      refine v_aloadn X dX2_greatestWeight_15 rfl rfl ?_
      refine v_iloadn X dX2_greatestWeight_16 rfl rfl ?_
      obtain ⟨gv5, qv4, h⟩ := bd1_some h
      refine v_callVV (As := [.int z2]) (rest := []) X (c_X2_passDraft l D ad cy X.2.2.2.2.2.2.2.2.1 N z2 gv3 gv5  qv4) mw_X2_passDraft ml_X2_52 (by decide) (by decide +kernel) (by decide) rfl rfl rfl rfl (Nat.le_of_ble_eq_true rfl) dX2_greatestWeight_17 ?_
      refine v_aloadn X dX2_greatestWeight_20 rfl rfl ?_
      refine gf_X2_18 X dX2_greatestWeight_21 ?_
      refine v_iloadn X dX2_greatestWeight_24 rfl rfl ?_
      obtain ⟨rv8, gv7, qv6, h⟩ := bd2_some h
      refine v_callVI (As := [.int z1]) (rest := []) X (c_X4_isPolicy l D ad cy X.2.2.2.2.2.2.2.2.1 N 1 z1 gv5 rv8 gv7 (by omega) qv6) mw_X4_isPolicy ml_X2_72 (by decide) (k_roof (by omega)) (by decide) rfl rfl rfl rfl (Nat.le_of_ble_eq_true rfl) dX2_greatestWeight_25 ?_
      refine v_if_eq X 33 dX2_greatestWeight_28 (by decide) (fun cv9 => ?_) (fun cv9 => ?_)
      · replace h := (if_pos cv9).symm.trans h
        refine v_iinc (v := (y3 + (-1))) (lc' := [some (.ref (ad (2, 0, 0))), some (.int z1), some (.int z2), some (.int (y3 + (-1)))]) X dX2_greatestWeight_33 rfl rfl (by decide) rfl rfl ?_
        refine v_goto X 3 dX2_greatestWeight_36 (by decide) ?_
        exact ih (y3 + (-1)) gv7 _ h kr k
      · replace h := (if_neg cv9).symm.trans h
        refine v_iloadn X dX2_greatestWeight_31 rfl rfl ?_
        obtain ⟨er, eg⟩ := kr _ _ (Option.some.inj h).symm
        exact v_iret X dX2_greatestWeight_32 er eg
set_option maxRecDepth 100000 in
set_option maxHeartbeats 4000000 in
theorem c_X2_greatestWeight (l : Launch) (D : va_G) (ad : Ky → Nat) (cy : Nat → ClassId) (hI : Inj ad) (N : Nat) (x1 : Int32) (x2 : Int32) (g : GS) (r : Int32) (gq : GS) (h : F_X2_greatestWeight N x1 x2 g = some (r, gq)) : CtI l D ad cy yX2_greatestWeight cX2_greatestWeight 4 (some .int) 4 [.ref (ad (2, 0, 0)), .int x1, .int x2] g r gq := by
  refine CtI.of 1 hI (by decide +kernel) rfl (Nat.le_of_ble_eq_true rfl) (fun p e s m args below meth c X => ?_)
  unfold F_X2_greatestWeight at h
  show Vy _ _ _ _ _ _ _ _ _ _ _ _ _ _ _ 0 [some (.ref (ad (2, 0, 0))), some (.int x1), some (.int x2), none] [] g
  refine v_bipush (v := 60) X dX2_greatestWeight_0 (by decide) ?_
  refine v_istoren (lc' := [some (.ref (ad (2, 0, 0))), some (.int x1), some (.int x2), some (.int (60 : Int32))]) X dX2_greatestWeight_2 rfl (by decide) rfl rfl ?_
  obtain ⟨zv15, qv12, h⟩ := bs2_some h
  refine w_X2_greatestWeight_3 X x1 x2 N (60 : Int32) g _ qv12 ?_ ?_
  · intro rv13 gv14 e1
    subst e1
    dsimp only at h
    cases h
    exact ⟨rfl, rfl⟩
  · intro xv10 gv11 e1
    subst e1
    dsimp only at h
    refine v_ldc X kc_X2_41 dX2_greatestWeight_39 ?_
    obtain ⟨er, eg⟩ := Prod.mk.inj (Option.some.inj h)
    exact v_iret X dX2_greatestWeight_41 er eg
def L_X2_leastSnappingForce_2 (N : Nat) (z1 : Int32) : Nat → Int32 → GS → Option ((Int32 × GS) ⊕ (Int32 × GS))
  | 0, _, _ => none
  | n + 1, y2, g => if (99 : Int32) < y2 then some (.inr (y2, g)) else bd1 (ix z1 6) (fun jv2 => bd2 (F_X4_riseOf N 0 z1 y2 g) (fun rv6 gv5 => bd2 (F_X3_snapsBy N 0 jv2 rv6 (gv5 0 0 1) gv5) (fun rv9 gv8 => if rv9 = 0 then L_X2_leastSnappingForce_2 N z1 n (y2 + 1) gv8 else some (.inl (y2, gv8)))))
def F_X2_leastSnappingForce (N : Nat) (x1 : Int32) (g : GS) : Option (Int32 × GS) := bs2 (L_X2_leastSnappingForce_2 N x1 N (0 : Int32) g) (fun rv14 gv15 => some (rv14, gv15)) (fun xv11 gv12 => some ((-1000000 : Int32), gv12))
set_option maxRecDepth 100000 in
set_option maxHeartbeats 4000000 in
theorem w_X2_leastSnappingForce_2 {p : Program} {l : Launch} {e : Env} {s : State} {m : MethodId} {args : Array Value} {below : List Frame} {meth : Method} {c : Code} {D : va_G} {ad : Ky → Nat} {cy : Nat → ClassId} {r : Int32} {gq : GS} {N : Nat} (X : Cx p (rmd 3) s m args meth c RX2 cX2_leastSnappingForce 3 (some .int) D ad cy) (z1 : Int32) : ∀ (n : Nat) (y2 : Int32) (g : GS) (res : _), L_X2_leastSnappingForce_2 N z1 n y2 g = some res → (∀ (r1 : Int32) (g1 : GS), res = .inl (r1, g1) → r1 = r ∧ g1 = gq) → (∀ (y2' : Int32) (g' : GS), res = .inr (y2', g') → Vy p l e (rmd 3) s m args below meth c 3 D ad cy (QI D ad cy below args s r gq) 47 [some (.ref (ad (2, 0, 0))), some (.int z1), some (.int y2')] [] g') → Vy p l e (rmd 3) s m args below meth c 3 D ad cy (QI D ad cy below args s r gq) 2 [some (.ref (ad (2, 0, 0))), some (.int z1), some (.int y2)] [] g := by
  intro n
  induction n with
  | zero => intro y2 g res h kr k; cases h
  | succ n ih =>
    intro y2 g res h kr k
    rw [L_X2_leastSnappingForce_2] at h
    refine v_iloadn X dX2_leastSnappingForce_2 rfl rfl ?_
    refine v_bipush (v := 99) X dX2_leastSnappingForce_3 (by decide) ?_
    refine v_icmp_gt X 47 dX2_leastSnappingForce_5 (by decide) (fun cv1 => ?_) (fun cv1 => ?_)
    · replace h := (if_pos cv1).symm.trans h
      cases h
      exact k _ _ rfl
    · replace h := (if_neg cv1).symm.trans h
      refine v_aloadn X dX2_leastSnappingForce_8 rfl rfl ?_
      refine gf_X2_12 X dX2_leastSnappingForce_9 ?_
      refine gf_X2_63 X (k_roof (by omega)) dX2_leastSnappingForce_12 ?_
      refine v_iloadn X dX2_leastSnappingForce_15 rfl rfl ?_
      obtain ⟨jv2, qv3, h⟩ := bd1_some h
      obtain ⟨ejv2, ljv2⟩ := ix_spec qv3
      refine aaP X (k_papers (by omega)) jv2 ejv2 ljv2 dX2_leastSnappingForce_16 ?_
      refine v_aloadn X dX2_leastSnappingForce_17 rfl rfl ?_
      refine gf_X2_12 X dX2_leastSnappingForce_18 ?_
      refine v_iloadn X dX2_leastSnappingForce_21 rfl rfl ?_
      refine v_iloadn X dX2_leastSnappingForce_22 rfl rfl ?_
      obtain ⟨rv6, gv5, qv4, h⟩ := bd2_some h
      refine v_callVI (As := [.int z1, .int y2]) (rest := [.ref (ad (3, 0, jv2))]) X (c_X4_riseOf l D ad cy X.2.2.2.2.2.2.2.2.1 N 0 z1 y2 g rv6 gv5 (by omega) qv4) mw_X4_riseOf ml_X2_116 (by decide) (k_roof (by omega)) (by decide) rfl rfl rfl rfl (Nat.le_of_ble_eq_true rfl) dX2_leastSnappingForce_23 ?_
      refine v_aloadn X dX2_leastSnappingForce_26 rfl rfl ?_
      refine gf_X2_12 X dX2_leastSnappingForce_27 ?_
      refine gf_X2_120 X (k_roof (by omega)) dX2_leastSnappingForce_30 ?_
      obtain ⟨rv9, gv8, qv7, h⟩ := bd2_some h
      refine v_callVI (As := [.int rv6, .int (gv5 0 0 1)]) (rest := []) X (c_X3_snapsBy l D ad cy X.2.2.2.2.2.2.2.2.1 N 0 jv2 rv6 (gv5 0 0 1) gv5 rv9 gv8 (by omega) (by omega) qv7) mw_X3_snapsBy ml_X2_123 (by decide) (k_paper (by omega) (by omega)) (by decide) rfl rfl rfl rfl (Nat.le_of_ble_eq_true rfl) dX2_leastSnappingForce_33 ?_
      refine v_if_eq X 41 dX2_leastSnappingForce_36 (by decide) (fun cv10 => ?_) (fun cv10 => ?_)
      · replace h := (if_pos cv10).symm.trans h
        refine v_iinc (v := (y2 + 1)) (lc' := [some (.ref (ad (2, 0, 0))), some (.int z1), some (.int (y2 + 1))]) X dX2_leastSnappingForce_41 rfl rfl (by decide) rfl rfl ?_
        refine v_goto X 2 dX2_leastSnappingForce_44 (by decide) ?_
        exact ih (y2 + 1) gv8 _ h kr k
      · replace h := (if_neg cv10).symm.trans h
        refine v_iloadn X dX2_leastSnappingForce_39 rfl rfl ?_
        obtain ⟨er, eg⟩ := kr _ _ (Option.some.inj h).symm
        exact v_iret X dX2_leastSnappingForce_40 er eg
set_option maxRecDepth 100000 in
set_option maxHeartbeats 4000000 in
theorem c_X2_leastSnappingForce (l : Launch) (D : va_G) (ad : Ky → Nat) (cy : Nat → ClassId) (hI : Inj ad) (N : Nat) (x1 : Int32) (g : GS) (r : Int32) (gq : GS) (h : F_X2_leastSnappingForce N x1 g = some (r, gq)) : CtI l D ad cy yX2_leastSnappingForce cX2_leastSnappingForce 3 (some .int) 3 [.ref (ad (2, 0, 0)), .int x1] g r gq := by
  refine CtI.of 1 hI (by decide +kernel) rfl (Nat.le_of_ble_eq_true rfl) (fun p e s m args below meth c X => ?_)
  unfold F_X2_leastSnappingForce at h
  show Vy _ _ _ _ _ _ _ _ _ _ _ _ _ _ _ 0 [some (.ref (ad (2, 0, 0))), some (.int x1), none] [] g
  refine v_iconst (v := 0) X dX2_leastSnappingForce_0 (by decide) ?_
  refine v_istoren (lc' := [some (.ref (ad (2, 0, 0))), some (.int x1), some (.int (0 : Int32))]) X dX2_leastSnappingForce_1 rfl (by decide) rfl rfl ?_
  obtain ⟨zv16, qv13, h⟩ := bs2_some h
  refine w_X2_leastSnappingForce_2 X x1 N (0 : Int32) g _ qv13 ?_ ?_
  · intro rv14 gv15 e1
    subst e1
    dsimp only at h
    cases h
    exact ⟨rfl, rfl⟩
  · intro xv11 gv12 e1
    subst e1
    dsimp only at h
    refine v_ldc X kc_X2_41 dX2_leastSnappingForce_47 ?_
    obtain ⟨er, eg⟩ := Prod.mk.inj (Option.some.inj h)
    exact v_iret X dX2_leastSnappingForce_49 er eg
def F_X2_watch (N : Nat) (x1 : Int32) (j2 : Nat) (x3 : Int32) (x4 : Int32) (g : GS) : Option GS := some (g3 (g3 (g3 (g3 g 5 0 0 x1) 5 0 1 (nI (j2 + 1))) 5 0 2 x3) 5 0 3 x4)
set_option maxRecDepth 100000 in
set_option maxHeartbeats 4000000 in
theorem c_X2_watch (l : Launch) (D : va_G) (ad : Ky → Nat) (cy : Nat → ClassId) (hI : Inj ad) (N : Nat) (x1 : Int32) (j2 : Nat) (x3 : Int32) (x4 : Int32) (g : GS) (gq : GS) (hj2 : j2 < 8) (h : F_X2_watch N x1 j2 x3 x4 g = some gq) : CtV l D ad cy yX2_watch cX2_watch 5 0 [.ref (ad (2, 0, 0)), .int x1, .ref (ad (5, j2, 0)), .int x3, .int x4] g gq := by
  refine CtV.of 0 hI (by decide +kernel) rfl (Nat.le_of_ble_eq_true rfl) (fun p e s m args below meth c X => ?_)
  unfold F_X2_watch at h
  show Vy _ _ _ _ _ _ _ _ _ _ _ _ _ _ _ 0 [some (.ref (ad (2, 0, 0))), some (.int x1), some (.ref (ad (5, j2, 0))), some (.int x3), some (.int x4)] [] g
  refine v_aloadn X dX2_watch_0 rfl rfl ?_
  refine v_iloadn X dX2_watch_1 rfl rfl ?_
  refine pf_X2_21 X dX2_watch_2 ?_
  refine v_aloadn X dX2_watch_5 rfl rfl ?_
  refine v_aloadn X dX2_watch_6 rfl rfl ?_
  refine ps_X2_25 X (by omega) dX2_watch_7 ?_
  refine v_aloadn X dX2_watch_10 rfl rfl ?_
  refine v_iloadn X dX2_watch_11 rfl rfl ?_
  refine pf_X2_29 X dX2_watch_12 ?_
  refine v_aloadn X dX2_watch_15 rfl rfl ?_
  refine v_iload X dX2_watch_16 rfl ?_
  refine pf_X2_32 X dX2_watch_18 ?_
  exact v_vret X dX2_watch_21 (Option.some.inj h)
