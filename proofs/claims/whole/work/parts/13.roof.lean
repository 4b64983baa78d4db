def F_X0_forget (N : Nat) (g : GS) : Option GS := some (g3 g 6 0 1 (0 : Int32))
set_option maxRecDepth 100000 in
set_option maxHeartbeats 4000000 in
theorem c_X0_forget (l : Launch) (D : va_G) (ad : Ky → Nat) (cy : Nat → ClassId) (hI : Inj ad) (N : Nat) (g : GS) (gq : GS) (h : F_X0_forget N  g = some gq) : CtV l D ad cy yX0_forget cX0_forget 1 0 [.ref (ad (0, 0, 0))] g gq := by
  refine CtV.of 0 hI (by decide +kernel) rfl (Nat.le_of_ble_eq_true rfl) (fun p e s m args below meth c X => ?_)
  unfold F_X0_forget at h
  show Vy _ _ _ _ _ _ _ _ _ _ _ _ _ _ _ 0 [some (.ref (ad (0, 0, 0)))] [] g
  refine v_aloadn X dX0_forget_0 rfl rfl ?_
  refine v_iconst (v := 0) X dX0_forget_1 (by decide) ?_
  refine pf_X0_21 X dX0_forget_2 ?_
  exact v_vret X dX0_forget_5 (Option.some.inj h)
def L_X4_become_42 (N : Nat) (w0_0 : Nat) (w1_0 : Nat) : Nat → Int32 → GS → Option (Int32 × GS)
  | 0, _, _ => none
  | n + 1, y2, g => if (g 0 w0_0 3) ≤ y2 then some (y2, g) else bd1 (ix y2 6) (fun jv2 => L_X4_become_42 N w0_0 w1_0 n (y2 + 1) (g3 g 12 w0_0 jv2 (g 12 w1_0 jv2)))
def L_X4_become_70 (N : Nat) (w0_0 : Nat) (w1_0 : Nat) : Nat → Int32 → GS → Option (Int32 × GS)
  | 0, _, _ => none
  | n + 1, y2, g => if (g 0 w0_0 4) ≤ y2 then some (y2, g) else bd1 (ix y2 6) (fun jv8 => bd1 (F_X3_become N w0_0 jv8 w1_0 jv8 g) (fun gv11 => L_X4_become_70 N w0_0 w1_0 n (y2 + 1) gv11))
def F_X4_become (N : Nat) (r0 : Nat) (r1 : Nat) (g : GS) : Option GS := bd2 (L_X4_become_42 N r0 r1 N (0 : Int32) (g3 (g3 (g3 (g3 (g3 g 0 r0 0 (g 0 r1 0)) 0 r0 1 ((g3 g 0 r0 0 (g 0 r1 0)) 0 r1 1)) 0 r0 2 ((g3 (g3 g 0 r0 0 (g 0 r1 0)) 0 r0 1 ((g3 g 0 r0 0 (g 0 r1 0)) 0 r1 1)) 0 r1 2)) 0 r0 3 ((g3 (g3 (g3 g 0 r0 0 (g 0 r1 0)) 0 r0 1 ((g3 g 0 r0 0 (g 0 r1 0)) 0 r1 1)) 0 r0 2 ((g3 (g3 g 0 r0 0 (g 0 r1 0)) 0 r0 1 ((g3 g 0 r0 0 (g 0 r1 0)) 0 r1 1)) 0 r1 2)) 0 r1 3)) 0 r0 4 ((g3 (g3 (g3 (g3 g 0 r0 0 (g 0 r1 0)) 0 r0 1 ((g3 g 0 r0 0 (g 0 r1 0)) 0 r1 1)) 0 r0 2 ((g3 (g3 g 0 r0 0 (g 0 r1 0)) 0 r0 1 ((g3 g 0 r0 0 (g 0 r1 0)) 0 r1 1)) 0 r1 2)) 0 r0 3 ((g3 (g3 (g3 g 0 r0 0 (g 0 r1 0)) 0 r0 1 ((g3 g 0 r0 0 (g 0 r1 0)) 0 r1 1)) 0 r0 2 ((g3 (g3 g 0 r0 0 (g 0 r1 0)) 0 r0 1 ((g3 g 0 r0 0 (g 0 r1 0)) 0 r1 1)) 0 r1 2)) 0 r1 3)) 0 r1 4))) (fun xv4 gv5 => bd2 (L_X4_become_70 N r0 r1 N (0 : Int32) gv5) (fun xv12 gv13 => some gv13))
set_option maxRecDepth 100000 in
set_option maxHeartbeats 4000000 in
theorem w_X4_become_42 {p : Program} {l : Launch} {e : Env} {s : State} {m : MethodId} {args : Array Value} {below : List Frame} {meth : Method} {c : Code} {D : va_G} {ad : Ky → Nat} {cy : Nat → ClassId} {gq : GS} {N : Nat} (X : Cx p (rmd 1) s m args meth c RX4 cX4_become 3 none D ad cy) (w0_0 : Nat) (w1_0 : Nat) (hh0 : w0_0 < 28) (hh1 : w1_0 < 28) : ∀ (n : Nat) (y2 : Int32) (g : GS) (y2' : Int32) (g' : GS), L_X4_become_42 N w0_0 w1_0 n y2 g = some (y2', g') → Vy p l e (rmd 1) s m args below meth c 3 D ad cy (QV D ad cy below args s gq) 68 [some (.ref (ad (4, w0_0, 0))), some (.ref (ad (4, w1_0, 0))), some (.int y2')] [] g' → Vy p l e (rmd 1) s m args below meth c 3 D ad cy (QV D ad cy below args s gq) 42 [some (.ref (ad (4, w0_0, 0))), some (.ref (ad (4, w1_0, 0))), some (.int y2)] [] g := by
  intro n
  induction n with
  | zero => intro y2 g y2' g' h k; cases h
  | succ n ih =>
    intro y2 g y2' g' h k
    rw [L_X4_become_42] at h
    refine v_iloadn X dX4_become_42 rfl rfl ?_
    refine v_aloadn X dX4_become_43 rfl rfl ?_
    refine gf_X4_21 X (k_roof (by omega)) dX4_become_44 ?_
    refine v_icmp_ge X 68 dX4_become_47 (by decide) (fun cv1 => ?_) (fun cv1 => ?_)
    · replace h := (if_pos cv1).symm.trans h
      cases h
      exact k
    · replace h := (if_neg cv1).symm.trans h
      refine v_aloadn X dX4_become_50 rfl rfl ?_
      refine gf_X4_27 X (k_roof (by omega)) dX4_become_51 ?_
      refine v_iloadn X dX4_become_54 rfl rfl ?_
      refine v_aloadn X dX4_become_55 rfl rfl ?_
      refine gf_X4_27 X (k_roof (by omega)) dX4_become_56 ?_
      refine v_iloadn X dX4_become_59 rfl rfl ?_
      obtain ⟨jv2, qv3, h⟩ := bd1_some h
      obtain ⟨ejv2, ljv2⟩ := ix_spec qv3
      refine alF X (k_forces (by omega)) jv2 ejv2 ljv2 dX4_become_60 ?_
      refine asF X (k_forces (by omega)) jv2 ejv2 ljv2 dX4_become_61 ?_
      refine v_iinc (v := (y2 + 1)) (lc' := [some (.ref (ad (4, w0_0, 0))), some (.ref (ad (4, w1_0, 0))), some (.int (y2 + 1))]) X dX4_become_62 rfl rfl (by decide) rfl rfl ?_
      refine v_goto X 42 dX4_become_65 (by decide) ?_
      exact ih (y2 + 1) (g3 g 12 w0_0 jv2 (g 12 w1_0 jv2)) _ _ h k
set_option maxRecDepth 100000 in
set_option maxHeartbeats 4000000 in
theorem w_X4_become_70 {p : Program} {l : Launch} {e : Env} {s : State} {m : MethodId} {args : Array Value} {below : List Frame} {meth : Method} {c : Code} {D : va_G} {ad : Ky → Nat} {cy : Nat → ClassId} {gq : GS} {N : Nat} (X : Cx p (rmd 1) s m args meth c RX4 cX4_become 3 none D ad cy) (w0_0 : Nat) (w1_0 : Nat) (hh0 : w0_0 < 28) (hh1 : w1_0 < 28) : ∀ (n : Nat) (y2 : Int32) (g : GS) (y2' : Int32) (g' : GS), L_X4_become_70 N w0_0 w1_0 n y2 g = some (y2', g') → Vy p l e (rmd 1) s m args below meth c 3 D ad cy (QV D ad cy below args s gq) 99 [some (.ref (ad (4, w0_0, 0))), some (.ref (ad (4, w1_0, 0))), some (.int y2')] [] g' → Vy p l e (rmd 1) s m args below meth c 3 D ad cy (QV D ad cy below args s gq) 70 [some (.ref (ad (4, w0_0, 0))), some (.ref (ad (4, w1_0, 0))), some (.int y2)] [] g := by
  intro n
  induction n with
  | zero => intro y2 g y2' g' h k; cases h
  | succ n ih =>
    intro y2 g y2' g' h k
    rw [L_X4_become_70] at h
    refine v_iloadn X dX4_become_70 rfl rfl ?_
    refine v_aloadn X dX4_become_71 rfl rfl ?_
    refine gf_X4_24 X (k_roof (by omega)) dX4_become_72 ?_
    refine v_icmp_ge X 99 dX4_become_75 (by decide) (fun cv7 => ?_) (fun cv7 => ?_)
    · replace h := (if_pos cv7).symm.trans h
      cases h
      exact k
    · replace h := (if_neg cv7).symm.trans h
      refine v_aloadn X dX4_become_78 rfl rfl ?_
      refine gf_X4_33 X (k_roof (by omega)) dX4_become_79 ?_
      refine v_iloadn X dX4_become_82 rfl rfl ?_
      obtain ⟨jv8, qv9, h⟩ := bd1_some h
      obtain ⟨ejv8, ljv8⟩ := ix_spec qv9
      refine aaP X (k_papers (by omega)) jv8 ejv8 ljv8 dX4_become_83 ?_
      refine v_aloadn X dX4_become_84 rfl rfl ?_
      refine gf_X4_33 X (k_roof (by omega)) dX4_become_85 ?_
      refine v_iloadn X dX4_become_88 rfl rfl ?_
      refine aaP X (k_papers (by omega)) jv8 ejv8 ljv8 dX4_become_89 ?_
      obtain ⟨gv11, qv10, h⟩ := bd1_some h
      refine v_callVV (As := [.ref (ad (3, w1_0, jv8))]) (rest := []) X (c_X3_become l D ad cy X.2.2.2.2.2.2.2.2.1 N w0_0 jv8 w1_0 jv8 g gv11 (by omega) (by omega) (by omega) (by omega) qv10) mw_X3_become ml_X4_38 (by decide) (k_paper (by omega) (by omega)) (by decide) rfl rfl rfl rfl (Nat.le_of_ble_eq_true rfl) dX4_become_90 ?_
      refine v_iinc (v := (y2 + 1)) (lc' := [some (.ref (ad (4, w0_0, 0))), some (.ref (ad (4, w1_0, 0))), some (.int (y2 + 1))]) X dX4_become_93 rfl rfl (by decide) rfl rfl ?_
      refine v_goto X 70 dX4_become_96 (by decide) ?_
      exact ih (y2 + 1) gv11 _ _ h k
set_option maxRecDepth 100000 in
set_option maxHeartbeats 4000000 in
theorem c_X4_become (l : Launch) (D : va_G) (ad : Ky → Nat) (cy : Nat → ClassId) (hI : Inj ad) (N : Nat) (r0 : Nat) (r1 : Nat) (g : GS) (gq : GS) (hr0 : r0 < 28) (hr1 : r1 < 28) (h : F_X4_become N r0 r1 g = some gq) : CtV l D ad cy yX4_become cX4_become 3 1 [.ref (ad (4, r0, 0)), .ref (ad (4, r1, 0))] g gq := by
  refine CtV.of 1 hI (by decide +kernel) rfl (Nat.le_of_ble_eq_true rfl) (fun p e s m args below meth c X => ?_)
  unfold F_X4_become at h
  show Vy _ _ _ _ _ _ _ _ _ _ _ _ _ _ _ 0 [some (.ref (ad (4, r0, 0))), some (.ref (ad (4, r1, 0))), none] [] g
  refine v_aloadn X dX4_become_0 rfl rfl ?_
  refine v_aloadn X dX4_become_1 rfl rfl ?_
  refine gf_X4_9 X (k_roof (by omega)) dX4_become_2 ?_
  refine pf_X4_9 X (k_roof (by omega)) dX4_become_5 ?_
  refine v_aloadn X dX4_become_8 rfl rfl ?_
  refine v_aloadn X dX4_become_9 rfl rfl ?_
  refine gf_X4_15 X (k_roof (by omega)) dX4_become_10 ?_
  refine pf_X4_15 X (k_roof (by omega)) dX4_become_13 ?_
  refine v_aloadn X dX4_become_16 rfl rfl ?_
  refine v_aloadn X dX4_become_17 rfl rfl ?_
  refine gf_X4_18 X (k_roof (by omega)) dX4_become_18 ?_
  refine pf_X4_18 X (k_roof (by omega)) dX4_become_21 ?_
  refine v_aloadn X dX4_become_24 rfl rfl ?_
  refine v_aloadn X dX4_become_25 rfl rfl ?_
  refine gf_X4_21 X (k_roof (by omega)) dX4_become_26 ?_
  refine pf_X4_21 X (k_roof (by omega)) dX4_become_29 ?_
  refine v_aloadn X dX4_become_32 rfl rfl ?_
  refine v_aloadn X dX4_become_33 rfl rfl ?_
  refine gf_X4_24 X (k_roof (by omega)) dX4_become_34 ?_
  refine pf_X4_24 X (k_roof (by omega)) dX4_become_37 ?_
  refine v_iconst (v := 0) X dX4_become_40 (by decide) ?_
  refine v_istoren (lc' := [some (.ref (ad (4, r0, 0))), some (.ref (ad (4, r1, 0))), some (.int (0 : Int32))]) X dX4_become_41 rfl (by decide) rfl rfl ?_
  obtain ⟨xv4, gv5, qv6, h⟩ := bd2_some h
  refine w_X4_become_42 X r0 r1 (by omega) (by omega) N (0 : Int32) (g3 (g3 (g3 (g3 (g3 g 0 r0 0 (g 0 r1 0)) 0 r0 1 ((g3 g 0 r0 0 (g 0 r1 0)) 0 r1 1)) 0 r0 2 ((g3 (g3 g 0 r0 0 (g 0 r1 0)) 0 r0 1 ((g3 g 0 r0 0 (g 0 r1 0)) 0 r1 1)) 0 r1 2)) 0 r0 3 ((g3 (g3 (g3 g 0 r0 0 (g 0 r1 0)) 0 r0 1 ((g3 g 0 r0 0 (g 0 r1 0)) 0 r1 1)) 0 r0 2 ((g3 (g3 g 0 r0 0 (g 0 r1 0)) 0 r0 1 ((g3 g 0 r0 0 (g 0 r1 0)) 0 r1 1)) 0 r1 2)) 0 r1 3)) 0 r0 4 ((g3 (g3 (g3 (g3 g 0 r0 0 (g 0 r1 0)) 0 r0 1 ((g3 g 0 r0 0 (g 0 r1 0)) 0 r1 1)) 0 r0 2 ((g3 (g3 g 0 r0 0 (g 0 r1 0)) 0 r0 1 ((g3 g 0 r0 0 (g 0 r1 0)) 0 r1 1)) 0 r1 2)) 0 r0 3 ((g3 (g3 (g3 g 0 r0 0 (g 0 r1 0)) 0 r0 1 ((g3 g 0 r0 0 (g 0 r1 0)) 0 r1 1)) 0 r0 2 ((g3 (g3 g 0 r0 0 (g 0 r1 0)) 0 r0 1 ((g3 g 0 r0 0 (g 0 r1 0)) 0 r1 1)) 0 r1 2)) 0 r1 3)) 0 r1 4)) xv4 gv5 qv6 ?_
  refine v_iconst (v := 0) X dX4_become_68 (by decide) ?_
  refine v_istoren (lc' := [some (.ref (ad (4, r0, 0))), some (.ref (ad (4, r1, 0))), some (.int (0 : Int32))]) X dX4_become_69 rfl (by decide) rfl rfl ?_
  obtain ⟨xv12, gv13, qv14, h⟩ := bd2_some h
  refine w_X4_become_70 X r0 r1 (by omega) (by omega) N (0 : Int32) gv5 xv12 gv13 qv14 ?_
  exact v_vret X dX4_become_99 (Option.some.inj h)
def F_X0_keep (N : Nat) (r1 : Nat) (g : GS) : Option GS := bd1 (ix (g 6 0 0) 24) (fun jv1 => bd1 (F_X4_become N (2 + jv1) r1 g) (fun gv4 => some (g3 (g3 gv4 6 0 0 (((gv4 6 0 0) + (1 : Int32)) - ((gv4 6 0 0) + (1 : Int32)) / (24 : Int32) * (24 : Int32))) 6 0 1 (if (24 : Int32) < ((gv4 6 0 1) + (1 : Int32)) then (24 : Int32) else ((gv4 6 0 1) + (1 : Int32))))))
set_option maxRecDepth 100000 in
set_option maxHeartbeats 4000000 in
theorem c_X0_keep (l : Launch) (D : va_G) (ad : Ky → Nat) (cy : Nat → ClassId) (hI : Inj ad) (N : Nat) (r1 : Nat) (g : GS) (gq : GS) (hr1 : r1 < 28) (h : F_X0_keep N r1 g = some gq) : CtV l D ad cy yX0_keep cX0_keep 2 2 [.ref (ad (0, 0, 0)), .ref (ad (4, r1, 0))] g gq := by
  refine CtV.of 0 hI (by decide +kernel) rfl (Nat.le_of_ble_eq_true rfl) (fun p e s m args below meth c X => ?_)
  unfold F_X0_keep at h
  show Vy _ _ _ _ _ _ _ _ _ _ _ _ _ _ _ 0 [some (.ref (ad (0, 0, 0))), some (.ref (ad (4, r1, 0)))] [] g
  refine v_aloadn X dX0_keep_0 rfl rfl ?_
  refine gf_X0_11 X dX0_keep_1 ?_
  refine v_aloadn X dX0_keep_4 rfl rfl ?_
  refine gf_X0_17 X dX0_keep_5 ?_
  obtain ⟨jv1, qv2, h⟩ := bd1_some h
  obtain ⟨ejv1, ljv1⟩ := ix_spec qv2
  refine aaK X jv1 ejv1 ljv1 dX0_keep_8 ?_
  refine v_aloadn X dX0_keep_9 rfl rfl ?_
  obtain ⟨gv4, qv3, h⟩ := bd1_some h
  refine v_callVV (As := [.ref (ad (4, r1, 0))]) (rest := []) X (c_X4_become l D ad cy X.2.2.2.2.2.2.2.2.1 N (2 + jv1) r1 g gv4 (by omega) (by omega) qv3) mw_X4_become ml_X0_25 (by decide) (k_roof (by omega)) (by decide) rfl rfl rfl rfl (Nat.le_of_ble_eq_true rfl) dX0_keep_10 ?_
  refine v_aloadn X dX0_keep_13 rfl rfl ?_
  refine v_aloadn X dX0_keep_14 rfl rfl ?_
  refine gf_X0_17 X dX0_keep_15 ?_
  refine v_iconst (v := 1) X dX0_keep_18 (by decide) ?_
  refine v_iadd X dX0_keep_19 ?_
  refine v_bipush (v := 24) X dX0_keep_20 (by decide) ?_
  refine v_irem X dX0_keep_22 (by decide) ?_
  refine pf_X0_17 X dX0_keep_23 ?_
  refine v_aloadn X dX0_keep_26 rfl rfl ?_
  refine v_aloadn X dX0_keep_27 rfl rfl ?_
  refine gf_X0_21 X dX0_keep_28 ?_
  refine v_vali (v2 := (gv4 6 0 1)) rfl ?_
  refine v_iconst (v := 1) X dX0_keep_31 (by decide) ?_
  refine v_iadd X dX0_keep_32 ?_
  refine v_bipush (v := 24) X dX0_keep_33 (by decide) ?_
  refine v_mmin X ml_X0_29 mw_J9_min_7cf53.2.1 mw_J9_min_7cf53.2.2.1 mw_J9_min_7cf53.1 (Nat.le_of_ble_eq_true rfl) dX0_keep_35 ?_
  refine pf_X0_21 X dX0_keep_38 ?_
  exact v_vret X dX0_keep_41 (Option.some.inj h)
def F_X0_takeBack (N : Nat) (r1 : Nat) (g : GS) : Option GS := bd1 (ix ((((g 6 0 0) + (24 : Int32)) - (1 : Int32)) - (((g 6 0 0) + (24 : Int32)) - (1 : Int32)) / (24 : Int32) * (24 : Int32)) 24) (fun jv1 => bd1 (F_X4_become N r1 (2 + jv1) (g3 (g3 g 6 0 0 ((((g 6 0 0) + (24 : Int32)) - (1 : Int32)) - (((g 6 0 0) + (24 : Int32)) - (1 : Int32)) / (24 : Int32) * (24 : Int32))) 6 0 1 (if ((g 6 0 1) - (1 : Int32)) < (0 : Int32) then (0 : Int32) else ((g 6 0 1) - (1 : Int32))))) (fun gv4 => some gv4))
set_option maxRecDepth 100000 in
set_option maxHeartbeats 4000000 in
theorem c_X0_takeBack (l : Launch) (D : va_G) (ad : Ky → Nat) (cy : Nat → ClassId) (hI : Inj ad) (N : Nat) (r1 : Nat) (g : GS) (gq : GS) (hr1 : r1 < 28) (h : F_X0_takeBack N r1 g = some gq) : CtV l D ad cy yX0_takeBack cX0_takeBack 2 2 [.ref (ad (0, 0, 0)), .ref (ad (4, r1, 0))] g gq := by
  refine CtV.of 0 hI (by decide +kernel) rfl (Nat.le_of_ble_eq_true rfl) (fun p e s m args below meth c X => ?_)
  unfold F_X0_takeBack at h
  show Vy _ _ _ _ _ _ _ _ _ _ _ _ _ _ _ 0 [some (.ref (ad (0, 0, 0))), some (.ref (ad (4, r1, 0)))] [] g
  refine v_aloadn X dX0_takeBack_0 rfl rfl ?_
  refine v_aloadn X dX0_takeBack_1 rfl rfl ?_
  refine gf_X0_17 X dX0_takeBack_2 ?_
  refine v_bipush (v := 24) X dX0_takeBack_5 (by decide) ?_
  refine v_iadd X dX0_takeBack_7 ?_
  refine v_iconst (v := 1) X dX0_takeBack_8 (by decide) ?_
  refine v_isub X dX0_takeBack_9 ?_
  refine v_bipush (v := 24) X dX0_takeBack_10 (by decide) ?_
  refine v_irem X dX0_takeBack_12 (by decide) ?_
  refine pf_X0_17 X dX0_takeBack_13 ?_
  refine v_aloadn X dX0_takeBack_16 rfl rfl ?_
  refine v_aloadn X dX0_takeBack_17 rfl rfl ?_
  refine gf_X0_21 X dX0_takeBack_18 ?_
  refine v_vali (v2 := (g 6 0 1)) rfl ?_
  refine v_iconst (v := 1) X dX0_takeBack_21 (by decide) ?_
  refine v_isub X dX0_takeBack_22 ?_
  refine v_iconst (v := 0) X dX0_takeBack_23 (by decide) ?_
  refine v_mmax X ml_X0_35 mw_J9_max_7cf53.2.1 mw_J9_max_7cf53.2.2.1 mw_J9_max_7cf53.1 (Nat.le_of_ble_eq_true rfl) dX0_takeBack_24 ?_
  refine pf_X0_21 X dX0_takeBack_27 ?_
  refine v_aloadn X dX0_takeBack_30 rfl rfl ?_
  refine v_aloadn X dX0_takeBack_31 rfl rfl ?_
  refine gf_X0_11 X dX0_takeBack_32 ?_
  refine v_aloadn X dX0_takeBack_35 rfl rfl ?_
  refine gf_X0_17 X dX0_takeBack_36 ?_
  refine v_vali (v2 := ((((g 6 0 0) + (24 : Int32)) - (1 : Int32)) - (((g 6 0 0) + (24 : Int32)) - (1 : Int32)) / (24 : Int32) * (24 : Int32))) rfl ?_
  obtain ⟨jv1, qv2, h⟩ := bd1_some h
  obtain ⟨ejv1, ljv1⟩ := ix_spec qv2
  refine aaK X jv1 ejv1 ljv1 dX0_takeBack_39 ?_
  obtain ⟨gv4, qv3, h⟩ := bd1_some h
  refine v_callVV (As := [.ref (ad (4, (2 + jv1), 0))]) (rest := []) X (c_X4_become l D ad cy X.2.2.2.2.2.2.2.2.1 N r1 (2 + jv1) (g3 (g3 g 6 0 0 ((((g 6 0 0) + (24 : Int32)) - (1 : Int32)) - (((g 6 0 0) + (24 : Int32)) - (1 : Int32)) / (24 : Int32) * (24 : Int32))) 6 0 1 (if ((g 6 0 1) - (1 : Int32)) < (0 : Int32) then (0 : Int32) else ((g 6 0 1) - (1 : Int32)))) gv4 (by omega) (by omega) qv3) mw_X4_become ml_X0_25 (by decide) (k_roof (by omega)) (by decide) rfl rfl rfl rfl (Nat.le_of_ble_eq_true rfl) dX0_takeBack_40 ?_
  exact v_vret X dX0_takeBack_43 (Option.some.inj h)
def F_X4_forceAfter (N : Nat) (r0 : Nat) (x1 : Int32) (g : GS) : Option (Int32 × GS) := if (g 0 r0 3) ≤ 0 then some ((0 : Int32), g) else if (g 0 r0 3) = 0 then none else bd1 (ix (((g 0 r0 2) + x1) - ((g 0 r0 2) + x1) / (g 0 r0 3) * (g 0 r0 3)) 6) (fun jv3 => some ((g 12 r0 jv3), g))
set_option maxRecDepth 100000 in
set_option maxHeartbeats 4000000 in
theorem c_X4_forceAfter (l : Launch) (D : va_G) (ad : Ky → Nat) (cy : Nat → ClassId) (hI : Inj ad) (N : Nat) (r0 : Nat) (x1 : Int32) (g : GS) (r : Int32) (gq : GS) (hr0 : r0 < 28) (h : F_X4_forceAfter N r0 x1 g = some (r, gq)) : CtI l D ad cy yX4_forceAfter cX4_forceAfter 2 (some .int) 0 [.ref (ad (4, r0, 0)), .int x1] g r gq := by
  refine CtI.of 0 hI (by decide +kernel) rfl (Nat.le_of_ble_eq_true rfl) (fun p e s m args below meth c X => ?_)
  unfold F_X4_forceAfter at h
  show Vy _ _ _ _ _ _ _ _ _ _ _ _ _ _ _ 0 [some (.ref (ad (4, r0, 0))), some (.int x1)] [] g
  refine v_aloadn X dX4_forceAfter_0 rfl rfl ?_
  refine gf_X4_21 X (k_roof (by omega)) dX4_forceAfter_1 ?_
  refine v_if_le X 26 dX4_forceAfter_4 (by decide) (fun cv1 => ?_) (fun cv1 => ?_)
  · replace h := (if_pos cv1).symm.trans h
    refine v_iconst (v := 0) X dX4_forceAfter_26 (by decide) ?_
    obtain ⟨er, eg⟩ := Prod.mk.inj (Option.some.inj h)
    exact v_iret X dX4_forceAfter_27 er eg
  · replace h := (if_neg cv1).symm.trans h
    refine v_aloadn X dX4_forceAfter_7 rfl rfl ?_
    refine gf_X4_27 X (k_roof (by omega)) dX4_forceAfter_8 ?_
    refine v_aloadn X dX4_forceAfter_11 rfl rfl ?_
    refine gf_X4_18 X (k_roof (by omega)) dX4_forceAfter_12 ?_
    refine v_iloadn X dX4_forceAfter_15 rfl rfl ?_
    refine v_iadd X dX4_forceAfter_16 ?_
    refine v_aloadn X dX4_forceAfter_17 rfl rfl ?_
    refine gf_X4_21 X (k_roof (by omega)) dX4_forceAfter_18 ?_
    by_cases cv2 : (g 0 r0 3) = 0
    · replace h := (if_pos cv2).symm.trans h
      cases h
    replace h := (if_neg cv2).symm.trans h
    refine v_irem X dX4_forceAfter_21 cv2 ?_
    obtain ⟨jv3, qv4, h⟩ := bd1_some h
    obtain ⟨ejv3, ljv3⟩ := ix_spec qv4
    refine alF X (k_forces (by omega)) jv3 ejv3 ljv3 dX4_forceAfter_22 ?_
    refine v_goto X 27 dX4_forceAfter_23 (by decide) ?_
    obtain ⟨er, eg⟩ := Prod.mk.inj (Option.some.inj h)
    exact v_iret X dX4_forceAfter_27 er eg
def L_X4_isPaired_4 (N : Nat) (w0_0 : Nat) : Nat → Int32 → Int32 → GS → Option (Int32 × Int32 × GS)
  | 0, _, _, _ => none
  | n + 1, y1, y2, g => if (g 0 w0_0 4) ≤ y2 then some (y1, y2, g) else bd1 (ix y2 6) (fun jv2 => bd2 (F_X3_isUp N w0_0 jv2 g) (fun rv6 gv5 => if rv6 = 0 then L_X4_isPaired_4 N w0_0 n y1 (y2 + 1) gv5 else if (gv5 13 w0_0 (7 * jv2)) = (3 : Int32) then L_X4_isPaired_4 N w0_0 n (y1 + 1) (y2 + 1) gv5 else L_X4_isPaired_4 N w0_0 n y1 (y2 + 1) gv5))
def F_X4_isPaired (N : Nat) (r0 : Nat) (g : GS) : Option (Int32 × GS) := bd3 (L_X4_isPaired_4 N r0 N (0 : Int32) (0 : Int32) g) (fun xv9 xv10 gv11 => if xv9 ≤ (1 : Int32) then some ((0 : Int32), gv11) else some ((1 : Int32), gv11))
set_option maxRecDepth 100000 in
set_option maxHeartbeats 4000000 in
theorem w_X4_isPaired_4 {p : Program} {l : Launch} {e : Env} {s : State} {m : MethodId} {args : Array Value} {below : List Frame} {meth : Method} {c : Code} {D : va_G} {ad : Ky → Nat} {cy : Nat → ClassId} {r : Int32} {gq : GS} {N : Nat} (X : Cx p (rmd 1) s m args meth c RX4 cX4_isPaired 3 (some .boolean) D ad cy) (w0_0 : Nat) (hh0 : w0_0 < 28) : ∀ (n : Nat) (y1 : Int32) (y2 : Int32) (g : GS) (y1' : Int32) (y2' : Int32) (g' : GS), L_X4_isPaired_4 N w0_0 n y1 y2 g = some (y1', y2', g') → Vy p l e (rmd 1) s m args below meth c 3 D ad cy (QI D ad cy below args s r gq) 46 [some (.ref (ad (4, w0_0, 0))), some (.int y1'), some (.int y2')] [] g' → Vy p l e (rmd 1) s m args below meth c 3 D ad cy (QI D ad cy below args s r gq) 4 [some (.ref (ad (4, w0_0, 0))), some (.int y1), some (.int y2)] [] g := by
  intro n
  induction n with
  | zero => intro y1 y2 g y1' y2' g' h k; cases h
  | succ n ih =>
    intro y1 y2 g y1' y2' g' h k
    rw [L_X4_isPaired_4] at h
    refine v_iloadn X dX4_isPaired_4 rfl rfl ?_
    refine v_aloadn X dX4_isPaired_5 rfl rfl ?_
    refine gf_X4_24 X (k_roof (by omega)) dX4_isPaired_6 ?_
    refine v_icmp_ge X 46 dX4_isPaired_9 (by decide) (fun cv1 => ?_) (fun cv1 => ?_)
    · replace h := (if_pos cv1).symm.trans h
      cases h
      exact k
    · replace h := (if_neg cv1).symm.trans h
      refine v_aloadn X dX4_isPaired_12 rfl rfl ?_
      refine gf_X4_33 X (k_roof (by omega)) dX4_isPaired_13 ?_
      refine v_iloadn X dX4_isPaired_16 rfl rfl ?_
      obtain ⟨jv2, qv3, h⟩ := bd1_some h
      obtain ⟨ejv2, ljv2⟩ := ix_spec qv3
      refine aaP X (k_papers (by omega)) jv2 ejv2 ljv2 dX4_isPaired_17 ?_
      obtain ⟨rv6, gv5, qv4, h⟩ := bd2_some h
      refine v_callVI (As := []) (rest := []) X (c_X3_isUp l D ad cy X.2.2.2.2.2.2.2.2.1 N w0_0 jv2 g rv6 gv5 (by omega) (by omega) qv4) mw_X3_isUp ml_X4_53 (by decide) (k_paper (by omega) (by omega)) (by decide) rfl rfl rfl rfl (Nat.le_of_ble_eq_true rfl) dX4_isPaired_18 ?_
      refine v_if_eq X 40 dX4_isPaired_21 (by decide) (fun cv7 => ?_) (fun cv7 => ?_)
      · replace h := (if_pos cv7).symm.trans h
        refine v_iinc (v := (y2 + 1)) (lc' := [some (.ref (ad (4, w0_0, 0))), some (.int y1), some (.int (y2 + 1))]) X dX4_isPaired_40 rfl rfl (by decide) rfl rfl ?_
        refine v_goto X 4 dX4_isPaired_43 (by decide) ?_
        exact ih y1 (y2 + 1) gv5 _ _ _ h k
      · replace h := (if_neg cv7).symm.trans h
        refine v_aloadn X dX4_isPaired_24 rfl rfl ?_
        refine gf_X4_33 X (k_roof (by omega)) dX4_isPaired_25 ?_
        refine v_iloadn X dX4_isPaired_28 rfl rfl ?_
        refine aaP X (k_papers (by omega)) jv2 ejv2 ljv2 dX4_isPaired_29 ?_
        refine gf_X4_56 X (k_paper (by omega) (by omega)) dX4_isPaired_30 ?_
        refine v_iconst (v := 3) X dX4_isPaired_33 (by decide) ?_
        refine v_icmp_ne X 40 dX4_isPaired_34 (by decide) (fun cv8 => ?_) (fun cv8 => ?_)
        · replace h := (if_neg cv8).symm.trans h
          refine v_iinc (v := (y2 + 1)) (lc' := [some (.ref (ad (4, w0_0, 0))), some (.int y1), some (.int (y2 + 1))]) X dX4_isPaired_40 rfl rfl (by decide) rfl rfl ?_
          refine v_goto X 4 dX4_isPaired_43 (by decide) ?_
          exact ih y1 (y2 + 1) gv5 _ _ _ h k
        · replace h := (if_pos cv8).symm.trans h
          refine v_iinc (v := (y1 + 1)) (lc' := [some (.ref (ad (4, w0_0, 0))), some (.int (y1 + 1)), some (.int y2)]) X dX4_isPaired_37 rfl rfl (by decide) rfl rfl ?_
          refine v_iinc (v := (y2 + 1)) (lc' := [some (.ref (ad (4, w0_0, 0))), some (.int (y1 + 1)), some (.int (y2 + 1))]) X dX4_isPaired_40 rfl rfl (by decide) rfl rfl ?_
          refine v_goto X 4 dX4_isPaired_43 (by decide) ?_
          exact ih (y1 + 1) (y2 + 1) gv5 _ _ _ h k
set_option maxRecDepth 100000 in
set_option maxHeartbeats 4000000 in
theorem c_X4_isPaired (l : Launch) (D : va_G) (ad : Ky → Nat) (cy : Nat → ClassId) (hI : Inj ad) (N : Nat) (r0 : Nat) (g : GS) (r : Int32) (gq : GS) (hr0 : r0 < 28) (h : F_X4_isPaired N r0 g = some (r, gq)) : CtI l D ad cy yX4_isPaired cX4_isPaired 3 (some .boolean) 1 [.ref (ad (4, r0, 0))] g r gq := by
  refine CtI.of 2 hI (by decide +kernel) rfl (Nat.le_of_ble_eq_true rfl) (fun p e s m args below meth c X => ?_)
  unfold F_X4_isPaired at h
  show Vy _ _ _ _ _ _ _ _ _ _ _ _ _ _ _ 0 [some (.ref (ad (4, r0, 0))), none, none] [] g
  refine v_iconst (v := 0) X dX4_isPaired_0 (by decide) ?_
  refine v_istoren (lc' := [some (.ref (ad (4, r0, 0))), some (.int (0 : Int32)), none]) X dX4_isPaired_1 rfl (by decide) rfl rfl ?_
  refine v_iconst (v := 0) X dX4_isPaired_2 (by decide) ?_
  refine v_istoren (lc' := [some (.ref (ad (4, r0, 0))), some (.int (0 : Int32)), some (.int (0 : Int32))]) X dX4_isPaired_3 rfl (by decide) rfl rfl ?_
  obtain ⟨xv9, xv10, gv11, qv12, h⟩ := bd3_some h
  refine w_X4_isPaired_4 X r0 (by omega) N (0 : Int32) (0 : Int32) g xv9 xv10 gv11 qv12 ?_
  refine v_iloadn X dX4_isPaired_46 rfl rfl ?_
  refine v_iconst (v := 1) X dX4_isPaired_47 (by decide) ?_
  refine v_icmp_le X 55 dX4_isPaired_48 (by decide) (fun cv13 => ?_) (fun cv13 => ?_)
  · replace h := (if_pos cv13).symm.trans h
    refine v_iconst (v := 0) X dX4_isPaired_55 (by decide) ?_
    obtain ⟨er, eg⟩ := Prod.mk.inj (Option.some.inj h)
    exact v_zret X dX4_isPaired_56 rfl er eg
  · replace h := (if_neg cv13).symm.trans h
    refine v_iconst (v := 1) X dX4_isPaired_51 (by decide) ?_
    refine v_goto X 56 dX4_isPaired_52 (by decide) ?_
    obtain ⟨er, eg⟩ := Prod.mk.inj (Option.some.inj h)
    exact v_zret X dX4_isPaired_56 rfl er eg
def L_X4_passHourIn_7 (N : Nat) (w0_0 : Nat) (z1 : Int32) (z2 : Int32) : Nat → Int32 → GS → Option (Int32 × GS)
  | 0, _, _ => none
  | n + 1, y3, g => if (g 0 w0_0 4) ≤ y3 then some (y3, g) else bd1 (ix y3 6) (fun jv5 => bd2 (F_X3_isUp N w0_0 jv5 g) (fun rv9 gv8 => if rv9 = 0 then L_X4_passHourIn_7 N w0_0 z1 z2 n (y3 + 1) gv8 else bd2 (F_X3_liftIn N w0_0 jv5 z1 z2 gv8) (fun rv13 gv12 => bd1 (F_X3_moveBy N w0_0 jv5 (rv13 - (gv12 13 w0_0 (7 * jv5 + 2))) (gv12 0 w0_0 1) (y3 + z1) gv12) (fun gv15 => L_X4_passHourIn_7 N w0_0 z1 z2 n (y3 + 1) gv15))))
def F_X4_passHourIn (N : Nat) (r0 : Nat) (x1 : Int32) (g : GS) : Option GS := bd2 (F_X4_isPaired N r0 g) (fun rv3 gv2 => bd2 (L_X4_passHourIn_7 N r0 x1 rv3 N (0 : Int32) gv2) (fun xv16 gv17 => some (g3 gv17 0 r0 2 ((gv17 0 r0 2) + (1 : Int32)))))
set_option maxRecDepth 100000 in
set_option maxHeartbeats 4000000 in
theorem w_X4_passHourIn_7 {p : Program} {l : Launch} {e : Env} {s : State} {m : MethodId} {args : Array Value} {below : List Frame} {meth : Method} {c : Code} {D : va_G} {ad : Ky → Nat} {cy : Nat → ClassId} {gq : GS} {N : Nat} (X : Cx p (rmd 2) s m args meth c RX4 cX4_passHourIn 4 none D ad cy) (w0_0 : Nat) (z1 : Int32) (z2 : Int32) (hh0 : w0_0 < 28) : ∀ (n : Nat) (y3 : Int32) (g : GS) (y3' : Int32) (g' : GS), L_X4_passHourIn_7 N w0_0 z1 z2 n y3 g = some (y3', g') → Vy p l e (rmd 2) s m args below meth c 4 D ad cy (QV D ad cy below args s gq) 70 [some (.ref (ad (4, w0_0, 0))), some (.int z1), some (.int z2), some (.int y3')] [] g' → Vy p l e (rmd 2) s m args below meth c 4 D ad cy (QV D ad cy below args s gq) 7 [some (.ref (ad (4, w0_0, 0))), some (.int z1), some (.int z2), some (.int y3)] [] g := by
  intro n
  induction n with
  | zero => intro y3 g y3' g' h k; cases h
  | succ n ih =>
    intro y3 g y3' g' h k
    rw [L_X4_passHourIn_7] at h
    refine v_iloadn X dX4_passHourIn_7 rfl rfl ?_
    refine v_aloadn X dX4_passHourIn_8 rfl rfl ?_
    refine gf_X4_24 X (k_roof (by omega)) dX4_passHourIn_9 ?_
    refine v_icmp_ge X 70 dX4_passHourIn_12 (by decide) (fun cv4 => ?_) (fun cv4 => ?_)
    · replace h := (if_pos cv4).symm.trans h
      cases h
      exact k
    · replace h := (if_neg cv4).symm.trans h
      refine v_aloadn X dX4_passHourIn_15 rfl rfl ?_
      refine gf_X4_33 X (k_roof (by omega)) dX4_passHourIn_16 ?_
      refine v_iloadn X dX4_passHourIn_19 rfl rfl ?_
      obtain ⟨jv5, qv6, h⟩ := bd1_some h
      obtain ⟨ejv5, ljv5⟩ := ix_spec qv6
      refine aaP X (k_papers (by omega)) jv5 ejv5 ljv5 dX4_passHourIn_20 ?_
      obtain ⟨rv9, gv8, qv7, h⟩ := bd2_some h
      refine v_callVI (As := []) (rest := []) X (c_X3_isUp l D ad cy X.2.2.2.2.2.2.2.2.1 N w0_0 jv5 g rv9 gv8 (by omega) (by omega) qv7) mw_X3_isUp ml_X4_53 (by decide) (k_paper (by omega) (by omega)) (by decide) rfl rfl rfl rfl (Nat.le_of_ble_eq_true rfl) dX4_passHourIn_21 ?_
      refine v_if_eq X 64 dX4_passHourIn_24 (by decide) (fun cv10 => ?_) (fun cv10 => ?_)
      · replace h := (if_pos cv10).symm.trans h
        refine v_iinc (v := (y3 + 1)) (lc' := [some (.ref (ad (4, w0_0, 0))), some (.int z1), some (.int z2), some (.int (y3 + 1))]) X dX4_passHourIn_64 rfl rfl (by decide) rfl rfl ?_
        refine v_goto X 7 dX4_passHourIn_67 (by decide) ?_
        exact ih (y3 + 1) gv8 _ _ h k
      · replace h := (if_neg cv10).symm.trans h
        refine v_aloadn X dX4_passHourIn_27 rfl rfl ?_
        refine gf_X4_33 X (k_roof (by omega)) dX4_passHourIn_28 ?_
        refine v_iloadn X dX4_passHourIn_31 rfl rfl ?_
        refine aaP X (k_papers (by omega)) jv5 ejv5 ljv5 dX4_passHourIn_32 ?_
        refine v_aloadn X dX4_passHourIn_33 rfl rfl ?_
        refine gf_X4_33 X (k_roof (by omega)) dX4_passHourIn_34 ?_
        refine v_iloadn X dX4_passHourIn_37 rfl rfl ?_
        refine aaP X (k_papers (by omega)) jv5 ejv5 ljv5 dX4_passHourIn_38 ?_
        refine v_iloadn X dX4_passHourIn_39 rfl rfl ?_
        refine v_iloadn X dX4_passHourIn_40 rfl rfl ?_
        obtain ⟨rv13, gv12, qv11, h⟩ := bd2_some h
        refine v_callVI (As := [.int z1, .int z2]) (rest := [.ref (ad (3, w0_0, jv5))]) X (c_X3_liftIn l D ad cy X.2.2.2.2.2.2.2.2.1 N w0_0 jv5 z1 z2 gv8 rv13 gv12 (by omega) (by omega) qv11) mw_X3_liftIn ml_X4_46 (by decide) (k_paper (by omega) (by omega)) (by decide) rfl rfl rfl rfl (Nat.le_of_ble_eq_true rfl) dX4_passHourIn_41 ?_
        refine v_aloadn X dX4_passHourIn_44 rfl rfl ?_
        refine gf_X4_33 X (k_roof (by omega)) dX4_passHourIn_45 ?_
        refine v_iloadn X dX4_passHourIn_48 rfl rfl ?_
        refine aaP X (k_papers (by omega)) jv5 ejv5 ljv5 dX4_passHourIn_49 ?_
        refine gf_X4_50 X (k_paper (by omega) (by omega)) dX4_passHourIn_50 ?_
        refine v_isub X dX4_passHourIn_53 ?_
        refine v_aloadn X dX4_passHourIn_54 rfl rfl ?_
        refine gf_X4_15 X (k_roof (by omega)) dX4_passHourIn_55 ?_
        refine v_iloadn X dX4_passHourIn_58 rfl rfl ?_
        refine v_iloadn X dX4_passHourIn_59 rfl rfl ?_
        refine v_iadd X dX4_passHourIn_60 ?_
        obtain ⟨gv15, qv14, h⟩ := bd1_some h
        refine v_callVV (As := [.int (rv13 - (gv12 13 w0_0 (7 * jv5 + 2))), .int (gv12 0 w0_0 1), .int (y3 + z1)]) (rest := []) X (c_X3_moveBy l D ad cy X.2.2.2.2.2.2.2.2.1 N w0_0 jv5 (rv13 - (gv12 13 w0_0 (7 * jv5 + 2))) (gv12 0 w0_0 1) (y3 + z1) gv12 gv15 (by omega) (by omega) qv14) mw_X3_moveBy ml_X4_59 (by decide) (k_paper (by omega) (by omega)) (by decide) rfl rfl rfl rfl (Nat.le_of_ble_eq_true rfl) dX4_passHourIn_61 ?_
        refine v_iinc (v := (y3 + 1)) (lc' := [some (.ref (ad (4, w0_0, 0))), some (.int z1), some (.int z2), some (.int (y3 + 1))]) X dX4_passHourIn_64 rfl rfl (by decide) rfl rfl ?_
        refine v_goto X 7 dX4_passHourIn_67 (by decide) ?_
        exact ih (y3 + 1) gv15 _ _ h k
set_option maxRecDepth 100000 in
set_option maxHeartbeats 4000000 in
theorem c_X4_passHourIn (l : Launch) (D : va_G) (ad : Ky → Nat) (cy : Nat → ClassId) (hI : Inj ad) (N : Nat) (r0 : Nat) (x1 : Int32) (g : GS) (gq : GS) (hr0 : r0 < 28) (h : F_X4_passHourIn N r0 x1 g = some gq) : CtV l D ad cy yX4_passHourIn cX4_passHourIn 4 2 [.ref (ad (4, r0, 0)), .int x1] g gq := by
  refine CtV.of 2 hI (by decide +kernel) rfl (Nat.le_of_ble_eq_true rfl) (fun p e s m args below meth c X => ?_)
  unfold F_X4_passHourIn at h
  show Vy _ _ _ _ _ _ _ _ _ _ _ _ _ _ _ 0 [some (.ref (ad (4, r0, 0))), some (.int x1), none, none] [] g
  refine v_aloadn X dX4_passHourIn_0 rfl rfl ?_
  obtain ⟨rv3, gv2, qv1, h⟩ := bd2_some h
  refine v_callVI (As := []) (rest := []) X (c_X4_isPaired l D ad cy X.2.2.2.2.2.2.2.2.1 N r0 g rv3 gv2 (by omega) qv1) mw_X4_isPaired ml_X4_42 (by decide) (k_roof (by omega)) (by decide) rfl rfl rfl rfl (Nat.le_of_ble_eq_true rfl) dX4_passHourIn_1 ?_
  refine v_istoren (lc' := [some (.ref (ad (4, r0, 0))), some (.int x1), some (.int rv3), none]) X dX4_passHourIn_4 rfl (by decide) rfl rfl ?_
  refine v_iconst (v := 0) X dX4_passHourIn_5 (by decide) ?_
  refine v_istoren (lc' := [some (.ref (ad (4, r0, 0))), some (.int x1), some (.int rv3), some (.int (0 : Int32))]) X dX4_passHourIn_6 rfl (by decide) rfl rfl ?_
  obtain ⟨xv16, gv17, qv18, h⟩ := bd2_some h
  refine w_X4_passHourIn_7 X r0 x1 rv3 (by omega) N (0 : Int32) gv2 xv16 gv17 qv18 ?_
  refine v_aloadn X dX4_passHourIn_70 rfl rfl ?_
  refine v_dup X dX4_passHourIn_71 rfl ?_
  refine gf_X4_18 X (k_roof (by omega)) dX4_passHourIn_72 ?_
  refine v_iconst (v := 1) X dX4_passHourIn_75 (by decide) ?_
  refine v_iadd X dX4_passHourIn_76 ?_
  refine pf_X4_18 X (k_roof (by omega)) dX4_passHourIn_77 ?_
  exact v_vret X dX4_passHourIn_80 (Option.some.inj h)
def L_X4_bitsOf_4 (N : Nat) (w0_0 : Nat) (z1 : Int32) : Nat → Int32 → Int32 → GS → Option (Int32 × Int32 × GS)
  | 0, _, _, _ => none
  | n + 1, y2, y3, g => if (g 0 w0_0 4) ≤ y3 then some (y2, y3, g) else bd1 (ix y3 6) (fun jv2 => if (g 13 w0_0 (7 * jv2 + 3)) = z1 then L_X4_bitsOf_4 N w0_0 z1 n (y2 ||| ((1 : Int32) <<< (y3 &&& 31))) (y3 + 1) g else L_X4_bitsOf_4 N w0_0 z1 n y2 (y3 + 1) g)
def F_X4_bitsOf (N : Nat) (r0 : Nat) (x1 : Int32) (g : GS) : Option (Int32 × GS) := bd3 (L_X4_bitsOf_4 N r0 x1 N (0 : Int32) (0 : Int32) g) (fun xv5 xv6 gv7 => some (xv5, gv7))
set_option maxRecDepth 100000 in
set_option maxHeartbeats 4000000 in
theorem w_X4_bitsOf_4 {p : Program} {l : Launch} {e : Env} {s : State} {m : MethodId} {args : Array Value} {below : List Frame} {meth : Method} {c : Code} {D : va_G} {ad : Ky → Nat} {cy : Nat → ClassId} {r : Int32} {gq : GS} {N : Nat} (X : Cx p (rmd 0) s m args meth c RX4 cX4_bitsOf 4 (some .int) D ad cy) (w0_0 : Nat) (z1 : Int32) (hh0 : w0_0 < 28) : ∀ (n : Nat) (y2 : Int32) (y3 : Int32) (g : GS) (y2' : Int32) (y3' : Int32) (g' : GS), L_X4_bitsOf_4 N w0_0 z1 n y2 y3 g = some (y2', y3', g') → Vy p l e (rmd 0) s m args below meth c 4 D ad cy (QI D ad cy below args s r gq) 37 [some (.ref (ad (4, w0_0, 0))), some (.int z1), some (.int y2'), some (.int y3')] [] g' → Vy p l e (rmd 0) s m args below meth c 4 D ad cy (QI D ad cy below args s r gq) 4 [some (.ref (ad (4, w0_0, 0))), some (.int z1), some (.int y2), some (.int y3)] [] g := by
  intro n
  induction n with
  | zero => intro y2 y3 g y2' y3' g' h k; cases h
  | succ n ih =>
    intro y2 y3 g y2' y3' g' h k
    rw [L_X4_bitsOf_4] at h
    refine v_iloadn X dX4_bitsOf_4 rfl rfl ?_
    refine v_aloadn X dX4_bitsOf_5 rfl rfl ?_
    refine gf_X4_24 X (k_roof (by omega)) dX4_bitsOf_6 ?_
    refine v_icmp_ge X 37 dX4_bitsOf_9 (by decide) (fun cv1 => ?_) (fun cv1 => ?_)
    · replace h := (if_pos cv1).symm.trans h
      cases h
      exact k
    · replace h := (if_neg cv1).symm.trans h
      refine v_aloadn X dX4_bitsOf_12 rfl rfl ?_
      refine gf_X4_33 X (k_roof (by omega)) dX4_bitsOf_13 ?_
      refine v_iloadn X dX4_bitsOf_16 rfl rfl ?_
      obtain ⟨jv2, qv3, h⟩ := bd1_some h
      obtain ⟨ejv2, ljv2⟩ := ix_spec qv3
      refine aaP X (k_papers (by omega)) jv2 ejv2 ljv2 dX4_bitsOf_17 ?_
      refine gf_X4_70 X (k_paper (by omega) (by omega)) dX4_bitsOf_18 ?_
      refine v_iloadn X dX4_bitsOf_21 rfl rfl ?_
      refine v_icmp_ne X 31 dX4_bitsOf_22 (by decide) (fun cv4 => ?_) (fun cv4 => ?_)
      · replace h := (if_neg cv4).symm.trans h
        refine v_iinc (v := (y3 + 1)) (lc' := [some (.ref (ad (4, w0_0, 0))), some (.int z1), some (.int y2), some (.int (y3 + 1))]) X dX4_bitsOf_31 rfl rfl (by decide) rfl rfl ?_
        refine v_goto X 4 dX4_bitsOf_34 (by decide) ?_
        exact ih y2 (y3 + 1) g _ _ _ h k
      · replace h := (if_pos cv4).symm.trans h
        refine v_iloadn X dX4_bitsOf_25 rfl rfl ?_
        refine v_iconst (v := 1) X dX4_bitsOf_26 (by decide) ?_
        refine v_iloadn X dX4_bitsOf_27 rfl rfl ?_
        refine v_ishl X dX4_bitsOf_28 ?_
        refine v_ior X dX4_bitsOf_29 ?_
        refine v_istoren (lc' := [some (.ref (ad (4, w0_0, 0))), some (.int z1), some (.int (y2 ||| ((1 : Int32) <<< (y3 &&& 31)))), some (.int y3)]) X dX4_bitsOf_30 rfl (by decide) rfl rfl ?_
        refine v_iinc (v := (y3 + 1)) (lc' := [some (.ref (ad (4, w0_0, 0))), some (.int z1), some (.int (y2 ||| ((1 : Int32) <<< (y3 &&& 31)))), some (.int (y3 + 1))]) X dX4_bitsOf_31 rfl rfl (by decide) rfl rfl ?_
        refine v_goto X 4 dX4_bitsOf_34 (by decide) ?_
        exact ih (y2 ||| ((1 : Int32) <<< (y3 &&& 31))) (y3 + 1) g _ _ _ h k
set_option maxRecDepth 100000 in
set_option maxHeartbeats 4000000 in
theorem c_X4_bitsOf (l : Launch) (D : va_G) (ad : Ky → Nat) (cy : Nat → ClassId) (hI : Inj ad) (N : Nat) (r0 : Nat) (x1 : Int32) (g : GS) (r : Int32) (gq : GS) (hr0 : r0 < 28) (h : F_X4_bitsOf N r0 x1 g = some (r, gq)) : CtI l D ad cy yX4_bitsOf cX4_bitsOf 4 (some .int) 0 [.ref (ad (4, r0, 0)), .int x1] g r gq := by
  refine CtI.of 2 hI (by decide +kernel) rfl (Nat.le_of_ble_eq_true rfl) (fun p e s m args below meth c X => ?_)
  unfold F_X4_bitsOf at h
  show Vy _ _ _ _ _ _ _ _ _ _ _ _ _ _ _ 0 [some (.ref (ad (4, r0, 0))), some (.int x1), none, none] [] g
  refine v_iconst (v := 0) X dX4_bitsOf_0 (by decide) ?_
  refine v_istoren (lc' := [some (.ref (ad (4, r0, 0))), some (.int x1), some (.int (0 : Int32)), none]) X dX4_bitsOf_1 rfl (by decide) rfl rfl ?_
  refine v_iconst (v := 0) X dX4_bitsOf_2 (by decide) ?_
  refine v_istoren (lc' := [some (.ref (ad (4, r0, 0))), some (.int x1), some (.int (0 : Int32)), some (.int (0 : Int32))]) X dX4_bitsOf_3 rfl (by decide) rfl rfl ?_
  obtain ⟨xv5, xv6, gv7, qv8, h⟩ := bd3_some h
  refine w_X4_bitsOf_4 X r0 x1 (by omega) N (0 : Int32) (0 : Int32) g xv5 xv6 gv7 qv8 ?_
  refine v_iloadn X dX4_bitsOf_37 rfl rfl ?_
  obtain ⟨er, eg⟩ := Prod.mk.inj (Option.some.inj h)
  exact v_iret X dX4_bitsOf_38 er eg
def F_X4_isPolicy (N : Nat) (r0 : Nat) (x1 : Int32) (g : GS) : Option (Int32 × GS) := bd1 (ix x1 6) (fun jv1 => bd2 (F_X3_isUp N r0 jv1 g) (fun rv5 gv4 => if rv5 = 0 then some ((0 : Int32), gv4) else if (gv4 13 r0 (7 * jv1 + 4)) < (gv4 0 r0 0) then some ((0 : Int32), gv4) else some ((1 : Int32), gv4)))
set_option maxRecDepth 100000 in
set_option maxHeartbeats 4000000 in
theorem c_X4_isPolicy (l : Launch) (D : va_G) (ad : Ky → Nat) (cy : Nat → ClassId) (hI : Inj ad) (N : Nat) (r0 : Nat) (x1 : Int32) (g : GS) (r : Int32) (gq : GS) (hr0 : r0 < 28) (h : F_X4_isPolicy N r0 x1 g = some (r, gq)) : CtI l D ad cy yX4_isPolicy cX4_isPolicy 2 (some .boolean) 1 [.ref (ad (4, r0, 0)), .int x1] g r gq := by
  refine CtI.of 0 hI (by decide +kernel) rfl (Nat.le_of_ble_eq_true rfl) (fun p e s m args below meth c X => ?_)
  unfold F_X4_isPolicy at h
  show Vy _ _ _ _ _ _ _ _ _ _ _ _ _ _ _ 0 [some (.ref (ad (4, r0, 0))), some (.int x1)] [] g
  refine v_aloadn X dX4_isPolicy_0 rfl rfl ?_
  refine gf_X4_33 X (k_roof (by omega)) dX4_isPolicy_1 ?_
  refine v_iloadn X dX4_isPolicy_4 rfl rfl ?_
  obtain ⟨jv1, qv2, h⟩ := bd1_some h
  obtain ⟨ejv1, ljv1⟩ := ix_spec qv2
  refine aaP X (k_papers (by omega)) jv1 ejv1 ljv1 dX4_isPolicy_5 ?_
  obtain ⟨rv5, gv4, qv3, h⟩ := bd2_some h
  refine v_callVI (As := []) (rest := []) X (c_X3_isUp l D ad cy X.2.2.2.2.2.2.2.2.1 N r0 jv1 g rv5 gv4 (by omega) (by omega) qv3) mw_X3_isUp ml_X4_53 (by decide) (k_paper (by omega) (by omega)) (by decide) rfl rfl rfl rfl (Nat.le_of_ble_eq_true rfl) dX4_isPolicy_6 ?_
  refine v_if_eq X 32 dX4_isPolicy_9 (by decide) (fun cv6 => ?_) (fun cv6 => ?_)
  · replace h := (if_pos cv6).symm.trans h
    refine v_iconst (v := 0) X dX4_isPolicy_32 (by decide) ?_
    obtain ⟨er, eg⟩ := Prod.mk.inj (Option.some.inj h)
    exact v_zret X dX4_isPolicy_33 rfl er eg
  · replace h := (if_neg cv6).symm.trans h
    refine v_aloadn X dX4_isPolicy_12 rfl rfl ?_
    refine gf_X4_33 X (k_roof (by omega)) dX4_isPolicy_13 ?_
    refine v_iloadn X dX4_isPolicy_16 rfl rfl ?_
    refine aaP X (k_papers (by omega)) jv1 ejv1 ljv1 dX4_isPolicy_17 ?_
    refine gf_X4_63 X (k_paper (by omega) (by omega)) dX4_isPolicy_18 ?_
    refine v_aloadn X dX4_isPolicy_21 rfl rfl ?_
    refine gf_X4_9 X (k_roof (by omega)) dX4_isPolicy_22 ?_
    refine v_icmp_lt X 32 dX4_isPolicy_25 (by decide) (fun cv7 => ?_) (fun cv7 => ?_)
    · replace h := (if_pos cv7).symm.trans h
      refine v_iconst (v := 0) X dX4_isPolicy_32 (by decide) ?_
      obtain ⟨er, eg⟩ := Prod.mk.inj (Option.some.inj h)
      exact v_zret X dX4_isPolicy_33 rfl er eg
    · replace h := (if_neg cv7).symm.trans h
      refine v_iconst (v := 1) X dX4_isPolicy_28 (by decide) ?_
      refine v_goto X 33 dX4_isPolicy_29 (by decide) ?_
      obtain ⟨er, eg⟩ := Prod.mk.inj (Option.some.inj h)
      exact v_zret X dX4_isPolicy_33 rfl er eg
def L_X4_policyBits_4 (N : Nat) (w0_0 : Nat) : Nat → Int32 → Int32 → GS → Option (Int32 × Int32 × GS)
  | 0, _, _, _ => none
  | n + 1, y1, y2, g => if (g 0 w0_0 4) ≤ y2 then some (y1, y2, g) else bd2 (F_X4_isPolicy N w0_0 y2 g) (fun rv4 gv3 => if rv4 = 0 then L_X4_policyBits_4 N w0_0 n y1 (y2 + 1) gv3 else L_X4_policyBits_4 N w0_0 n (y1 ||| ((1 : Int32) <<< (y2 &&& 31))) (y2 + 1) gv3)
def F_X4_policyBits (N : Nat) (r0 : Nat) (g : GS) : Option (Int32 × GS) := bd3 (L_X4_policyBits_4 N r0 N (0 : Int32) (0 : Int32) g) (fun xv6 xv7 gv8 => some (xv6, gv8))
set_option maxRecDepth 100000 in
set_option maxHeartbeats 4000000 in
theorem w_X4_policyBits_4 {p : Program} {l : Launch} {e : Env} {s : State} {m : MethodId} {args : Array Value} {below : List Frame} {meth : Method} {c : Code} {D : va_G} {ad : Ky → Nat} {cy : Nat → ClassId} {r : Int32} {gq : GS} {N : Nat} (X : Cx p (rmd 2) s m args meth c RX4 cX4_policyBits 3 (some .int) D ad cy) (w0_0 : Nat) (hh0 : w0_0 < 28) : ∀ (n : Nat) (y1 : Int32) (y2 : Int32) (g : GS) (y1' : Int32) (y2' : Int32) (g' : GS), L_X4_policyBits_4 N w0_0 n y1 y2 g = some (y1', y2', g') → Vy p l e (rmd 2) s m args below meth c 3 D ad cy (QI D ad cy below args s r gq) 32 [some (.ref (ad (4, w0_0, 0))), some (.int y1'), some (.int y2')] [] g' → Vy p l e (rmd 2) s m args below meth c 3 D ad cy (QI D ad cy below args s r gq) 4 [some (.ref (ad (4, w0_0, 0))), some (.int y1), some (.int y2)] [] g := by
  intro n
  induction n with
  | zero => intro y1 y2 g y1' y2' g' h k; cases h
  | succ n ih =>
    intro y1 y2 g y1' y2' g' h k
    rw [L_X4_policyBits_4] at h
    refine v_iloadn X dX4_policyBits_4 rfl rfl ?_
    refine v_aloadn X dX4_policyBits_5 rfl rfl ?_
    refine gf_X4_24 X (k_roof (by omega)) dX4_policyBits_6 ?_
    refine v_icmp_ge X 32 dX4_policyBits_9 (by decide) (fun cv1 => ?_) (fun cv1 => ?_)
    · replace h := (if_pos cv1).symm.trans h
      cases h
      exact k
    · replace h := (if_neg cv1).symm.trans h
      refine v_aloadn X dX4_policyBits_12 rfl rfl ?_
      refine v_iloadn X dX4_policyBits_13 rfl rfl ?_
      obtain ⟨rv4, gv3, qv2, h⟩ := bd2_some h
      refine v_callVI (As := [.int y2]) (rest := []) X (c_X4_isPolicy l D ad cy X.2.2.2.2.2.2.2.2.1 N w0_0 y2 g rv4 gv3 (by omega) qv2) mw_X4_isPolicy ml_X4_66 (by decide) (k_roof (by omega)) (by decide) rfl rfl rfl rfl (Nat.le_of_ble_eq_true rfl) dX4_policyBits_14 ?_
      refine v_if_eq X 26 dX4_policyBits_17 (by decide) (fun cv5 => ?_) (fun cv5 => ?_)
      · replace h := (if_pos cv5).symm.trans h
        refine v_iinc (v := (y2 + 1)) (lc' := [some (.ref (ad (4, w0_0, 0))), some (.int y1), some (.int (y2 + 1))]) X dX4_policyBits_26 rfl rfl (by decide) rfl rfl ?_
        refine v_goto X 4 dX4_policyBits_29 (by decide) ?_
        exact ih y1 (y2 + 1) gv3 _ _ _ h k
      · replace h := (if_neg cv5).symm.trans h
        refine v_iloadn X dX4_policyBits_20 rfl rfl ?_
        refine v_iconst (v := 1) X dX4_policyBits_21 (by decide) ?_
        refine v_iloadn X dX4_policyBits_22 rfl rfl ?_
        refine v_ishl X dX4_policyBits_23 ?_
        refine v_ior X dX4_policyBits_24 ?_
        refine v_istoren (lc' := [some (.ref (ad (4, w0_0, 0))), some (.int (y1 ||| ((1 : Int32) <<< (y2 &&& 31)))), some (.int y2)]) X dX4_policyBits_25 rfl (by decide) rfl rfl ?_
        refine v_iinc (v := (y2 + 1)) (lc' := [some (.ref (ad (4, w0_0, 0))), some (.int (y1 ||| ((1 : Int32) <<< (y2 &&& 31)))), some (.int (y2 + 1))]) X dX4_policyBits_26 rfl rfl (by decide) rfl rfl ?_
        refine v_goto X 4 dX4_policyBits_29 (by decide) ?_
        exact ih (y1 ||| ((1 : Int32) <<< (y2 &&& 31))) (y2 + 1) gv3 _ _ _ h k
set_option maxRecDepth 100000 in
set_option maxHeartbeats 4000000 in
theorem c_X4_policyBits (l : Launch) (D : va_G) (ad : Ky → Nat) (cy : Nat → ClassId) (hI : Inj ad) (N : Nat) (r0 : Nat) (g : GS) (r : Int32) (gq : GS) (hr0 : r0 < 28) (h : F_X4_policyBits N r0 g = some (r, gq)) : CtI l D ad cy yX4_policyBits cX4_policyBits 3 (some .int) 2 [.ref (ad (4, r0, 0))] g r gq := by
  refine CtI.of 2 hI (by decide +kernel) rfl (Nat.le_of_ble_eq_true rfl) (fun p e s m args below meth c X => ?_)
  unfold F_X4_policyBits at h
  show Vy _ _ _ _ _ _ _ _ _ _ _ _ _ _ _ 0 [some (.ref (ad (4, r0, 0))), none, none] [] g
  refine v_iconst (v := 0) X dX4_policyBits_0 (by decide) ?_
  refine v_istoren (lc' := [some (.ref (ad (4, r0, 0))), some (.int (0 : Int32)), none]) X dX4_policyBits_1 rfl (by decide) rfl rfl ?_
  refine v_iconst (v := 0) X dX4_policyBits_2 (by decide) ?_
  refine v_istoren (lc' := [some (.ref (ad (4, r0, 0))), some (.int (0 : Int32)), some (.int (0 : Int32))]) X dX4_policyBits_3 rfl (by decide) rfl rfl ?_
  obtain ⟨xv6, xv7, gv8, qv9, h⟩ := bd3_some h
  refine w_X4_policyBits_4 X r0 (by omega) N (0 : Int32) (0 : Int32) g xv6 xv7 gv8 qv9 ?_
  refine v_iloadn X dX4_policyBits_32 rfl rfl ?_
  obtain ⟨er, eg⟩ := Prod.mk.inj (Option.some.inj h)
  exact v_iret X dX4_policyBits_33 er eg
def L_X4_sendAll_2 (N : Nat) (w0_0 : Nat) (z1 : Int32) (z2 : Int32) : Nat → Int32 → GS → Option (Int32 × GS)
  | 0, _, _ => none
  | n + 1, y3, g => if (g 0 w0_0 4) ≤ y3 then some (y3, g) else if ((z1 >>> (y3 &&& 31)) &&& (1 : Int32)) = (1 : Int32) then bd1 (ix y3 6) (fun jv3 => bd1 (F_X3_rise N w0_0 jv3 z2 g) (fun gv6 => L_X4_sendAll_2 N w0_0 z1 z2 n (y3 + 1) gv6)) else L_X4_sendAll_2 N w0_0 z1 z2 n (y3 + 1) g
def F_X4_sendAll (N : Nat) (r0 : Nat) (x1 : Int32) (x2 : Int32) (g : GS) : Option GS := bd2 (L_X4_sendAll_2 N r0 x1 x2 N (0 : Int32) g) (fun xv7 gv8 => some gv8)
set_option maxRecDepth 100000 in
set_option maxHeartbeats 4000000 in
theorem w_X4_sendAll_2 {p : Program} {l : Launch} {e : Env} {s : State} {m : MethodId} {args : Array Value} {below : List Frame} {meth : Method} {c : Code} {D : va_G} {ad : Ky → Nat} {cy : Nat → ClassId} {gq : GS} {N : Nat} (X : Cx p (rmd 1) s m args meth c RX4 cX4_sendAll 4 none D ad cy) (w0_0 : Nat) (z1 : Int32) (z2 : Int32) (hh0 : w0_0 < 28) : ∀ (n : Nat) (y3 : Int32) (g : GS) (y3' : Int32) (g' : GS), L_X4_sendAll_2 N w0_0 z1 z2 n y3 g = some (y3', g') → Vy p l e (rmd 1) s m args below meth c 4 D ad cy (QV D ad cy below args s gq) 35 [some (.ref (ad (4, w0_0, 0))), some (.int z1), some (.int z2), some (.int y3')] [] g' → Vy p l e (rmd 1) s m args below meth c 4 D ad cy (QV D ad cy below args s gq) 2 [some (.ref (ad (4, w0_0, 0))), some (.int z1), some (.int z2), some (.int y3)] [] g := by
  intro n
  induction n with
  | zero => intro y3 g y3' g' h k; cases h
  | succ n ih =>
    intro y3 g y3' g' h k
    rw [L_X4_sendAll_2] at h
    refine v_iloadn X dX4_sendAll_2 rfl rfl ?_
    refine v_aloadn X dX4_sendAll_3 rfl rfl ?_
    refine gf_X4_24 X (k_roof (by omega)) dX4_sendAll_4 ?_
    refine v_icmp_ge X 35 dX4_sendAll_7 (by decide) (fun cv1 => ?_) (fun cv1 => ?_)
    · replace h := (if_pos cv1).symm.trans h
      cases h
      exact k
    · replace h := (if_neg cv1).symm.trans h
      refine v_iloadn X dX4_sendAll_10 rfl rfl ?_
      refine v_iloadn X dX4_sendAll_11 rfl rfl ?_
      refine v_ishr X dX4_sendAll_12 ?_
      refine v_iconst (v := 1) X dX4_sendAll_13 (by decide) ?_
      refine v_iand X dX4_sendAll_14 ?_
      refine v_iconst (v := 1) X dX4_sendAll_15 (by decide) ?_
      refine v_icmp_ne X 29 dX4_sendAll_16 (by decide) (fun cv2 => ?_) (fun cv2 => ?_)
      · replace h := (if_neg cv2).symm.trans h
        refine v_iinc (v := (y3 + 1)) (lc' := [some (.ref (ad (4, w0_0, 0))), some (.int z1), some (.int z2), some (.int (y3 + 1))]) X dX4_sendAll_29 rfl rfl (by decide) rfl rfl ?_
        refine v_goto X 2 dX4_sendAll_32 (by decide) ?_
        exact ih (y3 + 1) g _ _ h k
      · replace h := (if_pos cv2).symm.trans h
        refine v_aloadn X dX4_sendAll_19 rfl rfl ?_
        refine gf_X4_33 X (k_roof (by omega)) dX4_sendAll_20 ?_
        refine v_iloadn X dX4_sendAll_23 rfl rfl ?_
        obtain ⟨jv3, qv4, h⟩ := bd1_some h
        obtain ⟨ejv3, ljv3⟩ := ix_spec qv4
        refine aaP X (k_papers (by omega)) jv3 ejv3 ljv3 dX4_sendAll_24 ?_
        refine v_iloadn X dX4_sendAll_25 rfl rfl ?_
        obtain ⟨gv6, qv5, h⟩ := bd1_some h
        refine v_callVV (As := [.int z2]) (rest := []) X (c_X3_rise l D ad cy X.2.2.2.2.2.2.2.2.1 N w0_0 jv3 z2 g gv6 (by omega) (by omega) qv5) mw_X3_rise ml_X4_73 (by decide) (k_paper (by omega) (by omega)) (by decide) rfl rfl rfl rfl (Nat.le_of_ble_eq_true rfl) dX4_sendAll_26 ?_
        refine v_iinc (v := (y3 + 1)) (lc' := [some (.ref (ad (4, w0_0, 0))), some (.int z1), some (.int z2), some (.int (y3 + 1))]) X dX4_sendAll_29 rfl rfl (by decide) rfl rfl ?_
        refine v_goto X 2 dX4_sendAll_32 (by decide) ?_
        exact ih (y3 + 1) gv6 _ _ h k
set_option maxRecDepth 100000 in
set_option maxHeartbeats 4000000 in
theorem c_X4_sendAll (l : Launch) (D : va_G) (ad : Ky → Nat) (cy : Nat → ClassId) (hI : Inj ad) (N : Nat) (r0 : Nat) (x1 : Int32) (x2 : Int32) (g : GS) (gq : GS) (hr0 : r0 < 28) (h : F_X4_sendAll N r0 x1 x2 g = some gq) : CtV l D ad cy yX4_sendAll cX4_sendAll 4 1 [.ref (ad (4, r0, 0)), .int x1, .int x2] g gq := by
  refine CtV.of 1 hI (by decide +kernel) rfl (Nat.le_of_ble_eq_true rfl) (fun p e s m args below meth c X => ?_)
  unfold F_X4_sendAll at h
  show Vy _ _ _ _ _ _ _ _ _ _ _ _ _ _ _ 0 [some (.ref (ad (4, r0, 0))), some (.int x1), some (.int x2), none] [] g
  refine v_iconst (v := 0) X dX4_sendAll_0 (by decide) ?_
  refine v_istoren (lc' := [some (.ref (ad (4, r0, 0))), some (.int x1), some (.int x2), some (.int (0 : Int32))]) X dX4_sendAll_1 rfl (by decide) rfl rfl ?_
  obtain ⟨xv7, gv8, qv9, h⟩ := bd2_some h
  refine w_X4_sendAll_2 X r0 x1 x2 (by omega) N (0 : Int32) g xv7 gv8 qv9 ?_
  exact v_vret X dX4_sendAll_35 (Option.some.inj h)
def F_X4_riseOf (N : Nat) (r0 : Nat) (x1 : Int32) (x2 : Int32) (g : GS) : Option (Int32 × GS) := bd1 (ix x1 6) (fun jv1 => bd2 (F_X4_isPaired N r0 g) (fun rv5 gv4 => bd2 (F_X3_liftIn N r0 jv1 x2 rv5 gv4) (fun rv8 gv7 => some ((rv8 - (gv7 13 r0 (7 * jv1 + 2))), gv7))))
set_option maxRecDepth 100000 in
set_option maxHeartbeats 4000000 in
theorem c_X4_riseOf (l : Launch) (D : va_G) (ad : Ky → Nat) (cy : Nat → ClassId) (hI : Inj ad) (N : Nat) (r0 : Nat) (x1 : Int32) (x2 : Int32) (g : GS) (r : Int32) (gq : GS) (hr0 : r0 < 28) (h : F_X4_riseOf N r0 x1 x2 g = some (r, gq)) : CtI l D ad cy yX4_riseOf cX4_riseOf 3 (some .int) 2 [.ref (ad (4, r0, 0)), .int x1, .int x2] g r gq := by
  refine CtI.of 0 hI (by decide +kernel) rfl (Nat.le_of_ble_eq_true rfl) (fun p e s m args below meth c X => ?_)
  unfold F_X4_riseOf at h
  show Vy _ _ _ _ _ _ _ _ _ _ _ _ _ _ _ 0 [some (.ref (ad (4, r0, 0))), some (.int x1), some (.int x2)] [] g
  refine v_aloadn X dX4_riseOf_0 rfl rfl ?_
  refine gf_X4_33 X (k_roof (by omega)) dX4_riseOf_1 ?_
  refine v_iloadn X dX4_riseOf_4 rfl rfl ?_
  obtain ⟨jv1, qv2, h⟩ := bd1_some h
  obtain ⟨ejv1, ljv1⟩ := ix_spec qv2
  refine aaP X (k_papers (by omega)) jv1 ejv1 ljv1 dX4_riseOf_5 ?_
  refine v_iloadn X dX4_riseOf_6 rfl rfl ?_
  refine v_aloadn X dX4_riseOf_7 rfl rfl ?_
  obtain ⟨rv5, gv4, qv3, h⟩ := bd2_some h
  refine v_callVI (As := []) (rest := [.int x2, .ref (ad (3, r0, jv1))]) X (c_X4_isPaired l D ad cy X.2.2.2.2.2.2.2.2.1 N r0 g rv5 gv4 (by omega) qv3) mw_X4_isPaired ml_X4_42 (by decide) (k_roof (by omega)) (by decide) rfl rfl rfl rfl (Nat.le_of_ble_eq_true rfl) dX4_riseOf_8 ?_
  obtain ⟨rv8, gv7, qv6, h⟩ := bd2_some h
  refine v_callVI (As := [.int x2, .int rv5]) (rest := []) X (c_X3_liftIn l D ad cy X.2.2.2.2.2.2.2.2.1 N r0 jv1 x2 rv5 gv4 rv8 gv7 (by omega) (by omega) qv6) mw_X3_liftIn ml_X4_46 (by decide) (k_paper (by omega) (by omega)) (by decide) rfl rfl rfl rfl (Nat.le_of_ble_eq_true rfl) dX4_riseOf_11 ?_
  refine v_aloadn X dX4_riseOf_14 rfl rfl ?_
  refine gf_X4_33 X (k_roof (by omega)) dX4_riseOf_15 ?_
  refine v_iloadn X dX4_riseOf_18 rfl rfl ?_
  refine aaP X (k_papers (by omega)) jv1 ejv1 ljv1 dX4_riseOf_19 ?_
  refine gf_X4_50 X (k_paper (by omega) (by omega)) dX4_riseOf_20 ?_
  refine v_isub X dX4_riseOf_23 ?_
  obtain ⟨er, eg⟩ := Prod.mk.inj (Option.some.inj h)
  exact v_iret X dX4_riseOf_24 er eg
def F_X4_quarrel (N : Nat) (r0 : Nat) (x1 : Int32) (x2 : Int32) (g : GS) : Option (Int32 × GS) := bd1 (ix x1 6) (fun jv1 => if (g 13 r0 (7 * jv1 + 3)) = (2 : Int32) then bd1 (ix x2 6) (fun jv4 => if (g 13 r0 (7 * jv4 + 3)) = (2 : Int32) then if (g 13 r0 (7 * jv1 + 6)) = (g 13 r0 (7 * jv4 + 6)) then some ((1 : Int32), g) else some ((0 : Int32), g) else some ((0 : Int32), g)) else some ((0 : Int32), g))
set_option maxRecDepth 100000 in
set_option maxHeartbeats 4000000 in
theorem c_X4_quarrel (l : Launch) (D : va_G) (ad : Ky → Nat) (cy : Nat → ClassId) (hI : Inj ad) (N : Nat) (r0 : Nat) (x1 : Int32) (x2 : Int32) (g : GS) (r : Int32) (gq : GS) (hr0 : r0 < 28) (h : F_X4_quarrel N r0 x1 x2 g = some (r, gq)) : CtI l D ad cy yX4_quarrel cX4_quarrel 3 (some .boolean) 0 [.ref (ad (4, r0, 0)), .int x1, .int x2] g r gq := by
  refine CtI.of 0 hI (by decide +kernel) rfl (Nat.le_of_ble_eq_true rfl) (fun p e s m args below meth c X => ?_)
  unfold F_X4_quarrel at h
  show Vy _ _ _ _ _ _ _ _ _ _ _ _ _ _ _ 0 [some (.ref (ad (4, r0, 0))), some (.int x1), some (.int x2)] [] g
  refine v_aloadn X dX4_quarrel_0 rfl rfl ?_
  refine gf_X4_33 X (k_roof (by omega)) dX4_quarrel_1 ?_
  refine v_iloadn X dX4_quarrel_4 rfl rfl ?_
  obtain ⟨jv1, qv2, h⟩ := bd1_some h
  obtain ⟨ejv1, ljv1⟩ := ix_spec qv2
  refine aaP X (k_papers (by omega)) jv1 ejv1 ljv1 dX4_quarrel_5 ?_
  refine gf_X4_70 X (k_paper (by omega) (by omega)) dX4_quarrel_6 ?_
  refine v_iconst (v := 2) X dX4_quarrel_9 (by decide) ?_
  refine v_icmp_ne X 51 dX4_quarrel_10 (by decide) (fun cv3 => ?_) (fun cv3 => ?_)
  · replace h := (if_neg cv3).symm.trans h
    refine v_iconst (v := 0) X dX4_quarrel_51 (by decide) ?_
    obtain ⟨er, eg⟩ := Prod.mk.inj (Option.some.inj h)
    exact v_zret X dX4_quarrel_52 rfl er eg
  · replace h := (if_pos cv3).symm.trans h
    refine v_aloadn X dX4_quarrel_13 rfl rfl ?_
    refine gf_X4_33 X (k_roof (by omega)) dX4_quarrel_14 ?_
    refine v_iloadn X dX4_quarrel_17 rfl rfl ?_
    obtain ⟨jv4, qv5, h⟩ := bd1_some h
    obtain ⟨ejv4, ljv4⟩ := ix_spec qv5
    refine aaP X (k_papers (by omega)) jv4 ejv4 ljv4 dX4_quarrel_18 ?_
    refine gf_X4_70 X (k_paper (by omega) (by omega)) dX4_quarrel_19 ?_
    refine v_iconst (v := 2) X dX4_quarrel_22 (by decide) ?_
    refine v_icmp_ne X 51 dX4_quarrel_23 (by decide) (fun cv6 => ?_) (fun cv6 => ?_)
    · replace h := (if_neg cv6).symm.trans h
      refine v_iconst (v := 0) X dX4_quarrel_51 (by decide) ?_
      obtain ⟨er, eg⟩ := Prod.mk.inj (Option.some.inj h)
      exact v_zret X dX4_quarrel_52 rfl er eg
    · replace h := (if_pos cv6).symm.trans h
      refine v_aloadn X dX4_quarrel_26 rfl rfl ?_
      refine gf_X4_33 X (k_roof (by omega)) dX4_quarrel_27 ?_
      refine v_iloadn X dX4_quarrel_30 rfl rfl ?_
      refine aaP X (k_papers (by omega)) jv1 ejv1 ljv1 dX4_quarrel_31 ?_
      refine gf_X4_82 X (k_paper (by omega) (by omega)) dX4_quarrel_32 ?_
      refine v_aloadn X dX4_quarrel_35 rfl rfl ?_
      refine gf_X4_33 X (k_roof (by omega)) dX4_quarrel_36 ?_
      refine v_iloadn X dX4_quarrel_39 rfl rfl ?_
      refine aaP X (k_papers (by omega)) jv4 ejv4 ljv4 dX4_quarrel_40 ?_
      refine gf_X4_82 X (k_paper (by omega) (by omega)) dX4_quarrel_41 ?_
      refine v_icmp_ne X 51 dX4_quarrel_44 (by decide) (fun cv7 => ?_) (fun cv7 => ?_)
      · replace h := (if_neg cv7).symm.trans h
        refine v_iconst (v := 0) X dX4_quarrel_51 (by decide) ?_
        obtain ⟨er, eg⟩ := Prod.mk.inj (Option.some.inj h)
        exact v_zret X dX4_quarrel_52 rfl er eg
      · replace h := (if_pos cv7).symm.trans h
        refine v_iconst (v := 1) X dX4_quarrel_47 (by decide) ?_
        refine v_goto X 52 dX4_quarrel_48 (by decide) ?_
        obtain ⟨er, eg⟩ := Prod.mk.inj (Option.some.inj h)
        exact v_zret X dX4_quarrel_52 rfl er eg
def L_X4_firstQuarrel_14 (N : Nat) (w0_0 : Nat) (z1 : Int32) : Nat → Int32 → GS → Option ((Int32 × GS) ⊕ (Int32 × GS))
  | 0, _, _ => none
  | n + 1, y2, g => if (g 0 w0_0 4) ≤ y2 then some (.inr (y2, g)) else bd2 (F_X4_quarrel N w0_0 z1 y2 g) (fun rv5 gv4 => if rv5 = 0 then L_X4_firstQuarrel_14 N w0_0 z1 n (y2 + 1) gv4 else some (.inl ((((10 : Int32) * z1) + y2), gv4)))
def L_X4_firstQuarrel_2 (N : Nat) (w0_0 : Nat) : Nat → Int32 → GS → Option ((Int32 × GS) ⊕ (Int32 × GS))
  | 0, _, _ => none
  | n + 1, y1, g => if (g 0 w0_0 4) ≤ y1 then some (.inr (y1, g)) else bs2 (L_X4_firstQuarrel_14 N w0_0 y1 N (y1 + (1 : Int32)) g) (fun rv10 gv11 => some (.inl (rv10, gv11))) (fun xv7 gv8 => L_X4_firstQuarrel_2 N w0_0 n (y1 + 1) gv8)
def F_X4_firstQuarrel (N : Nat) (r0 : Nat) (g : GS) : Option (Int32 × GS) := bs2 (L_X4_firstQuarrel_2 N r0 N (0 : Int32) g) (fun rv16 gv17 => some (rv16, gv17)) (fun xv13 gv14 => some ((-1000000 : Int32), gv14))
set_option maxRecDepth 100000 in
set_option maxHeartbeats 4000000 in
theorem w_X4_firstQuarrel_14 {p : Program} {l : Launch} {e : Env} {s : State} {m : MethodId} {args : Array Value} {below : List Frame} {meth : Method} {c : Code} {D : va_G} {ad : Ky → Nat} {cy : Nat → ClassId} {r : Int32} {gq : GS} {N : Nat} (X : Cx p (rmd 1) s m args meth c RX4 cX4_firstQuarrel 3 (some .int) D ad cy) (w0_0 : Nat) (z1 : Int32) (hh0 : w0_0 < 28) : ∀ (n : Nat) (y2 : Int32) (g : GS) (res : _), L_X4_firstQuarrel_14 N w0_0 z1 n y2 g = some res → (∀ (r1 : Int32) (g1 : GS), res = .inl (r1, g1) → r1 = r ∧ g1 = gq) → (∀ (y2' : Int32) (g' : GS), res = .inr (y2', g') → Vy p l e (rmd 1) s m args below meth c 3 D ad cy (QI D ad cy below args s r gq) 44 [some (.ref (ad (4, w0_0, 0))), some (.int z1), some (.int y2')] [] g') → Vy p l e (rmd 1) s m args below meth c 3 D ad cy (QI D ad cy below args s r gq) 14 [some (.ref (ad (4, w0_0, 0))), some (.int z1), some (.int y2)] [] g := by
  intro n
  induction n with
  | zero => intro y2 g res h kr k; cases h
  | succ n ih =>
    intro y2 g res h kr k
    rw [L_X4_firstQuarrel_14] at h
    refine v_iloadn X dX4_firstQuarrel_14 rfl rfl ?_
    refine v_aloadn X dX4_firstQuarrel_15 rfl rfl ?_
    refine gf_X4_24 X (k_roof (by omega)) dX4_firstQuarrel_16 ?_
    refine v_icmp_ge X 44 dX4_firstQuarrel_19 (by decide) (fun cv2 => ?_) (fun cv2 => ?_)
    · replace h := (if_pos cv2).symm.trans h
      cases h
      exact k _ _ rfl
    · replace h := (if_neg cv2).symm.trans h
      refine v_aloadn X dX4_firstQuarrel_22 rfl rfl ?_
      refine v_iloadn X dX4_firstQuarrel_23 rfl rfl ?_
      refine v_iloadn X dX4_firstQuarrel_24 rfl rfl ?_
      obtain ⟨rv5, gv4, qv3, h⟩ := bd2_some h
      refine v_callVI (As := [.int z1, .int y2]) (rest := []) X (c_X4_quarrel l D ad cy X.2.2.2.2.2.2.2.2.1 N w0_0 z1 y2 g rv5 gv4 (by omega) qv3) mw_X4_quarrel ml_X4_77 (by decide) (k_roof (by omega)) (by decide) rfl rfl rfl rfl (Nat.le_of_ble_eq_true rfl) dX4_firstQuarrel_25 ?_
      refine v_if_eq X 38 dX4_firstQuarrel_28 (by decide) (fun cv6 => ?_) (fun cv6 => ?_)
      · replace h := (if_pos cv6).symm.trans h
        refine v_iinc (v := (y2 + 1)) (lc' := [some (.ref (ad (4, w0_0, 0))), some (.int z1), some (.int (y2 + 1))]) X dX4_firstQuarrel_38 rfl rfl (by decide) rfl rfl ?_
        refine v_goto X 14 dX4_firstQuarrel_41 (by decide) ?_
        exact ih (y2 + 1) gv4 _ h kr k
      · replace h := (if_neg cv6).symm.trans h
        refine v_bipush (v := 10) X dX4_firstQuarrel_31 (by decide) ?_
        refine v_iloadn X dX4_firstQuarrel_33 rfl rfl ?_
        refine v_imul X dX4_firstQuarrel_34 ?_
        refine v_iloadn X dX4_firstQuarrel_35 rfl rfl ?_
        refine v_iadd X dX4_firstQuarrel_36 ?_
        obtain ⟨er, eg⟩ := kr _ _ (Option.some.inj h).symm
        exact v_iret X dX4_firstQuarrel_37 er eg
set_option maxRecDepth 100000 in
set_option maxHeartbeats 4000000 in
theorem w_X4_firstQuarrel_2 {p : Program} {l : Launch} {e : Env} {s : State} {m : MethodId} {args : Array Value} {below : List Frame} {meth : Method} {c : Code} {D : va_G} {ad : Ky → Nat} {cy : Nat → ClassId} {r : Int32} {gq : GS} {N : Nat} (X : Cx p (rmd 1) s m args meth c RX4 cX4_firstQuarrel 3 (some .int) D ad cy) (w0_0 : Nat) (hh0 : w0_0 < 28) : ∀ (n : Nat) (y1 : Int32) (g : GS) (res : _), L_X4_firstQuarrel_2 N w0_0 n y1 g = some res → (∀ (r1 : Int32) (g1 : GS), res = .inl (r1, g1) → r1 = r ∧ g1 = gq) → (∀ (y1' : Int32) (g' : GS), res = .inr (y1', g') → Vy p l e (rmd 1) s m args below meth c 3 D ad cy (QI D ad cy below args s r gq) 50 [some (.ref (ad (4, w0_0, 0))), some (.int y1'), none] [] g') → Vy p l e (rmd 1) s m args below meth c 3 D ad cy (QI D ad cy below args s r gq) 2 [some (.ref (ad (4, w0_0, 0))), some (.int y1), none] [] g := by
  intro n
  induction n with
  | zero => intro y1 g res h kr k; cases h
  | succ n ih =>
    intro y1 g res h kr k
    rw [L_X4_firstQuarrel_2] at h
    refine v_iloadn X dX4_firstQuarrel_2 rfl rfl ?_
    refine v_aloadn X dX4_firstQuarrel_3 rfl rfl ?_
    refine gf_X4_24 X (k_roof (by omega)) dX4_firstQuarrel_4 ?_
    refine v_icmp_ge X 50 dX4_firstQuarrel_7 (by decide) (fun cv1 => ?_) (fun cv1 => ?_)
    · replace h := (if_pos cv1).symm.trans h
      cases h
      exact k _ _ rfl
    · replace h := (if_neg cv1).symm.trans h
      refine v_iloadn X dX4_firstQuarrel_10 rfl rfl ?_
      refine v_iconst (v := 1) X dX4_firstQuarrel_11 (by decide) ?_
      refine v_iadd X dX4_firstQuarrel_12 ?_
      refine v_istoren (lc' := [some (.ref (ad (4, w0_0, 0))), some (.int y1), some (.int (y1 + (1 : Int32)))]) X dX4_firstQuarrel_13 rfl (by decide) rfl rfl ?_
      obtain ⟨zv12, qv9, h⟩ := bs2_some h
      refine w_X4_firstQuarrel_14 X w0_0 y1 (by omega) N (y1 + (1 : Int32)) g _ qv9 ?_ ?_
      · intro rv10 gv11 e1
        subst e1
        dsimp only at h
        cases h
        exact kr rv10 gv11 rfl
      · intro xv7 gv8 e1
        subst e1
        dsimp only at h
        refine v_iinc (v := (y1 + 1)) (lc' := [some (.ref (ad (4, w0_0, 0))), some (.int (y1 + 1)), some (.int xv7)]) X dX4_firstQuarrel_44 rfl rfl (by decide) rfl rfl ?_
        refine v_goto X 2 dX4_firstQuarrel_47 (by decide) ?_
        refine v_weak (lc2 := [some (.ref (ad (4, w0_0, 0))), some (.int (y1 + 1)), none]) ⟨rfl, rfl, trivial⟩ ?_
        exact ih (y1 + 1) gv8 _ h kr k
set_option maxRecDepth 100000 in
set_option maxHeartbeats 4000000 in
theorem c_X4_firstQuarrel (l : Launch) (D : va_G) (ad : Ky → Nat) (cy : Nat → ClassId) (hI : Inj ad) (N : Nat) (r0 : Nat) (g : GS) (r : Int32) (gq : GS) (hr0 : r0 < 28) (h : F_X4_firstQuarrel N r0 g = some (r, gq)) : CtI l D ad cy yX4_firstQuarrel cX4_firstQuarrel 3 (some .int) 1 [.ref (ad (4, r0, 0))] g r gq := by
  refine CtI.of 2 hI (by decide +kernel) rfl (Nat.le_of_ble_eq_true rfl) (fun p e s m args below meth c X => ?_)
  unfold F_X4_firstQuarrel at h
  show Vy _ _ _ _ _ _ _ _ _ _ _ _ _ _ _ 0 [some (.ref (ad (4, r0, 0))), none, none] [] g
  refine v_iconst (v := 0) X dX4_firstQuarrel_0 (by decide) ?_
  refine v_istoren (lc' := [some (.ref (ad (4, r0, 0))), some (.int (0 : Int32)), none]) X dX4_firstQuarrel_1 rfl (by decide) rfl rfl ?_
  obtain ⟨zv18, qv15, h⟩ := bs2_some h
  refine w_X4_firstQuarrel_2 X r0 (by omega) N (0 : Int32) g _ qv15 ?_ ?_
  · intro rv16 gv17 e1
    subst e1
    dsimp only at h
    cases h
    exact ⟨rfl, rfl⟩
  · intro xv13 gv14 e1
    subst e1
    dsimp only at h
    refine v_ldc X kc_X4_81 dX4_firstQuarrel_50 ?_
    obtain ⟨er, eg⟩ := Prod.mk.inj (Option.some.inj h)
    exact v_iret X dX4_firstQuarrel_52 er eg
def F_X4_hasPaper (N : Nat) (r0 : Nat) (x1 : Int32) (g : GS) : Option (Int32 × GS) := if x1 < 0 then some ((0 : Int32), g) else if (g 0 r0 4) ≤ x1 then some ((0 : Int32), g) else some ((1 : Int32), g)
set_option maxRecDepth 100000 in
set_option maxHeartbeats 4000000 in
theorem c_X4_hasPaper (l : Launch) (D : va_G) (ad : Ky → Nat) (cy : Nat → ClassId) (hI : Inj ad) (N : Nat) (r0 : Nat) (x1 : Int32) (g : GS) (r : Int32) (gq : GS) (hr0 : r0 < 28) (h : F_X4_hasPaper N r0 x1 g = some (r, gq)) : CtI l D ad cy yX4_hasPaper cX4_hasPaper 2 (some .boolean) 0 [.ref (ad (4, r0, 0)), .int x1] g r gq := by
  refine CtI.of 0 hI (by decide +kernel) rfl (Nat.le_of_ble_eq_true rfl) (fun p e s m args below meth c X => ?_)
  unfold F_X4_hasPaper at h
  show Vy _ _ _ _ _ _ _ _ _ _ _ _ _ _ _ 0 [some (.ref (ad (4, r0, 0))), some (.int x1)] [] g
  refine v_iloadn X dX4_hasPaper_0 rfl rfl ?_
  refine v_if_lt X 16 dX4_hasPaper_1 (by decide) (fun cv1 => ?_) (fun cv1 => ?_)
  · replace h := (if_pos cv1).symm.trans h
    refine v_iconst (v := 0) X dX4_hasPaper_16 (by decide) ?_
    obtain ⟨er, eg⟩ := Prod.mk.inj (Option.some.inj h)
    exact v_zret X dX4_hasPaper_17 rfl er eg
  · replace h := (if_neg cv1).symm.trans h
    refine v_iloadn X dX4_hasPaper_4 rfl rfl ?_
    refine v_aloadn X dX4_hasPaper_5 rfl rfl ?_
    refine gf_X4_24 X (k_roof (by omega)) dX4_hasPaper_6 ?_
    refine v_icmp_ge X 16 dX4_hasPaper_9 (by decide) (fun cv2 => ?_) (fun cv2 => ?_)
    · replace h := (if_pos cv2).symm.trans h
      refine v_iconst (v := 0) X dX4_hasPaper_16 (by decide) ?_
      obtain ⟨er, eg⟩ := Prod.mk.inj (Option.some.inj h)
      exact v_zret X dX4_hasPaper_17 rfl er eg
    · replace h := (if_neg cv2).symm.trans h
      refine v_iconst (v := 1) X dX4_hasPaper_12 (by decide) ?_
      refine v_goto X 17 dX4_hasPaper_13 (by decide) ?_
      obtain ⟨er, eg⟩ := Prod.mk.inj (Option.some.inj h)
      exact v_zret X dX4_hasPaper_17 rfl er eg
def F_X4_hasWind (N : Nat) (r0 : Nat) (x1 : Int32) (g : GS) : Option (Int32 × GS) := if x1 < 0 then some ((0 : Int32), g) else if (g 0 r0 3) ≤ x1 then some ((0 : Int32), g) else some ((1 : Int32), g)
set_option maxRecDepth 100000 in
set_option maxHeartbeats 4000000 in
theorem c_X4_hasWind (l : Launch) (D : va_G) (ad : Ky → Nat) (cy : Nat → ClassId) (hI : Inj ad) (N : Nat) (r0 : Nat) (x1 : Int32) (g : GS) (r : Int32) (gq : GS) (hr0 : r0 < 28) (h : F_X4_hasWind N r0 x1 g = some (r, gq)) : CtI l D ad cy yX4_hasWind cX4_hasWind 2 (some .boolean) 0 [.ref (ad (4, r0, 0)), .int x1] g r gq := by
  refine CtI.of 0 hI (by decide +kernel) rfl (Nat.le_of_ble_eq_true rfl) (fun p e s m args below meth c X => ?_)
  unfold F_X4_hasWind at h
  show Vy _ _ _ _ _ _ _ _ _ _ _ _ _ _ _ 0 [some (.ref (ad (4, r0, 0))), some (.int x1)] [] g
  refine v_iloadn X dX4_hasWind_0 rfl rfl ?_
  refine v_if_lt X 16 dX4_hasWind_1 (by decide) (fun cv1 => ?_) (fun cv1 => ?_)
  · replace h := (if_pos cv1).symm.trans h
    refine v_iconst (v := 0) X dX4_hasWind_16 (by decide) ?_
    obtain ⟨er, eg⟩ := Prod.mk.inj (Option.some.inj h)
    exact v_zret X dX4_hasWind_17 rfl er eg
  · replace h := (if_neg cv1).symm.trans h
    refine v_iloadn X dX4_hasWind_4 rfl rfl ?_
    refine v_aloadn X dX4_hasWind_5 rfl rfl ?_
    refine gf_X4_21 X (k_roof (by omega)) dX4_hasWind_6 ?_
    refine v_icmp_ge X 16 dX4_hasWind_9 (by decide) (fun cv2 => ?_) (fun cv2 => ?_)
    · replace h := (if_pos cv2).symm.trans h
      refine v_iconst (v := 0) X dX4_hasWind_16 (by decide) ?_
      obtain ⟨er, eg⟩ := Prod.mk.inj (Option.some.inj h)
      exact v_zret X dX4_hasWind_17 rfl er eg
    · replace h := (if_neg cv2).symm.trans h
      refine v_iconst (v := 1) X dX4_hasWind_12 (by decide) ?_
      refine v_goto X 17 dX4_hasWind_13 (by decide) ?_
      obtain ⟨er, eg⟩ := Prod.mk.inj (Option.some.inj h)
      exact v_zret X dX4_hasWind_17 rfl er eg
def F_X4_isRead (N : Nat) (r0 : Nat) (g : GS) : Option (Int32 × GS) := if (g 0 r0 4) ≤ 0 then some ((0 : Int32), g) else some ((1 : Int32), g)
set_option maxRecDepth 100000 in
set_option maxHeartbeats 4000000 in
theorem c_X4_isRead (l : Launch) (D : va_G) (ad : Ky → Nat) (cy : Nat → ClassId) (hI : Inj ad) (N : Nat) (r0 : Nat) (g : GS) (r : Int32) (gq : GS) (hr0 : r0 < 28) (h : F_X4_isRead N r0 g = some (r, gq)) : CtI l D ad cy yX4_isRead cX4_isRead 1 (some .boolean) 0 [.ref (ad (4, r0, 0))] g r gq := by
  refine CtI.of 0 hI (by decide +kernel) rfl (Nat.le_of_ble_eq_true rfl) (fun p e s m args below meth c X => ?_)
  unfold F_X4_isRead at h
  show Vy _ _ _ _ _ _ _ _ _ _ _ _ _ _ _ 0 [some (.ref (ad (4, r0, 0)))] [] g
  refine v_aloadn X dX4_isRead_0 rfl rfl ?_
  refine gf_X4_24 X (k_roof (by omega)) dX4_isRead_1 ?_
  refine v_if_le X 11 dX4_isRead_4 (by decide) (fun cv1 => ?_) (fun cv1 => ?_)
  · replace h := (if_pos cv1).symm.trans h
    refine v_iconst (v := 0) X dX4_isRead_11 (by decide) ?_
    obtain ⟨er, eg⟩ := Prod.mk.inj (Option.some.inj h)
    exact v_zret X dX4_isRead_12 rfl er eg
  · replace h := (if_neg cv1).symm.trans h
    refine v_iconst (v := 1) X dX4_isRead_7 (by decide) ?_
    refine v_goto X 12 dX4_isRead_8 (by decide) ?_
    obtain ⟨er, eg⟩ := Prod.mk.inj (Option.some.inj h)
    exact v_zret X dX4_isRead_12 rfl er eg
def L_X4_quarrelCount_16 (N : Nat) (w0_0 : Nat) (z2 : Int32) : Nat → Int32 → Int32 → GS → Option (Int32 × Int32 × GS)
  | 0, _, _, _ => none
  | n + 1, y1, y3, g => if (g 0 w0_0 4) ≤ y3 then some (y1, y3, g) else bd2 (F_X4_quarrel N w0_0 z2 y3 g) (fun rv5 gv4 => if rv5 = 0 then L_X4_quarrelCount_16 N w0_0 z2 n y1 (y3 + 1) gv4 else L_X4_quarrelCount_16 N w0_0 z2 n (y1 + 1) (y3 + 1) gv4)
def L_X4_quarrelCount_4 (N : Nat) (w0_0 : Nat) : Nat → Int32 → Int32 → GS → Option (Int32 × Int32 × GS)
  | 0, _, _, _ => none
  | n + 1, y1, y2, g => if (g 0 w0_0 4) ≤ y2 then some (y1, y2, g) else bd3 (L_X4_quarrelCount_16 N w0_0 y2 N y1 (y2 + (1 : Int32)) g) (fun xv7 xv8 gv9 => L_X4_quarrelCount_4 N w0_0 n xv7 (y2 + 1) gv9)
def F_X4_quarrelCount (N : Nat) (r0 : Nat) (g : GS) : Option (Int32 × GS) := bd3 (L_X4_quarrelCount_4 N r0 N (0 : Int32) (0 : Int32) g) (fun xv11 xv12 gv13 => some (xv11, gv13))
set_option maxRecDepth 100000 in
set_option maxHeartbeats 4000000 in
theorem w_X4_quarrelCount_16 {p : Program} {l : Launch} {e : Env} {s : State} {m : MethodId} {args : Array Value} {below : List Frame} {meth : Method} {c : Code} {D : va_G} {ad : Ky → Nat} {cy : Nat → ClassId} {r : Int32} {gq : GS} {N : Nat} (X : Cx p (rmd 1) s m args meth c RX4 cX4_quarrelCount 4 (some .int) D ad cy) (w0_0 : Nat) (z2 : Int32) (hh0 : w0_0 < 28) : ∀ (n : Nat) (y1 : Int32) (y3 : Int32) (g : GS) (y1' : Int32) (y3' : Int32) (g' : GS), L_X4_quarrelCount_16 N w0_0 z2 n y1 y3 g = some (y1', y3', g') → Vy p l e (rmd 1) s m args below meth c 4 D ad cy (QI D ad cy below args s r gq) 42 [some (.ref (ad (4, w0_0, 0))), some (.int y1'), some (.int z2), some (.int y3')] [] g' → Vy p l e (rmd 1) s m args below meth c 4 D ad cy (QI D ad cy below args s r gq) 16 [some (.ref (ad (4, w0_0, 0))), some (.int y1), some (.int z2), some (.int y3)] [] g := by
  intro n
  induction n with
  | zero => intro y1 y3 g y1' y3' g' h k; cases h
  | succ n ih =>
    intro y1 y3 g y1' y3' g' h k
    rw [L_X4_quarrelCount_16] at h
    refine v_iloadn X dX4_quarrelCount_16 rfl rfl ?_
    refine v_aloadn X dX4_quarrelCount_17 rfl rfl ?_
    refine gf_X4_24 X (k_roof (by omega)) dX4_quarrelCount_18 ?_
    refine v_icmp_ge X 42 dX4_quarrelCount_21 (by decide) (fun cv2 => ?_) (fun cv2 => ?_)
    · replace h := (if_pos cv2).symm.trans h
      cases h
      exact k
    · replace h := (if_neg cv2).symm.trans h
      refine v_aloadn X dX4_quarrelCount_24 rfl rfl ?_
      refine v_iloadn X dX4_quarrelCount_25 rfl rfl ?_
      refine v_iloadn X dX4_quarrelCount_26 rfl rfl ?_
      obtain ⟨rv5, gv4, qv3, h⟩ := bd2_some h
      refine v_callVI (As := [.int z2, .int y3]) (rest := []) X (c_X4_quarrel l D ad cy X.2.2.2.2.2.2.2.2.1 N w0_0 z2 y3 g rv5 gv4 (by omega) qv3) mw_X4_quarrel ml_X4_77 (by decide) (k_roof (by omega)) (by decide) rfl rfl rfl rfl (Nat.le_of_ble_eq_true rfl) dX4_quarrelCount_27 ?_
      refine v_if_eq X 36 dX4_quarrelCount_30 (by decide) (fun cv6 => ?_) (fun cv6 => ?_)
      · replace h := (if_pos cv6).symm.trans h
        refine v_iinc (v := (y3 + 1)) (lc' := [some (.ref (ad (4, w0_0, 0))), some (.int y1), some (.int z2), some (.int (y3 + 1))]) X dX4_quarrelCount_36 rfl rfl (by decide) rfl rfl ?_
        refine v_goto X 16 dX4_quarrelCount_39 (by decide) ?_
        exact ih y1 (y3 + 1) gv4 _ _ _ h k
      · replace h := (if_neg cv6).symm.trans h
        refine v_iinc (v := (y1 + 1)) (lc' := [some (.ref (ad (4, w0_0, 0))), some (.int (y1 + 1)), some (.int z2), some (.int y3)]) X dX4_quarrelCount_33 rfl rfl (by decide) rfl rfl ?_
        refine v_iinc (v := (y3 + 1)) (lc' := [some (.ref (ad (4, w0_0, 0))), some (.int (y1 + 1)), some (.int z2), some (.int (y3 + 1))]) X dX4_quarrelCount_36 rfl rfl (by decide) rfl rfl ?_
        refine v_goto X 16 dX4_quarrelCount_39 (by decide) ?_
        exact ih (y1 + 1) (y3 + 1) gv4 _ _ _ h k
set_option maxRecDepth 100000 in
set_option maxHeartbeats 4000000 in
theorem w_X4_quarrelCount_4 {p : Program} {l : Launch} {e : Env} {s : State} {m : MethodId} {args : Array Value} {below : List Frame} {meth : Method} {c : Code} {D : va_G} {ad : Ky → Nat} {cy : Nat → ClassId} {r : Int32} {gq : GS} {N : Nat} (X : Cx p (rmd 1) s m args meth c RX4 cX4_quarrelCount 4 (some .int) D ad cy) (w0_0 : Nat) (hh0 : w0_0 < 28) : ∀ (n : Nat) (y1 : Int32) (y2 : Int32) (g : GS) (y1' : Int32) (y2' : Int32) (g' : GS), L_X4_quarrelCount_4 N w0_0 n y1 y2 g = some (y1', y2', g') → Vy p l e (rmd 1) s m args below meth c 4 D ad cy (QI D ad cy below args s r gq) 48 [some (.ref (ad (4, w0_0, 0))), some (.int y1'), some (.int y2'), none] [] g' → Vy p l e (rmd 1) s m args below meth c 4 D ad cy (QI D ad cy below args s r gq) 4 [some (.ref (ad (4, w0_0, 0))), some (.int y1), some (.int y2), none] [] g := by
  intro n
  induction n with
  | zero => intro y1 y2 g y1' y2' g' h k; cases h
  | succ n ih =>
    intro y1 y2 g y1' y2' g' h k
    rw [L_X4_quarrelCount_4] at h
    refine v_iloadn X dX4_quarrelCount_4 rfl rfl ?_
    refine v_aloadn X dX4_quarrelCount_5 rfl rfl ?_
    refine gf_X4_24 X (k_roof (by omega)) dX4_quarrelCount_6 ?_
    refine v_icmp_ge X 48 dX4_quarrelCount_9 (by decide) (fun cv1 => ?_) (fun cv1 => ?_)
    · replace h := (if_pos cv1).symm.trans h
      cases h
      exact k
    · replace h := (if_neg cv1).symm.trans h
      refine v_iloadn X dX4_quarrelCount_12 rfl rfl ?_
      refine v_iconst (v := 1) X dX4_quarrelCount_13 (by decide) ?_
      refine v_iadd X dX4_quarrelCount_14 ?_
      refine v_istoren (lc' := [some (.ref (ad (4, w0_0, 0))), some (.int y1), some (.int y2), some (.int (y2 + (1 : Int32)))]) X dX4_quarrelCount_15 rfl (by decide) rfl rfl ?_
      obtain ⟨xv7, xv8, gv9, qv10, h⟩ := bd3_some h
      refine w_X4_quarrelCount_16 X w0_0 y2 (by omega) N y1 (y2 + (1 : Int32)) g xv7 xv8 gv9 qv10 ?_
      refine v_iinc (v := (y2 + 1)) (lc' := [some (.ref (ad (4, w0_0, 0))), some (.int xv7), some (.int (y2 + 1)), some (.int xv8)]) X dX4_quarrelCount_42 rfl rfl (by decide) rfl rfl ?_
      refine v_goto X 4 dX4_quarrelCount_45 (by decide) ?_
      refine v_weak (lc2 := [some (.ref (ad (4, w0_0, 0))), some (.int xv7), some (.int (y2 + 1)), none]) ⟨rfl, rfl, rfl, trivial⟩ ?_
      exact ih xv7 (y2 + 1) gv9 _ _ _ h k
set_option maxRecDepth 100000 in
set_option maxHeartbeats 4000000 in
theorem c_X4_quarrelCount (l : Launch) (D : va_G) (ad : Ky → Nat) (cy : Nat → ClassId) (hI : Inj ad) (N : Nat) (r0 : Nat) (g : GS) (r : Int32) (gq : GS) (hr0 : r0 < 28) (h : F_X4_quarrelCount N r0 g = some (r, gq)) : CtI l D ad cy yX4_quarrelCount cX4_quarrelCount 4 (some .int) 1 [.ref (ad (4, r0, 0))] g r gq := by
  refine CtI.of 3 hI (by decide +kernel) rfl (Nat.le_of_ble_eq_true rfl) (fun p e s m args below meth c X => ?_)
  unfold F_X4_quarrelCount at h
  show Vy _ _ _ _ _ _ _ _ _ _ _ _ _ _ _ 0 [some (.ref (ad (4, r0, 0))), none, none, none] [] g
  refine v_iconst (v := 0) X dX4_quarrelCount_0 (by decide) ?_
  refine v_istoren (lc' := [some (.ref (ad (4, r0, 0))), some (.int (0 : Int32)), none, none]) X dX4_quarrelCount_1 rfl (by decide) rfl rfl ?_
  refine v_iconst (v := 0) X dX4_quarrelCount_2 (by decide) ?_
  refine v_istoren (lc' := [some (.ref (ad (4, r0, 0))), some (.int (0 : Int32)), some (.int (0 : Int32)), none]) X dX4_quarrelCount_3 rfl (by decide) rfl rfl ?_
  obtain ⟨xv11, xv12, gv13, qv14, h⟩ := bd3_some h
  refine w_X4_quarrelCount_4 X r0 (by omega) N (0 : Int32) (0 : Int32) g xv11 xv12 gv13 qv14 ?_
  refine v_iloadn X dX4_quarrelCount_48 rfl rfl ?_
  obtain ⟨er, eg⟩ := Prod.mk.inj (Option.some.inj h)
  exact v_iret X dX4_quarrelCount_49 er eg
