theorem ro_act {i : Nat} (h : i < 24) : ro (2 + i) = 25 + 9 * i := by
  unfold ro
  rw [if_neg (by omega), if_neg (by omega), if_pos (by omega)]
  omega
theorem ro_img {i : Nat} (h : i < 2) : ro (26 + i) = 260 + 9 * i := by
  unfold ro
  rw [if_neg (by omega), if_neg (by omega), if_neg (by omega)]
  omega
set_option maxRecDepth 100000 in
set_option maxHeartbeats 4000000 in
theorem lp_X0 {p : Program} {l : Launch} {e : Env} {s : State} {m : MethodId} {args : Array Value} {below : List Frame} {meth : Method} {c : Code} {D : va_G} {B : Nat} {cy : Nat → ClassId} (X : Cn p (rmn 3 217) s m args meth c RX0 cX0_init 2 none D B cy 24)
    (kE : Vn p l e (rmn 3 217) s m args below meth c 2 D B (0, 0, 0) 24 (QN D B cy below args s 24 (0, 0, 0) 217 w0) (1 + 9 * 24) 50 [some (.ref (adB B (0, 0, 0))), some (.int (nI 24))] [] (mL B cy m0 3 24 (0, 0, 0) (12, 0, 0) (cellW (adB B) cy g0 (0, 0, 0)) (fun i => (4, 2 + i, 0)) (fun i => wRoof (2 + i)) 24)) : ∀ (q i : Nat), i + q = 24 → Vn p l e (rmn 3 217) s m args below meth c 2 D B (0, 0, 0) 24 (QN D B cy below args s 24 (0, 0, 0) 217 w0) (1 + 9 * i) 25 [some (.ref (adB B (0, 0, 0))), some (.int (nI i))] [] (mL B cy m0 3 24 (0, 0, 0) (12, 0, 0) (cellW (adB B) cy g0 (0, 0, 0)) (fun i => (4, 2 + i, 0)) (fun i => wRoof (2 + i)) i) := by
  intro q
  induction q with
  | zero =>
    intro i hq
    have hi : i = 24 := by omega
    subst hi
    refine n_iloadn X dX0_init_25 rfl rfl ?_
    refine n_bipush (v := nI 24) X dX0_init_26 (by decide +kernel) ?_
    refine n_icmp_ge X 50 dX0_init_28 (by decide) (fun _ => kE) (fun hc => absurd ?_ hc)
    exact (nI_leI (by omega) (by omega)).mpr (Nat.le_refl _)
  | succ q ih =>
    intro i hq
    have hi : i < 24 := by omega
    refine n_iloadn X dX0_init_25 rfl rfl ?_
    refine n_bipush (v := nI 24) X dX0_init_26 (by decide +kernel) ?_
    refine n_icmp_ge X 50 dX0_init_28 (by decide) (fun hc => absurd ((nI_leI (by omega) (by omega)).mp hc) (by omega)) (fun _ => ?_)
    refine n_aloadn X dX0_init_31 rfl rfl ?_
    refine n_get (ci := 0) (fs := cellO (adB B) g0 0 0 0) (v := .ref (adB B (12, 0, 0))) (fi := 0) X (by decide +kernel) mu_self rfl inW0 (by decide) fl_X0_11 rfl dX0_init_32 ?_
    refine n_iloadn X dX0_init_35 rfl rfl ?_
    refine n_new (ci := 4) (fs := [.int 0, .int 0, .int 0, .int 0, .int 0, .null, .null]) X (4, 2 + i, 0) (by simp only [off, ro_act hi] <;> omega) rfl inW4 tyX4 tyX4_ok cl_X0_9 in_X4 ini_RX4 bf4 (by decide) (show 1 + 9 * i + 1 ≤ 217 by omega) (show 1300 * (1 + 9 * i + 1) ≤ 1300 * 217 by omega) dX0_init_36 ?_
    refine n_dup X dX0_init_39 rfl ?_
    refine n_call (e1 := .inr (4, [.int 0, .int 0, .int 0, .int 0, .int 0, .null, .null])) (w := (fun i => wRoof (2 + i)) i) X (c_X4_init l D B cy _ (show 2 + i < 28 by omega) (by rw [ro_act hi]; omega)) mc_X4_init im_X4 ini_RX4 rfl (by decide +kernel) ml_X0_24 (by decide) (show 1 + 9 * i + 1 + 8 ≤ 217 by omega) (show 1300 * (1 + 9 * i + 1 + 8) ≤ 1300 * 217 by omega) (k_roof (show 2 + i < 28 by omega)) List.mem_cons_self mu_self (by simp only [off, ro_act hi] <;> omega) (Nat.le_of_ble_eq_true rfl) dX0_init_40 ?_
    refine n_aast (r := (RX4, TX4, 7)) (vs := cellO (adB B) g0 4 (2 + i) 0) X 3 4 i (by decide +kernel) (k_roof (show 2 + i < 28 by omega)) (Nat.le_of_ble_eq_true rfl) (((mU_out (roof_out (by decide))).trans ((mu_ne (by simp)).trans ((mu_ne (by simp)).trans mu_self)))) rfl (mU_in List.mem_cons_self) rfl rfl hi (by decide) dX0_init_43 ?_
    refine Vn.le (mL B cy m0 3 24 (0, 0, 0) (12, 0, 0) (cellW (adB B) cy g0 (0, 0, 0)) (fun i => (4, 2 + i, 0)) (fun i => wRoof (2 + i)) (i + 1)) (mL_step (ke := fun i => (4, 2 + i, 0)) (by simp) (roof_out (by decide)) (roof_out (by decide)) List.mem_cons_self) ?_
    refine n_iinc (v := nI (i + 1)) (lc' := [some (.ref (adB B (0, 0, 0))), some (.int (nI (i + 1)))]) (x := nI i) X dX0_init_44 rfl (nI_1 i) (by decide) rfl rfl ?_
    refine n_goto X 25 dX0_init_47 (by decide) ?_
    exact Vn.cnt (show 1 + 9 * i + 1 + 8 = 1 + 9 * (i + 1) by omega) (ih (i + 1) (by omega))
set_option maxRecDepth 100000 in
theorem kin0 : ∀ k ∈ w0, k ∈ keys := by decide +kernel
set_option maxRecDepth 100000 in
set_option maxHeartbeats 4000000 in
theorem c_X0_init (l : Launch) (D : va_G) (B : Nat) (cy : Nat → ClassId) : CtN l D B cy yX0_init cX0_init 2 3 217 24 (0, 0, 0) (.inr (0, [.null, .int 0, .int 0])) w0 := by
  refine CtN.of (own := RX0) 1 (by decide +kernel) rfl rfl (by decide) (fun p e s m args below meth c X hin => ?_)
  show Vn _ _ _ _ _ _ _ _ _ _ _ _ _ _ _ _ _ _ [some (.ref (adB B (0, 0, 0))), none] [] _
  have fin : Vn p l e (rmn 3 217) s m args below meth c 2 D B (0, 0, 0) 24 (QN D B cy below args s 24 (0, 0, 0) 217 w0) (1 + 9 * 24) 50 [some (.ref (adB B (0, 0, 0))), some (.int (nI 24))] [] (mL B cy m0 3 24 (0, 0, 0) (12, 0, 0) (cellW (adB B) cy g0 (0, 0, 0)) (fun i => (4, 2 + i, 0)) (fun i => wRoof (2 + i)) 24) := by
    refine n_vret X (fun k hk' => ⟨kin0 k hk', ?_⟩) dX0_init_50
    simp only [w0, List.mem_cons] at hk'
    rcases hk' with rfl | rfl | hk'
    · exact ⟨_, mu_self, Eqv.rf⟩
    · refine ⟨_, ((mu_ne (by simp)).trans mu_self), Eqv.arrR (fun k hk6 => ?_)⟩
      exact if_pos hk6
    · obtain ⟨j, hj, h⟩ := in_wN.mp hk'
      have q := roof_no h
      exact ⟨_, ((mu_ne (by rintro rfl; simp at q)).trans ((mu_ne (by rintro rfl; simp at q)).trans (mU_in hk'))), Eqv.rf⟩
  refine n_aloadn X dX0_init_0 rfl rfl ?_
  refine n_oinit X oi_X0 (Nat.le_of_ble_eq_true rfl) (Nat.le_of_ble_eq_true rfl) dX0_init_1 ?_
  refine n_aloadn X dX0_init_4 rfl rfl ?_
  refine n_bipush (v := 24) X dX0_init_5 (by decide) ?_
  refine n_anew (C := RX4) (N' := 24) X (12, 0, 0) 3 rfl rfl cl_X0_9 X.2.2.2.1 (by decide) (by decide) (by decide) (Nat.le_of_ble_eq_true rfl) (Nat.le_of_ble_eq_true rfl) dX0_init_7 ?_
  refine n_putF (ty := tyX0 0) (fi := 0) X hin (by decide +kernel) ((mu_ne (by simp)).trans mu_self) rfl inW0 tyX0 tyX0_ok nmX0 (by decide) fl_X0_11 rfl rfl (tyX0_ok 0 (by decide)) rfl rfl (Nat.le_of_ble_eq_true rfl) dX0_init_10 ?_
  refine n_aloadn X dX0_init_13 rfl rfl ?_
  refine n_iconst (v := 0) X dX0_init_14 (by decide) ?_
  refine n_put (ty := tyX0 1) (fi := 1) X (by decide +kernel) mu_self rfl inW0 tyX0 tyX0_ok nmX0 (by decide) fl_X0_17 rfl (tyX0_ok 1 (by decide)) rfl rfl (Nat.le_of_ble_eq_true rfl) dX0_init_15 ?_
  refine n_aloadn X dX0_init_18 rfl rfl ?_
  refine n_iconst (v := 0) X dX0_init_19 (by decide) ?_
  refine n_put (ty := tyX0 2) (fi := 2) X (by decide +kernel) mu_self rfl inW0 tyX0 tyX0_ok nmX0 (by decide) fl_X0_21 rfl (tyX0_ok 2 (by decide)) rfl rfl (Nat.le_of_ble_eq_true rfl) dX0_init_20 ?_
  refine n_iconst (v := nI 0) X dX0_init_23 (by decide +kernel) ?_
  refine n_istoren (lc' := [some (.ref (adB B (0, 0, 0))), some (.int (nI 0))]) X dX0_init_24 rfl (by decide) rfl rfl ?_
  exact Vn.le _ (mL_zero (e1 := cellW (adB B) cy g0 (0, 0, 0)) mu_self Eqv.rf ((mu_ne (by simp)).trans ((mu_ne (by simp)).trans ((mu_ne (by simp)).trans mu_self))) Le.m0) (Vn.cnt rfl (lp_X0 X fin 24 0 rfl))
set_option maxRecDepth 100000 in
theorem ft2_0 : ∀ k ∈ (wRoof 0), k ≠ (2, 0, 0) ∧ ¬ k ∈ (wRoof 1) ∧ k ≠ (4, 1, 0) ∧ True := by decide +kernel
set_option maxRecDepth 100000 in
theorem ft2_1 : ∀ k ∈ (wRoof 1), k ≠ (2, 0, 0) ∧ True := by decide +kernel
set_option maxRecDepth 100000 in
theorem kin2 : ∀ k ∈ w2, k ∈ keys := by decide +kernel
set_option maxRecDepth 100000 in
set_option maxHeartbeats 4000000 in
theorem c_X2_init (l : Launch) (D : va_G) (B : Nat) (cy : Nat → ClassId) : CtN l D B cy yX2_init cX2_init 1 3 18 5 (2, 0, 0) (.inr (2, [.null, .null, .int 0, .null, .int 0, .int 0, .int 0, .int 0, .int 0, .int 0])) w2 := by
  refine CtN.of (own := RX2) 0 (by decide +kernel) rfl rfl (by decide) (fun p e s m args below meth c X hin => ?_)
  show Vn _ _ _ _ _ _ _ _ _ _ _ _ _ _ _ _ _ _ [some (.ref (adB B (2, 0, 0)))] [] _
  refine n_aloadn X dX2_init_0 rfl rfl ?_
  refine n_oinit X oi_X2 (Nat.le_of_ble_eq_true rfl) (Nat.le_of_ble_eq_true rfl) dX2_init_1 ?_
  refine n_aloadn X dX2_init_4 rfl rfl ?_
  refine n_new (ci := 4) (fs := [.int 0, .int 0, .int 0, .int 0, .int 0, .null, .null]) X (4, 0, 0) rfl rfl inW4 tyX4 tyX4_ok cl_X2_9 in_X4 ini_RX4 bf4 (by decide) (Nat.le_of_ble_eq_true rfl) (Nat.le_of_ble_eq_true rfl) dX2_init_5 ?_
  refine n_dup X dX2_init_8 rfl ?_
  refine n_call (e1 := .inr (4, [.int 0, .int 0, .int 0, .int 0, .int 0, .null, .null])) (w := (wRoof 0)) X (c_X4_init l D B cy _ (show 0 < 28 by decide) rfl) mc_X4_init im_X4 ini_RX4 rfl (by decide +kernel) ml_X2_11 (by decide) (Nat.le_of_ble_eq_true rfl) (Nat.le_of_ble_eq_true rfl) (by decide +kernel) (by decide +kernel) mu_self (Nat.le_of_ble_eq_true rfl) (Nat.le_of_ble_eq_true rfl) dX2_init_9 ?_
  refine n_putF (ty := tyX2 0) (fi := 0) X hin (by decide +kernel) ((mU_out (by decide +kernel)).trans ((mu_ne (by simp)).trans mu_self)) rfl inW2 tyX2 tyX2_ok nmX2 (by decide) fl_X2_12 rfl rfl (tyX2_ok 0 (by decide)) rfl rfl (Nat.le_of_ble_eq_true rfl) dX2_init_12 ?_
  refine n_aloadn X dX2_init_15 rfl rfl ?_
  refine n_new (ci := 4) (fs := [.int 0, .int 0, .int 0, .int 0, .int 0, .null, .null]) X (4, 1, 0) rfl rfl inW4 tyX4 tyX4_ok cl_X2_9 in_X4 ini_RX4 bf4 (by decide) (Nat.le_of_ble_eq_true rfl) (Nat.le_of_ble_eq_true rfl) dX2_init_16 ?_
  refine n_dup X dX2_init_19 rfl ?_
  refine n_call (e1 := .inr (4, [.int 0, .int 0, .int 0, .int 0, .int 0, .null, .null])) (w := (wRoof 1)) X (c_X4_init l D B cy _ (show 1 < 28 by decide) rfl) mc_X4_init im_X4 ini_RX4 rfl (by decide +kernel) ml_X2_11 (by decide) (Nat.le_of_ble_eq_true rfl) (Nat.le_of_ble_eq_true rfl) (by decide +kernel) (by decide +kernel) mu_self (Nat.le_of_ble_eq_true rfl) (Nat.le_of_ble_eq_true rfl) dX2_init_20 ?_
  refine n_putF (ty := tyX2 1) (fi := 1) X hin (by decide +kernel) ((mU_out (by decide +kernel)).trans ((mu_ne (by simp)).trans mu_self)) rfl inW2 tyX2 tyX2_ok nmX2 (by decide) fl_X2_18 rfl rfl (tyX2_ok 1 (by decide)) rfl rfl (Nat.le_of_ble_eq_true rfl) dX2_init_23 ?_
  refine n_aloadn X dX2_init_26 rfl rfl ?_
  refine n_iconst (v := 0) X dX2_init_27 (by decide) ?_
  refine n_put (ty := tyX2 2) (fi := 2) X (by decide +kernel) mu_self rfl inW2 tyX2 tyX2_ok nmX2 (by decide) fl_X2_21 rfl (tyX2_ok 2 (by decide)) rfl rfl (Nat.le_of_ble_eq_true rfl) dX2_init_28 ?_
  refine n_aloadn X dX2_init_31 rfl rfl ?_
  refine n_null X dX2_init_32 ?_
  refine n_put (ty := tyX2 3) (fi := 3) X (by decide +kernel) mu_self rfl inW2 tyX2 tyX2_ok nmX2 (by decide) fl_X2_25 rfl (tyX2_ok 3 (by decide)) rfl rfl (Nat.le_of_ble_eq_true rfl) dX2_init_33 ?_
  refine n_aloadn X dX2_init_36 rfl rfl ?_
  refine n_iconst (v := 0) X dX2_init_37 (by decide) ?_
  refine n_put (ty := tyX2 4) (fi := 4) X (by decide +kernel) mu_self rfl inW2 tyX2 tyX2_ok nmX2 (by decide) fl_X2_29 rfl (tyX2_ok 4 (by decide)) rfl rfl (Nat.le_of_ble_eq_true rfl) dX2_init_38 ?_
  refine n_aloadn X dX2_init_41 rfl rfl ?_
  refine n_iconst (v := 0) X dX2_init_42 (by decide) ?_
  refine n_put (ty := tyX2 5) (fi := 5) X (by decide +kernel) mu_self rfl inW2 tyX2 tyX2_ok nmX2 (by decide) fl_X2_32 rfl (tyX2_ok 5 (by decide)) rfl rfl (Nat.le_of_ble_eq_true rfl) dX2_init_43 ?_
  refine n_aloadn X dX2_init_46 rfl rfl ?_
  refine n_iconst (v := 0) X dX2_init_47 (by decide) ?_
  refine n_put (ty := tyX2 6) (fi := 6) X (by decide +kernel) mu_self rfl inW2 tyX2 tyX2_ok nmX2 (by decide) fl_X2_35 rfl (tyX2_ok 6 (by decide)) rfl rfl (Nat.le_of_ble_eq_true rfl) dX2_init_48 ?_
  refine n_aloadn X dX2_init_51 rfl rfl ?_
  refine n_iconst (v := 0) X dX2_init_52 (by decide) ?_
  refine n_put (ty := tyX2 7) (fi := 7) X (by decide +kernel) mu_self rfl inW2 tyX2 tyX2_ok nmX2 (by decide) fl_X2_38 rfl (tyX2_ok 7 (by decide)) rfl rfl (Nat.le_of_ble_eq_true rfl) dX2_init_53 ?_
  refine n_aloadn X dX2_init_56 rfl rfl ?_
  refine n_ldc X kc_X2_41 dX2_init_57 ?_
  refine n_put (ty := tyX2 8) (fi := 8) X (by decide +kernel) mu_self rfl inW2 tyX2 tyX2_ok nmX2 (by decide) fl_X2_42 rfl (tyX2_ok 8 (by decide)) rfl rfl (Nat.le_of_ble_eq_true rfl) dX2_init_59 ?_
  refine n_aloadn X dX2_init_62 rfl rfl ?_
  refine n_ldc X kc_X2_41 dX2_init_63 ?_
  refine n_put (ty := tyX2 9) (fi := 9) X (by decide +kernel) mu_self rfl inW2 tyX2 tyX2_ok nmX2 (by decide) fl_X2_45 rfl (tyX2_ok 9 (by decide)) rfl rfl (Nat.le_of_ble_eq_true rfl) dX2_init_65 ?_
  refine n_vret X (fun k hk' => ⟨kin2 k hk', ?_⟩) dX2_init_68
  simp only [w2, List.mem_cons, List.mem_append] at hk'
  rcases hk' with rfl | hk' | hk'
  · exact ⟨_, mu_self, Eqv.of rfl⟩
  · have hk := hk'
    · have q := ft2_0 k hk
      exact ⟨_, ((mu_ne q.1).trans ((mu_ne q.1).trans ((mu_ne q.1).trans ((mu_ne q.1).trans ((mu_ne q.1).trans ((mu_ne q.1).trans ((mu_ne q.1).trans ((mu_ne q.1).trans ((mu_ne q.1).trans ((mU_out q.2.1).trans ((mu_ne q.2.2.1).trans ((mu_ne q.1).trans (mU_in hk))))))))))))), Eqv.rf⟩
  · have hk := hk'
    · have q := ft2_1 k hk
      exact ⟨_, ((mu_ne q.1).trans ((mu_ne q.1).trans ((mu_ne q.1).trans ((mu_ne q.1).trans ((mu_ne q.1).trans ((mu_ne q.1).trans ((mu_ne q.1).trans ((mu_ne q.1).trans ((mu_ne q.1).trans (mU_in hk)))))))))), Eqv.rf⟩
