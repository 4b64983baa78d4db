set_option maxRecDepth 100000 in
set_option maxHeartbeats 4000000 in
theorem lp_X4 {p : Program} {l : Launch} {e : Env} {s : State} {m : MethodId} {args : Array Value} {below : List Frame} {meth : Method} {c : Code} {D : va_G} {B : Nat} {cy : Nat → ClassId} {r : Nat} (hr : r < 28) (X : Cn p (rmn 2 8) s m args meth c RX4 cX4_init 2 none D B cy (ro r + 1))
    (kE : Vn p l e (rmn 2 8) s m args below meth c 2 D B (4, r, 0) (ro r + 1) (QN D B cy below args s (ro r + 1) (4, r, 0) 8 (wRoof r)) (2 + 1 * 6) 73 [some (.ref (adB B (4, r, 0))), some (.int (nI 6))] [] (mL B cy (mU B cy m0 [(9, 0, r)]) 2 6 (4, r, 0) (11, r, 0) (cellW (adB B) cy g0 (4, r, 0)) (fun i => (3, r, i)) (fun i => [(3, r, i)]) 6)) : ∀ (q i : Nat), i + q = 6 → Vn p l e (rmn 2 8) s m args below meth c 2 D B (4, r, 0) (ro r + 1) (QN D B cy below args s (ro r + 1) (4, r, 0) 8 (wRoof r)) (2 + 1 * i) 48 [some (.ref (adB B (4, r, 0))), some (.int (nI i))] [] (mL B cy (mU B cy m0 [(9, 0, r)]) 2 6 (4, r, 0) (11, r, 0) (cellW (adB B) cy g0 (4, r, 0)) (fun i => (3, r, i)) (fun i => [(3, r, i)]) i) := by
  intro q
  induction q with
  | zero =>
    intro i hq
    have hi : i = 6 := by omega
    subst hi
    refine n_iloadn X dX4_init_48 rfl rfl ?_
    refine n_bipush (v := nI 6) X dX4_init_49 (by decide +kernel) ?_
    refine n_icmp_ge X 73 dX4_init_51 (by decide) (fun _ => kE) (fun hc => absurd ?_ hc)
    exact (nI_leI (by omega) (by omega)).mpr (Nat.le_refl _)
  | succ q ih =>
    intro i hq
    have hi : i < 6 := by omega
    refine n_iloadn X dX4_init_48 rfl rfl ?_
    refine n_bipush (v := nI 6) X dX4_init_49 (by decide +kernel) ?_
    refine n_icmp_ge X 73 dX4_init_51 (by decide) (fun hc => absurd ((nI_leI (by omega) (by omega)).mp hc) (by omega)) (fun _ => ?_)
    refine n_aloadn X dX4_init_54 rfl rfl ?_
    refine n_get (ci := 4) (fs := cellO (adB B) g0 4 r 0) (v := .ref (adB B (11, r, 0))) (fi := 6) X (k_roof hr) mu_self rfl inW4 (by decide) fl_X4_33 rfl dX4_init_55 ?_
    refine n_iloadn X dX4_init_58 rfl rfl ?_
    refine n_new (ci := 3) (fs := [.int 0, .int 0, .int 0, .int 0, .int 0, .int 0, .int 0]) X (3, r, i) (by simp only [off] <;> omega) rfl inW3 tyX3 tyX3_ok cl_X4_31 in_X3 ini_RX3 bf3 (by decide) (show 2 + 1 * i + 1 ≤ 8 by omega) (show 1300 * (2 + 1 * i + 1) ≤ 1300 * 8 by omega) dX4_init_59 ?_
    refine n_dup X dX4_init_62 rfl ?_
    refine n_call (e1 := .inr (3, [.int 0, .int 0, .int 0, .int 0, .int 0, .int 0, .int 0])) (w := (fun i => [(3, r, i)]) i) X (c_X3_init l D B cy _ hr hi) mc_X3_init im_X3 ini_RX3 rfl (by decide +kernel) ml_X4_37 (by decide) (show 2 + 1 * i + 1 + 0 ≤ 8 by omega) (show 1300 * (2 + 1 * i + 1 + 0) ≤ 1300 * 8 by omega) (k_paper hr hi) (by simp) mu_self (by simp only [off] <;> omega) (Nat.le_of_ble_eq_true rfl) dX4_init_63 ?_
    refine n_aast (r := (RX3, TX3, 7)) (vs := cellO (adB B) g0 3 r i) X 2 3 i (k_papers hr) (k_paper hr hi) (by simp only [off] <;> omega) (((mU_out (by simp)).trans ((mu_ne (by simp)).trans ((mu_ne (by simp)).trans mu_self)))) rfl (mU_in (by simp)) rfl rfl hi (by decide) dX4_init_66 ?_
    refine Vn.le (mL B cy (mU B cy m0 [(9, 0, r)]) 2 6 (4, r, 0) (11, r, 0) (cellW (adB B) cy g0 (4, r, 0)) (fun i => (3, r, i)) (fun i => [(3, r, i)]) (i + 1)) (mL_step (ke := fun i => (3, r, i)) (by simp) (by simp) (by simp) (by simp)) ?_
    refine n_iinc (v := nI (i + 1)) (lc' := [some (.ref (adB B (4, r, 0))), some (.int (nI (i + 1)))]) (x := nI i) X dX4_init_67 rfl (nI_1 i) (by decide) rfl rfl ?_
    refine n_goto X 48 dX4_init_70 (by decide) ?_
    exact Vn.cnt (show 2 + 1 * i + 1 + 0 = 2 + 1 * (i + 1) by omega) (ih (i + 1) (by omega))
set_option maxRecDepth 100000 in
set_option maxHeartbeats 4000000 in
theorem c_X4_init (l : Launch) (D : va_G) (B : Nat) (cy : Nat → ClassId) {r : Nat} (z : Nat) (hr : r < 28) (hz : ro r + 1 = z) : CtN l D B cy yX4_init cX4_init 2 2 8 z (4, r, 0) (.inr (4, [.int 0, .int 0, .int 0, .int 0, .int 0, .null, .null])) (wRoof r) := by
  subst hz
  have hk := k_roof hr
  refine CtN.of (own := RX4) 1 (by decide +kernel) rfl rfl (by decide) (fun p e s m args below meth c X hin => ?_)
  show Vn _ _ _ _ _ _ _ _ _ _ _ _ _ _ _ _ _ _ [some (.ref (adB B (4, r, 0))), none] [] _
  have fin : Vn p l e (rmn 2 8) s m args below meth c 2 D B (4, r, 0) (ro r + 1) (QN D B cy below args s (ro r + 1) (4, r, 0) 8 (wRoof r)) (2 + 1 * 6) 73 [some (.ref (adB B (4, r, 0))), some (.int (nI 6))] [] (mL B cy (mU B cy m0 [(9, 0, r)]) 2 6 (4, r, 0) (11, r, 0) (cellW (adB B) cy g0 (4, r, 0)) (fun i => (3, r, i)) (fun i => [(3, r, i)]) 6) := by
    refine n_vret X (fun k hk' => ?_) dX4_init_73
    simp only [wRoof, List.mem_cons] at hk'
    rcases hk' with rfl | rfl | rfl | hk'
    · exact ⟨hk, _, mu_self, Eqv.rf⟩
    · refine ⟨k_forces hr, _, ((mu_ne (by simp)).trans ((mu_ne (by simp)).trans ((mU_out ?_).trans (mU_in (by simp))))), Eqv.rf⟩
      rw [in_wN]
      rintro ⟨j, -, h⟩
      simp at h
    · refine ⟨k_papers hr, _, ((mu_ne (by simp)).trans mu_self), Eqv.arrR (fun k hk6 => ?_)⟩
      exact if_pos hk6
    · obtain ⟨j, hj, h⟩ := in_wN.mp hk'
      simp only [List.mem_cons, List.not_mem_nil, or_false] at h
      subst h
      exact ⟨k_paper hr hj, _, ((mu_ne (by simp)).trans ((mu_ne (by simp)).trans (mU_in hk'))), Eqv.rf⟩
  refine n_aloadn X dX4_init_0 rfl rfl ?_
  refine n_oinit X oi_X4 (Nat.le_of_ble_eq_true rfl) (Nat.le_of_ble_eq_true rfl) dX4_init_1 ?_
  refine n_aloadn X dX4_init_4 rfl rfl ?_
  refine n_iconst (v := 1) X dX4_init_5 (by decide) ?_
  refine n_put (ty := tyX4 0) (fi := 0) X hk mu_self rfl inW4 tyX4 tyX4_ok nmX4 (by decide) fl_X4_9 rfl (tyX4_ok 0 (by decide)) rfl rfl (Nat.le_of_ble_eq_true rfl) dX4_init_6 ?_
  refine n_aloadn X dX4_init_9 rfl rfl ?_
  refine n_iconst (v := 1) X dX4_init_10 (by decide) ?_
  refine n_put (ty := tyX4 1) (fi := 1) X hk mu_self rfl inW4 tyX4 tyX4_ok nmX4 (by decide) fl_X4_15 rfl (tyX4_ok 1 (by decide)) rfl rfl (Nat.le_of_ble_eq_true rfl) dX4_init_11 ?_
  refine n_aloadn X dX4_init_14 rfl rfl ?_
  refine n_iconst (v := 0) X dX4_init_15 (by decide) ?_
  refine n_put (ty := tyX4 2) (fi := 2) X hk mu_self rfl inW4 tyX4 tyX4_ok nmX4 (by decide) fl_X4_18 rfl (tyX4_ok 2 (by decide)) rfl rfl (Nat.le_of_ble_eq_true rfl) dX4_init_16 ?_
  refine n_aloadn X dX4_init_19 rfl rfl ?_
  refine n_iconst (v := 0) X dX4_init_20 (by decide) ?_
  refine n_put (ty := tyX4 3) (fi := 3) X hk mu_self rfl inW4 tyX4 tyX4_ok nmX4 (by decide) fl_X4_21 rfl (tyX4_ok 3 (by decide)) rfl rfl (Nat.le_of_ble_eq_true rfl) dX4_init_21 ?_
  refine n_aloadn X dX4_init_24 rfl rfl ?_
  refine n_iconst (v := 0) X dX4_init_25 (by decide) ?_
  refine n_put (ty := tyX4 4) (fi := 4) X hk mu_self rfl inW4 tyX4 tyX4_ok nmX4 (by decide) fl_X4_24 rfl (tyX4_ok 4 (by decide)) rfl rfl (Nat.le_of_ble_eq_true rfl) dX4_init_26 ?_
  refine n_aloadn X dX4_init_29 rfl rfl ?_
  refine n_bipush (v := 6) X dX4_init_30 (by decide) ?_
  refine n_newa (N' := 6) X (9, 0, r) (by simp only [off] <;> omega) (by decide) (by decide) (by decide) (Nat.le_of_ble_eq_true rfl) (Nat.le_of_ble_eq_true rfl) dX4_init_32 ?_
  refine n_putF (ty := tyX4 5) (fi := 5) X hin hk ((mu_ne (by simp)).trans mu_self) rfl inW4 tyX4 tyX4_ok nmX4 (by decide) fl_X4_27 rfl rfl (tyX4_ok 5 (by decide)) rfl rfl (Nat.le_of_ble_eq_true rfl) dX4_init_34 ?_
  refine n_aloadn X dX4_init_37 rfl rfl ?_
  refine n_bipush (v := 6) X dX4_init_38 (by decide) ?_
  refine n_anew (C := RX3) (N' := 6) X (11, r, 0) 2 (by simp only [off] <;> omega) rfl cl_X4_31 X.2.2.1 (by decide) (by decide) (by decide) (Nat.le_of_ble_eq_true rfl) (Nat.le_of_ble_eq_true rfl) dX4_init_40 ?_
  refine n_putF (ty := tyX4 6) (fi := 6) X hin hk ((mu_ne (by simp)).trans mu_self) rfl inW4 tyX4 tyX4_ok nmX4 (by decide) fl_X4_33 rfl rfl (tyX4_ok 6 (by decide)) rfl rfl (Nat.le_of_ble_eq_true rfl) dX4_init_43 ?_
  refine n_iconst (v := nI 0) X dX4_init_46 (by decide +kernel) ?_
  refine n_istoren (lc' := [some (.ref (adB B (4, r, 0))), some (.int (nI 0))]) X dX4_init_47 rfl (by decide) rfl rfl ?_
  refine Vn.le _ (mL_zero (e1 := cellW (adB B) cy g0 (4, r, 0)) mu_self Eqv.rf ((mu_ne (by simp)).trans mu_self) (Le.mU (fun k hk' => ?_) Le.m0)) (Vn.cnt rfl (lp_X4 hr X fin 6 0 rfl))
  simp only [List.mem_cons, List.not_mem_nil, or_false] at hk'
  subst hk'
  exact ⟨_, ((mu_ne (by simp)).trans ((mu_ne (by simp)).trans ((mu_ne (by simp)).trans mu_self))), Eqv.of rfl⟩
