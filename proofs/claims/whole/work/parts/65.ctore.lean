set_option maxRecDepth 100000 in
set_option maxHeartbeats 4000000 in
theorem lp_X7a {p : Program} {l : Launch} {e : Env} {s : State} {m : MethodId} {args : Array Value} {below : List Frame} {meth : Method} {c : Code} {D : va_G} {B : Nat} {cy : Nat → ClassId} (X : Cn p (rmn 4 277) s m args meth c RX7 cX7_init 2 none D B cy 1)
    (kE : Vn p l e (rmn 4 277) s m args below meth c 2 D B (7, 0, 0) 1 (QN D B cy below args s 1 (7, 0, 0) 277 w7) (243 + 2 * 8) 124 [some (.ref (adB B (7, 0, 0))), some (.int (nI 8))] [] (mL B cy (mu (mU B cy (mU B cy (mU B cy (mU B cy m0 w6) w2) w0) w1) (12, 1, 0) (.inl (cy 3, 2, .inr (.inr (.inr (.inr (fun _ => none))))))) 4 8 (7, 0, 0) (13, 0, 0) (cellW (adB B) cy g0 (7, 0, 0)) (fun i => (5, i, 0)) wRow 8)) : ∀ (q i : Nat), i + q = 8 → Vn p l e (rmn 4 277) s m args below meth c 2 D B (7, 0, 0) 1 (QN D B cy below args s 1 (7, 0, 0) 277 w7) (243 + 2 * i) 99 [some (.ref (adB B (7, 0, 0))), some (.int (nI i))] [] (mL B cy (mu (mU B cy (mU B cy (mU B cy (mU B cy m0 w6) w2) w0) w1) (12, 1, 0) (.inl (cy 3, 2, .inr (.inr (.inr (.inr (fun _ => none))))))) 4 8 (7, 0, 0) (13, 0, 0) (cellW (adB B) cy g0 (7, 0, 0)) (fun i => (5, i, 0)) wRow i) := by
  intro q
  induction q with
  | zero =>
    intro i hq
    have hi : i = 8 := by omega
    subst hi
    refine n_iloadn X dX7_init_99 rfl rfl ?_
    refine n_bipush (v := nI 8) X dX7_init_100 (by decide +kernel) ?_
    refine n_icmp_ge X 124 dX7_init_102 (by decide) (fun _ => kE) (fun hc => absurd ?_ hc)
    exact (nI_leI (by omega) (by omega)).mpr (Nat.le_refl _)
  | succ q ih =>
    intro i hq
    have hi : i < 8 := by omega
    refine n_iloadn X dX7_init_99 rfl rfl ?_
    refine n_bipush (v := nI 8) X dX7_init_100 (by decide +kernel) ?_
    refine n_icmp_ge X 124 dX7_init_102 (by decide) (fun hc => absurd ((nI_leI (by omega) (by omega)).mp hc) (by omega)) (fun _ => ?_)
    refine n_aloadn X dX7_init_105 rfl rfl ?_
    refine n_get (ci := 7) (fs := cellO (adB B) g0 7 0 0) (v := .ref (adB B (13, 0, 0))) (fi := 0) X (by decide +kernel) mu_self rfl inW7 (by decide) fl_X7_11 rfl dX7_init_106 ?_
    refine n_iloadn X dX7_init_109 rfl rfl ?_
    refine n_new (ci := 5) (fs := [.int 0, .int 0, .null]) X (5, i, 0) (by simp only [off] <;> omega) rfl inW5 tyX5 tyX5_ok cl_X7_9 in_X5 ini_RX5 bf5 (by decide) (show 243 + 2 * i + 1 ≤ 277 by omega) (show 1300 * (243 + 2 * i + 1) ≤ 1300 * 277 by omega) dX7_init_110 ?_
    refine n_dup X dX7_init_113 rfl ?_
    refine n_call (e1 := .inr (5, [.int 0, .int 0, .null])) (w := wRow i) X (c_X5_init l D B cy _ hi (by simp only [off] <;> omega)) mc_X5_init im_X5 ini_RX5 rfl (by decide +kernel) ml_X7_65 (by decide) (show 243 + 2 * i + 1 + 1 ≤ 277 by omega) (show 1300 * (243 + 2 * i + 1 + 1) ≤ 1300 * 277 by omega) (k_row hi) List.mem_cons_self mu_self (by simp only [off] <;> omega) (Nat.le_of_ble_eq_true rfl) dX7_init_114 ?_
    refine n_aast (r := (RX5, TX5, 3)) (vs := cellO (adB B) g0 5 i 0) X 4 5 i (by decide +kernel) (k_row hi) (Nat.le_of_ble_eq_true rfl) (((mU_out (by simp [wRow])).trans ((mu_ne (by simp)).trans ((mu_ne (by simp)).trans mu_self)))) rfl (mU_in List.mem_cons_self) rfl rfl hi (by decide) dX7_init_117 ?_
    refine Vn.le (mL B cy (mu (mU B cy (mU B cy (mU B cy (mU B cy m0 w6) w2) w0) w1) (12, 1, 0) (.inl (cy 3, 2, .inr (.inr (.inr (.inr (fun _ => none))))))) 4 8 (7, 0, 0) (13, 0, 0) (cellW (adB B) cy g0 (7, 0, 0)) (fun i => (5, i, 0)) wRow (i + 1)) (mL_step (ke := fun i => (5, i, 0)) (by simp) (by simp [wRow]) (by simp [wRow]) List.mem_cons_self) ?_
    refine n_iinc (v := nI (i + 1)) (lc' := [some (.ref (adB B (7, 0, 0))), some (.int (nI (i + 1)))]) (x := nI i) X dX7_init_118 rfl (nI_1 i) (by decide) rfl rfl ?_
    refine n_goto X 99 dX7_init_121 (by decide) ?_
    exact Vn.cnt (show 243 + 2 * i + 1 + 1 = 243 + 2 * (i + 1) by omega) (ih (i + 1) (by omega))
set_option maxRecDepth 100000 in
set_option maxHeartbeats 4000000 in
theorem lp_X7b {p : Program} {l : Launch} {e : Env} {s : State} {m : MethodId} {args : Array Value} {below : List Frame} {meth : Method} {c : Code} {D : va_G} {B : Nat} {cy : Nat → ClassId} (X : Cn p (rmn 4 277) s m args meth c RX7 cX7_init 2 none D B cy 1)
    (kE : Vn p l e (rmn 4 277) s m args below meth c 2 D B (7, 0, 0) 1 (QN D B cy below args s 1 (7, 0, 0) 277 w7) (259 + 9 * 2) 150 [some (.ref (adB B (7, 0, 0))), some (.int (nI 2))] [] (mL B cy (mu (mU B cy (mU B cy (mU B cy (mU B cy (mU B cy m0 w6) w2) w0) w1) wRows) (13, 0, 0) (cellW (adB B) cy g0 (13, 0, 0))) 3 2 (7, 0, 0) (12, 1, 0) (cellW (adB B) cy g0 (7, 0, 0)) (fun i => (4, 26 + i, 0)) (fun i => wRoof (26 + i)) 2)) : ∀ (q i : Nat), i + q = 2 → Vn p l e (rmn 4 277) s m args below meth c 2 D B (7, 0, 0) 1 (QN D B cy below args s 1 (7, 0, 0) 277 w7) (259 + 9 * i) 126 [some (.ref (adB B (7, 0, 0))), some (.int (nI i))] [] (mL B cy (mu (mU B cy (mU B cy (mU B cy (mU B cy (mU B cy m0 w6) w2) w0) w1) wRows) (13, 0, 0) (cellW (adB B) cy g0 (13, 0, 0))) 3 2 (7, 0, 0) (12, 1, 0) (cellW (adB B) cy g0 (7, 0, 0)) (fun i => (4, 26 + i, 0)) (fun i => wRoof (26 + i)) i) := by
  intro q
  induction q with
  | zero =>
    intro i hq
    have hi : i = 2 := by omega
    subst hi
    refine n_iloadn X dX7_init_126 rfl rfl ?_
    refine n_iconst (v := nI 2) X dX7_init_127 (by decide +kernel) ?_
    refine n_icmp_ge X 150 dX7_init_128 (by decide) (fun _ => kE) (fun hc => absurd ?_ hc)
    exact (nI_leI (by omega) (by omega)).mpr (Nat.le_refl _)
  | succ q ih =>
    intro i hq
    have hi : i < 2 := by omega
    refine n_iloadn X dX7_init_126 rfl rfl ?_
    refine n_iconst (v := nI 2) X dX7_init_127 (by decide +kernel) ?_
    refine n_icmp_ge X 150 dX7_init_128 (by decide) (fun hc => absurd ((nI_leI (by omega) (by omega)).mp hc) (by omega)) (fun _ => ?_)
    refine n_aloadn X dX7_init_131 rfl rfl ?_
    refine n_get (ci := 7) (fs := cellO (adB B) g0 7 0 0) (v := .ref (adB B (12, 1, 0))) (fi := 6) X (by decide +kernel) mu_self rfl inW7 (by decide) fl_X7_47 rfl dX7_init_132 ?_
    refine n_iloadn X dX7_init_135 rfl rfl ?_
    refine n_new (ci := 4) (fs := [.int 0, .int 0, .int 0, .int 0, .int 0, .null, .null]) X (4, 26 + i, 0) (by simp only [off, ro_img hi] <;> omega) rfl inW4 tyX4 tyX4_ok cl_X7_45 in_X4 ini_RX4 bf4 (by decide) (show 259 + 9 * i + 1 ≤ 277 by omega) (show 1300 * (259 + 9 * i + 1) ≤ 1300 * 277 by omega) dX7_init_136 ?_
    refine n_dup X dX7_init_139 rfl ?_
    refine n_call (e1 := .inr (4, [.int 0, .int 0, .int 0, .int 0, .int 0, .null, .null])) (w := (fun i => wRoof (26 + i)) i) X (c_X4_init l D B cy _ (show 26 + i < 28 by omega) (by rw [ro_img hi]; omega)) mc_X4_init im_X4 ini_RX4 rfl (by decide +kernel) ml_X7_66 (by decide) (show 259 + 9 * i + 1 + 8 ≤ 277 by omega) (show 1300 * (259 + 9 * i + 1 + 8) ≤ 1300 * 277 by omega) (k_roof (show 26 + i < 28 by omega)) List.mem_cons_self mu_self (by simp only [off, ro_img hi] <;> omega) (Nat.le_of_ble_eq_true rfl) dX7_init_140 ?_
    refine n_aast (r := (RX4, TX4, 7)) (vs := cellO (adB B) g0 4 (26 + i) 0) X 3 4 i (by decide +kernel) (k_roof (show 26 + i < 28 by omega)) (Nat.le_of_ble_eq_true rfl) (((mU_out (roof_out (by decide))).trans ((mu_ne (by simp)).trans ((mu_ne (by simp)).trans mu_self)))) rfl (mU_in List.mem_cons_self) rfl rfl hi (by decide) dX7_init_143 ?_
    refine Vn.le (mL B cy (mu (mU B cy (mU B cy (mU B cy (mU B cy (mU B cy m0 w6) w2) w0) w1) wRows) (13, 0, 0) (cellW (adB B) cy g0 (13, 0, 0))) 3 2 (7, 0, 0) (12, 1, 0) (cellW (adB B) cy g0 (7, 0, 0)) (fun i => (4, 26 + i, 0)) (fun i => wRoof (26 + i)) (i + 1)) (mL_step (ke := fun i => (4, 26 + i, 0)) (by simp) (roof_out (by decide)) (roof_out (by decide)) List.mem_cons_self) ?_
    refine n_iinc (v := nI (i + 1)) (lc' := [some (.ref (adB B (7, 0, 0))), some (.int (nI (i + 1)))]) (x := nI i) X dX7_init_144 rfl (nI_1 i) (by decide) rfl rfl ?_
    refine n_goto X 126 dX7_init_147 (by decide) ?_
    exact Vn.cnt (show 259 + 9 * i + 1 + 8 = 259 + 9 * (i + 1) by omega) (ih (i + 1) (by omega))
set_option maxRecDepth 100000 in
theorem ft71_w6 : ∀ k ∈ w6, k ≠ (7, 0, 0) ∧ ¬ k ∈ w1 ∧ k ≠ (1, 0, 0) ∧ k ≠ (12, 1, 0) ∧ ¬ k ∈ w0 ∧ k ≠ (0, 0, 0) ∧ ¬ k ∈ w2 ∧ k ≠ (2, 0, 0) ∧ True := by decide +kernel
set_option maxRecDepth 100000 in
theorem ft71_w2 : ∀ k ∈ w2, k ≠ (7, 0, 0) ∧ ¬ k ∈ w1 ∧ k ≠ (1, 0, 0) ∧ k ≠ (12, 1, 0) ∧ ¬ k ∈ w0 ∧ k ≠ (0, 0, 0) ∧ True := by decide +kernel
set_option maxRecDepth 100000 in
theorem ft71_w0 : ∀ k ∈ w0, k ≠ (7, 0, 0) ∧ ¬ k ∈ w1 ∧ k ≠ (1, 0, 0) ∧ k ≠ (12, 1, 0) ∧ True := by decide +kernel
set_option maxRecDepth 100000 in
theorem ft71_w1 : ∀ k ∈ w1, k ≠ (7, 0, 0) ∧ True := by decide +kernel
set_option maxRecDepth 100000 in
theorem ft72_w6 : ∀ k ∈ w6, k ≠ (7, 0, 0) ∧ k ≠ (13, 0, 0) ∧ ¬ k ∈ wRows ∧ k ≠ (12, 1, 0) ∧ ¬ k ∈ w1 ∧ ¬ k ∈ w0 ∧ ¬ k ∈ w2 ∧ True := by decide +kernel
set_option maxRecDepth 100000 in
theorem ft72_w2 : ∀ k ∈ w2, k ≠ (7, 0, 0) ∧ k ≠ (13, 0, 0) ∧ ¬ k ∈ wRows ∧ k ≠ (12, 1, 0) ∧ ¬ k ∈ w1 ∧ ¬ k ∈ w0 ∧ True := by decide +kernel
set_option maxRecDepth 100000 in
theorem ft72_w0 : ∀ k ∈ w0, k ≠ (7, 0, 0) ∧ k ≠ (13, 0, 0) ∧ ¬ k ∈ wRows ∧ k ≠ (12, 1, 0) ∧ ¬ k ∈ w1 ∧ True := by decide +kernel
set_option maxRecDepth 100000 in
theorem ft72_w1 : ∀ k ∈ w1, k ≠ (7, 0, 0) ∧ k ≠ (13, 0, 0) ∧ ¬ k ∈ wRows ∧ k ≠ (12, 1, 0) ∧ True := by decide +kernel
set_option maxRecDepth 100000 in
theorem ft72_wRows : ∀ k ∈ wRows, k ≠ (7, 0, 0) ∧ k ≠ (13, 0, 0) ∧ True := by decide +kernel
set_option maxRecDepth 100000 in
theorem ft73_w6 : ∀ k ∈ w6, k ≠ (7, 0, 0) ∧ k ≠ (12, 1, 0) ∧ ¬ k ∈ wImgs ∧ k ≠ (13, 0, 0) ∧ ¬ k ∈ wRows ∧ ¬ k ∈ w1 ∧ ¬ k ∈ w0 ∧ ¬ k ∈ w2 ∧ True := by decide +kernel
set_option maxRecDepth 100000 in
theorem ft73_w2 : ∀ k ∈ w2, k ≠ (7, 0, 0) ∧ k ≠ (12, 1, 0) ∧ ¬ k ∈ wImgs ∧ k ≠ (13, 0, 0) ∧ ¬ k ∈ wRows ∧ ¬ k ∈ w1 ∧ ¬ k ∈ w0 ∧ True := by decide +kernel
set_option maxRecDepth 100000 in
theorem ft73_w0 : ∀ k ∈ w0, k ≠ (7, 0, 0) ∧ k ≠ (12, 1, 0) ∧ ¬ k ∈ wImgs ∧ k ≠ (13, 0, 0) ∧ ¬ k ∈ wRows ∧ ¬ k ∈ w1 ∧ True := by decide +kernel
set_option maxRecDepth 100000 in
theorem ft73_w1 : ∀ k ∈ w1, k ≠ (7, 0, 0) ∧ k ≠ (12, 1, 0) ∧ ¬ k ∈ wImgs ∧ k ≠ (13, 0, 0) ∧ ¬ k ∈ wRows ∧ True := by decide +kernel
set_option maxRecDepth 100000 in
theorem ft73_wRows : ∀ k ∈ wRows, k ≠ (7, 0, 0) ∧ k ≠ (12, 1, 0) ∧ ¬ k ∈ wImgs ∧ k ≠ (13, 0, 0) ∧ True := by decide +kernel
set_option maxRecDepth 100000 in
theorem ft73_wImgs : ∀ k ∈ wImgs, k ≠ (7, 0, 0) ∧ k ≠ (12, 1, 0) ∧ True := by decide +kernel
set_option maxRecDepth 100000 in
theorem kin7 : ∀ k ∈ w7, k ∈ keys := by decide +kernel
set_option maxRecDepth 100000 in
set_option maxHeartbeats 4000000 in
theorem x7_end {p : Program} {l : Launch} {e : Env} {s : State} {m : MethodId} {args : Array Value} {below : List Frame} {meth : Method} {c : Code} {D : va_G} {B : Nat} {cy : Nat → ClassId} (X : Cn p (rmn 4 277) s m args meth c RX7 cX7_init 2 none D B cy 1) : Vn p l e (rmn 4 277) s m args below meth c 2 D B (7, 0, 0) 1 (QN D B cy below args s 1 (7, 0, 0) 277 w7) (259 + 9 * 2) 150 [some (.ref (adB B (7, 0, 0))), some (.int (nI 2))] [] (mL B cy (mu (mU B cy (mU B cy (mU B cy (mU B cy (mU B cy m0 w6) w2) w0) w1) wRows) (13, 0, 0) (cellW (adB B) cy g0 (13, 0, 0))) 3 2 (7, 0, 0) (12, 1, 0) (cellW (adB B) cy g0 (7, 0, 0)) (fun i => (4, 26 + i, 0)) (fun i => wRoof (26 + i)) 2) := by
  refine n_vret X (fun k hk' => ⟨kin7 k hk', ?_⟩) dX7_init_150
  simp only [w7, List.mem_cons, List.mem_append] at hk'
  rcases hk' with rfl | rfl | rfl | hk | hk | hk | hk | hk | hk
  · exact ⟨_, mu_self, Eqv.rf⟩
  · exact ⟨_, ((mu_ne (by simp)).trans mu_self), Eqv.arrR (fun k hk6 => if_pos hk6)⟩
  · exact ⟨_, ((mu_ne (by simp)).trans ((mu_ne (by simp)).trans ((mU_out (by decide +kernel)).trans mu_self))), Eqv.rf⟩
  · have q := ft73_wImgs k hk
    exact ⟨_, ((mu_ne q.1).trans ((mu_ne q.2.1).trans (mU_in hk))), Eqv.rf⟩
  · have q := ft73_wRows k hk
    exact ⟨_, ((mu_ne q.1).trans ((mu_ne q.2.1).trans ((mU_out q.2.2.1).trans ((mu_ne q.2.2.2.1).trans (mU_in hk))))), Eqv.rf⟩
  · have q := ft73_w1 k hk
    exact ⟨_, ((mu_ne q.1).trans ((mu_ne q.2.1).trans ((mU_out q.2.2.1).trans ((mu_ne q.2.2.2.1).trans ((mU_out q.2.2.2.2.1).trans (mU_in hk)))))), Eqv.rf⟩
  · have q := ft73_w0 k hk
    exact ⟨_, ((mu_ne q.1).trans ((mu_ne q.2.1).trans ((mU_out q.2.2.1).trans ((mu_ne q.2.2.2.1).trans ((mU_out q.2.2.2.2.1).trans ((mU_out q.2.2.2.2.2.1).trans (mU_in hk))))))), Eqv.rf⟩
  · have q := ft73_w2 k hk
    exact ⟨_, ((mu_ne q.1).trans ((mu_ne q.2.1).trans ((mU_out q.2.2.1).trans ((mu_ne q.2.2.2.1).trans ((mU_out q.2.2.2.2.1).trans ((mU_out q.2.2.2.2.2.1).trans ((mU_out q.2.2.2.2.2.2.1).trans (mU_in hk)))))))), Eqv.rf⟩
  · have q := ft73_w6 k hk
    exact ⟨_, ((mu_ne q.1).trans ((mu_ne q.2.1).trans ((mU_out q.2.2.1).trans ((mu_ne q.2.2.2.1).trans ((mU_out q.2.2.2.2.1).trans ((mU_out q.2.2.2.2.2.1).trans ((mU_out q.2.2.2.2.2.2.1).trans ((mU_out q.2.2.2.2.2.2.2.1).trans (mU_in hk))))))))), Eqv.rf⟩
set_option maxRecDepth 100000 in
set_option maxHeartbeats 4000000 in
theorem x7_mid {p : Program} {l : Launch} {e : Env} {s : State} {m : MethodId} {args : Array Value} {below : List Frame} {meth : Method} {c : Code} {D : va_G} {B : Nat} {cy : Nat → ClassId} (X : Cn p (rmn 4 277) s m args meth c RX7 cX7_init 2 none D B cy 1) : Vn p l e (rmn 4 277) s m args below meth c 2 D B (7, 0, 0) 1 (QN D B cy below args s 1 (7, 0, 0) 277 w7) (243 + 2 * 8) 124 [some (.ref (adB B (7, 0, 0))), some (.int (nI 8))] [] (mL B cy (mu (mU B cy (mU B cy (mU B cy (mU B cy m0 w6) w2) w0) w1) (12, 1, 0) (.inl (cy 3, 2, .inr (.inr (.inr (.inr (fun _ => none))))))) 4 8 (7, 0, 0) (13, 0, 0) (cellW (adB B) cy g0 (7, 0, 0)) (fun i => (5, i, 0)) wRow 8) := by
  refine n_iconst (v := nI 0) X dX7_init_124 (by decide +kernel) ?_
  refine n_istoren (lc' := [some (.ref (adB B (7, 0, 0))), some (.int (nI 0))]) X dX7_init_125 rfl (by decide) rfl rfl ?_
  refine Vn.le (mL B cy (mu (mU B cy (mU B cy (mU B cy (mU B cy (mU B cy m0 w6) w2) w0) w1) wRows) (13, 0, 0) (cellW (adB B) cy g0 (13, 0, 0))) 3 2 (7, 0, 0) (12, 1, 0) (cellW (adB B) cy g0 (7, 0, 0)) (fun i => (4, 26 + i, 0)) (fun i => wRoof (26 + i)) 0) ?_ (Vn.cnt rfl (lp_X7b X (x7_end X) 2 0 rfl))
  refine mL_zero mu_self Eqv.rf ((mu_ne (by simp)).trans ((mu_ne (by simp)).trans ((mU_out (by decide +kernel)).trans mu_self))) ?_
  refine Le.mu ((mu_ne (by simp)).trans mu_self) (Eqv.arrR (fun k hk6 => if_pos hk6)) ?_
  exact Le.mU (fun k hk => let q := ft72_wRows k hk; ⟨_, ((mu_ne q.1).trans ((mu_ne q.2.1).trans (mU_in hk))), Eqv.rf⟩) (Le.mU (fun k hk => let q := ft72_w1 k hk; ⟨_, ((mu_ne q.1).trans ((mu_ne q.2.1).trans ((mU_out q.2.2.1).trans ((mu_ne q.2.2.2.1).trans (mU_in hk))))), Eqv.rf⟩) (Le.mU (fun k hk => let q := ft72_w0 k hk; ⟨_, ((mu_ne q.1).trans ((mu_ne q.2.1).trans ((mU_out q.2.2.1).trans ((mu_ne q.2.2.2.1).trans ((mU_out q.2.2.2.2.1).trans (mU_in hk)))))), Eqv.rf⟩) (Le.mU (fun k hk => let q := ft72_w2 k hk; ⟨_, ((mu_ne q.1).trans ((mu_ne q.2.1).trans ((mU_out q.2.2.1).trans ((mu_ne q.2.2.2.1).trans ((mU_out q.2.2.2.2.1).trans ((mU_out q.2.2.2.2.2.1).trans (mU_in hk))))))), Eqv.rf⟩) (Le.mU (fun k hk => let q := ft72_w6 k hk; ⟨_, ((mu_ne q.1).trans ((mu_ne q.2.1).trans ((mU_out q.2.2.1).trans ((mu_ne q.2.2.2.1).trans ((mU_out q.2.2.2.2.1).trans ((mU_out q.2.2.2.2.2.1).trans ((mU_out q.2.2.2.2.2.2.1).trans (mU_in hk)))))))), Eqv.rf⟩) Le.m0))))
set_option maxRecDepth 100000 in
set_option maxHeartbeats 4000000 in
theorem c_X7_init (l : Launch) (D : va_G) (B : Nat) (cy : Nat → ClassId) : CtN l D B cy yX7_init cX7_init 2 4 277 1 (7, 0, 0) (.inr (7, [.null, .null, .null, .null, .null, .null, .null, .null, .int 0, .int 0])) w7 := by
  refine CtN.of (own := RX7) 1 (by decide +kernel) rfl rfl (by decide) (fun p e s m args below meth c X hin => ?_)
  show Vn _ _ _ _ _ _ _ _ _ _ _ _ _ _ _ _ _ _ [some (.ref (adB B (7, 0, 0))), none] [] _
  refine n_aloadn X dX7_init_0 rfl rfl ?_
  refine n_oinit X oi_X7 (Nat.le_of_ble_eq_true rfl) (Nat.le_of_ble_eq_true rfl) dX7_init_1 ?_
  refine n_aloadn X dX7_init_4 rfl rfl ?_
  refine n_bipush (v := 8) X dX7_init_5 (by decide) ?_
  refine n_anew (C := RX5) (N' := 8) X (13, 0, 0) 4 rfl rfl cl_X7_9 X.2.2.2.2 (by decide) (by decide) (by decide) (Nat.le_of_ble_eq_true rfl) (Nat.le_of_ble_eq_true rfl) dX7_init_7 ?_
  refine n_putF (ty := tyX7 0) (fi := 0) X hin (by decide +kernel) ((mu_ne (by simp)).trans mu_self) rfl inW7 tyX7 tyX7_ok nmX7 (by decide) fl_X7_11 rfl rfl (tyX7_ok 0 (by decide)) rfl rfl (Nat.le_of_ble_eq_true rfl) dX7_init_10 ?_
  refine n_aloadn X dX7_init_13 rfl rfl ?_
  refine n_new (ci := 6) (fs := [.null, .int 0, .int 0, .int 0]) X (6, 0, 0) rfl rfl inW6 tyX6 tyX6_ok cl_X7_15 in_X6 ini_RX6 bf6 (by decide) (Nat.le_of_ble_eq_true rfl) (Nat.le_of_ble_eq_true rfl) dX7_init_14 ?_
  refine n_dup X dX7_init_17 rfl ?_
  refine n_call (e1 := .inr (6, [.null, .int 0, .int 0, .int 0])) (w := w6) X (c_X6_init l D B cy) mc_X6_init im_X6 ini_RX6 rfl (by decide +kernel) ml_X7_17 (by decide) (Nat.le_of_ble_eq_true rfl) (Nat.le_of_ble_eq_true rfl) (by decide +kernel) (by decide +kernel) mu_self (Nat.le_of_ble_eq_true rfl) (Nat.le_of_ble_eq_true rfl) dX7_init_18 ?_
  refine n_putF (ty := tyX7 1) (fi := 1) X hin (by decide +kernel) ((mU_out (by decide +kernel)).trans ((mu_ne (by simp)).trans mu_self)) rfl inW7 tyX7 tyX7_ok nmX7 (by decide) fl_X7_18 rfl rfl (tyX7_ok 1 (by decide)) rfl rfl (Nat.le_of_ble_eq_true rfl) dX7_init_21 ?_
  refine n_aloadn X dX7_init_24 rfl rfl ?_
  refine n_new (ci := 2) (fs := [.null, .null, .int 0, .null, .int 0, .int 0, .int 0, .int 0, .int 0, .int 0]) X (2, 0, 0) rfl rfl inW2 tyX2 tyX2_ok cl_X7_22 in_X2 ini_RX2 bf2 (by decide) (Nat.le_of_ble_eq_true rfl) (Nat.le_of_ble_eq_true rfl) dX7_init_25 ?_
  refine n_dup X dX7_init_28 rfl ?_
  refine n_call (e1 := .inr (2, [.null, .null, .int 0, .null, .int 0, .int 0, .int 0, .int 0, .int 0, .int 0])) (w := w2) X (c_X2_init l D B cy) mc_X2_init im_X2 ini_RX2 rfl (by decide +kernel) ml_X7_24 (by decide) (Nat.le_of_ble_eq_true rfl) (Nat.le_of_ble_eq_true rfl) (by decide +kernel) (by decide +kernel) mu_self (Nat.le_of_ble_eq_true rfl) (Nat.le_of_ble_eq_true rfl) dX7_init_29 ?_
  refine n_putF (ty := tyX7 2) (fi := 2) X hin (by decide +kernel) ((mU_out (by decide +kernel)).trans ((mu_ne (by simp)).trans mu_self)) rfl inW7 tyX7 tyX7_ok nmX7 (by decide) fl_X7_25 rfl rfl (tyX7_ok 2 (by decide)) rfl rfl (Nat.le_of_ble_eq_true rfl) dX7_init_32 ?_
  refine n_aloadn X dX7_init_35 rfl rfl ?_
  refine n_aloadn X dX7_init_36 rfl rfl ?_
  refine n_get (ci := 7) (fi := 2) (v := .ref (adB B (2, 0, 0))) X (by decide +kernel) mu_self rfl inW7 (by decide) fl_X7_25 rfl dX7_init_37 ?_
  refine n_get (k1 := (2, 0, 0)) (ci := 2) (fs := cellO (adB B) g0 2 0 0) (fi := 0) (v := .ref (adB B (4, 0, 0))) X (by decide +kernel) ((mu_ne (by simp)).trans (mU_in (by decide +kernel))) rfl inW2 (by decide) fl_X7_29 rfl dX7_init_40 ?_
  refine n_putF (ty := tyX7 3) (fi := 3) X hin (by decide +kernel) mu_self rfl inW7 tyX7 tyX7_ok nmX7 (by decide) fl_X7_33 rfl rfl (tyX7_ok 3 (by decide)) rfl rfl (Nat.le_of_ble_eq_true rfl) dX7_init_43 ?_
  refine n_aloadn X dX7_init_46 rfl rfl ?_
  refine n_aloadn X dX7_init_47 rfl rfl ?_
  refine n_get (ci := 7) (fi := 2) (v := .ref (adB B (2, 0, 0))) X (by decide +kernel) mu_self rfl inW7 (by decide) fl_X7_25 rfl dX7_init_48 ?_
  refine n_get (k1 := (2, 0, 0)) (ci := 2) (fs := cellO (adB B) g0 2 0 0) (fi := 1) (v := .ref (adB B (4, 1, 0))) X (by decide +kernel) ((mu_ne (by simp)).trans ((mu_ne (by simp)).trans (mU_in (by decide +kernel)))) rfl inW2 (by decide) fl_X7_34 rfl dX7_init_51 ?_
  refine n_putF (ty := tyX7 4) (fi := 4) X hin (by decide +kernel) mu_self rfl inW7 tyX7 tyX7_ok nmX7 (by decide) fl_X7_37 rfl rfl (tyX7_ok 4 (by decide)) rfl rfl (Nat.le_of_ble_eq_true rfl) dX7_init_54 ?_
  refine n_aloadn X dX7_init_57 rfl rfl ?_
  refine n_new (ci := 0) (fs := [.null, .int 0, .int 0]) X (0, 0, 0) rfl rfl inW0 tyX0 tyX0_ok cl_X7_38 in_X0 ini_RX0 bf0 (by decide) (Nat.le_of_ble_eq_true rfl) (Nat.le_of_ble_eq_true rfl) dX7_init_58 ?_
  refine n_dup X dX7_init_61 rfl ?_
  refine n_call (e1 := .inr (0, [.null, .int 0, .int 0])) (w := w0) X (c_X0_init l D B cy) mc_X0_init im_X0 ini_RX0 rfl (by decide +kernel) ml_X7_40 (by decide) (Nat.le_of_ble_eq_true rfl) (Nat.le_of_ble_eq_true rfl) (by decide +kernel) (by decide +kernel) mu_self (Nat.le_of_ble_eq_true rfl) (Nat.le_of_ble_eq_true rfl) dX7_init_62 ?_
  refine n_putF (ty := tyX7 5) (fi := 5) X hin (by decide +kernel) ((mU_out (by decide +kernel)).trans ((mu_ne (by simp)).trans mu_self)) rfl inW7 tyX7 tyX7_ok nmX7 (by decide) fl_X7_41 rfl rfl (tyX7_ok 5 (by decide)) rfl rfl (Nat.le_of_ble_eq_true rfl) dX7_init_65 ?_
  refine n_aloadn X dX7_init_68 rfl rfl ?_
  refine n_iconst (v := 2) X dX7_init_69 (by decide) ?_
  refine n_anew (C := RX4) (N' := 2) X (12, 1, 0) 3 rfl rfl cl_X7_45 X.2.2.2.1 (by decide) (by decide) (by decide) (Nat.le_of_ble_eq_true rfl) (Nat.le_of_ble_eq_true rfl) dX7_init_70 ?_
  refine n_putF (ty := tyX7 6) (fi := 6) X hin (by decide +kernel) ((mu_ne (by simp)).trans mu_self) rfl inW7 tyX7 tyX7_ok nmX7 (by decide) fl_X7_47 rfl rfl (tyX7_ok 6 (by decide)) rfl rfl (Nat.le_of_ble_eq_true rfl) dX7_init_73 ?_
  refine n_aloadn X dX7_init_76 rfl rfl ?_
  refine n_new (ci := 1) (fs := [.null, .int 0]) X (1, 0, 0) rfl rfl inW1 tyX1 tyX1_ok cl_X7_51 in_X1 ini_RX1 bf1 (by decide) (Nat.le_of_ble_eq_true rfl) (Nat.le_of_ble_eq_true rfl) dX7_init_77 ?_
  refine n_dup X dX7_init_80 rfl ?_
  refine n_call (e1 := .inr (1, [.null, .int 0])) (w := w1) X (c_X1_init l D B cy) mc_X1_init im_X1 ini_RX1 rfl (by decide +kernel) ml_X7_53 (by decide) (Nat.le_of_ble_eq_true rfl) (Nat.le_of_ble_eq_true rfl) (by decide +kernel) (by decide +kernel) mu_self (Nat.le_of_ble_eq_true rfl) (Nat.le_of_ble_eq_true rfl) dX7_init_81 ?_
  refine n_putF (ty := tyX7 7) (fi := 7) X hin (by decide +kernel) ((mU_out (by decide +kernel)).trans ((mu_ne (by simp)).trans mu_self)) rfl inW7 tyX7 tyX7_ok nmX7 (by decide) fl_X7_54 rfl rfl (tyX7_ok 7 (by decide)) rfl rfl (Nat.le_of_ble_eq_true rfl) dX7_init_84 ?_
  refine n_aloadn X dX7_init_87 rfl rfl ?_
  refine n_iconst (v := 0) X dX7_init_88 (by decide) ?_
  refine n_put (ty := tyX7 8) (fi := 8) X (by decide +kernel) mu_self rfl inW7 tyX7 tyX7_ok nmX7 (by decide) fl_X7_58 rfl (tyX7_ok 8 (by decide)) rfl rfl (Nat.le_of_ble_eq_true rfl) dX7_init_89 ?_
  refine n_aloadn X dX7_init_92 rfl rfl ?_
  refine n_iconst (v := 0) X dX7_init_93 (by decide) ?_
  refine n_put (ty := tyX7 9) (fi := 9) X (by decide +kernel) mu_self rfl inW7 tyX7 tyX7_ok nmX7 (by decide) fl_X7_62 rfl (tyX7_ok 9 (by decide)) rfl rfl (Nat.le_of_ble_eq_true rfl) dX7_init_94 ?_
  refine n_iconst (v := nI 0) X dX7_init_97 (by decide +kernel) ?_
  refine n_istoren (lc' := [some (.ref (adB B (7, 0, 0))), some (.int (nI 0))]) X dX7_init_98 rfl (by decide) rfl rfl ?_
  refine Vn.le (mL B cy (mu (mU B cy (mU B cy (mU B cy (mU B cy m0 w6) w2) w0) w1) (12, 1, 0) (.inl (cy 3, 2, .inr (.inr (.inr (.inr (fun _ => none))))))) 4 8 (7, 0, 0) (13, 0, 0) (cellW (adB B) cy g0 (7, 0, 0)) (fun i => (5, i, 0)) wRow 0) ?_ (Vn.cnt rfl (lp_X7a X (x7_mid X) 8 0 rfl))
  refine mL_zero (e1 := (cellW (adB B) cy g0 (7, 0, 0))) mu_self Eqv.rf ((mu_ne (by simp)).trans ((mu_ne (by simp)).trans ((mu_ne (by simp)).trans ((mU_out (by decide +kernel)).trans ((mu_ne (by simp)).trans ((mu_ne (by simp)).trans ((mu_ne (by simp)).trans ((mu_ne (by simp)).trans ((mU_out (by decide +kernel)).trans ((mu_ne (by simp)).trans ((mu_ne (by simp)).trans ((mu_ne (by simp)).trans ((mu_ne (by simp)).trans ((mU_out (by decide +kernel)).trans ((mu_ne (by simp)).trans ((mu_ne (by simp)).trans ((mU_out (by decide +kernel)).trans ((mu_ne (by simp)).trans ((mu_ne (by simp)).trans mu_self))))))))))))))))))) ?_
  refine Le.mu ((mu_ne (by simp)).trans ((mu_ne (by simp)).trans ((mu_ne (by simp)).trans ((mU_out (by decide +kernel)).trans ((mu_ne (by simp)).trans ((mu_ne (by simp)).trans mu_self)))))) Eqv.rf ?_
  exact Le.mU (fun k hk => let q := ft71_w1 k hk; ⟨_, ((mu_ne q.1).trans ((mu_ne q.1).trans ((mu_ne q.1).trans (mU_in hk)))), Eqv.rf⟩) (Le.mU (fun k hk => let q := ft71_w0 k hk; ⟨_, ((mu_ne q.1).trans ((mu_ne q.1).trans ((mu_ne q.1).trans ((mU_out q.2.1).trans ((mu_ne q.2.2.1).trans ((mu_ne q.1).trans ((mu_ne q.2.2.2.1).trans ((mu_ne q.1).trans (mU_in hk))))))))), Eqv.rf⟩) (Le.mU (fun k hk => let q := ft71_w2 k hk; ⟨_, ((mu_ne q.1).trans ((mu_ne q.1).trans ((mu_ne q.1).trans ((mU_out q.2.1).trans ((mu_ne q.2.2.1).trans ((mu_ne q.1).trans ((mu_ne q.2.2.2.1).trans ((mu_ne q.1).trans ((mU_out q.2.2.2.2.1).trans ((mu_ne q.2.2.2.2.2.1).trans ((mu_ne q.1).trans ((mu_ne q.1).trans ((mu_ne q.1).trans (mU_in hk)))))))))))))), Eqv.rf⟩) (Le.mU (fun k hk => let q := ft71_w6 k hk; ⟨_, ((mu_ne q.1).trans ((mu_ne q.1).trans ((mu_ne q.1).trans ((mU_out q.2.1).trans ((mu_ne q.2.2.1).trans ((mu_ne q.1).trans ((mu_ne q.2.2.2.1).trans ((mu_ne q.1).trans ((mU_out q.2.2.2.2.1).trans ((mu_ne q.2.2.2.2.2.1).trans ((mu_ne q.1).trans ((mu_ne q.1).trans ((mu_ne q.1).trans ((mU_out q.2.2.2.2.2.2.1).trans ((mu_ne q.2.2.2.2.2.2.2.1).trans ((mu_ne q.1).trans (mU_in hk))))))))))))))))), Eqv.rf⟩) Le.m0)))
