def Le (M' M : MM) : Prop := ∀ (k : Ky) (e' : va_E), M' k = some e' → ∃ e : va_E, M k = some e ∧ Eqv e e'
theorem Le.m0 {M : MM} : Le m0 M := fun _ _ h => by cases h
theorem Le.mu {M' M : MM} {k : Ky} {e e1 : va_E} (h1 : M k = some e1) (h2 : Eqv e1 e) (h : Le M' M) : Le (mu M' k e) M := by
  intro k' e' h'
  by_cases hq : k' = k
  · subst hq
    rw [mu_self] at h'
    cases h'
    exact ⟨e1, h1, h2⟩
  · rw [mu_ne hq] at h'
    exact h k' e' h'
theorem Le.mU {B : Nat} {cy : Nat → ClassId} {M' M : MM} {w : List Ky} (h1 : ∀ k ∈ w, ∃ e1 : va_E, M k = some e1 ∧ Eqv e1 (cellW (adB B) cy g0 k)) (h : Le M' M) : Le (mU B cy M' w) M := by
  intro k' e' h'
  by_cases hq : k' ∈ w
  · rw [mU_in hq] at h'
    cases h'
    exact h1 k' hq
  · rw [mU_out hq] at h'
    exact h k' e' h'
theorem Vn.le {p : Program} {l : Launch} {e : Env} {R : Room} {s : State} {m : MethodId} {args : Array Value} {below : List Frame} {meth : Method} {c : Code} {nL : Nat} {D : va_G} {B : Nat} {k0 : Ky} {n0 nn : Nat} {Q : State → Prop} {pc : Nat} {lc : List (Option Value)} {st : List Value} {M : MM} (M' : MM) (h : Le M' M) (k : Vn p l e R s m args below meth c nL D B k0 n0 Q nn pc lc st M') : Vn p l e R s m args below meth c nL D B k0 n0 Q nn pc lc st M := Vn.mono M' (fun k' _ e' h' => h k' e' h') k
theorem Vn.cnt {p : Program} {l : Launch} {e : Env} {R : Room} {s : State} {m : MethodId} {args : Array Value} {below : List Frame} {meth : Method} {c : Code} {nL : Nat} {D : va_G} {B : Nat} {k0 : Ky} {n0 nn : Nat} {Q : State → Prop} {pc : Nat} {lc : List (Option Value)} {st : List Value} {M : MM} {nn' : Nat} (h : nn = nn') (k : Vn p l e R s m args below meth c nL D B k0 n0 Q nn' pc lc st M) : Vn p l e R s m args below meth c nL D B k0 n0 Q nn pc lc st M := h ▸ k
/-- an array of objects under way: the first i are made -/
def fR (B : Nat) (ke : Nat → Ky) (i : Nat) : Nat → Option Nat := fun k => if k < i then some (adB B (ke k)) else none
def wN (we : Nat → List Ky) (i : Nat) : List Ky := (List.range i).flatMap we
def mL (B : Nat) (cy : Nat → ClassId) (Mb : MM) (t0 n : Nat) (k0 ka : Ky) (e0 : va_E) (ke : Nat → Ky) (we : Nat → List Ky) (i : Nat) : MM :=
  mu (mu (mU B cy Mb (wN we i)) ka (.inl (cy t0, n, .inr (.inr (.inr (.inr (fR B ke i))))))) k0 e0
theorem wN_succ {we : Nat → List Ky} {i : Nat} {k : Ky} : k ∈ wN we (i + 1) ↔ k ∈ wN we i ∨ k ∈ we i := by
  unfold wN
  rw [List.range_succ, List.flatMap_append, List.mem_append]
  simp
theorem mL_step {B : Nat} {cy : Nat → ClassId} {Mb : MM} {t0 n : Nat} {k0 ka : Ky} {e0 eb : va_E} {ke : Nat → Ky} {we : Nat → List Ky} {i : Nat} (h1 : k0 ≠ ka) (h2 : ¬ k0 ∈ we i) (h3 : ¬ ka ∈ we i) (h4 : ke i ∈ we i) :
    Le (mL B cy Mb t0 n k0 ka e0 ke we (i + 1)) (mu (mU B cy (mu (mL B cy Mb t0 n k0 ka e0 ke we i) (ke i) eb) (we i)) ka (.inl (cy t0, n, .inr (.inr (.inr (.inr (va_up (fR B ke i) i (some (adB B (ke i)))))))))) := by
  have ne : ∀ {k : Ky}, ¬ k ∈ we i → k ≠ ke i := fun h e => h (e ▸ h4)
  intro k' e' h'
  unfold mL at h'
  by_cases q0 : k' = k0
  · subst q0
    rw [mu_self] at h'
    cases h'
    exact ⟨_, (mu_ne h1).trans ((mU_out h2).trans ((mu_ne (ne h2)).trans mu_self)), Eqv.rf⟩
  rw [mu_ne q0] at h'
  by_cases qa : k' = ka
  · subst qa
    rw [mu_self] at h'
    cases h'
    refine ⟨_, mu_self, Eqv.arrR (fun k _ => ?_)⟩
    unfold va_up fR
    by_cases hk : k = i
    · subst hk
      simp
    · have e1 : k < i + 1 ↔ k < i := by omega
      simp [hk, e1]
  rw [mu_ne qa] at h'
  by_cases hw : k' ∈ we i
  · rw [mU_in (wN_succ.mpr (Or.inr hw))] at h'
    cases h'
    exact ⟨_, (mu_ne qa).trans (mU_in hw), Eqv.rf⟩
  · refine ⟨e', ((mu_ne qa).trans ((mU_out hw).trans ((mu_ne (ne hw)).trans ((mu_ne q0).trans (mu_ne qa))))).trans ?_, Eqv.rf⟩
    by_cases hz : k' ∈ wN we i
    · rw [mU_in hz]
      rw [mU_in (wN_succ.mpr (Or.inl hz))] at h'
      exact h'
    · rw [mU_out hz]
      rw [mU_out (fun z => (wN_succ.mp z).elim hz hw)] at h'
      exact h'
theorem mL_zero {B : Nat} {cy : Nat → ClassId} {Mb M : MM} {t0 n : Nat} {k0 ka : Ky} {e0 e1 : va_E} {ke : Nat → Ky} {we : Nat → List Ky} (h0 : M k0 = some e1) (h0e : Eqv e1 e0) (ha : M ka = some (.inl (cy t0, n, .inr (.inr (.inr (.inr (fun _ => none))))))) (hb : Le Mb M) : Le (mL B cy Mb t0 n k0 ka e0 ke we 0) M :=
  Le.mu h0 h0e (Le.mu ha (Eqv.arrR (fun k _ => (if_neg (Nat.not_lt_zero k)).symm)) (Le.mU (fun k hk => by cases hk) hb))
theorem in_wN {we : Nat → List Ky} {n : Nat} {k : Ky} : k ∈ wN we n ↔ ∃ j, j < n ∧ k ∈ we j := by
  simp [wN]
def wRoof (r : Nat) : List Ky := (4, r, 0) :: (9, 0, r) :: (11, r, 0) :: wN (fun i => [(3, r, i)]) 6
def wRow (j : Nat) : List Ky := [(5, j, 0), (9, 2, j)]
def w6 : List Ky := [(6, 0, 0), (9, 4, 0)]
def w1 : List Ky := [(1, 0, 0), (9, 8, 0)]
def w2 : List Ky := (2, 0, 0) :: (wRoof 0 ++ wRoof 1)
def w0 : List Ky := (0, 0, 0) :: (12, 0, 0) :: wN (fun i => wRoof (2 + i)) 24
def wRows : List Ky := wN wRow 8
def wImgs : List Ky := wN (fun i => wRoof (26 + i)) 2
def w7 : List Ky := (7, 0, 0) :: (12, 1, 0) :: (13, 0, 0) :: (wImgs ++ (wRows ++ (w1 ++ (w0 ++ (w2 ++ w6)))))
def w8 : List Ky := (8, 0, 0) :: (10, 11, 21) :: [2, 3, 4, 5, 6, 7, 8, 9, 11, 20, 22, 23].map fun b => (9, 11, b)
set_option maxRecDepth 100000 in
theorem w78 : ∀ k ∈ keys, k ∈ w7 ++ w8 := by decide +kernel
theorem roof_no {r : Nat} {k : Ky} (h : k ∈ wRoof r) : k.1 = 3 ∨ k.1 = 4 ∨ k.1 = 9 ∨ k.1 = 11 := by
  simp only [wRoof, List.mem_cons, in_wN] at h
  rcases h with rfl | rfl | rfl | ⟨j, -, h⟩
  · exact Or.inr (Or.inl rfl)
  · exact Or.inr (Or.inr (Or.inl rfl))
  · exact Or.inr (Or.inr (Or.inr rfl))
  · simp at h
    subst h
    exact Or.inl rfl
theorem roof_out {r : Nat} {k : Ky} (h : k.1 ≠ 3 ∧ k.1 ≠ 4 ∧ k.1 ≠ 9 ∧ k.1 ≠ 11) : ¬ k ∈ wRoof r := by
  intro q
  have := roof_no q
  omega
theorem cw3 {B : Nat} {cy : Nat → ClassId} {r i : Nat} : cellW (adB B) cy g0 (3, r, i) = .inr (3, [.int 1, .int 0, .int 1, .int 0, .int 0, .int 0, .int (-1000000)]) := by
  have e0 : (7 * i) % 7 = 0 := by omega
  have e1 : (7 * i + 1) % 7 = 1 := by omega
  have e2 : (7 * i + 2) % 7 = 2 := by omega
  have e3 : (7 * i + 3) % 7 = 3 := by omega
  have e4 : (7 * i + 4) % 7 = 4 := by omega
  have e5 : (7 * i + 5) % 7 = 5 := by omega
  have e6 : (7 * i + 6) % 7 = 6 := by omega
  show (Sum.inr (3, [.int (g0 13 r (7 * i)), .int (g0 13 r (7 * i + 1)), .int (g0 13 r (7 * i + 2)), .int (g0 13 r (7 * i + 3)), .int (g0 13 r (7 * i + 4)), .int (g0 13 r (7 * i + 5)), .int (g0 13 r (7 * i + 6))]) : va_E) = _
  simp [g0, e0, e1, e2, e3, e4, e5, e6]
theorem roofs_off {r : Nat} (h : r < 28) : (4 : Nat) ≤ ro r := by
  unfold ro
  split
  · omega
  · split
    · omega
    · split <;> omega

theorem bf0 : ∀ j, j < 3 → defaultValue (tyX0 j) = vp_V [.null, .int 0, .int 0] j := by
  intro j hj
  match j, hj with
  | 0, _ => rfl
  | 1, _ => rfl
  | 2, _ => rfl
  | j + 3, h => omega
theorem bf1 : ∀ j, j < 2 → defaultValue (tyX1 j) = vp_V [.null, .int 0] j := by
  intro j hj
  match j, hj with
  | 0, _ => rfl
  | 1, _ => rfl
  | j + 2, h => omega
theorem bf2 : ∀ j, j < 10 → defaultValue (tyX2 j) = vp_V [.null, .null, .int 0, .null, .int 0, .int 0, .int 0, .int 0, .int 0, .int 0] j := by
  intro j hj
  match j, hj with
  | 0, _ => rfl
  | 1, _ => rfl
  | 2, _ => rfl
  | 3, _ => rfl
  | 4, _ => rfl
  | 5, _ => rfl
  | 6, _ => rfl
  | 7, _ => rfl
  | 8, _ => rfl
  | 9, _ => rfl
  | j + 10, h => omega
theorem bf3 : ∀ j, j < 7 → defaultValue (tyX3 j) = vp_V [.int 0, .int 0, .int 0, .int 0, .int 0, .int 0, .int 0] j := by
  intro j hj
  match j, hj with
  | 0, _ => rfl
  | 1, _ => rfl
  | 2, _ => rfl
  | 3, _ => rfl
  | 4, _ => rfl
  | 5, _ => rfl
  | 6, _ => rfl
  | j + 7, h => omega
theorem bf4 : ∀ j, j < 7 → defaultValue (tyX4 j) = vp_V [.int 0, .int 0, .int 0, .int 0, .int 0, .null, .null] j := by
  intro j hj
  match j, hj with
  | 0, _ => rfl
  | 1, _ => rfl
  | 2, _ => rfl
  | 3, _ => rfl
  | 4, _ => rfl
  | 5, _ => rfl
  | 6, _ => rfl
  | j + 7, h => omega
theorem bf5 : ∀ j, j < 3 → defaultValue (tyX5 j) = vp_V [.int 0, .int 0, .null] j := by
  intro j hj
  match j, hj with
  | 0, _ => rfl
  | 1, _ => rfl
  | 2, _ => rfl
  | j + 3, h => omega
theorem bf6 : ∀ j, j < 4 → defaultValue (tyX6 j) = vp_V [.null, .int 0, .int 0, .int 0] j := by
  intro j hj
  match j, hj with
  | 0, _ => rfl
  | 1, _ => rfl
  | 2, _ => rfl
  | 3, _ => rfl
  | j + 4, h => omega
theorem bf7 : ∀ j, j < 10 → defaultValue (tyX7 j) = vp_V [.null, .null, .null, .null, .null, .null, .null, .null, .int 0, .int 0] j := by
  intro j hj
  match j, hj with
  | 0, _ => rfl
  | 1, _ => rfl
  | 2, _ => rfl
  | 3, _ => rfl
  | 4, _ => rfl
  | 5, _ => rfl
  | 6, _ => rfl
  | 7, _ => rfl
  | 8, _ => rfl
  | 9, _ => rfl
  | j + 10, h => omega
theorem bf8 : ∀ j, j < 25 → defaultValue (tyX8 j) = vp_V [.int 0, .int 0, .null, .null, .null, .null, .null, .null, .null, .null, .int 0, .null, .int 0, .int 0, .int 0, .int 0, .int 0, .int 0, .int 0, .int 0, .null, .null, .null, .null, .int 0] j := by
  intro j hj
  match j, hj with
  | 0, _ => rfl
  | 1, _ => rfl
  | 2, _ => rfl
  | 3, _ => rfl
  | 4, _ => rfl
  | 5, _ => rfl
  | 6, _ => rfl
  | 7, _ => rfl
  | 8, _ => rfl
  | 9, _ => rfl
  | 10, _ => rfl
  | 11, _ => rfl
  | 12, _ => rfl
  | 13, _ => rfl
  | 14, _ => rfl
  | 15, _ => rfl
  | 16, _ => rfl
  | 17, _ => rfl
  | 18, _ => rfl
  | 19, _ => rfl
  | 20, _ => rfl
  | 21, _ => rfl
  | 22, _ => rfl
  | 23, _ => rfl
  | 24, _ => rfl
  | j + 25, h => omega
set_option maxRecDepth 100000 in
set_option maxHeartbeats 4000000 in
theorem c_X3_init (l : Launch) (D : va_G) (B : Nat) (cy : Nat → ClassId) {r i : Nat} (z : Nat) (hr : r < 28) (hi : i < 6) : CtN l D B cy yX3_init cX3_init 1 1 0 z (3, r, i) (.inr (3, [.int 0, .int 0, .int 0, .int 0, .int 0, .int 0, .int 0])) [(3, r, i)] := by
  have hk := k_paper hr hi
  refine CtN.of (own := RX3) 0 (by decide +kernel) rfl rfl (by decide) (fun p e s m args below meth c X hin => ?_)
  show Vn _ _ _ _ _ _ _ _ _ _ _ _ _ _ _ _ _ _ [some (.ref (adB B (3, r, i)))] [] _
  refine n_aloadn X dX3_init_0 rfl rfl ?_
  refine n_oinit X oi_X3 (Nat.le_of_ble_eq_true rfl) (Nat.le_of_ble_eq_true rfl) dX3_init_1 ?_
  refine n_aloadn X dX3_init_4 rfl rfl ?_
  refine n_iconst (v := 1) X dX3_init_5 (by decide) ?_
  refine n_put (ty := tyX3 0) (fi := 0) X hk mu_self rfl inW3 tyX3 tyX3_ok nmX3 (by decide) fl_X3_9 rfl (tyX3_ok 0 (by decide)) rfl rfl (Nat.le_of_ble_eq_true rfl) dX3_init_6 ?_
  refine n_aloadn X dX3_init_9 rfl rfl ?_
  refine n_iconst (v := 0) X dX3_init_10 (by decide) ?_
  refine n_put (ty := tyX3 1) (fi := 1) X hk mu_self rfl inW3 tyX3 tyX3_ok nmX3 (by decide) fl_X3_15 rfl (tyX3_ok 1 (by decide)) rfl rfl (Nat.le_of_ble_eq_true rfl) dX3_init_11 ?_
  refine n_aloadn X dX3_init_14 rfl rfl ?_
  refine n_iconst (v := 1) X dX3_init_15 (by decide) ?_
  refine n_put (ty := tyX3 2) (fi := 2) X hk mu_self rfl inW3 tyX3 tyX3_ok nmX3 (by decide) fl_X3_18 rfl (tyX3_ok 2 (by decide)) rfl rfl (Nat.le_of_ble_eq_true rfl) dX3_init_16 ?_
  refine n_aloadn X dX3_init_19 rfl rfl ?_
  refine n_iconst (v := 0) X dX3_init_20 (by decide) ?_
  refine n_put (ty := tyX3 3) (fi := 3) X hk mu_self rfl inW3 tyX3 tyX3_ok nmX3 (by decide) fl_X3_21 rfl (tyX3_ok 3 (by decide)) rfl rfl (Nat.le_of_ble_eq_true rfl) dX3_init_21 ?_
  refine n_aloadn X dX3_init_24 rfl rfl ?_
  refine n_iconst (v := 0) X dX3_init_25 (by decide) ?_
  refine n_put (ty := tyX3 4) (fi := 4) X hk mu_self rfl inW3 tyX3 tyX3_ok nmX3 (by decide) fl_X3_24 rfl (tyX3_ok 4 (by decide)) rfl rfl (Nat.le_of_ble_eq_true rfl) dX3_init_26 ?_
  refine n_aloadn X dX3_init_29 rfl rfl ?_
  refine n_iconst (v := 0) X dX3_init_30 (by decide) ?_
  refine n_put (ty := tyX3 5) (fi := 5) X hk mu_self rfl inW3 tyX3 tyX3_ok nmX3 (by decide) fl_X3_27 rfl (tyX3_ok 5 (by decide)) rfl rfl (Nat.le_of_ble_eq_true rfl) dX3_init_31 ?_
  refine n_aloadn X dX3_init_34 rfl rfl ?_
  refine n_ldc X kc_X3_30 dX3_init_35 ?_
  refine n_put (ty := tyX3 6) (fi := 6) X hk mu_self rfl inW3 tyX3 tyX3_ok nmX3 (by decide) fl_X3_31 rfl (tyX3_ok 6 (by decide)) rfl rfl (Nat.le_of_ble_eq_true rfl) dX3_init_37 ?_
  refine n_vret X (fun k hk => ?_) dX3_init_40
  simp only [List.mem_cons, List.not_mem_nil, or_false] at hk
  subst hk
  exact ⟨hk, _, mu_self, Eqv.of (by rw [cw3]; rfl)⟩
set_option maxRecDepth 100000 in
set_option maxHeartbeats 4000000 in
theorem c_X5_init (l : Launch) (D : va_G) (B : Nat) (cy : Nat → ClassId) {j : Nat} (z : Nat) (hj : j < 8) (hz : off (9, 2, j) = z) : CtN l D B cy yX5_init cX5_init 1 1 1 z (5, j, 0) (.inr (5, [.int 0, .int 0, .null])) (wRow j) := by
  have hk := k_row hj
  refine CtN.of (own := RX5) 0 (by decide +kernel) rfl rfl (by decide) (fun p e s m args below meth c X hin => ?_)
  show Vn _ _ _ _ _ _ _ _ _ _ _ _ _ _ _ _ _ _ [some (.ref (adB B (5, j, 0)))] [] _
  refine n_aloadn X dX5_init_0 rfl rfl ?_
  refine n_oinit X oi_X5 (Nat.le_of_ble_eq_true rfl) (Nat.le_of_ble_eq_true rfl) dX5_init_1 ?_
  refine n_aloadn X dX5_init_4 rfl rfl ?_
  refine n_iconst (v := (-1)) X dX5_init_5 (by decide) ?_
  refine n_put (ty := tyX5 0) (fi := 0) X hk mu_self rfl inW5 tyX5 tyX5_ok nmX5 (by decide) fl_X5_11 rfl (tyX5_ok 0 (by decide)) rfl rfl (Nat.le_of_ble_eq_true rfl) dX5_init_6 ?_
  refine n_aloadn X dX5_init_9 rfl rfl ?_
  refine n_iconst (v := 0) X dX5_init_10 (by decide) ?_
  refine n_put (ty := tyX5 1) (fi := 1) X hk mu_self rfl inW5 tyX5 tyX5_ok nmX5 (by decide) fl_X5_15 rfl (tyX5_ok 1 (by decide)) rfl rfl (Nat.le_of_ble_eq_true rfl) dX5_init_11 ?_
  refine n_aloadn X dX5_init_14 rfl rfl ?_
  refine n_bipush (v := 40) X dX5_init_15 (by decide) ?_
  refine n_newa (N' := 40) X (9, 2, j) hz (by decide) (by decide) (by decide) (Nat.le_of_ble_eq_true rfl) (Nat.le_of_ble_eq_true rfl) dX5_init_17 ?_
  refine n_putF (ty := tyX5 2) (fi := 2) X hin hk ((mu_ne (by simp)).trans mu_self) rfl inW5 tyX5 tyX5_ok nmX5 (by decide) fl_X5_18 rfl rfl (tyX5_ok 2 (by decide)) rfl rfl (Nat.le_of_ble_eq_true rfl) dX5_init_19 ?_
  refine n_vret X (fun k hk => ?_) dX5_init_22
  simp only [wRow, List.mem_cons, List.not_mem_nil, or_false] at hk
  rcases hk with rfl | rfl
  · exact ⟨hk, _, mu_self, Eqv.of rfl⟩
  · exact ⟨k_items hj, _, ((mu_ne (by simp)).trans mu_self), Eqv.of rfl⟩
set_option maxRecDepth 100000 in
set_option maxHeartbeats 4000000 in
theorem c_X1_init (l : Launch) (D : va_G) (B : Nat) (cy : Nat → ClassId) : CtN l D B cy yX1_init cX1_init 1 1 1 243 (1, 0, 0) (.inr (1, [.null, .int 0])) w1 := by
  refine CtN.of (own := RX1) 0 (by decide +kernel) rfl rfl (by decide) (fun p e s m args below meth c X hin => ?_)
  show Vn _ _ _ _ _ _ _ _ _ _ _ _ _ _ _ _ _ _ [some (.ref (adB B (1, 0, 0)))] [] _
  refine n_aloadn X dX1_init_0 rfl rfl ?_
  refine n_oinit X oi_X1 (Nat.le_of_ble_eq_true rfl) (Nat.le_of_ble_eq_true rfl) dX1_init_1 ?_
  refine n_aloadn X dX1_init_4 rfl rfl ?_
  refine n_bipush (v := 16) X dX1_init_5 (by decide) ?_
  refine n_newa (N' := 16) X (9, 8, 0) rfl (by decide) (by decide) (by decide) (Nat.le_of_ble_eq_true rfl) (Nat.le_of_ble_eq_true rfl) dX1_init_7 ?_
  refine n_putF (ty := tyX1 0) (fi := 0) X hin (by decide +kernel) ((mu_ne (by simp)).trans mu_self) rfl inW1 tyX1 tyX1_ok nmX1 (by decide) fl_X1_9 rfl rfl (tyX1_ok 0 (by decide)) rfl rfl (Nat.le_of_ble_eq_true rfl) dX1_init_9 ?_
  refine n_aloadn X dX1_init_12 rfl rfl ?_
  refine n_iconst (v := 0) X dX1_init_13 (by decide) ?_
  refine n_put (ty := tyX1 1) (fi := 1) X (by decide +kernel) mu_self rfl inW1 tyX1 tyX1_ok nmX1 (by decide) fl_X1_15 rfl (tyX1_ok 1 (by decide)) rfl rfl (Nat.le_of_ble_eq_true rfl) dX1_init_14 ?_
  refine n_vret X (fun k hk => ?_) dX1_init_17
  simp only [w1, List.mem_cons, List.not_mem_nil, or_false] at hk
  rcases hk with rfl | rfl
  · exact ⟨by decide +kernel, _, mu_self, Eqv.of rfl⟩
  · exact ⟨by decide +kernel, _, ((mu_ne (by simp)).trans ((mu_ne (by simp)).trans mu_self)), Eqv.of rfl⟩
set_option maxRecDepth 100000 in
set_option maxHeartbeats 4000000 in
theorem c_X6_init (l : Launch) (D : va_G) (B : Nat) (cy : Nat → ClassId) : CtN l D B cy yX6_init cX6_init 1 1 1 3 (6, 0, 0) (.inr (6, [.null, .int 0, .int 0, .int 0])) w6 := by
  refine CtN.of (own := RX6) 0 (by decide +kernel) rfl rfl (by decide) (fun p e s m args below meth c X hin => ?_)
  show Vn _ _ _ _ _ _ _ _ _ _ _ _ _ _ _ _ _ _ [some (.ref (adB B (6, 0, 0)))] [] _
  refine n_aloadn X dX6_init_0 rfl rfl ?_
  refine n_oinit X oi_X6 (Nat.le_of_ble_eq_true rfl) (Nat.le_of_ble_eq_true rfl) dX6_init_1 ?_
  refine n_aloadn X dX6_init_4 rfl rfl ?_
  refine n_bipush (v := 100) X dX6_init_5 (by decide) ?_
  refine n_newa (N' := 100) X (9, 4, 0) rfl (by decide) (by decide) (by decide) (Nat.le_of_ble_eq_true rfl) (Nat.le_of_ble_eq_true rfl) dX6_init_7 ?_
  refine n_putF (ty := tyX6 0) (fi := 0) X hin (by decide +kernel) ((mu_ne (by simp)).trans mu_self) rfl inW6 tyX6 tyX6_ok nmX6 (by decide) fl_X6_9 rfl rfl (tyX6_ok 0 (by decide)) rfl rfl (Nat.le_of_ble_eq_true rfl) dX6_init_9 ?_
  refine n_aloadn X dX6_init_12 rfl rfl ?_
  refine n_iconst (v := 0) X dX6_init_13 (by decide) ?_
  refine n_put (ty := tyX6 1) (fi := 1) X (by decide +kernel) mu_self rfl inW6 tyX6 tyX6_ok nmX6 (by decide) fl_X6_15 rfl (tyX6_ok 1 (by decide)) rfl rfl (Nat.le_of_ble_eq_true rfl) dX6_init_14 ?_
  refine n_aloadn X dX6_init_17 rfl rfl ?_
  refine n_iconst (v := 0) X dX6_init_18 (by decide) ?_
  refine n_put (ty := tyX6 2) (fi := 2) X (by decide +kernel) mu_self rfl inW6 tyX6 tyX6_ok nmX6 (by decide) fl_X6_19 rfl (tyX6_ok 2 (by decide)) rfl rfl (Nat.le_of_ble_eq_true rfl) dX6_init_19 ?_
  refine n_aloadn X dX6_init_22 rfl rfl ?_
  refine n_iconst (v := 0) X dX6_init_23 (by decide) ?_
  refine n_put (ty := tyX6 3) (fi := 3) X (by decide +kernel) mu_self rfl inW6 tyX6 tyX6_ok nmX6 (by decide) fl_X6_22 rfl (tyX6_ok 3 (by decide)) rfl rfl (Nat.le_of_ble_eq_true rfl) dX6_init_24 ?_
  refine n_vret X (fun k hk => ?_) dX6_init_27
  simp only [w6, List.mem_cons, List.not_mem_nil, or_false] at hk
  rcases hk with rfl | rfl
  · exact ⟨by decide +kernel, _, mu_self, Eqv.of rfl⟩
  · exact ⟨by decide +kernel, _, ((mu_ne (by simp)).trans ((mu_ne (by simp)).trans ((mu_ne (by simp)).trans ((mu_ne (by simp)).trans mu_self)))), Eqv.of rfl⟩
