theorem rel0 : Rel g0 := by
  have z : nP (g0 11 5) = 0 := by decide +kernel
  have zw : nW (g0 11 5) = 0 := by decide +kernel
  refine ⟨?_, ?_, rfl, rfl, ⟨?_, ?_⟩, ?_, ?_, ?_, ⟨rfl, rfl, rfl, rfl⟩, fun _ => zw⟩
  · intro j _
    exact ⟨rfl, Or.inl rfl, fun h => absurd rfl h, ⟨0, by omega, nI_0.symm⟩, fun _ _ => rfl⟩
  · exact ⟨0, by omega, nI_0.symm, nI_0.symm, fun k _ => ⟨rfl, 0, by omega, nI_0.symm⟩⟩
  · refine ⟨by decide +kernel, by omega, by decide +kernel, by omega, by decide +kernel, by decide +kernel, fun h => ?_, fun k h => ?_, fun i h => ?_⟩
    · omega
    · omega
    · omega
  · refine ⟨rfl, rfl, rfl, fun h => ?_, fun k h => ?_, fun i h => ?_⟩
    · omega
    · omega
    · omega
  · exact ⟨[], ⟨0, by omega, nI_0.symm, nI_0.symm, by simp, fun i v h => by simp at h⟩, ⟨nI_0.symm, fun i v h => by simp at h⟩, fun v h => by simp at h⟩
  · exact fun j _ => Or.inl ⟨rfl, rfl⟩
  · exact ⟨0, by omega, nI_0.symm, nI_0.symm, fun k h => absurd h (Nat.not_lt_zero k)⟩
set_option maxRecDepth 100000 in
set_option maxHeartbeats 4000000 in
theorem known {s : State} {args : Array Value} (hlw : ∀ w ∈ lwg, w.before args s = true) (a3 : va_AO RX3 s) (a4 : va_AO RX4 s) (a5 : va_AO RX5 s) : ∃ (D : va_G) (cy : Nat → ClassId), va_K D vwCl (tysA cy) s := by
  obtain ⟨c0, i0, k0⟩ := u_known (C := RX0) (T := TX0) (N := 3) (n := 3) hlw inW0 (hlw _ in_X0)
  obtain ⟨c1, i1, k1⟩ := u_known (C := RX1) (T := TX1) (N := 2) (n := 2) hlw inW1 (hlw _ in_X1)
  obtain ⟨c2, i2, k2⟩ := u_known (C := RX2) (T := TX2) (N := 10) (n := 10) hlw inW2 (hlw _ in_X2)
  obtain ⟨c3, i3, k3⟩ := u_known (C := RX3) (T := TX3) (N := 7) (n := 7) hlw inW3 (hlw _ in_X3)
  obtain ⟨c4, i4, k4⟩ := u_known (C := RX4) (T := TX4) (N := 7) (n := 7) hlw inW4 (hlw _ in_X4)
  obtain ⟨c5, i5, k5⟩ := u_known (C := RX5) (T := TX5) (N := 3) (n := 3) hlw inW5 (hlw _ in_X5)
  obtain ⟨c6, i6, k6⟩ := u_known (C := RX6) (T := TX6) (N := 4) (n := 4) hlw inW6 (hlw _ in_X6)
  obtain ⟨c7, i7, k7⟩ := u_known (C := RX7) (T := TX7) (N := 10) (n := 10) hlw inW7 (hlw _ in_X7)
  obtain ⟨c8, i8, k8⟩ := u_known (C := RX8) (T := TX8) (N := 25) (n := 25) hlw inW8 (hlw _ in_X8)
  obtain ⟨cI, kI, pI, f1, f2, f3⟩ := Cond.arrayClass_spec (hlw _ ac_int)
  obtain ⟨cZ, kZ, pZ, z1, z2, z3⟩ := Cond.arrayClass_spec (hlw _ ac_boolean)
  obtain ⟨p3, c3', k3', q31, q32, q33, q34, q35⟩ := Cond.arrayOver_spec a3
  obtain ⟨p4, c4', k4', q41, q42, q43, q44, q45⟩ := Cond.arrayOver_spec a4
  obtain ⟨p5, c5', k5', q51, q52, q53, q54, q55⟩ := Cond.arrayOver_spec a5
  refine ⟨(fun k => match k with | 0 => c0 | 1 => c1 | 2 => c2 | 3 => c3 | 4 => c4 | 5 => c5 | 6 => c6 | 7 => c7 | _ => c8, fun k => match k with | 0 => i0 | 1 => i1 | 2 => i2 | 3 => i3 | 4 => i4 | 5 => i5 | 6 => i6 | 7 => i7 | _ => i8), (fun k => match k with | 0 => cI | 1 => cZ | 2 => c3' | 3 => c4' | _ => c5'), fun k q hq => ?_, fun k q hq => ?_⟩
  · match k, hq with
    | 0, hq => cases hq; exact k0
    | 1, hq => cases hq; exact k1
    | 2, hq => cases hq; exact k2
    | 3, hq => cases hq; exact k3
    | 4, hq => cases hq; exact k4
    | 5, hq => cases hq; exact k5
    | 6, hq => cases hq; exact k6
    | 7, hq => cases hq; exact k7
    | 8, hq => cases hq; exact k8
    | k + 9, hq => simp [vwCl] at hq
  · match k, hq with
    | 0, hq => cases hq; exact ⟨fun n z => ⟨fun k h => (by cases h), kI, f2, pI, f3⟩, f1⟩
    | 1, hq => cases hq; exact ⟨fun n z => ⟨fun k h => (by cases h), kZ, z2, pZ, z3⟩, z1⟩
    | 2, hq => cases hq; exact ⟨fun n z => ⟨fun k h => (by cases h), k3', q33, p3, q34⟩, k3', p3, q33, q34, q31, q35⟩
    | 3, hq => cases hq; exact ⟨fun n z => ⟨fun k h => (by cases h), k4', q43, p4, q44⟩, k4', p4, q43, q44, q41, q45⟩
    | 4, hq => cases hq; exact ⟨fun n z => ⟨fun k h => (by cases h), k5', q53, p5, q54⟩, k5', p5, q53, q54, q51, q55⟩
    | k + 5, hq => simp [tysA] at hq
set_option maxRecDepth 100000 in
set_option maxHeartbeats 4000000 in
theorem whole_start {p : Program} {e : Env} {s : State} {m : MethodId} {below : List Frame} {meth : Method} {c : Code} (l : Launch) {b L : Nat} {xs : Nat → Int32} (hL : L ≤ 384) (C0 : lw_At p s m meth c b L xs) : W p l e room_1 s m #[Value.ref b] below meth c s.heap [] 0 0 (lw_Z below #[Value.ref b] s) (entryFrame m ([Value.ref b] : List Value).toArray 4) := by
  obtain ⟨hx, hb, hr, hml, hown, hts, hX, hbl, hlocks, hgv⟩ := id C0
  have hlw : ∀ w ∈ lwg, w.before #[Value.ref b] s = true := fun w h => hts w (lwg_of h)
  have hN : va_Nw NST s := va_Nw.of rfl (hts _ nst_in)
  have a3 : va_AO RX3 s := va_AO.of (hts _ ao_X3)
  have a4 : va_AO RX4 s := va_AO.of (hts _ ao_X4)
  have a5 : va_AO RX5 s := va_AO.of (hts _ ao_X5)
  obtain ⟨D, cy, hK⟩ := known hlw a3 a4 a5
  obtain ⟨B, hB⟩ : ∃ B : Nat, s.heap.size = B := ⟨_, rfl⟩
  have X : Cn p room_1 s m #[Value.ref b] meth c RL cL_law 4 ret D B cy 0 := ⟨⟨hx, hb, hml, hr, hlocks, hown, hlw, hK, adB_inj B, hN⟩, hB, a3, a4, a5⟩
  have Y : LX p s m c b L xs D (adB B) cy := ⟨hx, hb, hml, hown, hts, hX, hbl, hK, adB_inj B, fun k _ => by rw [hB]; exact Nat.le_add_right _ _, hN⟩
  have hl := lv_entry [.ref b] (n := 4) (Nat.le_of_ble_eq_true rfl)
  rw [lg_entry_eq]
  have V : Vn p l e room_1 s m #[Value.ref b] below meth c 4 D B (7, 0, 0) 0 (lw_Z below #[Value.ref b] s) 0 0 [some (.ref b), none, none, none] [] m0 := by
    refine n_new (ci := 7) (fs := [.null, .null, .null, .null, .null, .null, .null, .null, .int 0, .int 0]) X (7, 0, 0) rfl rfl inW7 tyX7 tyX7_ok cl_L_7 in_X7 ini_RX7 bf7 (by decide) (Nat.le_of_ble_eq_true rfl) (Nat.le_of_ble_eq_true rfl) dL_law_0 ?_
    refine n_dup X dL_law_3 rfl ?_
    refine n_call (e1 := .inr (7, [.null, .null, .null, .null, .null, .null, .null, .null, .int 0, .int 0])) (w := w7) X (c_X7_init l D B cy) mc_X7_init im_X7 ini_RX7 rfl (by decide +kernel) ml_L_9 (by decide) (Nat.le_of_ble_eq_true rfl) (Nat.le_of_ble_eq_true rfl) (by decide +kernel) (by decide +kernel) mu_self (Nat.le_of_ble_eq_true rfl) (Nat.le_of_ble_eq_true rfl) dL_law_4 ?_
    refine n_astoren (lc' := [some (.ref b), some (.ref (adB B (7, 0, 0))), none, none]) X dL_law_7 rfl (by decide) rfl rfl ?_
    refine n_new (ci := 8) (fs := [.int 0, .int 0, .null, .null, .null, .null, .null, .null, .null, .null, .int 0, .null, .int 0, .int 0, .int 0, .int 0, .int 0, .int 0, .int 0, .int 0, .null, .null, .null, .null, .int 0]) X (8, 0, 0) rfl rfl inW8 tyX8 tyX8_ok cl_L_10 in_X8 ini_RX8 bf8 (by decide) (Nat.le_of_ble_eq_true rfl) (Nat.le_of_ble_eq_true rfl) dL_law_8 ?_
    refine n_dup X dL_law_11 rfl ?_
    refine n_call (e1 := .inr (8, [.int 0, .int 0, .null, .null, .null, .null, .null, .null, .null, .null, .int 0, .null, .int 0, .int 0, .int 0, .int 0, .int 0, .int 0, .int 0, .int 0, .null, .null, .null, .null, .int 0])) (w := w8) X (c_X8_init l D B cy) mc_X8_init im_X8 ini_RX8 rfl (by decide +kernel) ml_L_12 (by decide) (Nat.le_of_ble_eq_true rfl) (Nat.le_of_ble_eq_true rfl) (by decide +kernel) (by decide +kernel) mu_self (Nat.le_of_ble_eq_true rfl) (Nat.le_of_ble_eq_true rfl) dL_law_12 ?_
    refine n_astoren (lc' := [some (.ref b), some (.ref (adB B (7, 0, 0))), some (.ref (adB B (8, 0, 0))), none]) X dL_law_15 rfl (by decide) rfl rfl ?_
    refine n_iconst (v := nI 0) X dL_law_16 (by decide +kernel) ?_
    refine n_istoren (lc' := llc (adB B) b 0) X dL_law_17 rfl (by decide) rfl rfl ?_
    intro H locs ls h1 h2 h3
    refine W.widen (k := 600000) (n := 7302250) (Nat.le_of_ble_eq_true rfl) (Nat.le_of_ble_eq_true rfl) ?_
    refine law_loop Y hL hr hlocks (L + 1) 0 g0 (by omega) (by omega) rel0 H locs ls ?_ ?_ h3
    · intro n q hq
      obtain ⟨k, hk, rfl⟩ := Wd_inv hq
      have hk := List.mem_of_getElem? hk
      refine h1.1 k hk _ ?_
      by_cases h8 : k ∈ w8
      · exact mU_in h8
      · have h7 : k ∈ w7 := (List.mem_append.mp (w78 k hk)).elim (fun h => h) (fun h => absurd h h8)
        exact (mU_out h8).trans ((mu_ne (fun z => h8 (by rw [z]; decide +kernel))).trans (mU_in h7))
    · have hA : ∀ q : Nat, AN (adB B (7, 0, 0)) (B + 0) q → s.heap.size ≤ q := by
        intro q hq
        rw [hB]
        rcases hq with hq | hq
        · rw [hq]
          exact Nat.le_add_right _ _
        · exact hq
      exact ⟨h2.1, fun q q1 _ => h2.2.1 q q1 (fun z => absurd (hA q z) (by omega)), fun x hx => hA _ (h2.2.2 x hx)⟩
  exact V s.heap [] _ ⟨fun _ _ _ h => (by cases h), by rw [hB]; rfl⟩ va_S.rf (Lc.entry (k := 3) hl)
