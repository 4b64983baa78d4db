/-! ===== quarrels ===== -/
def qr (v : Nat → Int32) (a b : Nat) : Bool := decide (pf v a 3 = 2) && (decide (pf v b 3 = 2) && decide (pf v a 6 = pf v b 6))
def orO (f : Option Nat) (x : Nat) : Option Nat := match f with
  | none => some x
  | some y => some y
def qI (v : Nat → Int32) (i : Nat) : Nat → Nat → Nat × Option Nat → Nat × Option Nat
  | 0, _, s => s
  | n + 1, j, s => qI v i n (j + 1) (if qr v i j then (s.1 + 1, orO s.2 (10 * i + j)) else s)
def qO (v : Nat → Int32) (P : Nat) : Nat → Nat → Nat × Option Nat → Nat × Option Nat
  | 0, _, s => s
  | n + 1, i, s => qO v P n (i + 1) (qI v i (P - (i + 1)) (i + 1) s)
theorem qI_some (v : Nat → Int32) (i : Nat) : ∀ (n j : Nat) (c x : Nat), ∃ c', qI v i n j (c, some x) = (c', some x) := by
  intro n
  induction n with
  | zero => intro j c x; exact ⟨c, rfl⟩
  | succ n ih =>
    intro j c x
    rw [qI]
    split
    · exact ih _ _ _
    · exact ih _ _ _
theorem qO_some (v : Nat → Int32) (P : Nat) : ∀ (n i : Nat) (c x : Nat), ∃ c', qO v P n i (c, some x) = (c', some x) := by
  intro n
  induction n with
  | zero => intro j c x; exact ⟨c, rfl⟩
  | succ n ih =>
    intro i c x
    rw [qO]
    obtain ⟨c', e⟩ := qI_some v i (P - (i + 1)) (i + 1) c x
    rw [e]
    exact ih _ _ _
theorem X4_quarrel (N r : Nat) (g : GS) {B : Nat} {v : Nat → Int32} (hv : VA B v) (hk : RK (g 0 r) (g 12 r) (g 13 r) v) {a b : Nat} (ha : a < nP v) (hb : b < nP v) : F_X4_quarrel N r (nI a) (nI b) g = some (b01 (qr v a b), g) := by
  have hP := hv.2.1
  unfold F_X4_quarrel qr
  have a3 : g 13 r (7 * a + 3) = pf v a 3 := RK_f hk ha (by decide)
  have b3 : g 13 r (7 * b + 3) = pf v b 3 := RK_f hk hb (by decide)
  have a6 : g 13 r (7 * a + 6) = (if pf v a 3 = 2 then pf v a 6 else -1000000) := (hk.2.2.2.2.2 a ha).2
  have b6 : g 13 r (7 * b + 6) = (if pf v b 3 = 2 then pf v b 6 else -1000000) := (hk.2.2.2.2.2 b hb).2
  rw [ix_nI (by omega) (by decide), bd1_s, ix_nI (by omega) (by decide), bd1_s, a3, b3, a6, b6]
  by_cases q1 : pf v a 3 = 2
  · by_cases q2 : pf v b 3 = 2
    · by_cases q3 : pf v a 6 = pf v b 6
      · simp [q1, q2, q3, b01]
      · simp [q1, q2, q3, b01]
    · simp [q1, q2, b01]
  · simp [q1, b01]
theorem L_qc16 (N r : Nat) (g : GS) {B : Nat} {v : Nat → Int32} (hv : VA B v) (hk : RK (g 0 r) (g 12 r) (g 13 r) v) {i : Nat} (hi : i < nP v) : ∀ (n j : Nat) (s : Nat × Option Nat), j ≤ nP v → nP v < j + n → L_X4_quarrelCount_16 N r (nI i) n (nI s.1) (nI j) g = some (nI (qI v i (nP v - j) j s).1, nI (nP v), g) := by
  have hP := hv.2.1
  have h4 : g 0 r 4 = nI (nP v) := hk.1.trans hv.1
  intro n
  induction n with
  | zero => intro j s h1 h2; omega
  | succ n ih =>
    intro j s h1 h2
    rw [L_X4_quarrelCount_16]
    by_cases h : j = nP v
    · rw [if_pos ((kP_le h4 h1 hP).mpr h), h, Nat.sub_self]
      rfl
    · rw [if_neg (fun q => h ((kP_le h4 h1 hP).mp q)), X4_quarrel N r g hv hk hi (show j < nP v by omega), bd2_s, nI_1, nI_1, show nP v - j = (nP v - (j + 1)) + 1 by omega, qI]
      by_cases q : qr v i j = true
      · rw [q, b01_t, if_neg (by decide), if_pos rfl]
        exact ih (j + 1) (s.1 + 1, orO s.2 (10 * i + j)) (by omega) (by omega)
      · have q := Bool.eq_false_iff.mpr q
        rw [q, b01_f, if_pos rfl, if_neg Bool.false_ne_true]
        exact ih (j + 1) s (by omega) (by omega)
theorem L_qc4 (N r : Nat) (hN : 2000 ≤ N) (g : GS) {B : Nat} {v : Nat → Int32} (hv : VA B v) (hk : RK (g 0 r) (g 12 r) (g 13 r) v) : ∀ (n i : Nat) (s : Nat × Option Nat), i ≤ nP v → nP v < i + n → L_X4_quarrelCount_4 N r n (nI s.1) (nI i) g = some (nI (qO v (nP v) (nP v - i) i s).1, nI (nP v), g) := by
  have hP := hv.2.1
  have h4 : g 0 r 4 = nI (nP v) := hk.1.trans hv.1
  intro n
  induction n with
  | zero => intro j s h1 h2; omega
  | succ n ih =>
    intro i s h1 h2
    rw [L_X4_quarrelCount_4]
    by_cases h : i = nP v
    · rw [if_pos ((kP_le h4 h1 hP).mpr h), h, Nat.sub_self]
      rfl
    · rw [if_neg (fun q => h ((kP_le h4 h1 hP).mp q)), nI_1, L_qc16 N r g hv hk (show i < nP v by omega) N (i + 1) s (by omega) (by omega), bd3_s, show nP v - i = (nP v - (i + 1)) + 1 by omega, qO]
      exact ih (i + 1) (qI v i (nP v - (i + 1)) (i + 1) s) (by omega) (by omega)
theorem L_fq14 (N r : Nat) (g : GS) {B : Nat} {v : Nat → Int32} (hv : VA B v) (hk : RK (g 0 r) (g 12 r) (g 13 r) v) {i : Nat} (hi : i < nP v) (c : Nat) : ∀ (n j : Nat), j ≤ nP v → nP v < j + n → L_X4_firstQuarrel_14 N r (nI i) n (nI j) g = some (lpr (qI v i (nP v - j) j (c, none)).2 (nI (nP v)) g) := by
  have hP := hv.2.1
  have h4 : g 0 r 4 = nI (nP v) := hk.1.trans hv.1
  intro n
  induction n with
  | zero => intro j h1 h2; omega
  | succ n ih =>
    intro j h1 h2
    rw [L_X4_firstQuarrel_14]
    by_cases h : j = nP v
    · rw [if_pos ((kP_le h4 h1 hP).mpr h), h, Nat.sub_self]
      rfl
    · rw [if_neg (fun q => h ((kP_le h4 h1 hP).mp q)), X4_quarrel N r g hv hk hi (show j < nP v by omega), bd2_s, nI_1, show nP v - j = (nP v - (j + 1)) + 1 by omega, qI]
      by_cases q : qr v i j = true
      · rw [q, b01_t, if_neg (by decide), if_pos rfl]
        obtain ⟨c', e⟩ := qI_some v i (nP v - (j + 1)) (j + 1) (c + 1) (10 * i + j)
        rw [show orO (none : Option Nat) (10 * i + j) = some (10 * i + j) from rfl, e, show (10 : Int32) = nI 10 from rfl, pk_mul, nI_add]
        rfl
      · have q := Bool.eq_false_iff.mpr q
        rw [q, b01_f, if_pos rfl, if_neg Bool.false_ne_true]
        exact ih (j + 1) (by omega) (by omega)
theorem L_fq2 (N r : Nat) (hN : 2000 ≤ N) (g : GS) {B : Nat} {v : Nat → Int32} (hv : VA B v) (hk : RK (g 0 r) (g 12 r) (g 13 r) v) : ∀ (n i c : Nat), i ≤ nP v → nP v < i + n → L_X4_firstQuarrel_2 N r n (nI i) g = some (lpr (qO v (nP v) (nP v - i) i (c, none)).2 (nI (nP v)) g) := by
  have hP := hv.2.1
  have h4 : g 0 r 4 = nI (nP v) := hk.1.trans hv.1
  intro n
  induction n with
  | zero => intro j s h1 h2; omega
  | succ n ih =>
    intro i c h1 h2
    rw [L_X4_firstQuarrel_2]
    by_cases h : i = nP v
    · rw [if_pos ((kP_le h4 h1 hP).mpr h), h, Nat.sub_self]
      rfl
    · rw [if_neg (fun q => h ((kP_le h4 h1 hP).mp q)), nI_1, L_fq14 N r g hv hk (show i < nP v by omega) c N (i + 1) (by omega) (by omega), show nP v - i = (nP v - (i + 1)) + 1 by omega, qO]
      generalize qI v i (nP v - (i + 1)) (i + 1) (c, none) = s
      obtain ⟨c1, o⟩ := s
      cases o with
      | none =>
        show L_X4_firstQuarrel_2 N r n (nI (i + 1)) g = _
        exact ih (i + 1) c1 (by omega) (by omega)
      | some x =>
        obtain ⟨c', e⟩ := qO_some v (nP v) (nP v - (i + 1)) (i + 1) c1 x
        rw [e]
        rfl
/-- the reference's step -/
theorem M_qr {B : Nat} {v : Nat → Int32} (hv : VA B v) {a b : Nat} (ha : a < nP v) (hb : b < nP v) : qr v a b = (!decide ((if pf v a 3 = 2 then pf v a 6 else -1000000) = (-1000000 : Int32)) && decide ((if pf v a 3 = 2 then pf v a 6 else -1000000) = (if pf v b 3 = 2 then pf v b 6 else (-1000000 : Int32)))) := by
  unfold qr
  obtain ⟨-, -, -, -, -, c6⟩ := VA_paper hv ha
  have hne : pf v a 3 = 2 → pf v a 6 ≠ -1000000 := fun h => by
    obtain ⟨n, hn, e⟩ := c6 h
    have e : pf v a 6 = nI n := e
    rw [e]
    intro q
    have := congrArg Int32.toInt q
    rw [nI_toInt (by omega), show (-1000000 : Int32).toInt = -1000000 by decide] at this
    omega
  by_cases q1 : pf v a 3 = 2
  · by_cases q2 : pf v b 3 = 2
    · simp [q1, q2, hne q1]
    · simp [q1, q2, hne q1]
  · simp [q1]
theorem M_q53 (N : Nat) (g : GS) {B : Nat} (hv : VA B (g 11 5)) (x : Int32) {i : Nat} (hi : i < nP (g 11 5)) : ∀ (n j : Nat) (s : Nat × Option Nat), (s.1 = 0 ↔ s.2 = none) → s.1 ≤ 6 * i + j → j ≤ nP (g 11 5) → nP (g 11 5) < j + n → L_X8_quarrels_53 N x (nI i) n (nI s.1) (ans s.2) (nI j) g = some (nI (qI (g 11 5) i (nP (g 11 5) - j) j s).1, ans (qI (g 11 5) i (nP (g 11 5) - j) j s).2, nI (nP (g 11 5)), g) ∧ ((qI (g 11 5) i (nP (g 11 5) - j) j s).1 = 0 ↔ (qI (g 11 5) i (nP (g 11 5) - j) j s).2 = none) ∧ (qI (g 11 5) i (nP (g 11 5) - j) j s).1 ≤ 6 * i + nP (g 11 5) := by
  have hP := hv.2.1
  intro n
  induction n with
  | zero => intro j s _ _ h1 h2; omega
  | succ n ih =>
    intro j s hs hc h1 h2
    rw [L_X8_quarrels_53, show ix (0 : Int32) 53 = some 0 from by decide, bd1_s]
    by_cases h : j = nP (g 11 5)
    · rw [if_pos ((nP_le hv.1 h1 hP).mpr h), h, Nat.sub_self]
      exact ⟨rfl, hs, by rw [← h]; exact hc⟩
    · rw [if_neg (fun q => h ((nP_le hv.1 h1 hP).mp q)), X8_cellOf N 5 i (by omega) rfl, bd2_s, X8_cellOf N 5 i (by omega) rfl, bd2_s, X8_cellOf N 5 j (by omega) rfl, bd2_s, nI_1, nI_1, show nP (g 11 5) - j = (nP (g 11 5) - (j + 1)) + 1 by omega, qI]
      have e := M_qr hv hi (show j < nP (g 11 5) by omega)
      have no := ih (j + 1) s hs (by omega) (by omega) (by omega)
      generalize (if pf (g 11 5) i 3 = 2 then pf (g 11 5) i 6 else (-1000000 : Int32)) = A at e ⊢
      generalize (if pf (g 11 5) j 3 = 2 then pf (g 11 5) j 6 else (-1000000 : Int32)) = C at e ⊢
      by_cases q1 : A = -1000000
      · rw [if_pos q1]
        have e : qr (g 11 5) i j = false := by rw [e]; simp [q1]
        rw [e, if_neg Bool.false_ne_true]
        exact no
      · rw [if_neg q1]
        by_cases q2 : A = C
        · rw [if_pos q2]
          have e : qr (g 11 5) i j = true := by rw [e]; simp [q1]; exact q2
          rw [e, if_pos rfl]
          have yes := ih (j + 1) (s.1 + 1, orO s.2 (10 * i + j)) (by obtain ⟨c, o⟩ := s; cases o <;> simp [orO]) (by show s.1 + 1 ≤ _; omega) (by omega) (by omega)
          by_cases q3 : s.1 = 0
          · rw [if_pos (by rw [q3]; rfl)]
            have ea : ans (orO s.2 (10 * i + j)) = (10 : Int32) * nI i + nI j := by
              rw [hs.mp q3, show (10 : Int32) = nI 10 from rfl, pk_mul, nI_add]
              rfl
            rw [ea] at yes
            exact yes
          · rw [if_neg (nI_ne0 (by omega) (by omega))]
            have ea : ans (orO s.2 (10 * i + j)) = ans s.2 := by
              obtain ⟨c, o⟩ := s
              cases o with
              | none => exact absurd (hs.mpr rfl) q3
              | some y => rfl
            rw [ea] at yes
            exact yes
        · rw [if_neg q2]
          have e : qr (g 11 5) i j = false := by rw [e]; simp [q2]
          rw [e, if_neg Bool.false_ne_true]
          exact no
theorem M_q36 (N : Nat) (hN : 2000 ≤ N) (g : GS) {B : Nat} (hv : VA B (g 11 5)) (x : Int32) : ∀ (n i : Nat) (s : Nat × Option Nat), (s.1 = 0 ↔ s.2 = none) → s.1 ≤ 6 * i → i ≤ nP (g 11 5) → nP (g 11 5) < i + n → L_X8_quarrels_36 N x n (nI s.1) (ans s.2) (nI i) g = some (nI (qO (g 11 5) (nP (g 11 5)) (nP (g 11 5) - i) i s).1, ans (qO (g 11 5) (nP (g 11 5)) (nP (g 11 5) - i) i s).2, nI (nP (g 11 5)), g) := by
  have hP := hv.2.1
  intro n
  induction n with
  | zero => intro j s _ _ h1 h2; omega
  | succ n ih =>
    intro i s hs hc h1 h2
    rw [L_X8_quarrels_36, show ix (0 : Int32) 53 = some 0 from by decide, bd1_s]
    by_cases h : i = nP (g 11 5)
    · rw [if_pos ((nP_le hv.1 h1 hP).mpr h), h, Nat.sub_self]
      rfl
    · obtain ⟨e, a, b⟩ := M_q53 N g hv x (show i < nP (g 11 5) by omega) N (i + 1) s hs (by omega) (by omega) (by omega)
      rw [if_neg (fun q => h ((nP_le hv.1 h1 hP).mp q)), nI_1, e, bd4_s, show nP (g 11 5) - i = (nP (g 11 5) - (i + 1)) + 1 by omega, qO]
      exact ih (i + 1) _ a (by omega) (by omega) (by omega)
theorem p_quarrels (N : Nat) (hN : 2000 ≤ N) (y : Int32) (g : GS) (h : Rel g) : Sim (F_X7_quarrels N y) (F_X8_quarrels N y) g := by
  obtain ⟨hv, hk⟩ := h.2.2.2.2.1
  have hP := hv.2.1
  have h4 : g 0 0 4 = nI (nP (g 11 5)) := hk.1.trans hv.1
  have h0 : (g3 g 10 0 0 0) 11 5 0 = nI (nP (g 11 5)) := hv.1
  rcases Nat.eq_zero_or_pos (nP (g 11 5)) with hz0 | hz
  · have hz : ¬ 0 < nP (g 11 5) := by omega
    exact Sim.read h (-1000002) (by unfold F_X7_quarrels; rw [X4_isRead N 0 _ hP g h4, bd2_s, decide_eq_false hz, b01_f, if_pos rfl]) (by unfold F_X8_quarrels; rw [X8_isThere N _ hP _ h0, bd2_s, decide_eq_false hz, b01_f, if_pos rfl])
  have M := M_q36 N hN (g3 g 10 0 0 0) (B := 999) hv y N 0 (0, none) (by simp) (by decide) (by omega) (by show nP (g 11 5) < 0 + N; omega)
  rw [nI_0] at M
  by_cases y0 : y = 0
  · subst y0
    refine Sim.read h (nI (qO (g 11 5) (nP (g 11 5)) (nP (g 11 5) - 0) 0 (0, none)).1) ?_ ?_
    · unfold F_X7_quarrels F_X4_quarrelCount
      have e := L_qc4 N 0 hN g hv hk N 0 (0, none) (by omega) (by omega)
      rw [nI_0] at e
      rw [X4_isRead N 0 _ hP g h4, bd2_s, decide_eq_true hz, b01_t, if_neg (by decide), if_pos rfl]
      show bd2 (bd3 (L_X4_quarrelCount_4 N 0 N 0 0 g) _) _ = _
      rw [show L_X4_quarrelCount_4 N 0 N 0 0 g = _ from e, bd3_s, bd2_s]
    · unfold F_X8_quarrels
      rw [X8_isThere N _ hP _ h0, bd2_s, decide_eq_true hz, b01_t, if_neg (by decide), X8_inL N 0 0 1 (by decide) (by decide), bd2_s, show wi 0 0 1 = 1 from by decide, if_neg (by decide)]
      rw [show L_X8_quarrels_36 N 0 N 0 (-1000000) 0 (g3 g 10 0 0 0) = _ from M, bd4_s, if_pos rfl]
      rfl
  by_cases y1 : y = 1
  · subst y1
    refine Sim.read h (ans (qO (g 11 5) (nP (g 11 5)) (nP (g 11 5) - 0) 0 (0, none)).2) ?_ ?_
    · unfold F_X7_quarrels F_X4_firstQuarrel
      have e := L_fq2 N 0 hN g hv hk N 0 0 (by omega) (by omega)
      rw [nI_0] at e
      rw [X4_isRead N 0 _ hP g h4, bd2_s, decide_eq_true hz, b01_t, if_neg (by decide), if_neg (by decide), if_pos rfl, e, bs2_lpr, bd2_s]
    · unfold F_X8_quarrels
      rw [X8_isThere N _ hP _ h0, bd2_s, decide_eq_true hz, b01_t, if_neg (by decide), X8_inL N 1 0 1 (by decide) (by decide), bd2_s, show wi 1 0 1 = 1 from by decide, if_neg (by decide)]
      rw [show L_X8_quarrels_36 N 1 N 0 (-1000000) 0 (g3 g 10 0 0 0) = _ from M, bd4_s, if_neg (by decide)]
      rfl
  have hw : wi y 0 1 = 0 := by
    rcases wi_cases y 0 1 with ⟨w, -⟩ | ⟨w, w1, w2⟩
    · exact w
    · obtain ⟨j, hj, rfl⟩ := wi_nI (n := 1) (by decide) w1 w2
      rcases (show j = 0 ∨ j = 1 by omega) with rfl | rfl
      · exact absurd rfl y0
      · exact absurd rfl y1
  exact Sim.read h (-1000001) (by unfold F_X7_quarrels; rw [X4_isRead N 0 _ hP g h4, bd2_s, decide_eq_true hz, b01_t, if_neg (by decide), if_neg y0, if_neg y1]) (by unfold F_X8_quarrels; rw [X8_isThere N _ hP _ h0, bd2_s, decide_eq_true hz, b01_t, if_neg (by decide), X8_inL N y 0 1 (by decide) (by decide), bd2_s, hw, if_pos rfl])
