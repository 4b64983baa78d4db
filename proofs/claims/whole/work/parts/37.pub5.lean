/-! ===== how many; quarrels; light ===== -/
def bcJ (x : Int32) : Int32 := match F_J6_bitCount_0f7a4 0 x (fun _ _ _ => 0) with
  | some (r, _) => r
  | none => 0
theorem J6_bitCount (N : Nat) (x : Int32) (g : GS) : F_J6_bitCount_0f7a4 N x g = some (bcJ x, g) := rfl
def bsum (x : Int32) : Nat → Int32
  | 0 => 0
  | n + 1 => bsum x n + ((x >>> (nI n &&& 31)) &&& 1)
theorem L_bits (N : Nat) (x : Int32) (g : GS) : ∀ (n i : Nat), i ≤ 6 → 6 < i + n → L_X8_bits_4 N x n (bsum x i) (nI i) g = some (bsum x 6, nI 6, g) := by
  intro n
  induction n with
  | zero => intro i h1 h2; omega
  | succ n ih =>
    intro i h1 h2
    rw [L_X8_bits_4]
    by_cases h : i = 6
    · subst h
      rw [if_pos (by decide)]
    · rw [if_neg (show ¬ (6 : Int32) ≤ nI i from nI_ge (b := 6) (by omega) (by omega)), nI_1]
      exact ih (i + 1) (by omega) (by omega)
theorem X8_bits (N : Nat) (hN : 2000 ≤ N) (x : Int32) (g : GS) : F_X8_bits N x g = some (bsum x 6, g) := by
  unfold F_X8_bits
  have := L_bits N x g N 0 (by omega) (by omega)
  rw [show bsum x 0 = 0 from rfl, nI_0] at this
  rw [this, bd3_s]
set_option maxRecDepth 100000 in
theorem bc_eq : ∀ m, m < 64 → bcJ (nI m) = bsum (nI m) 6 := by decide +kernel
set_option maxRecDepth 100000 in
theorem or_pow : ∀ n, n < 6 → ∀ m, m < 64 → m < 2 ^ n → nI m ||| ((1 : Int32) <<< (nI n &&& 31)) = nI (m + 2 ^ n) := by decide +kernel
theorem bitsF_n (f : Nat → Bool) : ∀ n, n ≤ 6 → ∃ m, m < 2 ^ n ∧ bitsF f n = nI m := by
  intro n
  induction n with
  | zero => intro _; exact ⟨0, by decide, rfl⟩
  | succ n ih =>
    intro hn
    obtain ⟨m, hm, e⟩ := ih (by omega)
    have h64 : 2 ^ n ≤ 2 ^ 6 := Nat.pow_le_pow_right (by decide) (by omega)
    have hp : 2 ^ (n + 1) = 2 ^ n + 2 ^ n := by rw [Nat.pow_succ]; omega
    rw [bitsF]
    split
    · exact ⟨m + 2 ^ n, by omega, by rw [e, or_pow n (by omega) m (by omega) hm]⟩
    · exact ⟨m, by omega, e⟩
theorem bc_bits (f : Nat → Bool) {P : Nat} (hP : P ≤ 6) : bcJ (bitsF f P) = bsum (bitsF f P) 6 := by
  obtain ⟨m, hm, e⟩ := bitsF_n f P hP
  have h64 : 2 ^ P ≤ 2 ^ 6 := Nat.pow_le_pow_right (by decide) hP
  rw [e]
  exact bc_eq m (by omega)
theorem L_rowCount (N : Nat) (g : GS) : ∀ (n i : Nat), i ≤ 8 → 8 < i + n → L_X7_rowCount_4 N n (nI (cntF (fun j => !decide (g 1 j 0 = -1)) i)) (nI i) g = some (nI (cntF (fun j => !decide (g 1 j 0 = -1)) 8), nI 8, g) := by
  intro n
  induction n with
  | zero => intro i h1 h2; omega
  | succ n ih =>
    intro i h1 h2
    rw [L_X7_rowCount_4]
    by_cases h : i = 8
    · subst h
      rw [if_pos (by decide)]
    · have ih' := ih (i + 1) (by omega) (by omega)
      rw [if_neg (show ¬ (8 : Int32) ≤ nI i from nI_ge (b := 8) (by omega) (by omega)), ix_nI (by omega) (by decide), bd1_s, X5_isMissing, bd2_s, nI_1, nI_1]
      by_cases q : g 1 i 0 = -1
      · rw [if_pos q, if_neg (by decide)]
        rw [cntF, if_neg (by simp [q])] at ih'
        exact ih'
      · rw [if_neg q, if_pos rfl]
        rw [cntF, if_pos (by simp [q])] at ih'
        exact ih'
theorem L_count58 (N : Nat) (x : Int32) (g : GS) (k1 : Nat → Nat → Int32) (hl : ∀ j, j < 8 → (g 11 2 j < 0 ↔ k1 j 0 = -1)) : ∀ (n i : Nat), i ≤ 8 → 8 < i + n → L_X8_count_58 N x n (nI (cntF (fun j => !decide (k1 j 0 = -1)) i)) (nI i) g = some (nI (cntF (fun j => !decide (k1 j 0 = -1)) 8), nI 8, g) := by
  intro n
  induction n with
  | zero => intro i h1 h2; omega
  | succ n ih =>
    intro i h1 h2
    rw [L_X8_count_58]
    by_cases h : i = 8
    · subst h
      rw [if_pos (by decide)]
    · have ih' := ih (i + 1) (by omega) (by omega)
      rw [if_neg (show ¬ (8 : Int32) ≤ nI i from nI_ge (b := 8) (by omega) (by omega)), ix_nI (by omega) (by decide), bd1_s, nI_1]
      by_cases q : k1 i 0 = -1
      · rw [if_pos ((hl i (by omega)).mpr q)]
        rw [cntF, if_neg (by simp [q])] at ih'
        rw [show ∀ y : Int32, y + 0 = y from fun y => Int32.add_zero y]
        exact ih'
      · rw [if_neg (fun z => q ((hl i (by omega)).mp z)), nI_1]
        rw [cntF, if_pos (by simp [q])] at ih'
        exact ih'

theorem p_count (N : Nat) (hN : 2000 ≤ N) (y : Int32) (g : GS) (h : Rel g) : Sim (F_X7_count N y) (F_X8_count N y) g := by
  obtain ⟨hv, hk⟩ := h.2.2.2.2.1
  have hP := hv.2.1
  have h4 : g 0 0 4 = nI (nP (g 11 5)) := hk.1.trans hv.1
  have h0 : (g3 g 10 0 0 0) 11 5 0 = nI (nP (g 11 5)) := hv.1
  by_cases y0 : y = 0
  · refine Sim.read h (nI (cntF (fun j => !decide (g 1 j 0 = -1)) 8)) ?_ ?_
    · unfold F_X7_count
      unfold F_X7_rowCount
      have e := L_rowCount N g N 0 (by omega) (by omega)
      rw [cntF, nI_0] at e
      rw [if_pos y0, e, bd3_s, bd2_s]
    · unfold F_X8_count
      have e := L_count58 N y (g3 g 10 0 0 0) (g 1) (fun j hj => by
        show g 11 2 j < 0 ↔ _
        rcases RR_lane h.1 hj with ⟨a, b⟩ | ⟨a, b, -⟩
        · exact ⟨fun _ => a, fun _ => b⟩
        · exact ⟨fun z => absurd z b, fun z => absurd z a⟩) N 0 (by omega) (by omega)
      rw [cntF, nI_0] at e
      rw [if_pos y0, e, bd3_s]
  by_cases y1 : y = 1
  · refine Sim.read h (g 11 5 0) ?_ ?_
    · unfold F_X7_count
      rw [if_neg y0, if_pos y1, hk.1]
    · unfold F_X8_count
      rw [if_neg y0, if_pos y1, show ix (0 : Int32) 53 = some 0 from by decide, bd1_s]
  by_cases y2 : y = 2
  · refine Sim.read h (g 11 5 1) ?_ ?_
    · unfold F_X7_count
      rw [if_neg y0, if_neg y1, if_pos y2, hk.2.1]
    · unfold F_X8_count
      rw [if_neg y0, if_neg y1, if_pos y2, show ix (1 : Int32) 53 = some 1 from by decide, bd1_s]
  by_cases y3 : y = 3
  · refine Sim.read h (g 11 5 4) ?_ ?_
    · unfold F_X7_count
      rw [if_neg y0, if_neg y1, if_neg y2, if_pos y3, hk.2.2.1]
    · unfold F_X8_count
      rw [if_neg y0, if_neg y1, if_neg y2, if_pos y3, show ix (4 : Int32) 53 = some 4 from by decide, bd1_s]
  by_cases y4 : y = 4
  · refine Sim.read h (bsum (bitsF (fun p => decide (pf (g 11 5) p 3 = 1)) (nP (g 11 5))) 6) ?_ ?_
    · unfold F_X7_count
      rw [if_neg y0, if_neg y1, if_neg y2, if_neg y3, if_pos y4, X4_bitsOf N 0 hN 1 g hv hk, bd2_s, J6_bitCount, bd2_s, bc_bits _ hP]
    · unfold F_X8_count
      rw [if_neg y0, if_neg y1, if_neg y2, if_neg y3, if_pos y4, X8_those N 5 _ hN 1 rfl hP _ h0, bd2_s, X8_bits N hN, bd2_s]
      rfl
  by_cases y5 : y = 5
  · refine Sim.read h (bsum (bitsF (fun p => decide (pf (g 11 5) p 3 = 2)) (nP (g 11 5))) 6) ?_ ?_
    · unfold F_X7_count
      rw [if_neg y0, if_neg y1, if_neg y2, if_neg y3, if_neg y4, if_pos y5, X4_bitsOf N 0 hN 2 g hv hk, bd2_s, J6_bitCount, bd2_s, bc_bits _ hP]
    · unfold F_X8_count
      rw [if_neg y0, if_neg y1, if_neg y2, if_neg y3, if_neg y4, if_pos y5, X8_those N 5 _ hN 2 rfl hP _ h0, bd2_s, X8_bits N hN, bd2_s]
      rfl
  by_cases y6 : y = 6
  · refine Sim.read h (g 6 0 1) ?_ ?_
    · unfold F_X7_count
      rw [if_neg y0, if_neg y1, if_neg y2, if_neg y3, if_neg y4, if_neg y5, if_pos y6]
    · unfold F_X8_count
      rw [if_neg y0, if_neg y1, if_neg y2, if_neg y3, if_neg y4, if_neg y5, if_pos y6]
      obtain ⟨l, ⟨n, _, _, a1, _⟩, ⟨m0, _⟩, _⟩ := h.2.2.2.2.2.1
      exact congrArg (fun z => some (z, g3 g 10 0 0 0)) (m0.trans a1.symm)
  by_cases y7 : y = 7
  · refine Sim.read h (g 3 0 0) ?_ ?_
    · unfold F_X7_count
      rw [if_neg y0, if_neg y1, if_neg y2, if_neg y3, if_neg y4, if_neg y5, if_neg y6, if_pos y7]
    · unfold F_X8_count
      rw [if_neg y0, if_neg y1, if_neg y2, if_neg y3, if_neg y4, if_neg y5, if_neg y6, if_pos y7]
      obtain ⟨z, _, e1, e2, _⟩ := h.2.1
      exact congrArg (fun z => some (z, g3 g 10 0 0 0)) (e2.trans e1.symm)
  exact Sim.read h (-1000001) (by unfold F_X7_count; rw [if_neg y0, if_neg y1, if_neg y2, if_neg y3, if_neg y4, if_neg y5, if_neg y6, if_neg y7]) (by unfold F_X8_count; rw [if_neg y0, if_neg y1, if_neg y2, if_neg y3, if_neg y4, if_neg y5, if_neg y6, if_neg y7])

/-- the greatest of n numbers -/
def fndD (c : Nat → Bool) : Nat → Option Nat
  | 0 => none
  | n + 1 => if c (n + 1) then some (n + 1) else fndD c n
theorem VA_field2 {B : Nat} {v : Nat → Int32} (hv : VA B v) {j : Nat} (hj : j < nP v) {n : Nat} (h1 : 1 ≤ n) (h2 : n ≤ 60) : VA B (va_up v (11 + 7 * j + 2) (nI n)) := by
  refine VA_up hv hj (fun k hk => up_ne _ _ (by omega)) ?_
  obtain ⟨q0, q1, q2, q3, q4, q5⟩ := VA_paper hv hj
  exact ⟨by simpa [va_up] using q0, by simpa [va_up] using q1, ⟨n, h1, h2, by simp [va_up]⟩, by simpa [va_up] using q3, by simpa [va_up] using q4, by simpa [va_up] using q5⟩
/-- a field but 3 of a PAPER in both -/
theorem RK_field {sc fo pa v : Nat → Int32} (hk : RK sc fo pa v) (hW : nW v ≤ 6) {j f : Nat} (hj : j < nP v) (hf : f < 6) (h3 : f ≠ 3) (x : Int32) : RK sc fo (va_up pa (7 * j + f) x) (va_up v (11 + 7 * j + f) x) := by
  refine RK_up hk hW (i := j) (fun k hk => ?_) (fun k hk => ?_) (fun k h11 hk => ?_) (fun f2 hf2 => ?_) ?_
  · rw [up_ne _ _ (by omega)]
  · rw [up_ne _ _ (by omega)]
  · rw [up_ne _ _ (by omega)]
  · by_cases q : f2 = f
    · subst q; rw [up_same, up_same]
    · rw [up_ne _ _ (by omega), up_ne _ _ (by omega)]; exact RK_f hk hj hf2
  · rw [up_ne _ _ (by omega), up_ne _ _ (by omega), up_ne _ _ (by omega)]; exact (hk.2.2.2.2.2 j hj).2
theorem K_light (N : Nat) (hN : 2000 ≤ N) (g : GS) {v : Nat → Int32} (hv : VA 999 v) (hk : RK (g 0 0) (g 12 0) (g 13 0) v) (j : Nat) (hj : j < nP v) (m : Nat) (hm : m ≤ 30) : ∀ (n i : Nat) (sc fo pa : Nat → Int32), i ≤ 60 → i < n → ∃ sc' fo' pa', L_X2_greatestWeight_3 N (nI j) (nI m) n (nI i) (D1 g sc fo pa) = some (lpr (fndD (fun w => aPol (aHrs (va_up v (11 + 7 * j + 2) (nI w)) m) j) i) (nI 0) (D1 g sc' fo' pa')) := by
  have hP := hv.2.1
  intro n
  induction n with
  | zero => intro i sc fo pa h1 h2; omega
  | succ n ih =>
    intro i sc fo pa h1 h2
    rw [L_X2_greatestWeight_3]
    match i, h1, h2 with
    | 0, _, _ =>
      rw [if_pos (by decide)]
      exact ⟨sc, fo, pa, rfl⟩
    | i + 1, h1, h2 =>
      rw [if_neg (show ¬ nI (i + 1) < (1 : Int32) from nI_nlt (b := 1) (by omega) (by omega)), fndD]
      unfold F_X2_draftWith
      obtain ⟨sc1, fo1, pa1, e1, k1⟩ := draft_lay N hN g hv hk sc fo pa
      have k2 := RK_field k1 hv.2.2.2.1 hj (f := 2) (by decide) (by decide) (nI (i + 1))
      have hV := VA_field2 hv hj (n := i + 1) (by omega) (by omega)
      have eP : nP (va_up v (11 + 7 * j + 2) (nI (i + 1))) = nP v := nP_eq (up_ne _ _ (by omega))
      obtain ⟨sc3, pa3, e3, k3⟩ := X2_passDraft N hN g _ hV m (by omega) (by decide) sc1 fo1 _ k2
      obtain ⟨hV3, hP3, -, -⟩ := VA_hrs hV m (by omega)
      have hj3 : j < nP (aHrs (va_up v (11 + 7 * j + 2) (nI (i + 1))) m) := by rw [hP3, eP]; exact hj
      rw [e1, bd1_s, if_neg (by decide), if_neg (by decide), if_pos (by decide), ix_nI (by omega) (by decide), bd1_s, bd1_s, g3_g2, D1_13, D1_p, e3, bd1_s, X4_isPolicy N 1 j (by omega) (D1 g sc3 fo1 pa3) (RK_f k3 hj3 (by decide)) (RK_f k3 hj3 (by decide)) (k3.2.2.2.1 (by omega)).1, bd2_s]
      by_cases q : aPol (aHrs (va_up v (11 + 7 * j + 2) (nI (i + 1))) m) j = true
      · rw [q, b01_t, if_neg (by decide), if_pos rfl]
        exact ⟨sc3, fo1, pa3, rfl⟩
      · have q := Bool.eq_false_iff.mpr q
        rw [q, b01_f, if_pos rfl, if_neg Bool.false_ne_true, pk_m1]
        exact ih i sc3 fo1 pa3 (by omega) (by omega)
theorem M_light (N : Nat) (hN : 2000 ≤ N) (g : GS) {v : Nat → Int32} (e5 : g 11 5 = v) (hv : VA 999 v) (j : Nat) (hj : j < nP v) (m : Nat) (hm : m ≤ 30) : ∀ (n i : Nat) (ris u : Nat → Int32), i ≤ 60 → i < n → ∃ ris' u', L_X8_light_31 N (nI j) (nI m) n (nI i) (T7 g ris u) = some (lpr (fndD (fun w => aPol (aHrs (va_up v (11 + 7 * j + 2) (nI w)) m) j) i) (nI 0) (T7 g ris' u')) := by
  have hP := hv.2.1
  intro n
  induction n with
  | zero => intro i ris u h1 h2; omega
  | succ n ih =>
    intro i ris u h1 h2
    rw [L_X8_light_31]
    match i, h1, h2 with
    | 0, _, _ =>
      rw [if_pos (by decide)]
      exact ⟨ris, u, rfl⟩
    | i + 1, h1, h2 =>
      rw [if_neg (nI_nle (by omega) (by omega)), fndD]
      obtain ⟨r1, u1, e1, k1⟩ := then_lay N hN g ris u
      rw [e5] at k1
      have hV := VA_field2 hv hj (n := i + 1) (by omega) (by omega)
      obtain ⟨r3, u3, e3, k3⟩ := then_hours N hN g r1 (va_up u1 (11 + 7 * j + 2) (nI (i + 1))) hV (e53_up k1 _ rfl) m (by omega) (by decide)
      rw [e1, bd1_s, X8_be2 N 7 j (by omega) rfl, bd1_s, g3_g2, T7_7, T7_u, e3, bd1_s, X8_isPolicy' N 7 j (by omega) rfl, bd2_s, T7_7, e53_aPol k3 (by omega)]
      by_cases q : aPol (aHrs (va_up v (11 + 7 * j + 2) (nI (i + 1))) m) j = true
      · rw [q, b01_t, if_neg (by decide), if_pos rfl]
        exact ⟨r3, u3, rfl⟩
      · have q := Bool.eq_false_iff.mpr q
        rw [q, b01_f, if_pos rfl, if_neg Bool.false_ne_true, pk_m1]
        exact ih i r3 u3 (by omega) (by omega)

theorem p_light (N : Nat) (hN : 2000 ≤ N) (x y : Int32) (g : GS) (h : Rel g) : Sim (F_X7_light N x y) (F_X8_light N x y) g := by
  obtain ⟨hv, hk⟩ := h.2.2.2.2.1
  have hP := hv.2.1
  have h4 : g 0 0 4 = nI (nP (g 11 5)) := hk.1.trans hv.1
  have h0 : (g3 g 10 0 0 0) 11 5 0 = nI (nP (g 11 5)) := hv.1
  rcases hp_cases x (P := nP (g 11 5)) (by omega) with w | ⟨w, j, hj, rfl⟩
  · exact Sim.read h (-1000001) (by unfold F_X7_light; rw [X4_hasPaper N 0 _ x g h4, bd2_s, w, if_pos rfl]) (by unfold F_X8_light; rw [X8_isPaper N _ hP x _ h0, bd2_s, w, if_pos rfl])
  rcases wi_cases y 1 30 with ⟨u, -⟩ | ⟨u, u1, u2⟩
  · exact Sim.read h (-1000001) (by unfold F_X7_light; rw [X4_hasPaper N 0 _ _ g h4, bd2_s, w, if_neg (by decide), X7_within, bd2_s, u, if_pos rfl]) (by unfold F_X8_light; rw [X8_isPaper N _ hP _ _ h0, bd2_s, w, if_neg (by decide), X8_inL N y 1 30 (by decide) (by decide), bd2_s, u, if_pos rfl])
  obtain ⟨m, hm1, hm2, rfl⟩ : ∃ n : Nat, 1 ≤ n ∧ n ≤ 30 ∧ y = nI n := by
    rw [i_lt] at u1 u2
    have a : (1 : Int32).toInt = 1 := by decide
    have b : (30 : Int32).toInt = 30 := by decide
    exact ⟨y.toInt.toNat, by omega, by omega, nI_ofI (by omega)⟩
  obtain ⟨sc, fo, pa, e⟩ := K_light N hN g hv hk j hj m hm2 N 60 (g 0 1) (g 12 1) (g 13 1) (by omega) (by omega)
  rw [D1_self] at e
  have l := M_light N hN (g3 (D1 g sc fo pa) 10 0 0 0) (v := g 11 5) rfl hv j hj m hm2 N 60 ((g3 (D1 g sc fo pa) 10 0 0 0) 11 8) ((g3 (D1 g sc fo pa) 10 0 0 0) 11 7) (by omega) (by omega)
  rw [T7_self] at l
  obtain ⟨ris, u, l⟩ := l
  refine Sim.draft h (ans (fndD (fun w => aPol (aHrs (va_up (g 11 5) (11 + 7 * j + 2) (nI w)) m) j) 60)) sc fo pa ris u ?_ ?_
  · unfold F_X7_light F_X2_greatestWeight
    rw [X4_hasPaper N 0 _ _ g h4, bd2_s, w, if_neg (by decide), X7_within, bd2_s, ‹wi (nI m) 1 30 = 1›, if_neg (by decide), show (60 : Int32) = nI 60 from rfl, e, bs2_lpr, bd2_s]
  · unfold F_X8_light
    rw [X8_isPaper N (nP (g 11 5)) hP _ (g3 (D1 g sc fo pa) 10 0 0 0) hv.1, bd2_s, w, if_neg (by decide), X8_inL N _ 1 30 (by decide) (by decide), bd2_s, ‹wi (nI m) 1 30 = 1›, if_neg (by decide), show (60 : Int32) = nI 60 from rfl, l, bs2_lpr]

