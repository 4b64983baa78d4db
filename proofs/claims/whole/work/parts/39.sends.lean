/-! ===== sends ===== -/
def hasB (s : Int32) (p : Nat) : Bool := decide ((s >>> (nI p &&& 31)) &&& 1 = 1)
/-- those of s below n have been sent up -/
def aSnd (v : Nat → Int32) (s y : Int32) : Nat → Nat → Int32
  | 0 => v
  | n + 1 => if hasB s n then aSend (aSnd v s y n) n y else aSnd v s y n
theorem aSnd_VA {B : Nat} {v : Nat → Int32} (h : VA B v) (s : Int32) {y : Nat} (h1 : 1 ≤ y) (h2 : y ≤ 40) : ∀ n, n ≤ nP v → VA B (aSnd v s (nI y) n) ∧ nP (aSnd v s (nI y) n) = nP v := by
  intro n
  induction n with
  | zero => intro _; exact ⟨h, rfl⟩
  | succ n ih =>
    intro hn
    obtain ⟨a, b⟩ := ih (by omega)
    rw [aSnd]
    split
    · exact ⟨VA_send a (by omega) h1 h2, by rw [nP_eq (aSend_lo _ _ _ (by omega)), b]⟩
    · exact ⟨a, b⟩
theorem e53_aSend {u v : Nat → Int32} (h : E53 u v) (j : Nat) (x : Int32) : E53 (aSend u j x) (aSend v j x) := e53_up (e53_up (e53_up h _ rfl) _ rfl) _ rfl
theorem L_sendAll (N : Nat) (g : GS) {B : Nat} {v : Nat → Int32} (hv : VA B v) (s : Int32) {y : Nat} (h1y : 1 ≤ y) (h2y : y ≤ 40) (sc fo : Nat → Int32) : ∀ (n i : Nat) (pa : Nat → Int32), RK sc fo pa (aSnd v s (nI y) i) → i ≤ nP v → nP v < i + n → ∃ pa', L_X4_sendAll_2 N 1 s (nI y) n (nI i) (D1 g sc fo pa) = some (nI (nP v), D1 g sc fo pa') ∧ RK sc fo pa' (aSnd v s (nI y) (nP v)) := by
  have hP := hv.2.1
  intro n
  induction n with
  | zero => intro i pa _ h1 h2; omega
  | succ n ih =>
    intro i pa hk h1 h2
    obtain ⟨hV, eP⟩ := aSnd_VA hv s h1y h2y i h1
    have h4 : (D1 g sc fo pa) 0 1 4 = nI (nP v) := by rw [D1_0, hk.1, hV.1, eP]
    rw [L_X4_sendAll_2]
    by_cases h : i = nP v
    · rw [if_pos ((kP_le h4 h1 hP).mpr h), h]
      exact ⟨pa, rfl, h ▸ hk⟩
    · rw [if_neg (fun q => h ((kP_le h4 h1 hP).mp q)), nI_1]
      by_cases q : hasB s i = true
      · rw [if_pos (by simpa [hasB] using q), ix_nI (by omega) (by decide), bd1_s]
        rw [show F_X3_rise N 1 i (nI y) (D1 g sc fo pa) = some (D1 g sc fo _) from X3_rise N 1 i (nI y) (g2 (g2 g 0 1 sc) 12 1 fo) pa, bd1_s]
        refine ih (i + 1) _ ?_ (by omega) (by omega)
        rw [aSnd, if_pos q]
        exact RK_send hk hV.2.2.2.1 (by omega) (nI y)
      · rw [if_neg (by simpa [hasB] using q)]
        refine ih (i + 1) pa ?_ (by omega) (by omega)
        rw [aSnd, if_neg q]
        exact hk
theorem L_sends97 (N : Nat) (g : GS) {B : Nat} {v : Nat → Int32} (e5 : g 11 5 = v) (hv : VA B v) (z1 z3 z4 z5 s : Int32) (y : Int32) : ∀ (n i : Nat) (ris u : Nat → Int32), E53 u (aSnd v s y i) → i ≤ nP v → nP v < i + n → ∃ u', L_X8_sends_97 N z1 y z3 z4 z5 s n (nI i) (T7 g ris u) = some (nI (nP v), T7 g ris u') ∧ E53 u' (aSnd v s y (nP v)) := by
  have hP := hv.2.1
  intro n
  induction n with
  | zero => intro i ris u _ h1 h2; omega
  | succ n ih =>
    intro i ris u he h1 h2
    have h0 : (T7 g ris u) 11 5 0 = nI (nP v) := by show g 11 5 0 = _; rw [e5]; exact hv.1
    rw [L_X8_sends_97, show ix (0 : Int32) 53 = some 0 from by decide, bd1_s]
    by_cases h : i = nP v
    · rw [if_pos ((nP_le h0 h1 hP).mpr h), h]
      exact ⟨u, rfl, h ▸ he⟩
    · rw [if_neg (fun q => h ((nP_le h0 h1 hP).mp q)), nI_1]
      unfold F_X8_has
      by_cases q : hasB s i = true
      · rw [if_pos (by simpa [hasB] using q), bd2_s, if_neg (by decide)]
        rw [show F_X8_goesUp N 7 (nI i) y (T7 g ris u) = some (T7 g ris (aSend u i y)) from X8_goesUp N 7 i rfl (by omega) y (g2 g 11 8 ris) u, bd1_s]
        refine ih (i + 1) ris _ ?_ (by omega) (by omega)
        rw [aSnd, if_pos q]
        exact e53_aSend he i y
      · rw [if_neg (by simpa [hasB] using q), bd2_s, if_pos rfl]
        refine ih (i + 1) ris u ?_ (by omega) (by omega)
        rw [aSnd, if_neg q]
        exact he
/-- how many are POLICY then -/
def cvS (v : Nat → Int32) (y : Int32) (m : Nat) (s : Nat) : Int32 := bsum (bitsF (aPol (aHrs (aSnd v (nI s) y (nP v)) m)) (nP v)) 6
def stS (v : Nat → Int32) (y : Int32) (m : Nat) (t : Int32) (s : Nat) (b : Nat × Int32) : Nat × Int32 :=
  if nI s &&& (t ^^^ (-1 : Int32)) = 0 then
    (if b.2 < cvS v y m s then (s, cvS v y m s) else if cvS v y m s = b.2 then (if bsum (nI b.1) 6 ≤ bsum (nI s) 6 then b else (s, cvS v y m s)) else b)
  else b
def sndO (v : Nat → Int32) (y : Int32) (m : Nat) (t : Int32) : Nat → Nat → Nat × Int32 → Nat × Int32
  | 0, _, b => b
  | n + 1, s, b => sndO v y m t n (s + 1) (stS v y m t s b)
theorem stS_lt (v : Nat → Int32) (y : Int32) (m : Nat) (t : Int32) {s : Nat} {b : Nat × Int32} (hs : s < 64) (hb : b.1 < 64) : (stS v y m t s b).1 < 64 := by
  unfold stS
  split
  · split
    · exact hs
    · split
      · split
        · exact hb
        · exact hs
      · exact hb
  · exact hb
theorem K_sends (N : Nat) (hN : 2000 ≤ N) (g : GS) {v : Nat → Int32} (hv : VA 999 v) (hk : RK (g 0 0) (g 12 0) (g 13 0) v) {y : Nat} (h1y : 1 ≤ y) (h2y : y ≤ 40) (m : Nat) (hm : m ≤ 30) (z3 t : Int32) : ∀ (n i : Nat) (b : Nat × Int32) (sc fo pa : Nat → Int32), b.1 < 64 → i ≤ 64 → 64 < i + n → ∃ sc' fo' pa', L_X2_bestToSend_19 N (nI m) (nI y) z3 t n (nI b.1) b.2 (nI i) (D1 g sc fo pa) = some (nI (sndO v (nI y) m t (64 - i) i b).1, (sndO v (nI y) m t (64 - i) i b).2, nI 64, D1 g sc' fo' pa') := by
  have hP := hv.2.1
  intro n
  induction n with
  | zero => intro i b sc fo pa _ h1 h2; omega
  | succ n ih =>
    intro i b sc fo pa hb h1 h2
    rw [L_X2_bestToSend_19]
    by_cases h : i = 64
    · subst h
      rw [if_pos (by decide)]
      exact ⟨sc, fo, pa, rfl⟩
    · rw [if_neg (show ¬ (64 : Int32) ≤ nI i from nI_ge (b := 64) (by omega) (by omega)), show 64 - i = (64 - (i + 1)) + 1 by omega, sndO, nI_1]
      by_cases q : nI i &&& (t ^^^ (-1 : Int32)) = 0
      · rw [if_pos q]
        obtain ⟨sc1, fo1, pa1, e1, k1⟩ := draft_lay N hN g hv hk sc fo pa
        obtain ⟨pa2, e2, k2⟩ := L_sendAll N g hv (nI i) h1y h2y sc1 fo1 N 0 pa1 k1 (by omega) (by omega)
        rw [nI_0] at e2
        obtain ⟨hV, eP⟩ := aSnd_VA hv (nI i) h1y h2y (nP v) (by omega)
        obtain ⟨sc3, pa3, e3, k3⟩ := X2_passDraft N hN g _ hV m (by omega) (by decide) sc1 fo1 pa2 k2
        obtain ⟨hV3, hP3, -, -⟩ := VA_hrs hV m (by omega)
        have ec : bcJ (bitsF (aPol (aHrs (aSnd v (nI i) (nI y) (nP v)) m)) (nP (aHrs (aSnd v (nI i) (nI y) (nP v)) m))) = cvS v (nI y) m i := by
          rw [hP3, eP, bc_bits _ hP]
          rfl
        unfold F_X4_sendAll
        rw [e1, bd1_s, e2, bd2_s, bd1_s, e3, bd1_s, X4_policyBits N 1 hN (D1 g sc3 fo1 pa3) hV3 k3, bd2_s, J6_bitCount, bd2_s, J6_bitCount, bd2_s, J6_bitCount, bd2_s, ec, bc_eq i (by omega), bc_eq b.1 hb]
        have hst := stS_lt v (nI y) m t (s := i) (b := b) (by omega) hb
        have key : ∀ c : Nat × Int32, stS v (nI y) m t i b = c → ∃ sc' fo' pa', L_X2_bestToSend_19 N (nI m) (nI y) z3 t n (nI c.1) c.2 (nI (i + 1)) (D1 g sc3 fo1 pa3) = some (nI (sndO v (nI y) m t (64 - (i + 1)) (i + 1) (stS v (nI y) m t i b)).1, (sndO v (nI y) m t (64 - (i + 1)) (i + 1) (stS v (nI y) m t i b)).2, nI 64, D1 g sc' fo' pa') := by
          rintro c rfl
          exact ih (i + 1) _ sc3 fo1 pa3 hst (by omega) (by omega)
        by_cases r1 : bsum (nI b.1) 6 ≤ bsum (nI i) 6
        · rw [if_pos r1]
          by_cases r2 : b.2 < cvS v (nI y) m i
          · rw [if_pos r2]
            exact key (i, cvS v (nI y) m i) (by unfold stS; rw [if_pos q, if_pos r2])
          · rw [if_neg r2]
            by_cases r3 : cvS v (nI y) m i = b.2
            · rw [if_pos r3, if_pos rfl]
              exact key b (by unfold stS; rw [if_pos q, if_neg r2, if_pos r3, if_pos r1])
            · rw [if_neg r3]
              exact key b (by unfold stS; rw [if_pos q, if_neg r2, if_neg r3])
        · rw [if_neg r1]
          by_cases r2 : b.2 < cvS v (nI y) m i
          · rw [if_pos r2]
            exact key (i, cvS v (nI y) m i) (by unfold stS; rw [if_pos q, if_pos r2])
          · rw [if_neg r2]
            by_cases r3 : cvS v (nI y) m i = b.2
            · rw [if_pos r3, if_neg (by decide)]
              exact key (i, cvS v (nI y) m i) (by unfold stS; rw [if_pos q, if_neg r2, if_pos r3, if_neg r1])
            · rw [if_neg r3]
              exact key b (by unfold stS; rw [if_pos q, if_neg r2, if_neg r3])
      · rw [if_neg q]
        have e : stS v (nI y) m t i b = b := by unfold stS; rw [if_neg q]
        rw [e]
        exact ih (i + 1) b sc fo pa hb (by omega) (by omega)
theorem pow_sh : ∀ P, P ≤ 6 → (1 : Int32) <<< (nI P &&& 31) = nI (2 ^ P) := by
  intro P hP
  rcases (show P = 0 ∨ P = 1 ∨ P = 2 ∨ P = 3 ∨ P = 4 ∨ P = 5 ∨ P = 6 by omega) with rfl | rfl | rfl | rfl | rfl | rfl | rfl <;> decide
theorem M_sends (N : Nat) (hN : 2000 ≤ N) (g : GS) {v : Nat → Int32} (e5 : g 11 5 = v) (hv : VA 999 v) {y : Nat} (h1y : 1 ≤ y) (h2y : y ≤ 40) (m : Nat) (hm : m ≤ 30) (z3 : Int32) : ∀ (n i : Nat) (b : Nat × Int32) (ris u : Nat → Int32), b.1 < 64 → i ≤ 2 ^ nP v → 2 ^ nP v < i + n → ∃ ris' u', L_X8_sends_61 N (nI m) (nI y) z3 n (nI b.1) b.2 (nI i) (T7 g ris u) = some (nI (sndO v (nI y) m (bitsF (fun p => decide (pf v p 3 = 0)) (nP v)) (2 ^ nP v - i) i b).1, (sndO v (nI y) m (bitsF (fun p => decide (pf v p 3 = 0)) (nP v)) (2 ^ nP v - i) i b).2, nI (2 ^ nP v), T7 g ris' u') := by
  have hP := hv.2.1
  have h64 : 2 ^ nP v ≤ 2 ^ 6 := Nat.pow_le_pow_right (by decide) hP
  intro n
  induction n with
  | zero => intro i b ris u _ h1 h2; omega
  | succ n ih =>
    intro i b ris u hb h1 h2
    have h0 : (T7 g ris u) 11 5 0 = nI (nP v) := by show g 11 5 0 = _; rw [e5]; exact hv.1
    have h05 : (T7 g ris u) 11 5 = v := e5
    rw [L_X8_sends_61, show ix (0 : Int32) 53 = some 0 from by decide, bd1_s, h0, pow_sh _ hP]
    by_cases h : i = 2 ^ nP v
    · rw [if_pos (nI_le (by omega) (by omega)), h, Nat.sub_self]
      exact ⟨ris, u, rfl⟩
    · rw [if_neg (nI_ge (by omega) (by omega)), X8_those N 5 (nP v) hN 0 rfl hP (T7 g ris u) h0, bd2_s, h05, show 2 ^ nP v - i = (2 ^ nP v - (i + 1)) + 1 by omega, sndO, nI_1]
      generalize ht : bitsF (fun p => decide (pf v p 3 = 0)) (nP v) = t at ih ⊢
      by_cases q : nI i &&& (t ^^^ (-1 : Int32)) = 0
      · rw [if_pos q]
        obtain ⟨r1, u1, e1, k1⟩ := then_lay N hN g ris u
        rw [e5] at k1
        obtain ⟨u2, e2, k2⟩ := L_sends97 N g e5 hv (nI m) z3 (nI b.1) b.2 (nI i) (nI y) N 0 r1 u1 k1 (by omega) (by omega)
        rw [nI_0] at e2
        obtain ⟨hV, eP⟩ := aSnd_VA hv (nI i) h1y h2y (nP v) (by omega)
        obtain ⟨r3, u3, e3, k3⟩ := then_hours N hN g r1 u2 hV k2 m (by omega) (by decide)
        obtain ⟨hV3, hP3, -, -⟩ := VA_hrs hV m (by omega)
        have h07 : (T7 g r3 u3) 11 7 0 = nI (nP v) := by rw [T7_7, k3 0 (by decide), hV3.1, hP3, eP]
        have ec : bsum (bitsF (aPol ((T7 g r3 u3) 11 7)) (nP v)) 6 = cvS v (nI y) m i := by
          rw [T7_7, bitsF_eq (fun p hp => e53_aPol k3 (show p < 6 by omega))]
          rfl
        rw [e1, bd1_s, e2, bd2_s, e3, bd1_s, X8_policies N 7 (nP v) hN rfl hP _ h07, bd2_s, X8_bits N hN, bd2_s, ec]
        have hst := stS_lt v (nI y) m t (s := i) (b := b) (by omega) hb
        have key : ∀ c : Nat × Int32, stS v (nI y) m t i b = c → ∃ ris' u', L_X8_sends_61 N (nI m) (nI y) z3 n (nI c.1) c.2 (nI (i + 1)) (T7 g r3 u3) = some (nI (sndO v (nI y) m t (2 ^ nP v - (i + 1)) (i + 1) (stS v (nI y) m t i b)).1, (sndO v (nI y) m t (2 ^ nP v - (i + 1)) (i + 1) (stS v (nI y) m t i b)).2, nI (2 ^ nP v), T7 g ris' u') := by
          rintro c rfl
          exact ih (i + 1) _ r3 u3 hst (by omega) (by omega)
        by_cases r2 : b.2 < cvS v (nI y) m i
        · rw [if_pos r2]
          exact key (i, cvS v (nI y) m i) (by unfold stS; rw [if_pos q, if_pos r2])
        · rw [if_neg r2]
          by_cases r3 : cvS v (nI y) m i = b.2
          · rw [if_pos r3, X8_bits N hN, bd2_s, X8_bits N hN, bd2_s]
            by_cases r1 : bsum (nI b.1) 6 ≤ bsum (nI i) 6
            · rw [if_pos r1]
              exact key b (by unfold stS; rw [if_pos q, if_neg r2, if_pos r3, if_pos r1])
            · rw [if_neg r1]
              exact key (i, cvS v (nI y) m i) (by unfold stS; rw [if_pos q, if_neg r2, if_pos r3, if_neg r1])
          · rw [if_neg r3]
            exact key b (by unfold stS; rw [if_pos q, if_neg r2, if_neg r3])
      · rw [if_neg q]
        have e : stS v (nI y) m t i b = b := by unfold stS; rw [if_neg q]
        rw [e]
        exact ih (i + 1) b ris u hb (by omega) (by omega)
theorem sndO_add (v : Nat → Int32) (y : Int32) (m : Nat) (t : Int32) : ∀ (a b i : Nat) (s : Nat × Int32), sndO v y m t (a + b) i s = sndO v y m t b (i + a) (sndO v y m t a i s) := by
  intro a
  induction a with
  | zero => intro b i s; rw [Nat.zero_add]; rfl
  | succ a ih =>
    intro b i s
    rw [show a + 1 + b = (a + b) + 1 by omega, sndO, ih, sndO, show i + 1 + a = i + (a + 1) by omega]
theorem sndO_skip (v : Nat → Int32) (y : Int32) (m : Nat) (t : Int32) : ∀ (a i : Nat) (s : Nat × Int32), (∀ k, i ≤ k → k < i + a → nI k &&& (t ^^^ (-1 : Int32)) ≠ 0) → sndO v y m t a i s = s := by
  intro a
  induction a with
  | zero => intro i s _; rfl
  | succ a ih =>
    intro i s h
    have e : stS v y m t i s = s := by unfold stS; rw [if_neg (h i (by omega) (by omega))]
    rw [sndO, e, ih (i + 1) s (fun k h1 h2 => h k (by omega) (by omega))]
set_option maxRecDepth 100000 in
theorem no_bits' : ∀ P, P < 7 → ∀ t, t < 64 → ∀ k, k < 64 → (decide (t < 2 ^ P) && (decide (2 ^ P ≤ k) && decide (nI k &&& (nI t ^^^ (-1 : Int32)) = 0))) = false := by decide +kernel
theorem no_bits {P : Nat} (hP : P < 7) {t : Nat} (h1 : t < 64) (h2 : t < 2 ^ P) {k : Nat} (h3 : k < 64) (h4 : 2 ^ P ≤ k) : nI k &&& (nI t ^^^ (-1 : Int32)) ≠ 0 := by
  have := no_bits' P hP t h1 k h3
  intro q
  rw [decide_eq_true h2, decide_eq_true h4, decide_eq_true q] at this
  exact absurd this (by decide)
theorem p_sends (N : Nat) (hN : 2000 ≤ N) (x y z : Int32) (g : GS) (h : Rel g) : Sim (F_X7_sends N x y z) (F_X8_sends N x y z) g := by
  obtain ⟨hv, hk⟩ := h.2.2.2.2.1
  have hP := hv.2.1
  have h4 : g 0 0 4 = nI (nP (g 11 5)) := hk.1.trans hv.1
  have h0 : (g3 g 10 0 0 0) 11 5 0 = nI (nP (g 11 5)) := hv.1
  rcases Nat.eq_zero_or_pos (nP (g 11 5)) with hz0 | hz
  · have hz : ¬ 0 < nP (g 11 5) := by omega
    exact Sim.read h (-1000002) (by unfold F_X7_sends; rw [X4_isRead N 0 _ hP g h4, bd2_s, decide_eq_false hz, b01_f, if_pos rfl]) (by unfold F_X8_sends; rw [X8_isThere N _ hP _ h0, bd2_s, decide_eq_false hz, b01_f, if_pos rfl])
  rcases wi_cases x 1 30 with ⟨w, -⟩ | ⟨w, w1, w2⟩
  · exact Sim.read h (-1000001) (by unfold F_X7_sends; rw [X4_isRead N 0 _ hP g h4, bd2_s, decide_eq_true hz, b01_t, if_neg (by decide), X7_within, bd2_s, w, if_pos rfl]) (by unfold F_X8_sends; rw [X8_isThere N _ hP _ h0, bd2_s, decide_eq_true hz, b01_t, if_neg (by decide), X8_inL N x 1 30 (by decide) (by decide), bd2_s, w, if_pos rfl])
  rcases wi_cases y 1 40 with ⟨u, -⟩ | ⟨u, u1, u2⟩
  · exact Sim.read h (-1000001) (by unfold F_X7_sends; rw [X4_isRead N 0 _ hP g h4, bd2_s, decide_eq_true hz, b01_t, if_neg (by decide), X7_within, bd2_s, w, if_neg (by decide), X7_within, bd2_s, u, if_pos rfl]) (by unfold F_X8_sends; rw [X8_isThere N _ hP _ h0, bd2_s, decide_eq_true hz, b01_t, if_neg (by decide), X8_inL N x 1 30 (by decide) (by decide), bd2_s, w, if_neg (by decide), X8_inL N y 1 40 (by decide) (by decide), bd2_s, u, if_pos rfl])
  rcases wi_cases z 0 1 with ⟨t, -⟩ | ⟨t, t1, t2⟩
  · exact Sim.read h (-1000001) (by unfold F_X7_sends; rw [X4_isRead N 0 _ hP g h4, bd2_s, decide_eq_true hz, b01_t, if_neg (by decide), X7_within, bd2_s, w, if_neg (by decide), X7_within, bd2_s, u, if_neg (by decide), X7_within, bd2_s, t, if_pos rfl]) (by unfold F_X8_sends; rw [X8_isThere N _ hP _ h0, bd2_s, decide_eq_true hz, b01_t, if_neg (by decide), X8_inL N x 1 30 (by decide) (by decide), bd2_s, w, if_neg (by decide), X8_inL N y 1 40 (by decide) (by decide), bd2_s, u, if_neg (by decide), X8_inL N z 0 1 (by decide) (by decide), bd2_s, t, if_pos rfl])
  obtain ⟨m, hm1, hm2, rfl⟩ : ∃ n : Nat, 1 ≤ n ∧ n ≤ 30 ∧ x = nI n := by
    rw [i_lt] at w1 w2
    have a : (1 : Int32).toInt = 1 := by decide
    have b : (30 : Int32).toInt = 30 := by decide
    exact ⟨x.toInt.toNat, by omega, by omega, nI_ofI (by omega)⟩
  obtain ⟨yn, hy1, hy2, rfl⟩ : ∃ n : Nat, 1 ≤ n ∧ n ≤ 40 ∧ y = nI n := by
    rw [i_lt] at u1 u2
    have a : (1 : Int32).toInt = 1 := by decide
    have b : (40 : Int32).toInt = 40 := by decide
    exact ⟨y.toInt.toNat, by omega, by omega, nI_ofI (by omega)⟩
  obtain ⟨zn, hzn, rfl⟩ := wi_nI (n := 1) (by decide) t1 t2
  have h64 : 2 ^ nP (g 11 5) ≤ 2 ^ 6 := Nat.pow_le_pow_right (by decide) hP
  obtain ⟨sc, fo, pa, e⟩ := K_sends N hN g hv hk hy1 hy2 m hm2 (nI zn) (bitsF (fun p => decide (pf (g 11 5) p 3 = 0)) (nP (g 11 5))) N 0 (0, -1) (g 0 1) (g 12 1) (g 13 1) (by decide) (by omega) (by omega)
  rw [D1_self, nI_0] at e
  have l := M_sends N hN (g3 (D1 g sc fo pa) 10 0 0 0) (v := g 11 5) rfl hv hy1 hy2 m hm2 (nI zn) N 0 (0, -1) ((g3 (D1 g sc fo pa) 10 0 0 0) 11 8) ((g3 (D1 g sc fo pa) 10 0 0 0) 11 7) (by decide) (Nat.zero_le _) (by omega)
  rw [T7_self, nI_0] at l
  obtain ⟨ris, u', l⟩ := l
  have eq : sndO (g 11 5) (nI yn) m (bitsF (fun p => decide (pf (g 11 5) p 3 = 0)) (nP (g 11 5))) (64 - 0) 0 (0, -1) = sndO (g 11 5) (nI yn) m (bitsF (fun p => decide (pf (g 11 5) p 3 = 0)) (nP (g 11 5))) (2 ^ nP (g 11 5) - 0) 0 (0, -1) := by
    rw [show 64 - 0 = (2 ^ nP (g 11 5) - 0) + (64 - 2 ^ nP (g 11 5)) from (Nat.add_sub_of_le h64).symm, sndO_add]
    apply sndO_skip
    intro k h1 h2
    obtain ⟨tn, htn, et⟩ := bitsF_n (fun p => decide (pf (g 11 5) p 3 = 0)) (nP (g 11 5)) hP
    rw [et]
    exact no_bits (by omega) (show tn < 64 from Nat.lt_of_lt_of_le htn h64) htn (by have := Nat.add_sub_of_le h64; omega) (by omega)
  rw [eq] at e
  generalize sndO (g 11 5) (nI yn) m (bitsF (fun p => decide (pf (g 11 5) p 3 = 0)) (nP (g 11 5))) (2 ^ nP (g 11 5) - 0) 0 (0, -1) = S at e l
  refine Sim.draft h (if zn = 0 then nI S.1 else S.2) sc fo pa ris u' ?_ ?_
  · unfold F_X7_sends F_X2_bestToSend
    rw [X4_isRead N 0 _ hP g h4, bd2_s, decide_eq_true hz, b01_t, if_neg (by decide), X7_within, bd2_s, w, if_neg (by decide), X7_within, bd2_s, u, if_neg (by decide), X7_within, bd2_s, t, if_neg (by decide)]
    rcases (show zn = 0 ∨ zn = 1 by omega) with rfl | rfl
    · rw [if_neg (by decide), X4_bitsOf N 0 hN 0 g hv hk, bd2_s]
      rw [show L_X2_bestToSend_19 N (nI m) (nI yn) 0 _ N 0 (-1) 0 g = _ from e, bd4_s, if_pos rfl, bd2_s]
      rfl
    · rw [if_pos (show nI 1 = 1 from rfl), X4_bitsOf N 0 hN 0 g hv hk, bd2_s]
      rw [show L_X2_bestToSend_19 N (nI m) (nI yn) 1 _ N 0 (-1) 0 g = _ from e, bd4_s, if_neg (by decide), bd2_s]
      rfl
  · unfold F_X8_sends
    rw [X8_isThere N (nP (g 11 5)) hP (g3 (D1 g sc fo pa) 10 0 0 0) hv.1, bd2_s, decide_eq_true hz, b01_t, if_neg (by decide), X8_inL N _ 1 30 (by decide) (by decide), bd2_s, w, if_neg (by decide), X8_inL N _ 1 40 (by decide) (by decide), bd2_s, u, if_neg (by decide), X8_inL N _ 0 1 (by decide) (by decide), bd2_s, t, if_neg (by decide)]
    rw [show L_X8_sends_61 N (nI m) (nI yn) (nI zn) N 0 (-1) 0 (g3 (D1 g sc fo pa) 10 0 0 0) = _ from l, bd4_s]
    rcases (show zn = 0 ∨ zn = 1 by omega) with rfl | rfl
    · rfl
    · rfl
