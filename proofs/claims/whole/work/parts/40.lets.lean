/-! ===== lets ===== -/
theorem aMv_pf {v : Nat → Int32} {w : Int32} {p f : Nat} (hf : f < 7) (hu : aUp v p = false) : ∀ n, pf (aMv v w n) p f = pf v p f := by
  intro n
  induction n with
  | zero => rfl
  | succ n ih =>
    rw [aMv]
    by_cases q : n = p
    · subst q
      have : aUp (aMv v w n) n = false := by
        unfold aUp at hu ⊢
        rw [show pf (aMv v w n) n 3 = pf v n 3 from aMv_hi (by omega)]
        exact hu
      rw [this, if_neg Bool.false_ne_true]
      exact ih
    · split
      · rw [show pf (aMove (aMv v w n) n (aRise v n w) w) p f = pf (aMv v w n) p f from aMove_lo (by omega)]
        exact ih
      · exact ih
/-- no HOUR sends a PAPER up -/
theorem aHr_down {v : Nat → Int32} {p : Nat} (hu : aUp v p = false) : aUp (aHr v) p = false := by
  have e : pf (aHr v) p 3 = pf v p 3 := by
    show va_up _ 4 _ (11 + 7 * p + 3) = _
    rw [up_ne _ _ (by omega)]
    exact aMv_pf (f := 3) (by decide) hu _
  unfold aUp at hu ⊢
  rw [e]
  exact hu
def dg (c n k : Int32) : Int32 := (c >>> (((2 : Int32) * ((n - (1 : Int32)) - k)) &&& 31)) &&& (3 : Int32)
def yd (x : Int32) : Int32 := if x = 3 then -5 else 5 * x
def aLt1 (u : Nat → Int32) (j : Nat) (d : Int32) : Nat → Int32 := aHr (if aUp u j then aLet u j (clamp (pf u j 5 + yd d)) else u)
def aLt (v : Nat → Int32) (j : Nat) (c n : Int32) : Nat → Nat → Int32
  | 0 => v
  | k + 1 => aLt1 (aLt v j c n k) j (dg c n (nI k))
theorem clamp_m (x : Int32) : (if x ≤ 40 then (if 1 ≤ x then x else 1) else 40) = clamp x := by
  unfold clamp
  by_cases q : x ≤ 40
  · have q' : ¬ 40 < x := by rw [i_lt]; rw [i_le] at q; omega
    rw [if_pos q, if_neg q']
    by_cases q2 : 1 ≤ x
    · have q3 : ¬ x < 1 := by rw [i_lt]; rw [i_le] at q2; omega
      rw [if_pos q2, if_neg q3]
    · have q3 : x < 1 := by rw [i_lt]; rw [i_le] at q2; omega
      rw [if_neg q2, if_pos q3]
  · have q' : 40 < x := by rw [i_lt]; rw [i_le] at q; omega
    rw [if_neg q, if_pos q']
theorem aLt1_VA {B : Nat} {u : Nat → Int32} (h : VA B u) (hB : B < 2 ^ 30) {j : Nat} (hj : j < nP u) (d : Int32) : VA (B + 1) (aLt1 u j d) ∧ nP (aLt1 u j d) = nP u := by
  unfold aLt1
  by_cases q : aUp u j = true
  · rw [if_pos q]
    obtain ⟨n, h1, h2, e⟩ := clamp_n (pf u j 5 + yd d)
    rw [e]
    have a := VA_let h hj q h1 h2
    obtain ⟨b, c, -, -⟩ := VA_hr a hB
    exact ⟨b, by rw [c, nP_eq (aLet_lo _ _ _ (by omega))]⟩
  · rw [if_neg q]
    obtain ⟨b, c, -, -⟩ := VA_hr h hB
    exact ⟨b, c⟩
theorem aLt_VA {v : Nat → Int32} (h : VA 999 v) {j : Nat} (hj : j < nP v) (c n : Int32) : ∀ k, k ≤ 4 → VA (999 + k) (aLt v j c n k) ∧ nP (aLt v j c n k) = nP v := by
  intro k
  induction k with
  | zero => intro _; exact ⟨h, rfl⟩
  | succ k ih =>
    intro hk
    obtain ⟨a, b⟩ := ih (by omega)
    obtain ⟨d, e⟩ := aLt1_VA a (by omega) (j := j) (by rw [b]; exact hj) (dg c n (nI k))
    exact ⟨d, by rw [← b]; exact e⟩
theorem aLt_down {v : Nat → Int32} {j : Nat} {c n : Int32} {k : Nat} (hu : aUp (aLt v j c n k) j = false) : ∀ d, aUp (aLt v j c n (k + d)) j = false := by
  intro d
  induction d with
  | zero => exact hu
  | succ d ih =>
    show aUp (aLt1 (aLt v j c n (k + d)) j (dg c n (nI (k + d)))) j = false
    unfold aLt1
    rw [ih, if_neg Bool.false_ne_true]
    exact aHr_down ih
/-- K: the hours of one way of letting out -/
theorem K_highBy (N : Nat) (hN : 2000 ≤ N) (g : GS) {v : Nat → Int32} (hv : VA 999 v) (j : Nat) (hj : j < nP v) (c z2 : Int32) (m : Nat) (hm : m ≤ 4) : ∀ (n i : Nat) (sc fo pa : Nat → Int32), RK sc fo pa (aLt v j c (nI m) i) → i ≤ m → m < i + n → ∃ r sc' pa', L_X2_highBy_25 N c z2 (nI m) j n (nI i) (D1 g sc fo pa) = some (r, D1 g sc' fo pa') ∧ ∃ k, k ≤ m ∧ RK sc' fo pa' (aLt v j c (nI m) k) ∧ (k < m → aUp (aLt v j c (nI m) k) j = false) := by
  have hP := hv.2.1
  intro n
  induction n with
  | zero => intro i sc fo pa _ h1 h2; omega
  | succ n ih =>
    intro i sc fo pa hk h1 h2
    rw [L_X2_highBy_25]
    by_cases h : i = m
    · subst h
      rw [if_pos (nI_le (Nat.le_refl i) (by omega))]
      exact ⟨_, sc, pa, rfl, i, Nat.le_refl i, hk, fun q => by omega⟩
    · rw [if_neg (nI_ge (by omega) (by omega)), nI_1]
      obtain ⟨hV, eP⟩ := aLt_VA hv hj c (nI m) i (by omega)
      have hji : j < nP (aLt v j c (nI m) i) := by rw [eP]; exact hj
      rw [X3_isUp N 1 j (D1 g sc fo pa) (v := aLt v j c (nI m) i) (RK_f hk hji (by decide)), bd2_s]
      by_cases q : aUp (aLt v j c (nI m) i) j = true
      · rw [q, b01_t, if_neg (by decide)]
        unfold F_X2_lettingAt F_X2_yardsOf
        rw [bd2_s]
        obtain ⟨pa1, e1, k1⟩ := X3_letOutBy N 1 j (yd (dg c (nI m) (nI i))) (g2 (g2 g 0 1 sc) 12 1 fo) hk hV.2.2.2.1 hji q
        have e1 : F_X3_letOutBy N 1 j (yd (dg c (nI m) (nI i))) (D1 g sc fo pa) = some (D1 g sc fo pa1) := e1
        obtain ⟨yn, hy1, hy2, ey⟩ := clamp_n (pf (aLt v j c (nI m) i) j 5 + yd (dg c (nI m) (nI i)))
        have hV1 : VA (999 + i) (aLet (aLt v j c (nI m) i) j (clamp (pf (aLt v j c (nI m) i) j 5 + yd (dg c (nI m) (nI i))))) := by rw [ey]; exact VA_let hV hji q hy1 hy2
        obtain ⟨sc2, pa2, e2, k2⟩ := draftHr N hN g hV1 k1 (by omega) (fun gv22 => L_X2_highBy_25 N c z2 (nI m) j n (nI (i + 1)) gv22)
        have ey2 : (if (c >>> (((2 : Int32) * ((nI m - (1 : Int32)) - nI i)) &&& 31)) &&& (3 : Int32) = 3 then some ((-5 : Int32), D1 g sc fo pa) else some ((5 : Int32) * ((c >>> (((2 : Int32) * ((nI m - (1 : Int32)) - nI i)) &&& 31)) &&& (3 : Int32)), D1 g sc fo pa)) = some (yd (dg c (nI m) (nI i)), D1 g sc fo pa) := by
          unfold yd dg
          split <;> rfl
        rw [ey2, bd2_s, e1, bd1_s, e2]
        refine ih (i + 1) sc2 fo pa2 ?_ (by omega) (by omega)
        show RK sc2 fo pa2 (aLt1 (aLt v j c (nI m) i) j (dg c (nI m) (nI i)))
        unfold aLt1
        rw [if_pos q]
        exact k2
      · have q := Bool.eq_false_iff.mpr q
        rw [q, b01_f, if_pos rfl]
        exact ⟨_, sc, pa, rfl, i, h1, hk, fun _ => q⟩
/-- how high, if it is UP -/
def scL (v : Nat → Int32) (j : Nat) (c n : Int32) (m : Nat) : Option Int32 := if aUp (aLt v j c n m) j then some (pf (aLt v j c n m) j 4) else none
theorem X2_highBy (N : Nat) (hN : 2000 ≤ N) (g : GS) {v : Nat → Int32} (hv : VA 999 v) (hk : RK (g 0 0) (g 12 0) (g 13 0) v) (j : Nat) (hj : j < nP v) (c : Int32) (m : Nat) (hm : m ≤ 4) (sc fo pa : Nat → Int32) : ∃ sc' fo' pa', F_X2_highBy N c (nI j) (nI m) (D1 g sc fo pa) = some ((match scL v j c (nI m) m with | none => -1 | some x => x), D1 g sc' fo' pa') := by
  have hP := hv.2.1
  unfold F_X2_highBy
  obtain ⟨sc1, fo1, pa1, e1, k1⟩ := draft_lay N hN g hv hk sc fo pa
  obtain ⟨r, sc2, pa2, e2, k, hkm, k2, hd⟩ := K_highBy N hN g hv j hj c (nI j) m hm N 0 sc1 fo1 pa1 k1 (by omega) (by omega)
  rw [nI_0] at e2
  obtain ⟨hV, eP⟩ := aLt_VA hv hj c (nI m) k (by omega)
  have hjk : j < nP (aLt v j c (nI m) k) := by rw [eP]; exact hj
  rw [e1, bd1_s, ix_nI (by omega) (by decide), bd1_s, e2, bd2_s, X3_isUp N 1 j (D1 g sc2 fo1 pa2) (v := aLt v j c (nI m) k) (RK_f k2 hjk (by decide)), bd2_s]
  refine ⟨sc2, fo1, pa2, ?_⟩
  unfold scL
  by_cases q : aUp (aLt v j c (nI m) k) j = true
  · have e : k = m := by
      rcases Nat.lt_or_ge k m with z | z
      · rw [hd z] at q; exact absurd q (by decide)
      · omega
    subst e
    rw [q, b01_t, if_neg (by decide), if_pos rfl, D1_13, RK_f k2 hjk (by decide)]
  · have q := Bool.eq_false_iff.mpr q
    have e := aLt_down q (m - k)
    rw [show k + (m - k) = m by omega] at e
    rw [q, b01_f, if_pos rfl, e, if_neg Bool.false_ne_true]
/-- the best so far -/
def stL (v : Nat → Int32) (j : Nat) (n : Int32) (m : Nat) (c : Nat) (b : Option (Nat × Int32)) : Option (Nat × Int32) := match scL v j (nI c) n m with
  | none => b
  | some x => match b with
    | none => some (c, x)
    | some (r, y) => if x ≤ y then some (r, y) else some (c, x)
def lO (v : Nat → Int32) (j : Nat) (n : Int32) (m : Nat) : Nat → Nat → Option (Nat × Int32) → Option (Nat × Int32)
  | 0, _, b => b
  | k + 1, c, b => lO v j n m k (c + 1) (stL v j n m c b)
def kB (b : Option (Nat × Int32)) : Int32 := match b with | none => 0 | some (r, _) => nI r
def kH (b : Option (Nat × Int32)) : Int32 := match b with | none => -1 | some (_, y) => y
def mB (b : Option (Nat × Int32)) : Int32 := match b with | none => -1000000 | some (r, _) => nI r
def mH (b : Option (Nat × Int32)) : Int32 := match b with | none => -1000000 | some (_, y) => y
def okL (b : Option (Nat × Int32)) : Prop := match b with | none => True | some (r, y) => r < 256 ∧ 0 ≤ y.toInt
theorem scL_pos {v : Nat → Int32} (hv : VA 999 v) {j : Nat} (hj : j < nP v) {c n : Int32} {m : Nat} (hm : m ≤ 4) {x : Int32} (h : scL v j c n m = some x) : 0 ≤ x.toInt := by
  unfold scL at h
  split at h
  · obtain ⟨hV, eP⟩ := aLt_VA hv hj c n m hm
    obtain ⟨-, -, -, -, ⟨o, k, hko, ho, e4, -⟩, -⟩ := VA_paper hV (show j < nP _ by rw [eP]; exact hj)
    have e4 : pf (aLt v j c n m) j 4 = nI k := e4
    injection h with h
    rw [← h, e4, nI_toInt (by omega)]
    omega
  · cases h
theorem stL_ok {v : Nat → Int32} (hv : VA 999 v) {j : Nat} (hj : j < nP v) {n : Int32} {m : Nat} (hm : m ≤ 4) {c : Nat} (hc : c < 256) {b : Option (Nat × Int32)} (h : okL b) : okL (stL v j n m c b) := by
  unfold stL
  cases e : scL v j (nI c) n m with
  | none => exact h
  | some x =>
    have := scL_pos hv hj hm e
    cases b with
    | none => exact ⟨hc, this⟩
    | some p =>
      obtain ⟨r, y⟩ := p
      show okL (if x ≤ y then some (r, y) else some (c, x))
      split
      · exact h
      · exact ⟨hc, this⟩
theorem K_lets (N : Nat) (hN : 2000 ≤ N) (g : GS) {v : Nat → Int32} (hv : VA 999 v) (hk : RK (g 0 0) (g 12 0) (g 13 0) v) (j : Nat) (hj : j < nP v) (m : Nat) (hm : m ≤ 4) (z3 : Int32) (E : Nat) (hE : E ≤ 256) : ∀ (n i : Nat) (b : Option (Nat × Int32)) (sc fo pa : Nat → Int32), okL b → i ≤ E → E < i + n → ∃ sc' fo' pa', L_X2_bestLetting_16 N (nI j) (nI m) z3 (nI E) n (kB b) (kH b) (nI i) (D1 g sc fo pa) = some (kB (lO v j (nI m) m (E - i) i b), kH (lO v j (nI m) m (E - i) i b), nI E, D1 g sc' fo' pa') := by
  intro n
  induction n with
  | zero => intro i b sc fo pa _ h1 h2; omega
  | succ n ih =>
    intro i b sc fo pa hb h1 h2
    rw [L_X2_bestLetting_16]
    by_cases h : i = E
    · subst h
      rw [if_pos (nI_le (Nat.le_refl i) (by omega)), Nat.sub_self]
      exact ⟨sc, fo, pa, rfl⟩
    · rw [if_neg (nI_ge (by omega) (by omega)), nI_1, show E - i = (E - (i + 1)) + 1 by omega, lO]
      obtain ⟨sc1, fo1, pa1, e1⟩ := X2_highBy N hN g hv hk j hj (nI i) m hm sc fo pa
      rw [e1, bd2_s]
      have hst := stL_ok hv hj (n := nI m) hm (c := i) (by omega) hb
      have key : ∀ x y, x = kB (stL v j (nI m) m i b) → y = kH (stL v j (nI m) m i b) → ∃ sc' fo' pa', L_X2_bestLetting_16 N (nI j) (nI m) z3 (nI E) n x y (nI (i + 1)) (D1 g sc1 fo1 pa1) = some (kB (lO v j (nI m) m (E - (i + 1)) (i + 1) (stL v j (nI m) m i b)), kH (lO v j (nI m) m (E - (i + 1)) (i + 1) (stL v j (nI m) m i b)), nI E, D1 g sc' fo' pa') := by
        rintro x y rfl rfl
        exact ih (i + 1) _ sc1 fo1 pa1 hst (by omega) (by omega)
      cases e : scL v j (nI i) (nI m) m with
      | none =>
        have es : stL v j (nI m) m i b = b := by unfold stL; rw [e]
        dsimp only
        rw [if_pos]
        · exact key _ _ (by rw [es]) (by rw [es])
        · cases b with
          | none => decide
          | some p =>
            rw [i_le]
            have := hb.2
            show (-1 : Int32).toInt ≤ p.2.toInt
            rw [show (-1 : Int32).toInt = -1 by decide]
            omega
      | some x =>
        have hx := scL_pos hv hj hm e
        dsimp only
        cases b with
        | none =>
          have es : stL v j (nI m) m i none = some (i, x) := by unfold stL; rw [e]
          rw [if_neg (show ¬ x ≤ kH none by rw [i_le, show (kH none).toInt = -1 by decide]; omega)]
          exact key _ _ (by rw [es]; rfl) (by rw [es]; rfl)
        | some p =>
          obtain ⟨r, y⟩ := p
          have es : stL v j (nI m) m i (some (r, y)) = if x ≤ y then some (r, y) else some (i, x) := by unfold stL; rw [e]
          by_cases q : x ≤ y
          · rw [if_pos q] at es
            rw [if_pos (show x ≤ kH (some (r, y)) from q)]
            exact key _ _ (by rw [es]) (by rw [es])
          · rw [if_neg q] at es
            rw [if_neg (show ¬ x ≤ kH (some (r, y)) from q)]
            exact key _ _ (by rw [es]; rfl) (by rw [es]; rfl)
theorem e53_aLet {u v : Nat → Int32} (h : E53 u v) {j : Nat} (hj : j < 6) {x y : Int32} (e : x = y) : E53 (aLet u j x) (aLet v j y) := by
  subst e
  unfold aLet
  rw [e53_pf h hj (f := 4) (by decide)]
  exact e53_up (e53_up h _ rfl) _ rfl
theorem M_lets79 (N : Nat) (hN : 2000 ≤ N) (g : GS) {v : Nat → Int32} (hv : VA 999 v) (hY : RY (g 11 20)) (j : Nat) (hj : j < nP v) (m : Nat) (hm : m ≤ 4) (z3 z4 z5 z6 c : Int32) : ∀ (n i : Nat) (ris u : Nat → Int32), E53 u (aLt v j c (nI m) i) → i ≤ m → m < i + n → ∃ ris' u', L_X8_lets_79 N (nI j) (nI m) z3 z4 z5 z6 c n (nI i) (T7 g ris u) = some (nI m, T7 g ris' u') ∧ E53 u' (aLt v j c (nI m) m) := by
  have hP := hv.2.1
  intro n
  induction n with
  | zero => intro i ris u _ h1 h2; omega
  | succ n ih =>
    intro i ris u he h1 h2
    rw [L_X8_lets_79]
    by_cases h : i = m
    · subst h
      rw [if_pos (nI_le (Nat.le_refl i) (by omega))]
      exact ⟨ris, u, rfl, he⟩
    · rw [if_neg (nI_ge (by omega) (by omega)), nI_1]
      obtain ⟨hV, eP⟩ := aLt_VA hv hj c (nI m) i (by omega)
      have hji : j < nP (aLt v j c (nI m) i) := by rw [eP]; exact hj
      have hj6 : j < 6 := by omega
      rw [X8_isUp' N 7 j hj6 rfl, bd2_s, T7_7, e53_aUp he hj6]
      have go : ∀ u1, E53 u1 (if aUp (aLt v j c (nI m) i) j then aLet (aLt v j c (nI m) i) j (clamp (pf (aLt v j c (nI m) i) j 5 + yd (dg c (nI m) (nI i)))) else aLt v j c (nI m) i) → ∃ ris' u', bd1 (F_X8_hour N 7 (T7 g ris u1)) (fun gv23 => L_X8_lets_79 N (nI j) (nI m) z3 z4 z5 z6 c n (nI (i + 1)) gv23) = some (nI m, T7 g ris' u') ∧ E53 u' (aLt v j c (nI m) m) := by
        intro u1 he1
        have hV1 : VA (999 + i) (if aUp (aLt v j c (nI m) i) j then aLet (aLt v j c (nI m) i) j (clamp (pf (aLt v j c (nI m) i) j 5 + yd (dg c (nI m) (nI i)))) else aLt v j c (nI m) i) := by
          by_cases q : aUp (aLt v j c (nI m) i) j = true
          · rw [if_pos q]
            obtain ⟨yn, hy1, hy2, ey⟩ := clamp_n (pf (aLt v j c (nI m) i) j 5 + yd (dg c (nI m) (nI i)))
            rw [ey]
            exact VA_let hV hji q hy1 hy2
          · rw [if_neg q]
            exact hV
        obtain ⟨r2, u2, e2, k2⟩ := then_hour N hN g ris u1 hV1 he1 (by omega)
        rw [e2, bd1_s]
        exact ih (i + 1) r2 u2 k2 (by omega) (by omega)
      by_cases q : aUp (aLt v j c (nI m) i) j = true
      · rw [q, b01_t, if_neg (by decide), X8_of5 N 7 j hj6 rfl, bd2_s, T7_7, e53_pf he hj6 (by decide)]
        obtain ⟨d, hd, ed⟩ := pk_andE (c >>> (((2 : Int32) * ((nI m - (1 : Int32)) - nI i)) &&& 31)) (m := 3) 2 (by decide)
        have ed' : dg c (nI m) (nI i) = nI d := ed
        rw [ed, ix_nI hd (by decide), bd1_s]
        have ey : (T7 g ris u) 11 20 d = yd (dg c (nI m) (nI i)) := by
          rw [ed']
          show g 11 20 d = _
          rcases (show d = 0 ∨ d = 1 ∨ d = 2 ∨ d = 3 by omega) with rfl | rfl | rfl | rfl
          · rw [hY.1]; decide
          · rw [hY.2.1]; decide
          · rw [hY.2.2.1]; decide
          · rw [hY.2.2.2]; decide
        rw [ey]
        rw [if_pos q] at go
        have lt : ∀ x, F_X8_letsOut N 7 (nI j) x (T7 g ris u) = some (T7 g ris (aLet u j x)) := fun x => X8_letsOut N 7 j rfl hj6 x (g2 g 11 8 ris) u
        have hc := clamp_m (pf (aLt v j c (nI m) i) j 5 + yd (dg c (nI m) (nI i)))
        by_cases q1 : pf (aLt v j c (nI m) i) j 5 + yd (dg c (nI m) (nI i)) ≤ 40
        · rw [if_pos q1] at hc ⊢
          by_cases q2 : 1 ≤ pf (aLt v j c (nI m) i) j 5 + yd (dg c (nI m) (nI i))
          · rw [if_pos q2] at hc ⊢
            rw [lt, bd1_s]
            exact go _ (e53_aLet he hj6 hc)
          · rw [if_neg q2] at hc ⊢
            rw [lt, bd1_s]
            exact go _ (e53_aLet he hj6 hc)
        · rw [if_neg q1] at hc ⊢
          rw [lt, bd1_s]
          exact go _ (e53_aLet he hj6 hc)
      · rw [if_neg q] at go
        have q := Bool.eq_false_iff.mpr q
        rw [q, b01_f, if_pos rfl]
        exact go u he
theorem M_lets (N : Nat) (hN : 2000 ≤ N) (g : GS) {v : Nat → Int32} (e5 : g 11 5 = v) (hv : VA 999 v) (hY : RY (g 11 20)) (j : Nat) (hj : j < nP v) (m : Nat) (hm : m ≤ 4) (z3 : Int32) (E : Nat) (hE : E ≤ 256) : ∀ (n i : Nat) (b : Option (Nat × Int32)) (ris u : Nat → Int32), okL b → i ≤ E → E < i + n → ∃ ris' u', L_X8_lets_65 N (nI j) (nI m) z3 (nI E) n (mB b) (mH b) (nI i) (T7 g ris u) = some (mB (lO v j (nI m) m (E - i) i b), mH (lO v j (nI m) m (E - i) i b), nI E, T7 g ris' u') := by
  have hP := hv.2.1
  have hj6 : j < 6 := by omega
  intro n
  induction n with
  | zero => intro i b ris u _ h1 h2; omega
  | succ n ih =>
    intro i b ris u hb h1 h2
    rw [L_X8_lets_65]
    by_cases h : i = E
    · subst h
      rw [if_pos (nI_le (Nat.le_refl i) (by omega)), Nat.sub_self]
      exact ⟨ris, u, rfl⟩
    · rw [if_neg (nI_ge (by omega) (by omega)), nI_1, show E - i = (E - (i + 1)) + 1 by omega, lO]
      obtain ⟨r1, u1, e1, k1⟩ := then_lay N hN g ris u
      rw [e5] at k1
      obtain ⟨r2, u2, e2, k2⟩ := M_lets79 N hN g hv hY j hj m hm z3 (nI E) (mB b) (mH b) (nI i) N 0 r1 u1 k1 (by omega) (by omega)
      rw [nI_0] at e2
      rw [e1, bd1_s, e2, bd2_s, X8_isUp' N 7 j hj6 rfl, bd2_s, T7_7, e53_aUp k2 hj6]
      have hst := stL_ok hv hj (n := nI m) hm (c := i) (by omega) hb
      have key : ∀ x y, x = mB (stL v j (nI m) m i b) → y = mH (stL v j (nI m) m i b) → ∃ ris' u', L_X8_lets_65 N (nI j) (nI m) z3 (nI E) n x y (nI (i + 1)) (T7 g r2 u2) = some (mB (lO v j (nI m) m (E - (i + 1)) (i + 1) (stL v j (nI m) m i b)), mH (lO v j (nI m) m (E - (i + 1)) (i + 1) (stL v j (nI m) m i b)), nI E, T7 g ris' u') := by
        rintro x y rfl rfl
        exact ih (i + 1) _ r2 u2 hst (by omega) (by omega)
      by_cases q : aUp (aLt v j (nI i) (nI m) m) j = true
      · have e : scL v j (nI i) (nI m) m = some (pf (aLt v j (nI i) (nI m) m) j 4) := by unfold scL; rw [if_pos q]
        have hx := scL_pos hv hj hm e
        rw [q, b01_t, if_neg (by decide), X8_of4 N 7 j hj6 rfl, bd2_s, X8_of4 N 7 j hj6 rfl, bd2_s, T7_7, e53_pf k2 hj6 (by decide)]
        cases b with
        | none =>
          have es : stL v j (nI m) m i none = some (i, pf (aLt v j (nI i) (nI m) m) j 4) := by unfold stL; rw [e]
          rw [if_neg (show ¬ pf (aLt v j (nI i) (nI m) m) j 4 ≤ mH none by rw [i_le, show (mH none).toInt = -1000000 by decide]; omega)]
          exact key _ _ (by rw [es]; rfl) (by rw [es]; rfl)
        | some p =>
          obtain ⟨r, y⟩ := p
          have es : stL v j (nI m) m i (some (r, y)) = if pf (aLt v j (nI i) (nI m) m) j 4 ≤ y then some (r, y) else some (i, pf (aLt v j (nI i) (nI m) m) j 4) := by unfold stL; rw [e]
          by_cases q : pf (aLt v j (nI i) (nI m) m) j 4 ≤ y
          · rw [if_pos q] at es
            rw [if_pos (show _ ≤ mH (some (r, y)) from q)]
            exact key _ _ (by rw [es]) (by rw [es])
          · rw [if_neg q] at es
            rw [if_neg (show ¬ _ ≤ mH (some (r, y)) from q)]
            exact key _ _ (by rw [es]; rfl) (by rw [es]; rfl)
      · have e : scL v j (nI i) (nI m) m = none := by unfold scL; rw [if_neg q]
        have es : stL v j (nI m) m i b = b := by unfold stL; rw [e]
        have q := Bool.eq_false_iff.mpr q
        rw [q, b01_f, if_pos rfl]
        exact key _ _ (by rw [es]) (by rw [es])
theorem lO_ok {v : Nat → Int32} (hv : VA 999 v) {j : Nat} (hj : j < nP v) {n : Int32} {m : Nat} (hm : m ≤ 4) : ∀ (k c : Nat) (b : Option (Nat × Int32)), c + k ≤ 256 → okL b → okL (lO v j n m k c b) := by
  intro k
  induction k with
  | zero => intro c b _ h; exact h
  | succ k ih =>
    intro c b hc h
    exact ih (c + 1) _ (by omega) (stL_ok hv hj hm (by omega) h)
theorem p_lets (N : Nat) (hN : 2000 ≤ N) (x y z : Int32) (g : GS) (h : Rel g) : Sim (F_X7_lets N x y z) (F_X8_lets N x y z) g := by
  obtain ⟨hv, hk⟩ := h.2.2.2.2.1
  have hP := hv.2.1
  have h4 : g 0 0 4 = nI (nP (g 11 5)) := hk.1.trans hv.1
  have h0 : (g3 g 10 0 0 0) 11 5 0 = nI (nP (g 11 5)) := hv.1
  rcases hp_cases x (P := nP (g 11 5)) (by omega) with w | ⟨w, j, hj, rfl⟩
  · exact Sim.read h (-1000001) (by unfold F_X7_lets; rw [X4_hasPaper N 0 _ x g h4, bd2_s, w, if_pos rfl]) (by unfold F_X8_lets; rw [X8_isPaper N _ hP x _ h0, bd2_s, w, if_pos rfl])
  have hj6 : j < 6 := by omega
  rcases wi_cases y 1 4 with ⟨u, -⟩ | ⟨u, u1, u2⟩
  · exact Sim.read h (-1000001) (by unfold F_X7_lets; rw [X4_hasPaper N 0 _ _ g h4, bd2_s, w, if_neg (by decide), X7_within, bd2_s, u, if_pos rfl]) (by unfold F_X8_lets; rw [X8_isPaper N _ hP _ _ h0, bd2_s, w, if_neg (by decide), X8_inL N y 1 4 (by decide) (by decide), bd2_s, u, if_pos rfl])
  by_cases hz : (-1 : Int32) ≤ z
  case neg =>
    exact Sim.read h (-1000001) (by unfold F_X7_lets; rw [X4_hasPaper N 0 _ _ g h4, bd2_s, w, if_neg (by decide), X7_within, bd2_s, u, if_neg (by decide), if_neg hz]) (by unfold F_X8_lets; rw [X8_isPaper N _ hP _ _ h0, bd2_s, w, if_neg (by decide), X8_inL N y 1 4 (by decide) (by decide), bd2_s, u, if_neg (by decide), if_neg hz])
  have f3 : g 13 0 (7 * j + 3) = pf (g 11 5) j 3 := RK_f hk hj (by decide)
  by_cases hu : aUp (g 11 5) j = true
  case neg =>
    have hu := Bool.eq_false_iff.mpr hu
    exact Sim.read h (-1000002) (by unfold F_X7_lets; rw [X4_hasPaper N 0 _ _ g h4, bd2_s, w, if_neg (by decide), X7_within, bd2_s, u, if_neg (by decide), if_pos hz, ix_nI hj6 (by decide), bd1_s, X3_isUp N 0 j g f3, bd2_s, hu, b01_f, if_pos rfl]) (by unfold F_X8_lets; rw [X8_isPaper N _ hP _ _ h0, bd2_s, w, if_neg (by decide), X8_inL N y 1 4 (by decide) (by decide), bd2_s, u, if_neg (by decide), if_pos hz, X8_isUp' N 5 j hj6 rfl, bd2_s, show aUp ((g3 g 10 0 0 0) 11 5) j = false from hu, b01_f, if_pos rfl])
  obtain ⟨m, hm1, hm2, rfl⟩ : ∃ n : Nat, 1 ≤ n ∧ n ≤ 4 ∧ y = nI n := by
    rw [i_lt] at u1 u2
    have a : (1 : Int32).toInt = 1 := by decide
    have b : (4 : Int32).toInt = 4 := by decide
    exact ⟨y.toInt.toNat, by omega, by omega, nI_ofI (by omega)⟩
  obtain ⟨E, hE, eE⟩ : ∃ E : Nat, E ≤ 256 ∧ (1 : Int32) <<< (((2 : Int32) * nI m) &&& 31) = nI E := by
    rcases (show m = 1 ∨ m = 2 ∨ m = 3 ∨ m = 4 by omega) with rfl | rfl | rfl | rfl
    · exact ⟨4, by decide, by decide⟩
    · exact ⟨16, by decide, by decide⟩
    · exact ⟨64, by decide, by decide⟩
    · exact ⟨256, by decide, by decide⟩
  obtain ⟨sc, fo, pa, e⟩ := K_lets N hN g hv hk j hj m hm2 z E hE N 0 none (g 0 1) (g 12 1) (g 13 1) trivial (by omega) (by omega)
  rw [D1_self, nI_0] at e
  have l := M_lets N hN (g3 (D1 g sc fo pa) 10 0 0 0) (v := g 11 5) rfl hv h.2.2.2.2.2.2.2.2.1 j hj m hm2 z E hE N 0 none ((g3 (D1 g sc fo pa) 10 0 0 0) 11 8) ((g3 (D1 g sc fo pa) 10 0 0 0) 11 7) trivial (by omega) (by omega)
  rw [T7_self, nI_0] at l
  obtain ⟨ris, u', l⟩ := l
  have hS := lO_ok hv hj (n := nI m) hm2 (E - 0) 0 none (by omega) trivial
  generalize lO (g 11 5) j (nI m) m (E - 0) 0 none = S at e l hS
  have KK : F_X7_lets N (nI j) (nI m) z g = (if kH S < 0 then some ((-1000000 : Int32), D1 g sc fo pa) else if z < nI m then (if 0 ≤ z then some (dg (kB S) (nI m) z, D1 g sc fo pa) else some (kH S, D1 g sc fo pa)) else some ((-1000000 : Int32), D1 g sc fo pa)) := by
    unfold F_X7_lets F_X2_bestLetting
    rw [X4_hasPaper N 0 _ _ g h4, bd2_s, w, if_neg (by decide), X7_within, bd2_s, u, if_neg (by decide), if_pos hz, ix_nI hj6 (by decide), bd1_s, X3_isUp N 0 j g f3, bd2_s, hu, b01_t, if_neg (by decide), eE]
    rw [show L_X2_bestLetting_16 N (nI j) (nI m) z (nI E) N 0 (-1) 0 g = _ from e, bd4_s]
    unfold F_X2_lettingAt dg
    by_cases a1 : kH S < 0
    · rw [if_pos a1, if_pos a1, bd2_s]
    · rw [if_neg a1, if_neg a1]
      by_cases a2 : z < nI m
      · rw [if_pos a2, if_pos a2]
        by_cases a3 : 0 ≤ z
        · rw [if_pos a3, if_pos a3, bd2_s, bd2_s]
        · rw [if_neg a3, if_neg a3, bd2_s]
      · rw [if_neg a2, if_neg a2, bd2_s]
  have MM : F_X8_lets N (nI j) (nI m) z (D1 g sc fo pa) = (if mB S = -1000000 then some (mH S, T7 (g3 (D1 g sc fo pa) 10 0 0 0) ris u') else if z = -1 then some (mH S, T7 (g3 (D1 g sc fo pa) 10 0 0 0) ris u') else if nI m ≤ z then some ((-1000000 : Int32), T7 (g3 (D1 g sc fo pa) 10 0 0 0) ris u') else some (dg (mB S) (nI m) z, T7 (g3 (D1 g sc fo pa) 10 0 0 0) ris u')) := by
    unfold F_X8_lets
    rw [X8_isPaper N (nP (g 11 5)) hP _ (g3 (D1 g sc fo pa) 10 0 0 0) hv.1, bd2_s, w, if_neg (by decide), X8_inL N _ 1 4 (by decide) (by decide), bd2_s, u, if_neg (by decide), if_pos hz, X8_isUp' N 5 j hj6 rfl, bd2_s, show aUp ((g3 (D1 g sc fo pa) 10 0 0 0) 11 5) j = true from hu, b01_t, if_neg (by decide), eE]
    rw [show L_X8_lets_65 N (nI j) (nI m) z (nI E) N (-1000000) (-1000000) 0 (g3 (D1 g sc fo pa) 10 0 0 0) = _ from l, bd4_s]
    rfl
  have main : ∀ r, F_X7_lets N (nI j) (nI m) z g = some (r, D1 g sc fo pa) → F_X8_lets N (nI j) (nI m) z (D1 g sc fo pa) = some (r, T7 (g3 (D1 g sc fo pa) 10 0 0 0) ris u') → Sim (F_X7_lets N (nI j) (nI m) z) (F_X8_lets N (nI j) (nI m) z) g := fun r a b => Sim.draft h r sc fo pa ris u' a b
  cases S with
  | none =>
    refine main (-1000000) ?_ ?_
    · rw [KK, if_pos (show kH none < 0 by decide)]
    · rw [MM, if_pos (show mB none = -1000000 from rfl)]; rfl
  | some p =>
    obtain ⟨r, yv⟩ := p
    obtain ⟨hr, hyv⟩ := hS
    have n1 : ¬ kH (some (r, yv)) < 0 := by show ¬ yv < 0; rw [i_lt, t0]; omega
    have n2 : ¬ mB (some (r, yv)) = -1000000 := by
      show ¬ nI r = -1000000
      intro q
      have := congrArg Int32.toInt q
      rw [nI_toInt (by omega), show (-1000000 : Int32).toInt = -1000000 by decide] at this
      omega
    have im : (nI m).toInt = m := nI_toInt (by omega)
    have hz' : -1 ≤ z.toInt := by rw [i_le, show (-1 : Int32).toInt = -1 by decide] at hz; exact hz
    by_cases a1 : z = -1
    · subst a1
      refine main yv ?_ ?_
      · rw [KK, if_neg n1, if_pos (by rw [i_lt, im, show (-1 : Int32).toInt = -1 by decide]; omega), if_neg (by decide)]
        rfl
      · rw [MM, if_neg n2, if_pos rfl]
        rfl
    · have hz0 : 0 ≤ z.toInt := by
        rcases Int.lt_or_le z.toInt 0 with q | q
        · exact absurd (Int32.toInt_inj.mp (show z.toInt = (-1 : Int32).toInt by rw [show (-1 : Int32).toInt = -1 by decide]; omega)) a1
        · exact q
      by_cases a2 : nI m ≤ z
      · refine main (-1000000) ?_ ?_
        · rw [KK, if_neg n1, if_neg (by rw [i_lt]; rw [i_le] at a2; omega)]
        · rw [MM, if_neg n2, if_neg a1, if_pos a2]
      · refine main (dg (nI r) (nI m) z) ?_ ?_
        · rw [KK, if_neg n1, if_pos (by rw [i_lt]; rw [i_le] at a2; omega), if_pos (by rw [i_le, t0]; exact hz0)]
          rfl
        · rw [MM, if_neg n2, if_neg a1, if_neg a2]
          rfl
