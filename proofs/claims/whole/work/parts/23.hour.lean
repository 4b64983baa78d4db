/-! ===== an HOUR of the row v, and that the reference does it ===== -/
def anyF (f : Nat → Bool) : Nat → Bool
  | 0 => false
  | n + 1 => anyF f n || f n
def aOther (v : Nat → Int32) (p : Nat) : Bool := anyF (fun o => !decide (o = p) && (aUp v o && decide (pf v o 0 = 3))) (nP v)
def aLift (v : Nat → Int32) (p : Nat) (w : Int32) : Int32 :=
  if pf v p 0 = 1 then pf v p 1 * w
  else if pf v p 0 = 2 then (if pf v p 4 < 20 then pf v p 1 * w / 2 else pf v p 1 * w)
  else if pf v p 0 = 3 then (if aOther v p then 2 * (pf v p 1 * w) else pf v p 1 * w)
  else if pf v p 0 = 5 then (if pf v p 4 < 30 then 4 * w else if 30 ≤ 4 * w then 4 * w else 30)
  else 4 * w
def aRise (v : Nat → Int32) (p : Nat) (w : Int32) : Int32 := aLift v p w - pf v p 2
def aSnap (v : Nat → Int32) (p : Nat) (x : Int32) : Bool := !decide (x ≤ 0) && !decide (pf v p 4 + x ≤ pf v p 5 + v 3)
def aMove (v : Nat → Int32) (p : Nat) (x w : Int32) : Nat → Int32 :=
  if aSnap v p x then va_up (va_up (va_up (va_up v (11 + 7 * p + 3) 2) (11 + 7 * p + 6) ((nI p + pf v p 5 + w) - (nI p + pf v p 5 + w) / 16 * 16)) (11 + 7 * p + 4) 0) (11 + 7 * p + 5) 0
  else if 0 ≤ x then va_up v (11 + 7 * p + 4) (if pf v p 4 + x ≤ pf v p 5 then pf v p 4 + x else pf v p 5)
  else if 0 < pf v p 4 + x then va_up v (11 + 7 * p + 4) (if pf v p 4 + x ≤ pf v p 5 then pf v p 4 + x else pf v p 5)
  else va_up (va_up (va_up v (11 + 7 * p + 3) 0) (11 + 7 * p + 4) 0) (11 + 7 * p + 5) 0
/-- the first n PAPERS have moved -/
def aMv (v : Nat → Int32) (w : Int32) : Nat → Nat → Int32
  | 0 => v
  | n + 1 => if aUp (aMv v w n) n then aMove (aMv v w n) n (aRise v n w) w else aMv v w n
def aHour (v : Nat → Int32) (w : Int32) : Nat → Int32 := va_up (aMv v w (nP v)) 4 (aMv v w (nP v) 4 + 1)
def aForce (v : Nat → Int32) (h : Nat) : Int32 := if nW v = 0 then 0 else v (5 + h % nW v)
def aHr (v : Nat → Int32) : Nat → Int32 := aHour v (aForce v (nH v))
def aHrs (v : Nat → Int32) : Nat → Nat → Int32
  | 0 => v
  | n + 1 => aHr (aHrs v n)
theorem X8_forceOf (N b h : Nat) (hb : lenM b = 53) (g : GS) (e1 : g 11 b 1 = nI (nW (g 11 b))) (hW : nW (g 11 b) ≤ 6) (hh : h < 2 ^ 30) : F_X8_forceOf N b (nI h) g = some (aForce (g 11 b) h, g) := by
  unfold F_X8_forceOf aForce
  rw [hb, show ix (1 : Int32) 53 = some 1 from by decide, bd1_s, e1]
  by_cases q : nW (g 11 b) = 0
  · rw [if_pos (by rw [q]; rfl), if_pos q]
  · rw [if_neg (nI_ne0 (by omega) (by omega)), if_neg (nI_ne0 (by omega) (by omega)), if_neg q, pk_rem (by omega) (by omega) (by omega), show (5 : Int32) = nI 5 from rfl, nI_add, ix_nI (by have := Nat.mod_lt h (show 0 < nW (g 11 b) by omega); omega) (by decide), bd1_s]
theorem X8_isOtherUp' (N b p : Nat) (hb : lenM b = 53) (hp : p < 6) : ∀ (n i : Nat) (g : GS), g 11 b 0 = nI (nP (g 11 b)) → nP (g 11 b) ≤ 6 → i ≤ nP (g 11 b) → nP (g 11 b) < i + n → L_X8_isOtherUp_4 N b (nI p) n (b01 (anyF (fun o => !decide (o = p) && (aUp (g 11 b) o && decide (pf (g 11 b) o 0 = 3))) i)) (nI i) g = some (b01 (aOther (g 11 b) p), nI (nP (g 11 b)), g) := by
  intro n
  induction n with
  | zero => intro i g h0 h1 h2; omega
  | succ n ih =>
    intro i g h0 hP h1 h2
    rw [L_X8_isOtherUp_4, hb, show ix (0 : Int32) 53 = some 0 from by decide, bd1_s]
    by_cases h : i = nP (g 11 b)
    · rw [if_pos ((nP_le h0 h1 hP).mpr h), h]
      rfl
    · rw [if_neg (fun q => h ((nP_le h0 h1 hP).mp q)), nI_1]
      have ih' := ih (i + 1) g h0 hP (by omega) (by omega)
      by_cases q : anyF (fun o => !decide (o = p) && (aUp (g 11 b) o && decide (pf (g 11 b) o 0 = 3))) i = true
      · rw [q, b01_t, if_neg (by decide)]
        rw [anyF, q, Bool.true_or, b01_t] at ih'
        exact ih'
      · have q := Bool.eq_false_iff.mpr q
        rw [q, b01_f, if_pos rfl]
        rw [anyF, q, Bool.false_or] at ih'
        by_cases c1 : i = p
        · rw [if_pos (by rw [c1])]
          simp only [c1, decide_true, Bool.not_true, Bool.false_and, b01_f] at ih'
          rw [c1]
          exact ih'
        · rw [if_neg (fun e => c1 ((nI_eq (by omega) (by omega)).mp e)), X8_isUp' N b i (by omega) hb, bd2_s]
          by_cases c2 : aUp (g 11 b) i = true
          · rw [c2, b01_t, if_neg (by decide), X8_of0 N b i (by omega) hb, bd2_s]
            by_cases c3 : pf (g 11 b) i 0 = 3
            · rw [if_pos c3]
              simp only [c1, c2, c3, decide_true, decide_false, Bool.not_false, Bool.and_self, b01_t] at ih'
              exact ih'
            · rw [if_neg c3]
              simp only [c1, c2, c3, decide_false, Bool.not_false, Bool.and_false, b01_f] at ih'
              exact ih'
          · have c2 := Bool.eq_false_iff.mpr c2
            rw [c2, b01_f, if_pos rfl]
            simp only [c1, c2, decide_false, Bool.not_false, Bool.false_and, Bool.and_false, b01_f] at ih'
            exact ih'
theorem X8_isOtherUp (N b p : Nat) (hN : 2000 ≤ N) (hb : lenM b = 53) (hp : p < 6) (g : GS) (h0 : g 11 b 0 = nI (nP (g 11 b))) (hP : nP (g 11 b) ≤ 6) : F_X8_isOtherUp N b (nI p) g = some (b01 (aOther (g 11 b) p), g) := by
  unfold F_X8_isOtherUp
  have := X8_isOtherUp' N b p hb hp N 0 g h0 hP (by omega) (by omega)
  rw [anyF, b01_f, nI_0] at this
  rw [this, bd3_s, if_pos]
  cases aOther (g 11 b) p
  · exact Or.inl rfl
  · exact Or.inr rfl
theorem X8_riseOf (N b p : Nat) (hN : 2000 ≤ N) (hb : lenM b = 53) (hp : p < 6) (w : Int32) (g : GS) (h0 : g 11 b 0 = nI (nP (g 11 b))) (hP : nP (g 11 b) ≤ 6) : F_X8_riseOf N b (nI p) w g = some (aRise (g 11 b) p w, g) := by
  unfold F_X8_riseOf aRise aLift
  simp only [X8_of0 N b p hp hb, X8_of1 N b p hp hb, X8_of2 N b p hp hb, X8_of4 N b p hp hb, X8_isOtherUp N b p hN hb hp g h0 hP, bd2_s]
  by_cases k1 : pf (g 11 b) p 0 = 1
  · simp only [k1, if_true, show ¬ (1 : Int32) = 5 by decide, if_false]
  by_cases k2 : pf (g 11 b) p 0 = 2
  · simp only [k2, show ¬ (2 : Int32) = 1 by decide, show ¬ (2 : Int32) = 5 by decide, if_true, if_false]
    split <;> rfl
  by_cases k3 : pf (g 11 b) p 0 = 3
  · simp only [k3, show ¬ (3 : Int32) = 1 by decide, show ¬ (3 : Int32) = 2 by decide, show ¬ (3 : Int32) = 5 by decide, if_true, if_false]
    cases aOther (g 11 b) p
    · simp [b01]
    · simp [b01]
  simp only [k1, k2, k3, if_false]
  by_cases k5 : pf (g 11 b) p 0 = 5
  · simp only [k5, if_true]
    split
    · rfl
    · split <;> rfl
  · simp only [k5, if_false]
theorem X8_doesSnap (N b p : Nat) (hb : lenM b = 53) (hp : p < 6) (x : Int32) (g : GS) : F_X8_doesSnap N b (nI p) x g = some (b01 (aSnap (g 11 b) p x), g) := by
  unfold F_X8_doesSnap aSnap
  simp only [X8_of4 N b p hp hb, X8_of5 N b p hp hb, bd2_s, hb, show ix (3 : Int32) 53 = some 3 from by decide, bd1_s]
  by_cases h : x ≤ 0
  · simp [h, b01]
  · by_cases h2 : pf (g 11 b) p 4 + x ≤ pf (g 11 b) p 5 + g 11 b 3
    · simp [h, h2, b01]
    · simp [h, h2, b01]
theorem g3_11 (g : GS) (b i : Nat) (w : Int32) (u : Nat → Int32) : g3 (g2 g 11 b u) 11 b i w = g2 g 11 b (va_up u i w) := by
  rw [g3_g2, g2_same, g2_g2]
theorem X8_moves (N b p : Nat) (hb : lenM b = 53) (hp : p < 6) (x w : Int32) (g : GS) : F_X8_moves N b (nI p) x w g = some (g2 g 11 b (aMove (g 11 b) p x w)) := by
  unfold F_X8_moves aMove
  simp only [X8_of4 N b p hp hb, X8_of5 N b p hp hb, X8_doesSnap N b p hb hp, X8_be3 N b p hp hb, X8_be4 N b p hp hb, X8_be5 N b p hp hb, X8_be6 N b p hp hb, bd2_s, bd1_s]
  by_cases h : aSnap (g 11 b) p x = true
  · simp only [h, b01_t, show ¬ (1 : Int32) = 0 by decide, if_true, if_false]
    rw [g3_g2 g, g3_11, g3_11, g3_11]
  · have h := Bool.eq_false_iff.mpr h
    simp only [h, b01_f, if_true]
    by_cases h1 : 0 ≤ x
    · simp only [h1, if_true]
      split <;> simp [g3_g2, *]
    · simp only [h1, if_false]
      by_cases h2 : 0 < pf (g 11 b) p 4 + x
      · simp only [h2, if_true]
        split <;> simp [g3_g2, *]
      · simp only [h2, if_false]
        rw [g3_g2 g, g3_11, g3_11]
        rfl
theorem aMove_lo {v : Nat → Int32} {p : Nat} {x w : Int32} {k : Nat} (h : k < 11 + 7 * p ∨ 11 + 7 * p + 7 ≤ k) : aMove v p x w k = v k := by
  unfold aMove
  split
  · rw [up_ne _ _ (by omega), up_ne _ _ (by omega), up_ne _ _ (by omega), up_ne _ _ (by omega)]
  · split
    · rw [up_ne _ _ (by omega)]
    · split
      · rw [up_ne _ _ (by omega)]
      · rw [up_ne _ _ (by omega), up_ne _ _ (by omega), up_ne _ _ (by omega)]
/-- what hasn't moved yet is as it was -/
theorem aMv_hi {v : Nat → Int32} {w : Int32} : ∀ {n k : Nat}, k < 11 ∨ 11 + 7 * n ≤ k → aMv v w n k = v k := by
  intro n
  induction n with
  | zero => intro k _; rfl
  | succ n ih =>
    intro k h
    rw [aMv]
    split
    · rw [aMove_lo (by omega), ih (by omega)]
    · exact ih (by omega)
theorem L_hour2 (N b : Nat) (hN : 2000 ≤ N) (hb : lenM b = 53) (hb8 : b ≠ 8) (w : Int32) : ∀ (n i : Nat) (g : GS), g 11 b 0 = nI (nP (g 11 b)) → nP (g 11 b) ≤ 6 → i ≤ nP (g 11 b) → nP (g 11 b) < i + n → L_X8_hourBy_2 N b w n (nI i) g = some (nI (nP (g 11 b)), g2 g 11 8 (fun k => if i ≤ k ∧ k < nP (g 11 b) then aRise (g 11 b) k w else g 11 8 k)) := by
  intro n
  induction n with
  | zero => intro i g h0 hP h1 h2; omega
  | succ n ih =>
    intro i g h0 hP h1 h2
    rw [L_X8_hourBy_2, hb, show ix (0 : Int32) 53 = some 0 from by decide, bd1_s]
    by_cases h : i = nP (g 11 b)
    · rw [if_pos ((nP_le h0 h1 hP).mpr h), ← h]
      congr 2
      rw [show (fun k => if i ≤ k ∧ k < i then aRise (g 11 b) k w else g 11 8 k) = g 11 8 from funext fun k => if_neg (by omega), g2_self]
    · rw [if_neg (fun q => h ((nP_le h0 h1 hP).mp q)), X8_riseOf N b i hN hb (by omega) w g h0 hP, bd2_s, ix_nI (by omega) (by decide), bd1_s, nI_1]
      have e : (g3 g 11 8 i (aRise (g 11 b) i w)) 11 b = g 11 b := by rw [g3_g2, g2_row _ _ _ hb8]
      have := ih (i + 1) (g3 g 11 8 i (aRise (g 11 b) i w)) (by rw [e]; exact h0) (by rw [e]; exact hP) (by rw [e]; omega) (by rw [e]; omega)
      rw [e] at this
      rw [this]
      congr 2
      rw [g3_g2, g2_g2, g2_same]
      congr 1
      funext k
      unfold va_up
      by_cases q : k = i
      · subst q; rw [if_neg (by omega), if_pos rfl, if_pos (by omega)]
      · by_cases q2 : i ≤ k ∧ k < nP (g 11 b)
        · rw [if_pos (by omega), if_pos q2]
        · rw [if_neg (by omega), if_neg q, if_neg q2]
theorem L_hour29 (N b : Nat) (hN : 2000 ≤ N) (hb : lenM b = 53) (hb8 : b ≠ 8) (w : Int32) (v : Nat → Int32) (h0 : v 0 = nI (nP v)) (hP : nP v ≤ 6) : ∀ (n i : Nat) (g : GS), g 11 b = aMv v w i → (∀ k, k < nP v → g 11 8 k = aRise v k w) → i ≤ nP v → nP v < i + n → L_X8_hourBy_29 N b w n (nI i) g = some (nI (nP v), g2 g 11 b (aMv v w (nP v))) := by
  intro n
  induction n with
  | zero => intro i g _ _ h1 h2; omega
  | succ n ih =>
    intro i g e8 er h1 h2
    have hz : g 11 b 0 = nI (nP v) := by rw [e8, aMv_hi (by omega)]; exact h0
    rw [L_X8_hourBy_29, hb, show ix (0 : Int32) 53 = some 0 from by decide, bd1_s]
    by_cases h : i = nP v
    · rw [if_pos ((nP_le hz h1 hP).mpr h), ← h, ← e8, g2_self]
    · rw [if_neg (fun q => h ((nP_le hz h1 hP).mp q)), X8_isUp' N b i (by omega) hb, bd2_s, nI_1]
      by_cases q : aUp (g 11 b) i = true
      · rw [q, b01_t, if_neg (by decide), ix_nI (by omega) (by decide), bd1_s, X8_moves N b i hb (by omega), bd1_s, er i (by omega)]
        have e : aMv v w (i + 1) = aMove (g 11 b) i (aRise v i w) w := by rw [aMv, ← e8, if_pos q]
        rw [ih (i + 1) _ (by rw [g2_same, e]) (fun k hk => by rw [g2_row _ _ _ (Ne.symm hb8)]; exact er k hk) (by omega) (by omega), g2_g2]
      · have q := Bool.eq_false_iff.mpr q
        have e : aMv v w (i + 1) = g 11 b := by rw [aMv, ← e8, if_neg (by rw [q]; decide)]
        rw [q, b01_f, if_pos rfl, ih (i + 1) g e.symm er (by omega) (by omega)]
/-- the rises that the reference keeps beside -/
def aRis (g : GS) (b : Nat) (w : Int32) : Nat → Int32 := fun k => if k < nP (g 11 b) then aRise (g 11 b) k w else g 11 8 k
theorem X8_hourBy (N b : Nat) (hN : 2000 ≤ N) (hb : lenM b = 53) (hb8 : b ≠ 8) (w : Int32) (g : GS) (h0 : g 11 b 0 = nI (nP (g 11 b))) (hP : nP (g 11 b) ≤ 6) : F_X8_hourBy N b w g = some (g2 (g2 g 11 8 (aRis g b w)) 11 b (aHour (g 11 b) w)) := by
  unfold F_X8_hourBy
  have a := L_hour2 N b hN hb hb8 w N 0 g h0 hP (by omega) (by omega)
  rw [nI_0] at a
  rw [a, bd2_s]
  have er : (fun k => if 0 ≤ k ∧ k < nP (g 11 b) then aRise (g 11 b) k w else g 11 8 k) = aRis g b w := by
    funext k
    unfold aRis
    by_cases q : k < nP (g 11 b)
    · rw [if_pos ⟨Nat.zero_le k, q⟩, if_pos q]
    · rw [if_neg (fun z => q z.2), if_neg q]
  rw [er]
  have c := L_hour29 N b hN hb hb8 w (g 11 b) h0 hP N 0 (g2 g 11 8 (aRis g b w)) (by rw [g2_row _ _ _ hb8]; rfl) (fun k hk => by rw [g2_same]; unfold aRis; rw [if_pos hk]) (by omega) (by omega)
  rw [nI_0] at c
  rw [c, bd2_s, hb, show ix (4 : Int32) 53 = some 4 from by decide, bd1_s, g3_11, g2_same]
  rfl
theorem X8_hour (N b : Nat) (hN : 2000 ≤ N) (hb : lenM b = 53) (hb8 : b ≠ 8) (g : GS) (h0 : g 11 b 0 = nI (nP (g 11 b))) (hP : nP (g 11 b) ≤ 6) (e1 : g 11 b 1 = nI (nW (g 11 b))) (hW : nW (g 11 b) ≤ 6) (e4 : g 11 b 4 = nI (nH (g 11 b))) (hH : nH (g 11 b) < 2 ^ 30) : F_X8_hour N b g = some (g2 (g2 g 11 8 (aRis g b (aForce (g 11 b) (nH (g 11 b))))) 11 b (aHr (g 11 b))) := by
  unfold F_X8_hour
  rw [hb, show ix (4 : Int32) 53 = some 4 from by decide, bd1_s, e4, X8_forceOf N b _ hb g e1 hW hH, bd2_s, X8_hourBy N b hN hb hb8 _ g h0 hP, bd1_s]
  rfl
