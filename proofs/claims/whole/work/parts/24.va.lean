/-! ===== numbers; a ROOF stays as told ===== -/
theorem i_add (a b : Int32) (h1 : -2147483648 ≤ a.toInt + b.toInt) (h2 : a.toInt + b.toInt < 2147483648) : (a + b).toInt = a.toInt + b.toInt := by
  rw [Int32.toInt_add, Int.bmod]
  split <;> omega
theorem i_sub (a b : Int32) (h1 : -2147483648 ≤ a.toInt - b.toInt) (h2 : a.toInt - b.toInt < 2147483648) : (a - b).toInt = a.toInt - b.toInt := by
  rw [Int32.toInt_sub, Int.bmod]
  split <;> omega
theorem nI_ofI {x : Int32} {n : Nat} (h : x.toInt = (n : Int)) : x = nI n := by
  have h2 : (n : Int) < 2147483648 := by rw [← h]; exact Int32.toInt_lt x
  exact Int32.toInt_inj.mp (h.trans (nI_toInt (by omega)).symm)
theorem i_le (a b : Int32) : a ≤ b ↔ a.toInt ≤ b.toInt := Int32.le_iff_toInt_le
theorem i_lt (a b : Int32) : a < b ↔ a.toInt < b.toInt := Int32.lt_iff_toInt_lt
theorem t0 : (0 : Int32).toInt = 0 := by decide
theorem VA_paper {B : Nat} {v : Nat → Int32} (h : VA B v) {p : Nat} (hp : p < nP v) : VP (fun f => v (11 + 7 * p + f)) := h.2.2.2.2.2.2.2.2 p hp
theorem aLift_n {q : Nat → Int32} {v : Nat → Int32} {p : Nat} (hq : VP (fun f => v (11 + 7 * p + f))) {wn : Nat} (hw : wn ≤ 99) : ∃ L : Nat, L ≤ 1782 ∧ aLift v p (nI wn) = nI L := by
  obtain ⟨-, ⟨b, hb, eb⟩, -⟩ := hq
  have eb : pf v p 1 = nI b := eb
  have hm : b * wn ≤ 891 := Nat.mul_le_mul hb hw
  unfold aLift
  rw [eb, pk_mul]
  have e4 : (4 : Int32) * nI wn = nI (4 * wn) := by rw [show (4 : Int32) = nI 4 from rfl, pk_mul]
  rw [e4]
  split
  · exact ⟨_, by omega, rfl⟩
  · split
    · split
      · exact ⟨b * wn / 2, by omega, by rw [show (2 : Int32) = nI 2 from rfl, pk_div (by omega) (by decide) (by decide)]⟩
      · exact ⟨_, by omega, rfl⟩
    · split
      · split
        · exact ⟨2 * (b * wn), by omega, by rw [show (2 : Int32) = nI 2 from rfl, pk_mul]⟩
        · exact ⟨_, by omega, rfl⟩
      · split
        · split
          · exact ⟨_, by omega, rfl⟩
          · split
            · exact ⟨_, by omega, rfl⟩
            · exact ⟨30, by omega, rfl⟩
        · exact ⟨_, by omega, rfl⟩
theorem aRise_i {v : Nat → Int32} {p : Nat} (hq : VP (fun f => v (11 + 7 * p + f))) {wn : Nat} (hw : wn ≤ 99) : -60 ≤ (aRise v p (nI wn)).toInt ∧ (aRise v p (nI wn)).toInt ≤ 1782 := by
  obtain ⟨L, hL, e⟩ := aLift_n (q := v) hq hw
  obtain ⟨-, -, ⟨W, h1, h2, ew⟩, -⟩ := hq
  have ew : pf v p 2 = nI W := ew
  unfold aRise
  rw [e, ew, pk_sub_toInt (by omega) (by omega)]
  omega
/-- a PAPER that is UP moves, and is as told -/
theorem VP_move {v : Nat → Int32} {p : Nat} (hq : VP (fun f => v (11 + 7 * p + f))) (hu : pf v p 3 = 1) {x : Int32} (x1 : -60 ≤ x.toInt) (x2 : x.toInt ≤ 1782) {wn : Nat} (hw : wn ≤ 99) (hp : p < 6) : VP (fun f => aMove v p x (nI wn) (11 + 7 * p + f)) := by
  obtain ⟨q0, q1, q2, q3, ⟨o, n, hno, ho, e4, e5, h1, h2⟩, q6⟩ := hq
  have e4 : pf v p 4 = nI n := e4
  have e5 : pf v p 5 = nI o := e5
  have ho1 : 1 ≤ o := h1 hu
  have i4 : (pf v p 4).toInt = n := by rw [e4]; exact nI_toInt (by omega)
  have i5 : (pf v p 5).toInt = o := by rw [e5]; exact nI_toInt (by omega)
  have is : (pf v p 4 + x).toInt = n + x.toInt := by rw [i_add _ _ (by omega) (by omega), i4]
  unfold aMove
  split
  · refine ⟨?_, ?_, ?_, ?_, ?_, ?_⟩
    · simpa [va_up] using q0
    · simpa [va_up] using q1
    · simpa [va_up] using q2
    · simp [va_up]
    · exact ⟨0, 0, by omega, by omega, by simp [va_up]; rfl, by simp [va_up]; rfl, fun z => by simp [va_up] at z, fun _ => rfl⟩
    · intro _
      refine ⟨(p + o + wn) % 16, by omega, ?_⟩
      simp only [va_up]
      rw [if_neg (by omega), if_neg (by omega), if_pos trivial, e5, nI_add, nI_add, show (16 : Int32) = nI 16 from rfl, pk_rem (by omega) (by decide) (by decide)]
  · have keep : ∀ y : Int32, (∃ m : Nat, m ≤ o ∧ y = nI m) → VP (fun f => va_up v (11 + 7 * p + 4) y (11 + 7 * p + f)) := by
      rintro y ⟨m, hm, rfl⟩
      refine ⟨?_, ?_, ?_, ?_, ?_, ?_⟩
      · simpa [va_up] using q0
      · simpa [va_up] using q1
      · simpa [va_up] using q2
      · simpa [va_up] using q3
      · refine ⟨o, m, hm, ho, by simp [va_up], by simpa [va_up] using e5, fun _ => ho1, fun z => ?_⟩
        exact absurd (by simpa [va_up] using hu) z
      · intro z
        have z : pf v p 3 = 2 := by simpa [va_up] using z
        rw [hu] at z
        exact absurd z (by decide)
    split
    · rename_i hx
      apply keep
      rw [i_le, t0] at hx
      by_cases q : pf v p 4 + x ≤ pf v p 5
      · rw [if_pos q]
        rw [i_le, is, i5] at q
        exact ⟨(n + x.toInt).toNat, by omega, nI_ofI (by rw [is]; omega)⟩
      · rw [if_neg q]
        exact ⟨o, Nat.le_refl o, e5⟩
    · split
      · rename_i hx hs
        apply keep
        rw [i_lt, t0, is] at hs
        rw [i_le, t0] at hx
        by_cases q : pf v p 4 + x ≤ pf v p 5
        · rw [if_pos q]
          rw [i_le, is, i5] at q
          exact ⟨(n + x.toInt).toNat, by omega, nI_ofI (by rw [is]; omega)⟩
        · rw [if_neg q]
          exact ⟨o, Nat.le_refl o, e5⟩
      · refine ⟨?_, ?_, ?_, ?_, ?_, ?_⟩
        · simpa [va_up] using q0
        · simpa [va_up] using q1
        · simpa [va_up] using q2
        · simp [va_up]
        · exact ⟨0, 0, by omega, by omega, by simp [va_up]; rfl, by simp [va_up]; rfl, fun z => by simp [va_up] at z, fun _ => rfl⟩
        · intro z
          simp [va_up] at z
theorem nP_eq {v u : Nat → Int32} (h : u 0 = v 0) : nP u = nP v := by unfold nP; rw [h]
theorem nW_eq {v u : Nat → Int32} (h : u 1 = v 1) : nW u = nW v := by unfold nW; rw [h]
theorem nH_eq {v u : Nat → Int32} (h : u 4 = v 4) : nH u = nH v := by unfold nH; rw [h]
/-- the same but for the PAPERS, that are as told -/
theorem VA_papers {B : Nat} {v u : Nat → Int32} (h : VA B v) (hl : ∀ k, k < 11 → u k = v k) (hp : ∀ i, i < nP v → VP (fun f => u (11 + 7 * i + f))) : VA B u := by
  have e0 := nP_eq (hl 0 (by omega))
  have e1 := nW_eq (hl 1 (by omega))
  have e4 := nH_eq (hl 4 (by omega))
  obtain ⟨a0, a1, a2, a3, a4, a5, a6, a7, a8⟩ := h
  refine ⟨by rw [hl 0 (by omega), e0]; exact a0, by rw [e0]; exact a1, by rw [hl 1 (by omega), e1]; exact a2, by rw [e1]; exact a3, by rw [hl 4 (by omega), e4]; exact a4, by rw [e4]; exact a5, ?_, ?_, ?_⟩
  · rw [e0, hl 2 (by omega), hl 3 (by omega)]; exact a6
  · rw [e1]
    intro k hk
    rw [hl (5 + k) (by omega)]
    exact a7 k hk
  · rw [e0]; exact hp
theorem VA_mv {B : Nat} {v : Nat → Int32} (h : VA B v) {wn : Nat} (hw : wn ≤ 99) : ∀ n, n ≤ nP v → VA B (aMv v (nI wn) n) := by
  intro n
  induction n with
  | zero => intro _; exact h
  | succ n ih =>
    intro hn
    have hv := ih (by omega)
    have e0 : nP (aMv v (nI wn) n) = nP v := nP_eq (aMv_hi (by omega))
    rw [aMv]
    split
    · rename_i hu
      refine VA_papers hv (fun k hk => aMove_lo (by omega)) (fun i hi => ?_)
      rw [e0] at hi
      by_cases q : i = n
      · subst q
        have hq : VP (fun f => v (11 + 7 * i + f)) := VA_paper h hi
        have := aRise_i hq hw
        exact VP_move (VA_paper hv (by rw [e0]; exact hi)) (by simpa [aUp] using hu) this.1 this.2 hw (by have := h.2.1; omega)
      · have := VA_paper hv (p := i) (by rw [e0]; exact hi)
        have e : (fun f => aMove (aMv v (nI wn) n) n (aRise v n (nI wn)) (nI wn) (11 + 7 * i + f)) = fun f => if f < 7 then aMv v (nI wn) n (11 + 7 * i + f) else aMove (aMv v (nI wn) n) n (aRise v n (nI wn)) (nI wn) (11 + 7 * i + f) := by
          funext f
          by_cases hf : f < 7
          · rw [if_pos hf, aMove_lo (by omega)]
          · rw [if_neg hf]
        rw [e]
        exact this
    · exact hv
theorem VA_hour {B : Nat} {v : Nat → Int32} (h : VA B v) (hB : B < 2 ^ 30) {wn : Nat} (hw : wn ≤ 99) : VA (B + 1) (aHour v (nI wn)) ∧ nP (aHour v (nI wn)) = nP v ∧ nW (aHour v (nI wn)) = nW v ∧ nH (aHour v (nI wn)) = nH v + 1 := by
  have hm := VA_mv h hw (nP v) (Nat.le_refl _)
  have lo : ∀ k, k < 11 → k ≠ 4 → aHour v (nI wn) k = v k := fun k h1 h2 => by
    unfold aHour
    rw [up_ne _ _ h2, aMv_hi (by omega)]
  have e4 : aHour v (nI wn) 4 = nI (nH v + 1) := by
    unfold aHour
    rw [up_same, aMv_hi (by omega), h.2.2.2.2.1, nI_1]
  have eP : nP (aHour v (nI wn)) = nP v := nP_eq (lo 0 (by omega) (by omega))
  have eW : nW (aHour v (nI wn)) = nW v := nW_eq (lo 1 (by omega) (by omega))
  have hH := h.2.2.2.2.2.1
  have eH : nH (aHour v (nI wn)) = nH v + 1 := by
    show (aHour v (nI wn) 4).toNatClampNeg = _
    rw [e4, nI_clamp (by omega)]
  refine ⟨?_, eP, eW, eH⟩
  obtain ⟨a0, a1, a2, a3, a4, a5, a6, a7, a8⟩ := h
  refine ⟨by rw [lo 0 (by omega) (by omega), eP]; exact a0, by rw [eP]; exact a1, by rw [lo 1 (by omega) (by omega), eW]; exact a2, by rw [eW]; exact a3, by rw [eH]; exact e4, by rw [eH]; omega, ?_, ?_, ?_⟩
  · rw [eP, lo 2 (by omega) (by omega), lo 3 (by omega) (by omega)]; exact a6
  · rw [eW]
    intro k hk
    rw [lo (5 + k) (by omega) (by omega)]
    exact a7 k hk
  · rw [eP]
    intro i hi
    have := VA_paper hm (p := i) (by rw [nP_eq (aMv_hi (by omega))]; exact hi)
    have e : (fun f => aHour v (nI wn) (11 + 7 * i + f)) = fun f => aMv v (nI wn) (nP v) (11 + 7 * i + f) := by
      funext f
      unfold aHour
      rw [up_ne _ _ (by omega)]
    rw [e]
    exact this
theorem aForce_n {B : Nat} {v : Nat → Int32} (h : VA B v) (k : Nat) : ∃ n : Nat, n ≤ 9 ∧ aForce v k = nI n := by
  unfold aForce
  by_cases q : nW v = 0
  · rw [if_pos q]; exact ⟨0, by omega, rfl⟩
  · rw [if_neg q]
    exact h.2.2.2.2.2.2.2.1 _ (Nat.mod_lt _ (by omega))
theorem VA_hr {B : Nat} {v : Nat → Int32} (h : VA B v) (hB : B < 2 ^ 30) : VA (B + 1) (aHr v) ∧ nP (aHr v) = nP v ∧ nW (aHr v) = nW v ∧ nH (aHr v) = nH v + 1 := by
  obtain ⟨n, hn, e⟩ := aForce_n h (nH v)
  unfold aHr
  rw [e]
  exact VA_hour h hB (by omega)
theorem VA_hrs {B : Nat} {v : Nat → Int32} (h : VA B v) : ∀ n, B + n < 2 ^ 30 → VA (B + n) (aHrs v n) ∧ nP (aHrs v n) = nP v ∧ nW (aHrs v n) = nW v ∧ nH (aHrs v n) = nH v + n := by
  intro n
  induction n with
  | zero => intro _; exact ⟨h, rfl, rfl, rfl⟩
  | succ n ih =>
    intro hB
    obtain ⟨a, b, c, d⟩ := ih (by omega)
    obtain ⟨a', b', c', d'⟩ := VA_hr a (by omega)
    exact ⟨a', b'.trans b, c'.trans c, by rw [aHrs, d', d]; rfl⟩
