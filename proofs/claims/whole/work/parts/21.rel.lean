/-! ===== the relation between the class's state and the reference's ===== -/
/-- ROWS: k1 lane and size, k2 items; the reference's lane, many, item -/
def RR (k1 k2 : Nat → Nat → Int32) (m2 m3 m4 : Nat → Int32) : Prop := ∀ j : Nat, j < 8 → m2 j = k1 j 0 ∧ (k1 j 0 = -1 ∨ k1 j 0 = 0 ∨ k1 j 0 = 1 ∨ k1 j 0 = 2) ∧ (k1 j 0 ≠ -1 → m3 j = k1 j 1) ∧ (∃ z : Nat, z ≤ 40 ∧ k1 j 1 = nI z) ∧ ∀ k : Nat, k < 40 → m4 (40 * j + k) = k2 j k
/-- THE TAPE -/
def RT (t : Nat → Int32) (by4 : Nat → Int32) (taped : Int32) (m11 : Nat → Int32) : Prop := ∃ z : Nat, z ≤ 100 ∧ t 0 = nI z ∧ taped = nI z ∧ ∀ k : Nat, k < 100 → m11 k = by4 k ∧ ∃ b : Nat, b < 256 ∧ by4 k = nI b
/-- a ROOF is v, a row of 53 as the reference has it: how many PAPERS, WINDS, HOURS -/
def nP (v : Nat → Int32) : Nat := (v 0).toNatClampNeg
def nW (v : Nat → Int32) : Nat := (v 1).toNatClampNeg
def nH (v : Nat → Int32) : Nat := (v 4).toNatClampNeg
/-- a PAPER is as told -/
def VP (q : Nat → Int32) : Prop := (∃ n : Nat, 1 ≤ n ∧ n ≤ 5 ∧ q 0 = nI n) ∧ (∃ n : Nat, n ≤ 9 ∧ q 1 = nI n) ∧ (∃ n : Nat, 1 ≤ n ∧ n ≤ 60 ∧ q 2 = nI n) ∧ (q 3 = 0 ∨ q 3 = 1 ∨ q 3 = 2) ∧ (∃ o n : Nat, n ≤ o ∧ o ≤ 40 ∧ q 4 = nI n ∧ q 5 = nI o ∧ (q 3 = 1 → 1 ≤ o) ∧ (q 3 ≠ 1 → o = 0)) ∧ (q 3 = 2 → ∃ n : Nat, n < 16 ∧ q 6 = nI n)
/-- a ROOF is as told, with at most B hours -/
def VA (B : Nat) (v : Nat → Int32) : Prop := v 0 = nI (nP v) ∧ nP v ≤ 6 ∧ v 1 = nI (nW v) ∧ nW v ≤ 6 ∧ v 4 = nI (nH v) ∧ nH v ≤ B ∧ (0 < nP v → (∃ n : Nat, 1 ≤ n ∧ n ≤ 40 ∧ v 2 = nI n) ∧ ∃ n : Nat, 1 ≤ n ∧ n ≤ 99 ∧ v 3 = nI n) ∧ (∀ k : Nat, k < nW v → ∃ n : Nat, n ≤ 9 ∧ v (5 + k) = nI n) ∧ ∀ i : Nat, i < nP v → VP (fun f => v (11 + 7 * i + f))
/-- the class's scalars, forces, papers tell the ROOF v -/
def RK (sc fo pa v : Nat → Int32) : Prop := sc 4 = v 0 ∧ sc 3 = v 1 ∧ sc 2 = v 4 ∧ (0 < nP v → sc 0 = v 2 ∧ sc 1 = v 3) ∧ (∀ k : Nat, k < nW v → fo k = v (5 + k)) ∧ ∀ i : Nat, i < nP v → (∀ f : Nat, f < 6 → pa (7 * i + f) = v (11 + 7 * i + f)) ∧ pa (7 * i + 6) = (if v (11 + 7 * i + 3) = 2 then v (11 + 7 * i + 6) else -1000000)
def RV (B : Nat) (sc fo pa v : Nat → Int32) : Prop := VA B v ∧ RK sc fo pa v
/-- ACTS: the class's ring tells the rows l, oldest first; the reference's stack too -/
def KA (a : Nat → Int32) (k0 k12 k13 : Nat → Nat → Int32) (l : List (Nat → Int32)) : Prop := ∃ n : Nat, n < 24 ∧ a 0 = nI n ∧ a 1 = nI l.length ∧ l.length ≤ 24 ∧ ∀ (i : Nat) (v : Nat → Int32), l[i]? = some v → RK (k0 (2 + (n + 24 - l.length + i) % 24)) (k12 (2 + (n + 24 - l.length + i) % 24)) (k13 (2 + (n + 24 - l.length + i) % 24)) v
def MA (acts : Int32) (was : Nat → Int32) (l : List (Nat → Int32)) : Prop := acts = nI l.length ∧ ∀ (i : Nat) (v : Nat → Int32), l[i]? = some v → ∀ k : Nat, k < 53 → was (53 * i + k) = v k
def RA (a : Nat → Int32) (k0 k12 k13 : Nat → Nat → Int32) (acts : Int32) (was : Nat → Int32) : Prop := ∃ l : List (Nat → Int32), KA a k0 k12 k13 l ∧ MA acts was l ∧ ∀ v ∈ l, VA 999 v ∧ 0 < nP v
/-- IMAGES -/
def RI (k0 k12 k13 : Nat → Nat → Int32) (isK kept : Nat → Int32) : Prop := ∀ j : Nat, j < 2 → (isK j = 0 ∧ k0 (26 + j) 4 = 0) ∨ (isK j = 1 ∧ 0 < nP (fun k => kept (53 * j + k)) ∧ RV 999 (k0 (26 + j)) (k12 (26 + j)) (k13 (26 + j)) (fun k => kept (53 * j + k)))
/-- THE TRACE -/
def RC (many : Int32) (b : Nat → Int32) (traced : Int32) (tr : Nat → Int32) : Prop := ∃ m : Nat, m ≤ 16 ∧ many = nI m ∧ traced = nI m ∧ ∀ k : Nat, k < m → tr k = b k
def RY (y : Nat → Int32) : Prop := y 0 = 0 ∧ y 1 = 5 ∧ y 2 = 10 ∧ y 3 = -5
def Rel (g : GS) : Prop := RR (g 1) (g 2) (g 11 2) (g 11 3) (g 11 4) ∧ RT (g 3 0) (g 4 0) (g 10 0 12) (g 11 11) ∧ g 10 0 19 = g 9 0 0 ∧ g 10 0 1 = g 9 0 1 ∧ RV 999 (g 0 0) (g 12 0) (g 13 0) (g 11 5) ∧ RA (g 6 0) (g 0) (g 12) (g 13) (g 10 0 10) (g 11 9) ∧ RI (g 0) (g 12) (g 13) (g 11 21) (g 11 22) ∧ RC (g 7 0 0) (g 8 0) (g 10 0 24) (g 11 23) ∧ RY (g 11 20) ∧ (nP (g 11 5) = 0 → nW (g 11 5) = 0)
/-- one call, first of the class, then of the reference: the same answer, and the relation stays -/
def Sim (K M : GS → Option (Int32 × GS)) (g : GS) : Prop := ∃ (r : Int32) (g1 g2 : GS), K g = some (r, g1) ∧ M g1 = some (r, g2) ∧ Rel g2
theorem Sim.of {K M : GS → Option (Int32 × GS)} {g : GS} (r : Int32) (g1 g2 : GS) (h1 : K g = some (r, g1)) (h2 : M g1 = some (r, g2)) (h3 : Rel g2) : Sim K M g := ⟨r, g1, g2, h1, h2, h3⟩
/-! calls that only read what is small -/
theorem p_fault (N : Nat) (g : GS) (h : Rel g) : Sim (F_X7_fault N) (F_X8_fault N) g := by
  refine Sim.of (g 9 0 0) g (g3 g 10 0 0 0) rfl ?_ h
  unfold F_X8_fault
  rw [h.2.2.1]
theorem p_status (N : Nat) (g : GS) (h : Rel g) : Sim (F_X7_status N) (F_X8_status N) g := by
  refine Sim.of (g 9 0 1) g (g3 g 10 0 0 0) rfl ?_ h
  unfold F_X8_status
  rw [h.2.2.2.1]
/-! rows -/
theorem L_begin (N : Nat) (j : Nat) (a b : Int32) : ∀ (n i : Nat) (g : GS), i ≤ 40 → 40 < i + n → L_X5_begin_12 N j a b n (nI i) g = some (nI 40, g2 g 2 j (fun k => if i ≤ k ∧ k < 40 then 0 else g 2 j k)) := by
  intro n
  induction n with
  | zero => intro i g h1 h2; omega
  | succ n ih =>
    intro i g h1 h2
    rw [L_X5_begin_12]
    by_cases h : i = 40
    · subst h
      rw [if_pos (show (40 : Int32) ≤ nI 40 by decide)]
      congr 2
      rw [show (fun k => if 40 ≤ k ∧ k < 40 then 0 else g 2 j k) = g 2 j from funext fun k => if_neg (by omega), g2_self]
    · rw [if_neg (show ¬ (40 : Int32) ≤ nI i from nI_ge (b := 40) (by omega) (by omega)), ix_nI (by omega) (by omega), bd1_s, nI_1, ih (i + 1) _ (by omega) (by omega)]
      congr 2
      rw [g3_g2, g2_g2, g2_same]
      congr 1
      funext k
      unfold va_up
      by_cases q : k = i
      · subst q; rw [if_neg (by omega), if_pos rfl, if_pos (by omega)]
      · by_cases q2 : i ≤ k ∧ k < 40
        · rw [if_pos (by omega), if_pos q2]
        · rw [if_neg (by omega), if_neg q, if_neg q2]
theorem L_begin0 (N : Nat) (hN : 2000 ≤ N) (j : Nat) (a b : Int32) (g : GS) : L_X5_begin_12 N j a b N 0 g = some (nI 40, g2 g 2 j (fun k => if 0 ≤ k ∧ k < 40 then 0 else g 2 j k)) := L_begin N j a b N 0 g (by omega) (by omega)
theorem L_row65 (N : Nat) (r : Nat) (hr : r < 8) (a b : Int32) : ∀ (n i : Nat) (g : GS), i ≤ 40 → 40 < i + n → L_X8_row_65 N (nI r) a b n (nI i) g = some (nI 40, g2 g 11 4 (fun k => if 40 * r + i ≤ k ∧ k < 40 * r + 40 then 0 else g 11 4 k)) := by
  intro n
  induction n with
  | zero => intro i g h1 h2; omega
  | succ n ih =>
    intro i g h1 h2
    rw [L_X8_row_65]
    by_cases h : i = 40
    · subst h
      rw [if_pos (show (40 : Int32) ≤ nI 40 by decide)]
      congr 2
      rw [show (fun k => if 40 * r + 40 ≤ k ∧ k < 40 * r + 40 then 0 else g 11 4 k) = g 11 4 from funext fun k => if_neg (by omega), g2_self]
    · have e : (40 : Int32) * nI r + nI i = nI (40 * r + i) := by rw [show (40 : Int32) = nI 40 from rfl, pk_mul, nI_add]
      rw [if_neg (show ¬ (40 : Int32) ≤ nI i from nI_ge (b := 40) (by omega) (by omega)), e, ix_nI (by omega) (by omega), bd1_s, nI_1, ih (i + 1) _ (by omega) (by omega)]
      congr 2
      rw [g3_g2, g2_g2, g2_same]
      congr 1
      funext k
      unfold va_up
      by_cases q : k = 40 * r + i
      · subst q; rw [if_neg (by omega), if_pos rfl, if_pos (by omega)]
      · by_cases q2 : 40 * r + i ≤ k ∧ k < 40 * r + 40
        · rw [if_pos (by omega), if_pos q2]
        · rw [if_neg (by omega), if_neg q, if_neg q2]
theorem L_row0 (N : Nat) (hN : 2000 ≤ N) (r : Nat) (hr : r < 8) (a b : Int32) (g : GS) : L_X8_row_65 N (nI r) a b N 0 g = some (nI 40, g2 g 11 4 (fun k => if 40 * r + 0 ≤ k ∧ k < 40 * r + 40 then 0 else g 11 4 k)) := L_row65 N r hr a b N 0 g (by omega) (by omega)
/-- a new ROW in place of number j -/
theorem RR_row {g1 g2' : Nat → Nat → Int32} {m2 m3 m4 : Nat → Int32} (h : RR g1 g2' m2 m3 m4) {j z : Nat} (hj : j < 8) (hz : z ≤ 40) {l : Int32} (hl : l = 0 ∨ l = 1 ∨ l = 2) {k1 k2 : Nat → Nat → Int32} {n2 n3 n4 : Nat → Int32} (e1 : ∀ i, i ≠ j → k1 i = g1 i) (e1a : k1 j 0 = l) (e1b : k1 j 1 = nI z) (e2 : ∀ i, i ≠ j → k2 i = g2' i) (e2a : ∀ k, k < 40 → k2 j k = 0) (f2 : n2 = va_up m2 j l) (f3 : n3 = va_up m3 j (nI z)) (f4 : ∀ i k, i < 8 → k < 40 → n4 (40 * i + k) = if i = j then 0 else m4 (40 * i + k)) : RR k1 k2 n2 n3 n4 := by
  intro i hi
  subst f2
  subst f3
  by_cases q : i = j
  · subst q
    rw [e1a, e1b, up_same, up_same]
    refine ⟨rfl, Or.inr hl, fun _ => rfl, ⟨z, hz, rfl⟩, fun k hk => ?_⟩
    rw [f4 i k hi hk, if_pos rfl, e2a k hk]
  · obtain ⟨a1, a2, a3, a4, a5⟩ := h i hi
    rw [e1 i q, e2 i q, up_ne _ _ q, up_ne _ _ q]
    refine ⟨a1, a2, a3, a4, fun k hk => ?_⟩
    rw [f4 i k hi hk, if_neg q]
    exact a5 k hk
set_option maxRecDepth 100000 in
theorem p_row (N : Nat) (hN : 2000 ≤ N) (a b c : Int32) (g : GS) (h : Rel g) : Sim (F_X7_row N a b c) (F_X8_row N a b c) g := by
  unfold F_X7_row F_X8_row
  simp only [X7_isRow, X8_isRow, X7_within, X8_inL N b 0 2 (A := 0) (B := 2) (by decide) (by decide), bd2_s]
  rcases wi_cases a 0 7 with ⟨w, -⟩ | ⟨w, w1, w2⟩
  · refine Sim.of (-1000001) g (g3 g 10 0 0 0) ?_ ?_ h
    · simp only [w, if_true]
    · simp only [w, if_true]
  obtain ⟨j, hj, rfl⟩ := wi_nI (n := 7) (by decide) w1 w2
  rcases wi_cases b 0 2 with ⟨u, -⟩ | ⟨u, u1, u2⟩
  · refine Sim.of (-1000001) g (g3 g 10 0 0 0) ?_ ?_ h
    · rw [w, u, if_neg (by decide), if_pos rfl]
    · rw [w, u, if_neg (by decide), if_pos rfl]
  obtain ⟨l, hl, rfl⟩ := wi_nI (n := 2) (by decide) u1 u2
  simp only [w, u, show ¬ (1 : Int32) = 0 by decide, if_false, ix_nI hj (by decide), bd1_s]
  by_cases c1 : c ≤ 40
  · by_cases c2 : 0 ≤ c
    · obtain ⟨z, hz, rfl⟩ := nI_of2 (x := c) (M := 40) (n := 40) (by decide) (by rw [Int32.le_iff_toInt_le] at c2; rw [Int32.lt_iff_toInt_lt]; omega) c1
      simp only [if_pos c1, if_pos c2, F_X5_begin, F_X7_unfound, L_begin0 N hN, L_row0 N hN j hj, bd2_s, bd1_s]
      refine Sim.of (nI z) _ _ rfl rfl ?_
      refine ⟨?_, h.2.1, h.2.2.1, rfl, h.2.2.2.2⟩
      refine RR_row h.1 hj hz (l := nI l) (by rcases (show l = 0 ∨ l = 1 ∨ l = 2 by omega) with rfl | rfl | rfl; exact Or.inl rfl; exact Or.inr (Or.inl rfl); exact Or.inr (Or.inr rfl)) ?_ ?_ ?_ ?_ ?_ ?_ ?_ ?_
      · intro i hi
        simp [g3, g2, va_up, hi]
      · simp [g3, g2, va_up]
      · simp [g3, g2, va_up]
      · intro i hi
        simp [g3, g2, va_up, hi]
      · intro k hk
        simp [g3, g2, va_up, hk]
      · simp [g3, g2, va_up]
      · simp [g3, g2, va_up]
      · intro i k hi hk
        show (if 40 * j + 0 ≤ 40 * i + k ∧ 40 * i + k < 40 * j + 40 then (0 : Int32) else g 11 4 (40 * i + k)) = _
        by_cases q : i = j
        · subst q
          rw [if_pos (by omega), if_pos rfl]
        · rw [if_neg (by omega), if_neg q]
    · simp only [if_pos c1, if_neg c2, F_X7_found, F_X8_finding, bd2_s]
      exact Sim.of ((-1000010 : Int32) - 4) _ _ rfl rfl ⟨h.1, h.2.1, h.2.2.1, rfl, h.2.2.2.2⟩
  · refine Sim.of (-1000001) g (g3 g 10 0 0 0) ?_ ?_ h
    · rw [if_neg c1]
    · rw [if_neg c1]
