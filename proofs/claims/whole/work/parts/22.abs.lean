/-! ===== what a ROOF does, said of the row v of 53; and that the reference does it ===== -/
/-- the field f of PAPER p -/
abbrev pf (v : Nat → Int32) (p f : Nat) : Int32 := v (11 + 7 * p + f)
theorem X8_of' (N b p f : Nat) (hp : p < 6) (hf : f < 7) (hb : lenM b = 53) {x y : Int32} (hx : x = nI p) (hy : y = nI f) (g : GS) : F_X8_of N b x y g = some (pf (g 11 b) p f, g) := by
  subst hx
  subst hy
  unfold F_X8_of
  rw [show (11 : Int32) + (7 : Int32) * nI p + nI f = nI (11 + 7 * p + f) by rw [show (7 : Int32) = nI 7 from rfl, show (11 : Int32) = nI 11 from rfl, pk_mul, nI_add, nI_add], hb, ix_nI (by omega) (by decide), bd1_s]
theorem X8_be' (N b p f : Nat) (hp : p < 6) (hf : f < 7) (hb : lenM b = 53) {x y : Int32} (hx : x = nI p) (hy : y = nI f) (w : Int32) (g : GS) : F_X8_be N b x y w g = some (g3 g 11 b (11 + 7 * p + f) w) := by
  subst hx
  subst hy
  unfold F_X8_be
  rw [show (11 : Int32) + (7 : Int32) * nI p + nI f = nI (11 + 7 * p + f) by rw [show (7 : Int32) = nI 7 from rfl, show (11 : Int32) = nI 11 from rfl, pk_mul, nI_add, nI_add], hb, ix_nI (by omega) (by decide), bd1_s]
theorem X8_of0 (N b p : Nat) (hp : p < 6) (hb : lenM b = 53) (g : GS) : F_X8_of N b (nI p) 0 g = some (pf (g 11 b) p 0, g) := X8_of' N b p 0 hp (by decide) hb rfl rfl g
theorem X8_be0 (N b p : Nat) (hp : p < 6) (hb : lenM b = 53) (w : Int32) (g : GS) : F_X8_be N b (nI p) 0 w g = some (g3 g 11 b (11 + 7 * p + 0) w) := X8_be' N b p 0 hp (by decide) hb rfl rfl w g
theorem X8_of1 (N b p : Nat) (hp : p < 6) (hb : lenM b = 53) (g : GS) : F_X8_of N b (nI p) 1 g = some (pf (g 11 b) p 1, g) := X8_of' N b p 1 hp (by decide) hb rfl rfl g
theorem X8_be1 (N b p : Nat) (hp : p < 6) (hb : lenM b = 53) (w : Int32) (g : GS) : F_X8_be N b (nI p) 1 w g = some (g3 g 11 b (11 + 7 * p + 1) w) := X8_be' N b p 1 hp (by decide) hb rfl rfl w g
theorem X8_of2 (N b p : Nat) (hp : p < 6) (hb : lenM b = 53) (g : GS) : F_X8_of N b (nI p) 2 g = some (pf (g 11 b) p 2, g) := X8_of' N b p 2 hp (by decide) hb rfl rfl g
theorem X8_be2 (N b p : Nat) (hp : p < 6) (hb : lenM b = 53) (w : Int32) (g : GS) : F_X8_be N b (nI p) 2 w g = some (g3 g 11 b (11 + 7 * p + 2) w) := X8_be' N b p 2 hp (by decide) hb rfl rfl w g
theorem X8_of3 (N b p : Nat) (hp : p < 6) (hb : lenM b = 53) (g : GS) : F_X8_of N b (nI p) 3 g = some (pf (g 11 b) p 3, g) := X8_of' N b p 3 hp (by decide) hb rfl rfl g
theorem X8_be3 (N b p : Nat) (hp : p < 6) (hb : lenM b = 53) (w : Int32) (g : GS) : F_X8_be N b (nI p) 3 w g = some (g3 g 11 b (11 + 7 * p + 3) w) := X8_be' N b p 3 hp (by decide) hb rfl rfl w g
theorem X8_of4 (N b p : Nat) (hp : p < 6) (hb : lenM b = 53) (g : GS) : F_X8_of N b (nI p) 4 g = some (pf (g 11 b) p 4, g) := X8_of' N b p 4 hp (by decide) hb rfl rfl g
theorem X8_be4 (N b p : Nat) (hp : p < 6) (hb : lenM b = 53) (w : Int32) (g : GS) : F_X8_be N b (nI p) 4 w g = some (g3 g 11 b (11 + 7 * p + 4) w) := X8_be' N b p 4 hp (by decide) hb rfl rfl w g
theorem X8_of5 (N b p : Nat) (hp : p < 6) (hb : lenM b = 53) (g : GS) : F_X8_of N b (nI p) 5 g = some (pf (g 11 b) p 5, g) := X8_of' N b p 5 hp (by decide) hb rfl rfl g
theorem X8_be5 (N b p : Nat) (hp : p < 6) (hb : lenM b = 53) (w : Int32) (g : GS) : F_X8_be N b (nI p) 5 w g = some (g3 g 11 b (11 + 7 * p + 5) w) := X8_be' N b p 5 hp (by decide) hb rfl rfl w g
theorem X8_of6 (N b p : Nat) (hp : p < 6) (hb : lenM b = 53) (g : GS) : F_X8_of N b (nI p) 6 g = some (pf (g 11 b) p 6, g) := X8_of' N b p 6 hp (by decide) hb rfl rfl g
theorem X8_be6 (N b p : Nat) (hp : p < 6) (hb : lenM b = 53) (w : Int32) (g : GS) : F_X8_be N b (nI p) 6 w g = some (g3 g 11 b (11 + 7 * p + 6) w) := X8_be' N b p 6 hp (by decide) hb rfl rfl w g
def aUp (v : Nat → Int32) (p : Nat) : Bool := decide (pf v p 3 = 1)
def aPol (v : Nat → Int32) (p : Nat) : Bool := aUp v p && !decide (pf v p 4 < v 2)
/-- 1 or 0 -/
def b01 (b : Bool) : Int32 := if b then 1 else 0
theorem b01_0 (b : Bool) : b01 b = 0 ↔ b = false := by cases b <;> simp [b01]
theorem b01_t : b01 true = 1 := rfl
theorem b01_f : b01 false = 0 := rfl
theorem X8_isUp' (N b p : Nat) (hp : p < 6) (hb : lenM b = 53) (g : GS) : F_X8_isUp N b (nI p) g = some (b01 (aUp (g 11 b) p), g) := by
  unfold F_X8_isUp
  rw [X8_of3 N b p hp hb, bd2_s]
  unfold aUp b01
  by_cases h : pf (g 11 b) p 3 = 1
  · rw [if_pos h]; simp [h]
  · rw [if_neg h]; simp [h]
theorem X8_isPolicy' (N b p : Nat) (hp : p < 6) (hb : lenM b = 53) (g : GS) : F_X8_isPolicy N b (nI p) g = some (b01 (aPol (g 11 b) p), g) := by
  unfold F_X8_isPolicy
  rw [X8_isUp' N b p hp hb, bd2_s]
  by_cases h : aUp (g 11 b) p = true
  · rw [h, b01_t, if_neg (by decide), X8_of4 N b p hp hb, bd2_s, hb, show ix (2 : Int32) 53 = some 2 from by decide, bd1_s]
    unfold aPol
    rw [h]
    by_cases q : pf (g 11 b) p 4 < g 11 b 2
    · rw [if_pos q]; simp [q, b01]
    · rw [if_neg q]; simp [q, b01]
  · have h := Bool.eq_false_iff.mpr h
    rw [h, b01_f, if_pos rfl]
    unfold aPol
    rw [h]
    rfl
/-- the set of those below n that f tells -/
def bitsF (f : Nat → Bool) : Nat → Int32
  | 0 => 0
  | n + 1 => if f n then bitsF f n ||| ((1 : Int32) <<< (nI n &&& 31)) else bitsF f n
theorem or0 (x : Int32) : x ||| 0 = x := by
  apply Int32.toBitVec_inj.mp
  simp
theorem nP_le {g : GS} {b i P : Nat} (h0 : g 11 b 0 = nI P) (hi : i ≤ P) (hP : P ≤ 6) : (g 11 b 0 ≤ nI i) ↔ i = P := by
  rw [h0, nI_leI (by omega) (by omega)]
  omega
theorem X8_those' (N b P : Nat) (x : Int32) (hb : lenM b = 53) (hP : P ≤ 6) : ∀ (n i : Nat) (g : GS), g 11 b 0 = nI P → i ≤ P → P < i + n → L_X8_those_4 N b x n (bitsF (fun p => decide (pf (g 11 b) p 3 = x)) i) (nI i) g = some (bitsF (fun p => decide (pf (g 11 b) p 3 = x)) P, nI P, g) := by
  intro n
  induction n with
  | zero => intro i g h0 h1 h2; omega
  | succ n ih =>
    intro i g h0 h1 h2
    rw [L_X8_those_4, hb, show ix (0 : Int32) 53 = some 0 from by decide, bd1_s]
    by_cases h : i = P
    · rw [if_pos ((nP_le h0 h1 hP).mpr h), h]
    · rw [if_neg (fun q => h ((nP_le h0 h1 hP).mp q)), X8_of3 N b i (by omega) hb, bd2_s, nI_1]
      by_cases q : pf (g 11 b) i 3 = x
      · rw [if_pos q, ← ih (i + 1) g h0 (by omega) (by omega)]
        congr 1
        simp [bitsF, q]
      · rw [if_neg q, ← ih (i + 1) g h0 (by omega) (by omega), or0]
        congr 1
        simp [bitsF, q]
theorem X8_those (N b P : Nat) (hN : 2000 ≤ N) (x : Int32) (hb : lenM b = 53) (hP : P ≤ 6) (g : GS) (h0 : g 11 b 0 = nI P) : F_X8_those N b x g = some (bitsF (fun p => decide (pf (g 11 b) p 3 = x)) P, g) := by
  unfold F_X8_those
  have := X8_those' N b P x hb hP N 0 g h0 (by omega) (by omega)
  rw [show bitsF (fun p => decide (pf (g 11 b) p 3 = x)) 0 = 0 from rfl, nI_0] at this
  rw [this, bd3_s]
theorem X8_policies' (N b P : Nat) (hb : lenM b = 53) (hP : P ≤ 6) : ∀ (n i : Nat) (g : GS), g 11 b 0 = nI P → i ≤ P → P < i + n → L_X8_policies_4 N b n (bitsF (aPol (g 11 b)) i) (nI i) g = some (bitsF (aPol (g 11 b)) P, nI P, g) := by
  intro n
  induction n with
  | zero => intro i g h0 h1 h2; omega
  | succ n ih =>
    intro i g h0 h1 h2
    rw [L_X8_policies_4, hb, show ix (0 : Int32) 53 = some 0 from by decide, bd1_s]
    by_cases h : i = P
    · rw [if_pos ((nP_le h0 h1 hP).mpr h), h]
    · rw [if_neg (fun q => h ((nP_le h0 h1 hP).mp q)), X8_isPolicy' N b i (by omega) hb, bd2_s, nI_1]
      by_cases q : aPol (g 11 b) i = true
      · rw [q, b01_t, if_neg (by decide), ← ih (i + 1) g h0 (by omega) (by omega)]
        congr 1
        simp [bitsF, q]
      · have q := Bool.eq_false_iff.mpr q
        rw [q, b01_f, if_pos rfl, ← ih (i + 1) g h0 (by omega) (by omega), or0]
        congr 1
        simp [bitsF, q]
theorem X8_policies (N b P : Nat) (hN : 2000 ≤ N) (hb : lenM b = 53) (hP : P ≤ 6) (g : GS) (h0 : g 11 b 0 = nI P) : F_X8_policies N b g = some (bitsF (aPol (g 11 b)) P, g) := by
  unfold F_X8_policies
  have := X8_policies' N b P hb hP N 0 g h0 (by omega) (by omega)
  rw [show bitsF (aPol (g 11 b)) 0 = 0 from rfl, nI_0] at this
  rw [this, bd3_s]
/-- whether there is a ROOF, a PAPER -/
theorem X8_isThere (N P : Nat) (hP : P ≤ 6) (g : GS) (h0 : g 11 5 0 = nI P) : F_X8_isThere N g = some (b01 (decide (0 < P)), g) := by
  unfold F_X8_isThere
  rw [show ix (0 : Int32) 53 = some 0 from by decide, bd1_s, h0]
  by_cases h : P = 0
  · subst h; rw [nI_0, if_pos (by decide)]; rfl
  · rw [if_neg (nI_nle (by omega) (by omega))]; simp [b01]; omega
def hp (x : Int32) (P : Nat) : Int32 := if x < 0 then 0 else if nI P ≤ x then 0 else 1
theorem hp_cases (x : Int32) {P : Nat} (hP : P < 2 ^ 31) : hp x P = 0 ∨ hp x P = 1 ∧ ∃ j : Nat, j < P ∧ x = nI j := by
  unfold hp
  by_cases h : x < 0
  · rw [if_pos h]; exact Or.inl rfl
  · rw [if_neg h]
    by_cases h2 : nI P ≤ x
    · rw [if_pos h2]; exact Or.inl rfl
    · rw [if_neg h2]
      obtain ⟨j, hj, e⟩ := nI_of h
      refine Or.inr ⟨rfl, j, ?_, e⟩
      rw [e, nI_leI hP hj] at h2
      omega
theorem wi_pred (x : Int32) {P : Nat} (hP : P < 2 ^ 30) : wi x 0 (nI P - 1) = hp x P := by
  unfold wi hp
  have e : (nI P - 1 < x) ↔ nI P ≤ x := by
    rw [Int32.lt_iff_toInt_lt, Int32.le_iff_toInt_le, show (1 : Int32) = nI 1 from rfl, pk_sub_toInt hP (by decide), nI_toInt (by omega)]
    omega
  simp only [e]
theorem X8_isPaper (N P : Nat) (hP : P ≤ 6) (x : Int32) (g : GS) (h0 : g 11 5 0 = nI P) : F_X8_isPaper N x g = some (hp x P, g) := by
  unfold F_X8_isPaper
  rw [show ix (0 : Int32) 53 = some 0 from by decide, bd1_s, h0, X8_inL N x 0 (nI P - 1) (by decide) rfl, bd2_s, wi_pred x (by omega)]
  rw [if_pos]
  rcases hp_cases x (P := P) (by omega) with h | h
  · exact Or.inl h
  · exact Or.inr h.1
theorem X4_hasPaper (N r P : Nat) (x : Int32) (g : GS) (h0 : g 0 r 4 = nI P) : F_X4_hasPaper N r x g = some (hp x P, g) := by
  unfold F_X4_hasPaper hp
  rw [h0]
  split
  · rfl
  · split <;> rfl
theorem X4_isRead (N r P : Nat) (hP : P ≤ 6) (g : GS) (h0 : g 0 r 4 = nI P) : F_X4_isRead N r g = some (b01 (decide (0 < P)), g) := by
  unfold F_X4_isRead
  rw [h0]
  by_cases h : P = 0
  · subst h; rw [nI_0, if_pos (by decide)]; rfl
  · rw [if_neg (nI_nle (by omega) (by omega))]; simp [b01]; omega
