/-! ===== plain facts: the functions' words ===== -/
theorem bd1_s {A C : Type} (a : A) (f : A → Option C) : bd1 (some a) f = f a := rfl
theorem bd2_s {A B C : Type} (a : A) (b : B) (f : A → B → Option C) : bd2 (some (a, b)) f = f a b := rfl
theorem bd3_s {A B D C : Type} (a : A) (b : B) (d : D) (f : A → B → D → Option C) : bd3 (some (a, b, d)) f = f a b d := rfl
theorem bd4_s {A B D E C : Type} (a : A) (b : B) (d : D) (e : E) (f : A → B → D → E → Option C) : bd4 (some (a, b, d, e)) f = f a b d e := rfl
theorem bd5_s {A B D E F C : Type} (a : A) (b : B) (d : D) (e : E) (z : F) (f : A → B → D → E → F → Option C) : bd5 (some (a, b, d, e, z)) f = f a b d e z := rfl
theorem bd6_s {A B D E F G C : Type} (a : A) (b : B) (d : D) (e : E) (z : F) (y : G) (f : A → B → D → E → F → G → Option C) : bd6 (some (a, b, d, e, z, y)) f = f a b d e z y := rfl
theorem bs1_l {R A C : Type} (r : R) (g : GS) (e : R → GS → Option C) (f : A → Option C) : bs1 (some (.inl (r, g))) e f = e r g := rfl
theorem bs1_r {R A C : Type} (a : A) (e : R → GS → Option C) (f : A → Option C) : bs1 (R := R) (some (.inr a)) e f = f a := rfl
theorem bs2_l {R A B C : Type} (r : R) (g : GS) (e : R → GS → Option C) (f : A → B → Option C) : bs2 (some (.inl (r, g))) e f = e r g := rfl
theorem bs2_r {R A B C : Type} (a : A) (b : B) (e : R → GS → Option C) (f : A → B → Option C) : bs2 (R := R) (some (.inr (a, b))) e f = f a b := rfl
theorem bs3_l {R A B D C : Type} (r : R) (g : GS) (e : R → GS → Option C) (f : A → B → D → Option C) : bs3 (some (.inl (r, g))) e f = e r g := rfl
theorem bs3_r {R A B D C : Type} (a : A) (b : B) (d : D) (e : R → GS → Option C) (f : A → B → D → Option C) : bs3 (R := R) (some (.inr (a, b, d))) e f = f a b d := rfl
theorem g3_g2 (g : GS) (c j i : Nat) (v : Int32) : g3 g c j i v = g2 g c j (va_up (g c j) i v) := rfl
theorem up_same {α : Type} (f : Nat → α) (k : Nat) (v : α) : va_up f k v k = v := if_pos rfl
theorem up_ne {α : Type} (f : Nat → α) {k i : Nat} (v : α) (h : i ≠ k) : va_up f k v i = f i := if_neg h
theorem up_up {α : Type} (f : Nat → α) (k : Nat) (v w : α) : va_up (va_up f k v) k w = va_up f k w := by
  funext i
  unfold va_up
  split <;> rfl
theorem up_self {α : Type} (f : Nat → α) (k : Nat) : va_up f k (f k) = f := by
  funext i
  unfold va_up
  split
  · rename_i h; rw [h]
  · rfl
theorem g2_same (g : GS) (c j : Nat) (f : Nat → Int32) : g2 g c j f c j = f := by
  unfold g2
  rw [up_same, up_same]
theorem g2_row (g : GS) (c : Nat) {j k : Nat} (f : Nat → Int32) (h : k ≠ j) : g2 g c j f c k = g c k := by
  unfold g2
  rw [up_same, up_ne _ _ h]
theorem g2_kind (g : GS) {c d : Nat} (j : Nat) (f : Nat → Int32) (h : d ≠ c) : g2 g c j f d = g d := by
  unfold g2
  rw [up_ne _ _ h]
theorem g2_g2 (g : GS) (c j : Nat) (f f' : Nat → Int32) : g2 (g2 g c j f) c j f' = g2 g c j f' := by
  unfold g2
  rw [up_same, up_up, up_up]
theorem g2_self (g : GS) (c j : Nat) : g2 g c j (g c j) = g := by
  unfold g2
  rw [up_self, up_self]
/-- whether x is a to b, as 1 or 0 -/
def wi (x a b : Int32) : Int32 := if x < a then 0 else if b < x then 0 else 1
theorem wi_cases (x a b : Int32) : wi x a b = 0 ∧ (x < a ∨ b < x) ∨ wi x a b = 1 ∧ ¬ x < a ∧ ¬ b < x := by
  unfold wi
  by_cases h : x < a
  · exact Or.inl ⟨by rw [if_pos h], Or.inl h⟩
  · by_cases h2 : b < x
    · exact Or.inl ⟨by rw [if_neg h, if_pos h2], Or.inr h2⟩
    · exact Or.inr ⟨by rw [if_neg h, if_neg h2], h, h2⟩
theorem wi_01 (x a b : Int32) : wi x a b = 0 ∨ wi x a b = 1 := by
  rcases wi_cases x a b with h | h
  · exact Or.inl h.1
  · exact Or.inr h.1
theorem lgc_lt (x y : Int64) : lg_cmp x y < 0 ↔ x < y := by
  unfold lg_cmp
  by_cases h : x > y
  · rw [if_pos h]
    have : ¬ x < y := by rw [Int64.lt_iff_toInt_lt]; have := Int64.lt_iff_toInt_lt.mp h; omega
    exact ⟨fun q => absurd q (by decide), fun q => absurd q this⟩
  · rw [if_neg h]
    by_cases h2 : x = y
    · rw [if_pos h2]
      subst h2
      exact ⟨fun q => absurd q (by decide), fun q => by rw [Int64.lt_iff_toInt_lt] at q; omega⟩
    · rw [if_neg h2]
      refine ⟨fun _ => ?_, fun _ => by decide⟩
      rw [Int64.lt_iff_toInt_lt]
      have h3 : ¬ y.toInt < x.toInt := fun q => h (Int64.lt_iff_toInt_lt.mpr q)
      have h4 : x.toInt ≠ y.toInt := fun q => h2 (Int64.toInt_inj.mp q)
      omega
theorem lgc_gt (x y : Int64) : 0 < lg_cmp x y ↔ y < x := by
  unfold lg_cmp
  by_cases h : x > y
  · rw [if_pos h]
    exact ⟨fun _ => h, fun _ => by decide⟩
  · rw [if_neg h]
    by_cases h2 : x = y
    · rw [if_pos h2]
      exact ⟨fun q => absurd q (by decide), fun q => absurd q h⟩
    · rw [if_neg h2]
      exact ⟨fun q => absurd q (by decide), fun q => absurd q h⟩
theorem lgc_le (x y : Int64) : lg_cmp x y ≤ 0 ↔ ¬ y < x := by
  rw [← lgc_gt, Int32.le_iff_toInt_le, Int32.lt_iff_toInt_lt]
  omega
theorem wide_lt (a b : Int32) : a.toInt64 < b.toInt64 ↔ a < b := by
  rw [Int64.lt_iff_toInt_lt, Int32.lt_iff_toInt_lt, Int32.toInt_toInt64, Int32.toInt_toInt64]
theorem X7_within (N : Nat) (x a b : Int32) (g : GS) : F_X7_isWithin N x a b g = some (wi x a b, g) := by
  unfold F_X7_isWithin wi
  split
  · rfl
  · split <;> rfl
theorem X8_in (N : Nat) (x a b : Int32) (g : GS) : F_X8_in N x.toInt64 a.toInt64 b.toInt64 g = some (wi x a b, g) := by
  unfold F_X8_in wi
  simp only [lgc_lt, lgc_gt, wide_lt]
  split
  · rfl
  · split <;> rfl
theorem X8_inL (N : Nat) (x a b : Int32) {A B : Int64} (hA : A = a.toInt64) (hB : B = b.toInt64) (g : GS) : F_X8_in N x.toInt64 A B g = some (wi x a b, g) := by
  subst hA
  subst hB
  exact X8_in N x a b g
theorem X7_isRow (N : Nat) (x : Int32) (g : GS) : F_X7_isRow N x g = some (wi x 0 7, g) := by
  unfold F_X7_isRow
  rw [X7_within, bd2_s, if_pos (wi_01 x 0 7)]
theorem X8_isRow (N : Nat) (x : Int32) (g : GS) : F_X8_isRow N x g = some (wi x 0 7, g) := by
  unfold F_X8_isRow
  rw [X8_inL N x 0 7 (by decide) (by decide), bd2_s, if_pos (wi_01 x 0 7)]
/-- a number that is 0 to n -/
theorem wi_nI {x b : Int32} {n : Nat} (hb : b.toInt = n) (h1 : ¬ x < 0) (h2 : ¬ b < x) : ∃ j : Nat, j < n + 1 ∧ x = nI j := by
  obtain ⟨j, h3, h4⟩ := nI_of2 hb h1 (by rw [Int32.le_iff_toInt_le]; rw [Int32.lt_iff_toInt_lt] at h2; omega)
  exact ⟨j, by omega, h4⟩
theorem li (n : Nat) : (OfNat.ofNat n : Int32) = nI n := rfl
theorem nI_int {n : Nat} (h : n < 2 ^ 31) : (nI n).toInt = (n : Int) := nI_toInt h
