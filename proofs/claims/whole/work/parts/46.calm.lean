/-! ===== calm ===== -/
def SimL (K M : GS → Option (Int64 × GS)) (g : GS) : Prop := ∃ (r : Int64) (g1 g2 : GS), K g = some (r, g1) ∧ M g1 = some (r, g2) ∧ Rel g2
theorem SimL.read {K M : GS → Option (Int64 × GS)} {g : GS} (h : Rel g) (r : Int64) (h1 : K g = some (r, g)) (h2 : M g = some (r, g3 g 10 0 0 0)) : SimL K M g := ⟨r, _, _, h1, h2, Rel_th h 0⟩
theorem SimL.draft {K M : GS → Option (Int64 × GS)} {g : GS} (h : Rel g) (r : Int64) (sc fo pa ris u : Nat → Int32) (h1 : K g = some (r, D1 g sc fo pa)) (h2 : M (D1 g sc fo pa) = some (r, T7 (g3 (D1 g sc fo pa) 10 0 0 0) ris u)) : SimL K M g :=
  ⟨r, _, _, h1, h2, Rel_T7 (Rel_th (Rel_D1 h sc fo pa) 0) ris u⟩
/-- the hours of which S says that they are calm -/
def aCm (v : Nat → Int32) (S : Nat) : Nat → Nat → Int32
  | 0 => v
  | k + 1 => if S.testBit k then aHour (aCm v S k) (nI 0) else aHr (aCm v S k)
theorem aCm_VA {v : Nat → Int32} (h : VA 999 v) (S : Nat) : ∀ k, k ≤ 8 → VA (999 + k) (aCm v S k) ∧ nP (aCm v S k) = nP v := by
  intro k
  induction k with
  | zero => intro _; exact ⟨h, rfl⟩
  | succ k ih =>
    intro hk
    obtain ⟨a, b⟩ := ih (by omega)
    rw [aCm]
    split
    · obtain ⟨c, d, -, -⟩ := VA_hour a (by omega) (wn := 0) (by omega)
      exact ⟨c, by rw [d, b]⟩
    · obtain ⟨c, d, -, -⟩ := VA_hr a (by omega)
      exact ⟨c, by rw [d, b]⟩
set_option maxRecDepth 100000 in
theorem bit_k : ∀ S, S < 256 → ∀ k, k < 8 → decide ((nI S >>> (nI k &&& 31)) &&& 1 = (1 : Int32)) = S.testBit k := by decide +kernel
theorem bit_kt {S k : Nat} (hS : S < 256) (hk : k < 8) : ((nI S >>> (nI k &&& 31)) &&& 1 = (1 : Int32)) ↔ S.testBit k = true := by
  rw [← bit_k S hS k hk]
  exact decide_eq_true_iff.symm
/-- how many cases: of S, of all -/
def wy (p S : Nat) : Nat → Nat
  | 0 => 1
  | k + 1 => wy p S k * (if S.testBit k then p else 10 - p)
def bcN (S : Nat) : Nat → Nat
  | 0 => 0
  | k + 1 => bcN S k + (if S.testBit k then 1 else 0)
def sumF (c : Nat → Bool) (w : Nat → Nat) : Nat → Nat
  | 0 => 0
  | k + 1 => sumF c w k + (if c k then w k else 0)
theorem wy_eq (p S : Nat) : ∀ n, wy p S n = p ^ bcN S n * (10 - p) ^ (n - bcN S n) ∧ bcN S n ≤ n := by
  intro n
  induction n with
  | zero => exact ⟨rfl, Nat.le_refl 0⟩
  | succ n ih =>
    obtain ⟨e, h⟩ := ih
    rw [wy, bcN, e]
    by_cases q : S.testBit n = true
    · rw [if_pos q, if_pos q]
      refine ⟨?_, by omega⟩
      rw [show n + 1 - (bcN S n + 1) = n - bcN S n by omega, Nat.pow_succ, Nat.mul_assoc, Nat.mul_assoc, Nat.mul_comm p]
    · rw [if_neg q, if_neg q]
      refine ⟨?_, by omega⟩
      rw [show n + 1 - (bcN S n + 0) = (n - bcN S n) + 1 by omega, Nat.pow_succ, Nat.mul_assoc, Nat.add_zero]
set_option maxRecDepth 100000 in
theorem bcJ_n : ∀ n, n < 9 → ∀ S, S < 2 ^ n → bcJ (nI S) = nI (bcN S n) := by decide +kernel
set_option maxRecDepth 100000 in
theorem tot_n : ∀ n, n < 9 → ∀ p, p < 11 → sumF (fun _ => true) (fun S => wy p S n) (2 ^ n) = 10 ^ n := by decide +kernel
theorem sumF_le (c : Nat → Bool) (w : Nat → Nat) : ∀ n, sumF c w n ≤ sumF (fun _ => true) w n := by
  intro n
  induction n with
  | zero => exact Nat.le_refl 0
  | succ n ih =>
    rw [sumF, sumF, if_pos rfl]
    split <;> omega
theorem L_power (N : Nat) (b m : Nat) (hm : m < 1000) (g : GS) : ∀ (n i : Nat), i ≤ m → m < i + n → L_X7_power_5 N (lN b) (nI m) n (lN (b ^ i)) (nI i) g = some (lN (b ^ m), nI m, g) := by
  intro n
  induction n with
  | zero => intro i h1 h2; omega
  | succ n ih =>
    intro i h1 h2
    rw [L_X7_power_5]
    by_cases h : i = m
    · subst h
      rw [if_pos (nI_le (Nat.le_refl i) (by omega))]
    · rw [if_neg (nI_ge (by omega) (by omega)), nI_1, lN_mul, ← Nat.pow_succ]
      exact ih (i + 1) (by omega) (by omega)
theorem X7_power (N : Nat) (hN : 2000 ≤ N) (b m : Nat) (hm : m < 1000) (g : GS) : F_X7_power N (lN b) (nI m) g = some (lN (b ^ m), g) := by
  unfold F_X7_power
  have := L_power N b m hm g N 0 (by omega) (by omega)
  rw [Nat.pow_zero, nI_0] at this
  rw [show (1 : Int64) = lN 1 from rfl, this, bd3_s]
/-- the class: the hours of S -/
theorem K_cm28 (N : Nat) (hN : 2000 ≤ N) (g : GS) {v : Nat → Int32} (hv : VA 999 v) (z1 z3 : Int32) (z4 : Int64) (m : Nat) (hm : m ≤ 8) {S : Nat} (hS : S < 256) : ∀ (n i : Nat) (sc fo pa : Nat → Int32), RK sc fo pa (aCm v S i) → i ≤ m → m < i + n → ∃ sc' pa', L_X2_calmCases_28 N z1 (nI m) z3 z4 (nI S) n (nI i) (D1 g sc fo pa) = some (nI m, D1 g sc' fo pa') ∧ RK sc' fo pa' (aCm v S m) := by
  intro n
  induction n with
  | zero => intro i sc fo pa _ h1 h2; omega
  | succ n ih =>
    intro i sc fo pa hk h1 h2
    rw [L_X2_calmCases_28]
    by_cases h : i = m
    · subst h
      rw [if_pos (nI_le (Nat.le_refl i) (by omega))]
      exact ⟨sc, pa, rfl, hk⟩
    · rw [if_neg (nI_ge (by omega) (by omega)), nI_1]
      obtain ⟨hV, -⟩ := aCm_VA hv S i (by omega)
      by_cases q : S.testBit i = true
      · rw [if_pos ((bit_kt hS (by omega)).mpr q)]
        obtain ⟨sc1, pa1, e1, k1⟩ := draftHour N hN g hV hk (wn := 0) (by omega)
        rw [show F_X4_passHourIn N 1 0 (D1 g sc fo pa) = _ from e1, bd1_s]
        refine ih (i + 1) sc1 fo pa1 ?_ (by omega) (by omega)
        rw [aCm, if_pos q]
        exact k1
      · rw [if_neg (fun z => q ((bit_kt hS (by omega)).mp z))]
        obtain ⟨sc1, pa1, e1, k1⟩ := draftHr N hN g hV hk (by omega) (fun gv10 => L_X2_calmCases_28 N z1 (nI m) z3 z4 (nI S) n (nI (i + 1)) gv10)
        rw [e1]
        refine ih (i + 1) sc1 fo pa1 ?_ (by omega) (by omega)
        rw [aCm, if_neg q]
        exact k1
theorem pow_sh8 : ∀ P, P < 9 → (1 : Int32) <<< (nI P &&& 31) = nI (2 ^ P) := by decide
theorem K_calm (N : Nat) (hN : 2000 ≤ N) (g : GS) {v : Nat → Int32} (hv : VA 999 v) (hk : RK (g 0 0) (g 12 0) (g 13 0) v) (j : Nat) (hj : j < nP v) (m : Nat) (hm : m ≤ 8) (p : Nat) (hp : p ≤ 10) : ∀ (n i : Nat) (sc fo pa : Nat → Int32), i ≤ 2 ^ m → 2 ^ m < i + n → ∃ sc' fo' pa', L_X2_calmCases_6 N (nI j) (nI m) (nI p) n (lN (sumF (fun S => aPol (aCm v S m) j) (fun S => wy p S m) i)) (nI i) (D1 g sc fo pa) = some (lN (sumF (fun S => aPol (aCm v S m) j) (fun S => wy p S m) (2 ^ m)), nI (2 ^ m), D1 g sc' fo' pa') := by
  have hP := hv.2.1
  have h256 : 2 ^ m ≤ 2 ^ 8 := Nat.pow_le_pow_right (by decide) hm
  intro n
  induction n with
  | zero => intro i sc fo pa h1 h2; omega
  | succ n ih =>
    intro i sc fo pa h1 h2
    rw [L_X2_calmCases_6, pow_sh8 m (by omega)]
    by_cases h : i = 2 ^ m
    · rw [if_pos (nI_le (by omega) (by omega)), h]
      exact ⟨sc, fo, pa, rfl⟩
    · have hi : i < 2 ^ m := by omega
      rw [if_neg (nI_ge (by omega) (by omega)), nI_1]
      obtain ⟨sc1, fo1, pa1, e1, k1⟩ := draft_lay N hN g hv hk sc fo pa
      obtain ⟨sc2, pa2, e2, k2⟩ := K_cm28 N hN g hv (nI j) (nI p) (lN (sumF (fun S => aPol (aCm v S m) j) (fun S => wy p S m) i)) m hm (S := i) (by omega) N 0 sc1 fo1 pa1 k1 (by omega) (by omega)
      rw [nI_0] at e2
      obtain ⟨hV, hVP⟩ := aCm_VA hv i m hm
      have hj2 : j < nP (aCm v i m) := by rw [hVP]; exact hj
      rw [e1, bd1_s, e2, bd2_s, X4_isPolicy N 1 j (by omega) (D1 g sc2 fo1 pa2) (RK_f k2 hj2 (by decide)) (RK_f k2 hj2 (by decide)) (k2.2.2.2.1 (by omega)).1, bd2_s]
      have ih' := ih (i + 1) sc2 fo1 pa2 (by omega) (by omega)
      rw [sumF] at ih'
      by_cases q : aPol (aCm v i m) j = true
      · obtain ⟨ew, hw⟩ := wy_eq p i m
        rw [q, b01_t, if_neg (by decide), J6_bitCount, bd2_s, bcJ_n m (by omega) i hi, nI_l (by omega), X7_power N hN _ _ (by omega), bd2_s, show (10 : Int32) - nI p = nI (10 - p) from pk_sub (a := 10) hp, nI_l (by omega), pk_sub hw, X7_power N hN _ _ (by omega), bd2_s, lN_mul, lN_add, ← ew]
        rw [if_pos q] at ih'
        exact ih'
      · rw [if_neg q] at ih'
        have q := Bool.eq_false_iff.mpr q
        rw [q, b01_f, if_pos rfl]
        exact ih'
/-! Euclid -/
def euc : Nat → Nat → Nat → Nat
  | 0, a, _ => a
  | f + 1, a, b => if b = 0 then a else euc f b (a % b)
def ended : Nat → Nat → Nat → Prop
  | 0, _, b => b = 0
  | f + 1, a, b => b = 0 ∨ ended f b (a % b)
theorem ended_0 (f a : Nat) : ended f a 0 := by
  cases f with
  | zero => rfl
  | succ f => exact Or.inl rfl
theorem ended_2 : ∀ (k a b : Nat), b < 2 ^ k → ended (2 * k) a b := by
  intro k
  induction k with
  | zero => intro a b h; show b = 0; omega
  | succ k ih =>
    intro a b h
    show b = 0 ∨ (a % b = 0 ∨ ended (2 * k) (a % b) (b % (a % b)))
    by_cases q : b = 0
    · exact Or.inl q
    · right
      by_cases q2 : a % b = 0
      · exact Or.inl q2
      · right
        apply ih
        have h1 : a % b < b := Nat.mod_lt _ (by omega)
        have h2 : b % (a % b) < a % b := Nat.mod_lt _ (by omega)
        have h3 : b % (a % b) + a % b ≤ b := by
          have := Nat.div_add_mod b (a % b)
          have h4 : 1 ≤ b / (a % b) := (Nat.one_le_div_iff (by omega)).mpr (by omega)
          have h5 : a % b * 1 ≤ a % b * (b / (a % b)) := Nat.mul_le_mul_left _ h4
          omega
        rw [Nat.pow_succ] at h
        omega
theorem euc_pos : ∀ (f a b : Nat), ended f a b → (0 < a ∨ 0 < b) → 0 < euc f a b := by
  intro f
  induction f with
  | zero => intro a b h q; have h : b = 0 := h; show 0 < a; omega
  | succ f ih =>
    intro a b h q
    rw [euc]
    by_cases z : b = 0
    · rw [if_pos z]; omega
    · rw [if_neg z]
      rcases h with h | h
      · exact absurd h z
      · exact ih b (a % b) h (Or.inl (by omega))
theorem lN_0 {b : Nat} (hb : b < 2 ^ 62) : lN b = 0 ↔ b = 0 := pk_lEQ (a := b) (b := 0) (by omega) (by omega)
theorem lgc_0 {b : Nat} (hb : b < 2 ^ 62) : lg_cmp (lN b) (0 : Int64) = 0 ↔ b = 0 := by
  have e : (lN b = 0 ↔ b = 0) := lN_0 hb
  unfold lg_cmp
  by_cases h : lN b > 0
  · rw [if_pos h]
    refine ⟨fun q => absurd q (by decide), fun q => ?_⟩
    rw [q] at h
    exact absurd h (by decide)
  · rw [if_neg h]
    by_cases h2 : lN b = 0
    · rw [if_pos h2]; exact ⟨fun _ => e.mp h2, fun _ => rfl⟩
    · rw [if_neg h2]; exact ⟨fun q => absurd q (by decide), fun q => absurd (e.mpr q) h2⟩
theorem K_div (N : Nat) (g : GS) : ∀ (n f a b i : Nat), ended f a b → f < n → i + f ≤ 100 → a < 2 ^ 62 → b < 2 ^ 62 → ∃ y z, L_X7_greatestDivisor_3 N n (lN a) (lN b) (nI i) g = some (lN (euc f a b), y, z, g) := by
  intro n
  induction n with
  | zero => intro f a b i _ h _ _ _; omega
  | succ n ih =>
    intro f a b i he hf hi ha hb
    rw [L_X7_greatestDivisor_3]
    by_cases h : i = 100
    · subst h
      have : f = 0 := by omega
      subst this
      rw [if_pos (by decide)]
      exact ⟨_, _, rfl⟩
    · rw [if_neg (show ¬ (100 : Int32) ≤ nI i from nI_ge (b := 100) (by omega) (by omega))]
      by_cases q : b = 0
      · rw [if_pos ((lgc_0 hb).mpr q)]
        refine ⟨lN b, nI i, ?_⟩
        cases f with
        | zero => rfl
        | succ f => rw [euc, if_pos q]
      · rw [if_neg (fun z => q ((lgc_0 hb).mp z)), if_neg (fun z => q ((lN_0 hb).mp z)), pk_lRem (by omega) (by omega) (by omega), nI_1]
        cases f with
        | zero => exact absurd he q
        | succ f =>
          rcases he with he | he
          · exact absurd he q
          · have h1 : a % b < b := Nat.mod_lt _ (by omega)
            rw [euc, if_neg q]
            exact ih f b (a % b) (i + 1) he (by omega) (by omega) hb (by omega)
theorem M_div (N : Nat) (z1 z2 z3 z4 : Int32) (z5 z7 : Int64) (g : GS) : ∀ (n f a b : Nat), ended f a b → f < n → a < 2 ^ 62 → b < 2 ^ 62 → ∃ y, L_X8_calm_197 N z1 z2 z3 z4 z5 z7 n (lN a) (lN b) g = some (lN (euc f a b), y, g) := by
  intro n
  induction n with
  | zero => intro f a b _ h _ _; omega
  | succ n ih =>
    intro f a b he hf ha hb
    rw [L_X8_calm_197]
    by_cases q : b = 0
    · rw [if_pos ((lgc_0 hb).mpr q)]
      refine ⟨lN b, ?_⟩
      cases f with
      | zero => rfl
      | succ f => rw [euc, if_pos q]
    · rw [if_neg (fun z => q ((lgc_0 hb).mp z)), if_neg (fun z => q ((lN_0 hb).mp z)), pk_lRem (by omega) (by omega) (by omega)]
      cases f with
      | zero => exact absurd he q
      | succ f =>
        rcases he with he | he
        · exact absurd he q
        · have h1 : a % b < b := Nat.mod_lt _ (by omega)
          rw [euc, if_neg q]
          exact ih f b (a % b) he (by omega) hb (by omega)
theorem ten_sub {p : Nat} (hp : p ≤ 10) : (10 : Int64) - lN p = lN (10 - p) := by
  rcases (show p = 0 ∨ p = 1 ∨ p = 2 ∨ p = 3 ∨ p = 4 ∨ p = 5 ∨ p = 6 ∨ p = 7 ∨ p = 8 ∨ p = 9 ∨ p = 10 by omega) with rfl | rfl | rfl | rfl | rfl | rfl | rfl | rfl | rfl | rfl | rfl <;> decide
theorem M_cm79 (N : Nat) (hN : 2000 ≤ N) (g : GS) {v : Nat → Int32} (hv : VA 999 v) (z1 z4 : Int32) (z5 z7 : Int64) (m : Nat) (hm : m ≤ 8) (p : Nat) (hp : p ≤ 10) {S : Nat} (hS : S < 256) : ∀ (n i : Nat) (ris u : Nat → Int32), E53 u (aCm v S i) → i ≤ m → m < i + n → ∃ ris' u', L_X8_calm_79 N z1 (nI m) (nI p) z4 z5 z7 (nI S) n (lN (wy p S i)) (nI i) (T7 g ris u) = some (lN (wy p S m), nI m, T7 g ris' u') ∧ E53 u' (aCm v S m) := by
  intro n
  induction n with
  | zero => intro i ris u _ h1 h2; omega
  | succ n ih =>
    intro i ris u he h1 h2
    rw [L_X8_calm_79]
    by_cases h : i = m
    · subst h
      rw [if_pos (nI_le (Nat.le_refl i) (by omega))]
      exact ⟨ris, u, rfl, he⟩
    · rw [if_neg (nI_ge (by omega) (by omega)), nI_1, nI_l (show p < 2 ^ 31 by omega), ten_sub hp, lN_mul, lN_mul]
      obtain ⟨hV, -⟩ := aCm_VA hv S i (by omega)
      by_cases q : S.testBit i = true
      · rw [if_pos ((bit_kt hS (by omega)).mpr q), if_pos ((bit_kt hS (by omega)).mpr q)]
        obtain ⟨r1, u1, e1, k1⟩ := then_hourBy N hN g ris u (nI 0) hV he
        rw [show F_X8_hourBy N 7 0 (T7 g ris u) = _ from e1, bd1_s]
        have := ih (i + 1) r1 u1 (by rw [aCm, if_pos q]; exact k1) (by omega) (by omega)
        rw [wy, if_pos q] at this
        exact this
      · rw [if_neg (fun z => q ((bit_kt hS (by omega)).mp z)), if_neg (fun z => q ((bit_kt hS (by omega)).mp z)), show ix (4 : Int32) 53 = some 4 from by decide, bd1_s]
        obtain ⟨r1, u1, e1, k1⟩ := then_hour N hN g ris u hV he (by omega)
        unfold F_X8_hour at e1
        rw [show lenM 7 = 53 from rfl, show ix (4 : Int32) 53 = some 4 from by decide, bd1_s] at e1
        have hV' := VA_cong hV he
        have hH := hV'.2.2.2.2.2.1
        have ef := X8_forceOf N 7 (nH u) rfl (T7 g ris u) hV'.2.2.1 hV'.2.2.2.1 (by omega)
        have e4 : (T7 g ris u) 11 7 4 = nI (nH u) := hV'.2.2.2.2.1
        rw [e4, ef, bd2_s] at e1 ⊢
        obtain ⟨r2, u2, e2, k2⟩ := then_hourBy N hN g ris u (aForce ((T7 g ris u) 11 7) (nH u)) hV he
        rw [e2, bd1_s]
        have efe : aForce ((T7 g ris u) 11 7) (nH u) = aForce (aCm v S i) (nH (aCm v S i)) := by
          rw [T7_7, e53_nH he, e53_aForce he hV.2.2.2.1]
        have := ih (i + 1) r2 u2 (by rw [aCm, if_neg q]; rw [efe] at k2; exact k2) (by omega) (by omega)
        rw [wy, if_neg q] at this
        exact this
theorem M_calm (N : Nat) (hN : 2000 ≤ N) (g : GS) {v : Nat → Int32} (e5 : g 11 5 = v) (hv : VA 999 v) (j : Nat) (hj : j < nP v) (m : Nat) (hm : m ≤ 8) (p : Nat) (hp : p ≤ 10) (z4 : Int32) : ∀ (n i : Nat) (ris u : Nat → Int32), i ≤ 2 ^ m → 2 ^ m < i + n → ∃ ris' u', L_X8_calm_61 N (nI j) (nI m) (nI p) z4 n (lN (sumF (fun S => aPol (aCm v S m) j) (fun S => wy p S m) i)) (lN (sumF (fun _ => true) (fun S => wy p S m) i)) (nI i) (T7 g ris u) = some (lN (sumF (fun S => aPol (aCm v S m) j) (fun S => wy p S m) (2 ^ m)), lN (sumF (fun _ => true) (fun S => wy p S m) (2 ^ m)), nI (2 ^ m), T7 g ris' u') := by
  have hP := hv.2.1
  have h256 : 2 ^ m ≤ 2 ^ 8 := Nat.pow_le_pow_right (by decide) hm
  intro n
  induction n with
  | zero => intro i ris u h1 h2; omega
  | succ n ih =>
    intro i ris u h1 h2
    rw [L_X8_calm_61, pow_sh8 m (by omega)]
    by_cases h : i = 2 ^ m
    · rw [if_pos (nI_le (by omega) (by omega)), h]
      exact ⟨ris, u, rfl⟩
    · have hi : i < 2 ^ m := by omega
      rw [if_neg (nI_ge (by omega) (by omega)), nI_1]
      obtain ⟨r1, u1, e1, k1⟩ := then_lay N hN g ris u
      rw [e5] at k1
      obtain ⟨r2, u2, e2, k2⟩ := M_cm79 N hN g hv (nI j) z4 (lN (sumF (fun S => aPol (aCm v S m) j) (fun S => wy p S m) i)) (lN (sumF (fun _ => true) (fun S => wy p S m) i)) m hm p hp (S := i) (by omega) N 0 r1 u1 k1 (by omega) (by omega)
      rw [nI_0, wy] at e2
      rw [e1, bd1_s, show (1 : Int64) = lN 1 from rfl, e2, bd3_s, X8_isPolicy' N 7 j (by omega) rfl, bd2_s, T7_7, e53_aPol k2 (by omega)]
      have ih' := ih (i + 1) r2 u2 (by omega) (by omega)
      rw [sumF, sumF, if_pos rfl] at ih'
      by_cases q : aPol (aCm v i m) j = true
      · rw [if_pos q] at ih'
        rw [q, b01_t, if_neg (by decide), lN_add, lN_add]
        exact ih'
      · rw [if_neg q] at ih'
        have q := Bool.eq_false_iff.mpr q
        rw [q, b01_f, if_pos rfl, show (0 : Int64) = lN 0 from rfl, lN_add, lN_add]
        exact ih'
theorem p_calm (N : Nat) (hN : 2000 ≤ N) (x y z t : Int32) (g : GS) (h : Rel g) : SimL (F_X7_calm N x y z t) (F_X8_calm N x y z t) g := by
  obtain ⟨hv, hk⟩ := h.2.2.2.2.1
  have hP := hv.2.1
  have h4 : g 0 0 4 = nI (nP (g 11 5)) := hk.1.trans hv.1
  have h0 : (g3 g 10 0 0 0) 11 5 0 = nI (nP (g 11 5)) := hv.1
  rcases hp_cases x (P := nP (g 11 5)) (by omega) with w | ⟨w, j, hj, rfl⟩
  · exact SimL.read h (-1000001) (by unfold F_X7_calm; rw [X4_hasPaper N 0 _ x g h4, bd2_s, w, if_pos rfl]) (by unfold F_X8_calm; rw [X8_isPaper N _ hP x _ h0, bd2_s, w, if_pos rfl])
  rcases wi_cases y 0 8 with ⟨u, -⟩ | ⟨u, u1, u2⟩
  · exact SimL.read h (-1000001) (by unfold F_X7_calm; rw [X4_hasPaper N 0 _ _ g h4, bd2_s, w, if_neg (by decide), X7_within, bd2_s, u, if_pos rfl]) (by unfold F_X8_calm; rw [X8_isPaper N _ hP _ _ h0, bd2_s, w, if_neg (by decide), X8_inL N y 0 8 (by decide) (by decide), bd2_s, u, if_pos rfl])
  rcases wi_cases z 0 10 with ⟨a, -⟩ | ⟨a, a1, a2⟩
  · exact SimL.read h (-1000001) (by unfold F_X7_calm; rw [X4_hasPaper N 0 _ _ g h4, bd2_s, w, if_neg (by decide), X7_within, bd2_s, u, if_neg (by decide), X7_within, bd2_s, a, if_pos rfl]) (by unfold F_X8_calm; rw [X8_isPaper N _ hP _ _ h0, bd2_s, w, if_neg (by decide), X8_inL N y 0 8 (by decide) (by decide), bd2_s, u, if_neg (by decide), X8_inL N z 0 10 (by decide) (by decide), bd2_s, a, if_pos rfl])
  rcases wi_cases t 0 1 with ⟨b, -⟩ | ⟨b, b1, b2⟩
  · exact SimL.read h (-1000001) (by unfold F_X7_calm; rw [X4_hasPaper N 0 _ _ g h4, bd2_s, w, if_neg (by decide), X7_within, bd2_s, u, if_neg (by decide), X7_within, bd2_s, a, if_neg (by decide), X7_within, bd2_s, b, if_pos rfl]) (by unfold F_X8_calm; rw [X8_isPaper N _ hP _ _ h0, bd2_s, w, if_neg (by decide), X8_inL N y 0 8 (by decide) (by decide), bd2_s, u, if_neg (by decide), X8_inL N z 0 10 (by decide) (by decide), bd2_s, a, if_neg (by decide), X8_inL N t 0 1 (by decide) (by decide), bd2_s, b, if_pos rfl])
  obtain ⟨m, hm, rfl⟩ := wi_nI (n := 8) (by decide) u1 u2
  obtain ⟨p, hp, rfl⟩ := wi_nI (n := 10) (by decide) a1 a2
  have h256 : 2 ^ m ≤ 2 ^ 8 := Nat.pow_le_pow_right (by decide) (by omega)
  have h10 : 10 ^ m ≤ 10 ^ 8 := Nat.pow_le_pow_right (by decide) (by omega)
  have h10p : 0 < 10 ^ m := Nat.pow_pos (by decide)
  obtain ⟨sc, fo, pa, e⟩ := K_calm N hN g hv hk j hj m (by omega) p (by omega) N 0 (g 0 1) (g 12 1) (g 13 1) (Nat.zero_le _) (by omega)
  rw [D1_self, nI_0] at e
  obtain ⟨ris, u', l⟩ := M_calm N hN (g3 (D1 g sc fo pa) 10 0 0 0) (v := g 11 5) rfl hv j hj m (by omega) p (by omega) t N 0 ((g3 (D1 g sc fo pa) 10 0 0 0) 11 8) ((g3 (D1 g sc fo pa) 10 0 0 0) 11 7) (Nat.zero_le _) (by omega)
  rw [T7_self, nI_0, tot_n m (by omega) p (by omega)] at l
  have hA := sumF_le (fun S => aPol (aCm (g 11 5) S m) j) (fun S => wy p S m) (2 ^ m)
  rw [tot_n m (by omega) p (by omega)] at hA
  have e0 : sumF (fun S => aPol (aCm (g 11 5) S m) j) (fun S => wy p S m) 0 = 0 := rfl
  rw [e0] at e l
  generalize sumF (fun S => aPol (aCm (g 11 5) S m) j) (fun S => wy p S m) (2 ^ m) = A at e l hA
  have hE := ended_2 27 A (10 ^ m) (by have : (10 : Nat) ^ 8 < 2 ^ 27 := by decide
                                       omega)
  have hep := euc_pos _ _ _ hE (Or.inr h10p)
  obtain ⟨y1, y2, eK⟩ := K_div N (D1 g sc fo pa) N (2 * 27) A (10 ^ m) 0 hE (by omega) (by omega) (by omega) (by omega)
  obtain ⟨y3, eM⟩ := M_div N (nI j) (nI m) (nI p) t (lN A) (lN (10 ^ m)) (T7 (g3 (D1 g sc fo pa) 10 0 0 0) ris u') N (2 * 27) A (10 ^ m) hE (by omega) (by omega) (by omega)
  have hel : ∀ f a b : Nat, a < 2 ^ 62 → b < 2 ^ 62 → euc f a b < 2 ^ 62 := by
    intro f
    induction f with
    | zero => intro a b ha _; exact ha
    | succ f ih =>
      intro a b ha hb
      rw [euc]
      by_cases q : b = 0
      · rw [if_pos q]; exact ha
      · rw [if_neg q]
        exact ih b (a % b) hb (by have := Nat.mod_lt a (show 0 < b by omega); omega)
  have hel := hel (2 * 27) A (10 ^ m) (by omega) (by omega)
  generalize euc (2 * 27) A (10 ^ m) = E at eK eM hep hel
  have hE0 : ¬ lN E = 0 := fun q => by have := (lN_0 hel).mp q; omega
  have hE1 : ¬ lg_cmp (lN E) (0 : Int64) = 0 := fun q => by have := (lgc_0 hel).mp q; omega
  refine SimL.draft h (if t = 0 then lN A / lN E else lN (10 ^ m) / lN E) sc fo pa ris u' ?_ ?_
  · unfold F_X7_calm F_X2_calmCases F_X7_greatestDivisor
    rw [X4_hasPaper N 0 _ _ g h4, bd2_s, w, if_neg (by decide), X7_within, bd2_s, u, if_neg (by decide), X7_within, bd2_s, a, if_neg (by decide), X7_within, bd2_s, b, if_neg (by decide)]
    rw [show L_X2_calmCases_6 N (nI j) (nI m) (nI p) N 0 0 g = _ from e, bd3_s, bd2_s, show (10 : Int64) = lN 10 from rfl, X7_power N hN 10 m (by omega), bd2_s]
    rw [show L_X7_greatestDivisor_3 N N (lN A) (lN (10 ^ m)) 0 (D1 g sc fo pa) = _ from eK, bd4_s, bd2_s, if_neg hE1]
    by_cases q : t = 0
    · rw [if_pos q, if_neg hE0, if_pos q]
    · rw [if_neg q, if_neg hE0, if_neg q]
  · unfold F_X8_calm
    rw [X8_isPaper N (nP (g 11 5)) hP _ (g3 (D1 g sc fo pa) 10 0 0 0) hv.1, bd2_s, w, if_neg (by decide), X8_inL N _ 0 8 (by decide) (by decide), bd2_s, u, if_neg (by decide), X8_inL N _ 0 10 (by decide) (by decide), bd2_s, a, if_neg (by decide), X8_inL N _ 0 1 (by decide) (by decide), bd2_s, b, if_neg (by decide)]
    rw [show L_X8_calm_61 N (nI j) (nI m) (nI p) t N 0 0 0 (g3 (D1 g sc fo pa) 10 0 0 0) = _ from l, bd4_s, eM, bd3_s]
    by_cases q : t = 0
    · rw [if_pos q, if_neg hE0, if_pos q]
    · rw [if_neg q, if_neg hE0, if_neg q]
