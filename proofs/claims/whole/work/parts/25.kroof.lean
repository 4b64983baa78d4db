/-! ===== the class's ROOFS: RK says which row v they tell ===== -/
theorem RK_f {sc fo pa v : Nat → Int32} (h : RK sc fo pa v) {i f : Nat} (hi : i < nP v) (hf : f < 6) : pa (7 * i + f) = pf v i f := (h.2.2.2.2.2 i hi).1 f hf
theorem X4_forceAfter (N r n : Nat) (g : GS) {B : Nat} {v : Nat → Int32} (hv : VA B v) (hk : RK (g 0 r) (g 12 r) (g 13 r) v) (hn : n < 1000) (hB : B < 2 ^ 29) : F_X4_forceAfter N r (nI n) g = some (aForce v (nH v + n), g) := by
  obtain ⟨a0, a1, a2, a3, a4, a5, -⟩ := hv
  obtain ⟨k4, k3, k2, -, kf, -⟩ := hk
  unfold F_X4_forceAfter aForce
  rw [k3, k2, a2, a4]
  by_cases q : nW v = 0
  · rw [if_pos (by rw [q]; decide), if_pos q]
  · rw [if_neg (nI_nle (by omega) (by omega)), if_neg (nI_ne0 (by omega) (by omega)), if_neg q, nI_add, pk_rem (by omega) (by omega) (by omega)]
    have hm := Nat.mod_lt (nH v + n) (show 0 < nW v by omega)
    rw [ix_nI (by omega) (by decide), bd1_s, kf _ hm]
theorem X4_force0 (N r : Nat) (g : GS) {B : Nat} {v : Nat → Int32} (hv : VA B v) (hk : RK (g 0 r) (g 12 r) (g 13 r) v) (hB : B < 2 ^ 29) : F_X4_forceAfter N r 0 g = some (aForce v (nH v), g) := X4_forceAfter N r 0 g hv hk (by decide) hB
theorem X3_isUp (N r i : Nat) (g : GS) {v : Nat → Int32} (h : g 13 r (7 * i + 3) = pf v i 3) : F_X3_isUp N r i g = some (b01 (aUp v i), g) := by
  unfold F_X3_isUp aUp b01
  rw [h]
  by_cases q : pf v i 3 = 1
  · rw [if_pos q]; simp [q]
  · rw [if_neg q]; simp [q]
theorem X4_isPolicy (N r i : Nat) (hi : i < 6) (g : GS) {v : Nat → Int32} (h3 : g 13 r (7 * i + 3) = pf v i 3) (h4 : g 13 r (7 * i + 4) = pf v i 4) (h0 : g 0 r 0 = v 2) : F_X4_isPolicy N r (nI i) g = some (b01 (aPol v i), g) := by
  unfold F_X4_isPolicy
  rw [ix_nI hi (by decide), bd1_s, X3_isUp N r i g h3, bd2_s]
  unfold aPol
  by_cases q : aUp v i = true
  · rw [q, b01_t, if_neg (by decide), h4, h0]
    by_cases q2 : pf v i 4 < v 2
    · rw [if_pos q2]; simp [q2, b01]
    · rw [if_neg q2]; simp [q2, b01]
  · have q := Bool.eq_false_iff.mpr q
    rw [q, b01_f, if_pos rfl]
    rfl
theorem kP_le {g : GS} {r i P : Nat} (h0 : g 0 r 4 = nI P) (hi : i ≤ P) (hP : P ≤ 6) : (g 0 r 4 ≤ nI i) ↔ i = P := by
  rw [h0, nI_leI (by omega) (by omega)]
  omega
theorem X4_bitsOf' (N r P : Nat) (x : Int32) (hP : P ≤ 6) (v : Nat → Int32) : ∀ (n i : Nat) (g : GS), g 0 r 4 = nI P → (∀ i, i < P → g 13 r (7 * i + 3) = pf v i 3) → i ≤ P → P < i + n → L_X4_bitsOf_4 N r x n (bitsF (fun p => decide (pf v p 3 = x)) i) (nI i) g = some (bitsF (fun p => decide (pf v p 3 = x)) P, nI P, g) := by
  intro n
  induction n with
  | zero => intro i g h0 hf h1 h2; omega
  | succ n ih =>
    intro i g h0 hf h1 h2
    rw [L_X4_bitsOf_4]
    by_cases h : i = P
    · rw [if_pos ((kP_le h0 h1 hP).mpr h), h]
    · rw [if_neg (fun q => h ((kP_le h0 h1 hP).mp q)), ix_nI (by omega) (by decide), bd1_s, nI_1, hf i (by omega)]
      by_cases q : pf v i 3 = x
      · rw [if_pos q, ← ih (i + 1) g h0 hf (by omega) (by omega)]
        congr 1
        simp [bitsF, q]
      · rw [if_neg q, ← ih (i + 1) g h0 hf (by omega) (by omega)]
        congr 1
        simp [bitsF, q]
theorem X4_bitsOf (N r : Nat) (hN : 2000 ≤ N) (x : Int32) (g : GS) {B : Nat} {v : Nat → Int32} (hv : VA B v) (hk : RK (g 0 r) (g 12 r) (g 13 r) v) : F_X4_bitsOf N r x g = some (bitsF (fun p => decide (pf v p 3 = x)) (nP v), g) := by
  unfold F_X4_bitsOf
  have hP := hv.2.1
  have := X4_bitsOf' N r (nP v) x hP v N 0 g (hk.1.trans hv.1) (fun i hi => RK_f hk hi (by decide)) (by omega) (by omega)
  rw [show bitsF (fun p => decide (pf v p 3 = x)) 0 = 0 from rfl, nI_0] at this
  rw [this, bd3_s]
theorem X4_policyBits' (N r P : Nat) (hP : P ≤ 6) (v : Nat → Int32) : ∀ (n i : Nat) (g : GS), g 0 r 4 = nI P → (∀ i, i < P → g 13 r (7 * i + 3) = pf v i 3 ∧ g 13 r (7 * i + 4) = pf v i 4 ∧ g 0 r 0 = v 2) → i ≤ P → P < i + n → L_X4_policyBits_4 N r n (bitsF (aPol v) i) (nI i) g = some (bitsF (aPol v) P, nI P, g) := by
  intro n
  induction n with
  | zero => intro i g h0 hf h1 h2; omega
  | succ n ih =>
    intro i g h0 hf h1 h2
    rw [L_X4_policyBits_4]
    by_cases h : i = P
    · rw [if_pos ((kP_le h0 h1 hP).mpr h), h]
    · obtain ⟨f3, f4, f0⟩ := hf i (by omega)
      rw [if_neg (fun q => h ((kP_le h0 h1 hP).mp q)), X4_isPolicy N r i (by omega) g f3 f4 f0, bd2_s, nI_1]
      by_cases q : aPol v i = true
      · rw [q, b01_t, if_neg (by decide), ← ih (i + 1) g h0 hf (by omega) (by omega)]
        congr 1
        simp [bitsF, q]
      · have q := Bool.eq_false_iff.mpr q
        rw [q, b01_f, if_pos rfl, ← ih (i + 1) g h0 hf (by omega) (by omega)]
        congr 1
        simp [bitsF, q]
theorem X4_policyBits (N r : Nat) (hN : 2000 ≤ N) (g : GS) {B : Nat} {v : Nat → Int32} (hv : VA B v) (hk : RK (g 0 r) (g 12 r) (g 13 r) v) : F_X4_policyBits N r g = some (bitsF (aPol v) (nP v), g) := by
  unfold F_X4_policyBits
  have hP := hv.2.1
  have := X4_policyBits' N r (nP v) hP v N 0 g (hk.1.trans hv.1) (fun i hi => ⟨RK_f hk hi (by decide), RK_f hk hi (by decide), (hk.2.2.2.1 (by omega)).1⟩) (by omega) (by omega)
  rw [show bitsF (aPol v) 0 = 0 from rfl, nI_0] at this
  rw [this, bd3_s]
/-- how many below n -/
def cntF (f : Nat → Bool) : Nat → Nat
  | 0 => 0
  | n + 1 => if f n then cntF f n + 1 else cntF f n
theorem cntF_le (f : Nat → Bool) : ∀ n, cntF f n ≤ n := by
  intro n
  induction n with
  | zero => exact Nat.le_refl 0
  | succ n ih => rw [cntF]; split <;> omega
theorem anyF_cnt (f : Nat → Bool) : ∀ n, anyF f n = decide (0 < cntF f n) := by
  intro n
  induction n with
  | zero => rfl
  | succ n ih =>
    rw [anyF, cntF, ih]
    cases f n
    · simp
    · simp
theorem cntF_but (f : Nat → Bool) (p : Nat) : ∀ n, cntF f n = cntF (fun o => !decide (o = p) && f o) n + (if p < n ∧ f p = true then 1 else 0) := by
  intro n
  induction n with
  | zero => simp [cntF]
  | succ n ih =>
    rw [cntF, cntF, ih]
    by_cases q : n = p
    · subst q
      cases hf : f n
      · simp [hf]
      · simp [hf]
    · have e : (p < n + 1) ↔ p < n := by omega
      simp only [q, decide_false, Bool.not_false, Bool.true_and, e]
      cases f n <;> simp <;> omega
def isT (v : Nat → Int32) (o : Nat) : Bool := aUp v o && decide (pf v o 0 = 3)
theorem aOther_cnt {v : Nat → Int32} {p : Nat} (hp : p < nP v) (hu : aUp v p = true) (h3 : pf v p 0 = 3) : aOther v p = decide (1 < cntF (isT v) (nP v)) := by
  unfold aOther
  rw [anyF_cnt]
  have := cntF_but (isT v) p (nP v)
  have ht : isT v p = true := by simp [isT, hu, h3]
  rw [if_pos ⟨hp, ht⟩] at this
  have e : (fun o => !decide (o = p) && (aUp v o && decide (pf v o 0 = 3))) = (fun o => !decide (o = p) && isT v o) := rfl
  rw [e]
  congr 1
  rw [this]
  simp
theorem X4_isPaired' (N r P : Nat) (hP : P ≤ 6) (v : Nat → Int32) : ∀ (n i : Nat) (g : GS), g 0 r 4 = nI P → (∀ i, i < P → g 13 r (7 * i + 3) = pf v i 3 ∧ g 13 r (7 * i) = pf v i 0) → i ≤ P → P < i + n → L_X4_isPaired_4 N r n (nI (cntF (isT v) i)) (nI i) g = some (nI (cntF (isT v) P), nI P, g) := by
  intro n
  induction n with
  | zero => intro i g h0 hf h1 h2; omega
  | succ n ih =>
    intro i g h0 hf h1 h2
    rw [L_X4_isPaired_4]
    by_cases h : i = P
    · rw [if_pos ((kP_le h0 h1 hP).mpr h), h]
    · obtain ⟨f3, f0⟩ := hf i (by omega)
      have ih' := ih (i + 1) g h0 hf (by omega) (by omega)
      rw [if_neg (fun q => h ((kP_le h0 h1 hP).mp q)), ix_nI (by omega) (by decide), bd1_s, X3_isUp N r i g f3, bd2_s, nI_1, f0, nI_1]
      by_cases q : aUp v i = true
      · rw [q, b01_t, if_neg (by decide)]
        by_cases q2 : pf v i 0 = 3
        · rw [if_pos q2]
          rw [cntF, if_pos (show isT v i = true by simp [isT, q, q2])] at ih'
          exact ih'
        · rw [if_neg q2]
          rw [cntF, if_neg (show ¬ isT v i = true by simp [isT, q2])] at ih'
          exact ih'
      · have q := Bool.eq_false_iff.mpr q
        rw [q, b01_f, if_pos rfl]
        rw [cntF, if_neg (show ¬ isT v i = true by simp [isT, q])] at ih'
        exact ih'
theorem X4_isPaired (N r : Nat) (hN : 2000 ≤ N) (g : GS) {B : Nat} {v : Nat → Int32} (hv : VA B v) (hk : RK (g 0 r) (g 12 r) (g 13 r) v) : F_X4_isPaired N r g = some (b01 (decide (1 < cntF (isT v) (nP v))), g) := by
  unfold F_X4_isPaired
  have hP := hv.2.1
  have hc := cntF_le (isT v) (nP v)
  have := X4_isPaired' N r (nP v) hP v N 0 g (hk.1.trans hv.1) (fun i hi => ⟨RK_f hk hi (by decide), RK_f (f := 0) hk hi (by decide)⟩) (by omega) (by omega)
  rw [cntF, nI_0] at this
  rw [this, bd3_s]
  by_cases q : 1 < cntF (isT v) (nP v)
  · rw [if_neg (show ¬ nI (cntF (isT v) (nP v)) ≤ 1 from nI_ge (b := cntF (isT v) (nP v)) (a := 1) q (by omega))]
    simp [q, b01]
  · rw [if_pos (show nI (cntF (isT v) (nP v)) ≤ 1 from nI_le (b := 1) (by omega) (by omega))]
    simp [q, b01]
theorem X3_liftIn (N r i : Nat) (w : Int32) (g : GS) {v : Nat → Int32} (hi : i < nP v) (hq : VP (fun f => v (11 + 7 * i + f))) (hu : aUp v i = true) (f0 : g 13 r (7 * i) = pf v i 0) (f1 : g 13 r (7 * i + 1) = pf v i 1) (f4 : g 13 r (7 * i + 4) = pf v i 4) : F_X3_liftIn N r i w (b01 (decide (1 < cntF (isT v) (nP v)))) g = some (aLift v i w, g) := by
  unfold F_X3_liftIn aLift
  rw [f0, f1, f4]
  obtain ⟨⟨k, hk1, hk2, ek⟩, -⟩ := hq
  have ek : pf v i 0 = nI k := ek
  rcases (show k = 1 ∨ k = 2 ∨ k = 3 ∨ k = 4 ∨ k = 5 by omega) with rfl | rfl | rfl | rfl | rfl
  · have e : pf v i 0 = 1 := ek
    simp only [e, show ¬ (1 : Int32) = 2 by decide, show ¬ (1 : Int32) = 3 by decide, show ¬ (1 : Int32) = 4 by decide, show ¬ (1 : Int32) = 5 by decide, if_true, if_false]
  · have e : pf v i 0 = 2 := ek
    simp only [e, show ¬ (2 : Int32) = 1 by decide, if_true, if_false]
    split <;> rfl
  · have e : pf v i 0 = 3 := ek
    rw [aOther_cnt hi hu e]
    simp only [e, show ¬ (3 : Int32) = 1 by decide, show ¬ (3 : Int32) = 2 by decide, if_true, if_false]
    by_cases q : 1 < cntF (isT v) (nP v)
    · simp [q, b01]
    · simp [q, b01]
  · have e : pf v i 0 = 4 := ek
    simp only [e, show ¬ (4 : Int32) = 1 by decide, show ¬ (4 : Int32) = 2 by decide, show ¬ (4 : Int32) = 3 by decide, show ¬ (4 : Int32) = 5 by decide, if_true, if_false]
  · have e : pf v i 0 = 5 := ek
    simp only [e, show ¬ (5 : Int32) = 1 by decide, show ¬ (5 : Int32) = 2 by decide, show ¬ (5 : Int32) = 3 by decide, show ¬ (5 : Int32) = 4 by decide, if_true, if_false]
    split
    · rfl
    · by_cases q : (30 : Int32) < 4 * w
      · rw [if_pos q, if_pos (by rw [i_le]; rw [i_lt] at q; omega)]
      · rw [if_neg q]
        by_cases q2 : (30 : Int32) ≤ 4 * w
        · rw [if_pos q2]
          have : (4 * w) = 30 := Int32.toInt_inj.mp (by rw [i_le] at q2; rw [i_lt] at q; omega)
          rw [this]
        · rw [if_neg q2]
