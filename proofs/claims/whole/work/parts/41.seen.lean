/-! ===== what fits what was seen ===== -/
def aF (u : Nat → Int32) (it : Nat → Int32) (p : Nat) : Nat → Bool
  | 0 => true
  | k + 1 => aF u it p k && decide (pf (aHrs u (k + 1)) p 4 = it k)
theorem aF_false {u it : Nat → Int32} {p k : Nat} (h : aF u it p k = false) : ∀ d, aF u it p (k + d) = false := by
  intro d
  induction d with
  | zero => exact h
  | succ d ih => show (aF u it p (k + d) && _) = false; rw [ih]; rfl
/-- the first, the last below n -/
def fstF (c : Nat → Bool) : Nat → Option Nat
  | 0 => none
  | n + 1 => match fstF c n with
    | some k => some k
    | none => if c n then some n else none
def lstF (c : Nat → Bool) : Nat → Option Nat
  | 0 => none
  | n + 1 => if c n then some n else lstF c n
theorem cnt_fst (c : Nat → Bool) : ∀ n, cntF c n = 0 ↔ fstF c n = none := by
  intro n
  induction n with
  | zero => exact ⟨fun _ => rfl, fun _ => rfl⟩
  | succ n ih =>
    rw [cntF, fstF]
    by_cases q : c n = true
    · rw [if_pos q, if_pos q]
      refine ⟨fun z => by omega, fun z => ?_⟩
      cases e : fstF c n with
      | none => rw [e] at z; cases z
      | some k => rw [e] at z; cases z
    · rw [if_neg q, if_neg q, ih]
      cases fstF c n <;> simp
/-- the class's note of one that fits -/
def note (f : Nat → Int32) (x : Int32) : Nat → Int32 :=
  let f1 := va_up (va_up (if f 5 = 0 then va_up f 6 x else f) 7 x) 5 (f 5 + 1)
  if 9 < x then f1 else va_up f1 4 (f 4 ||| ((1 : Int32) <<< (x &&& 31)))
theorem g3_5 (g : GS) (i : Nat) (w : Int32) (u : Nat → Int32) : g3 (g2 g 5 0 u) 5 0 i w = g2 g 5 0 (va_up u i w) := by
  rw [g3_g2, g2_same, g2_g2]
theorem D1_5 (g : GS) (sc fo pa f : Nat → Int32) : g2 (D1 g sc fo pa) 5 0 f = D1 (g2 g 5 0 f) sc fo pa := by
  unfold D1
  rw [g2_comm _ _ _ (Or.inl (by decide)), g2_comm _ _ f (Or.inl (by decide)), g2_comm g _ f (Or.inl (by decide))]
theorem X2_note (N : Nat) (x : Int32) (g : GS) (f sc fo pa : Nat → Int32) : F_X2_noteFitting N x (D1 (g2 g 5 0 f) sc fo pa) = some (D1 (g2 g 5 0 (note f x)) sc fo pa) := by
  have e5 : ∀ f, (D1 (g2 g 5 0 f) sc fo pa) 5 0 = f := fun _ => rfl
  have e : ∀ f u, g2 (D1 (g2 g 5 0 f) sc fo pa) 5 0 u = D1 (g2 g 5 0 u) sc fo pa := fun f u => by rw [D1_5, g2_g2]
  unfold F_X2_noteFitting note
  simp only [g3_g2, g2_same, g2_g2, e5, e]
  by_cases q1 : f 5 = 0
  · by_cases q2 : 9 < x
    · simp [q1, q2]
    · simp [q1, q2]
  · by_cases q2 : 9 < x
    · simp [q1, q2]
    · simp [q1, q2]
theorem sk_n (j : Nat) (hj : j < 8) : sk (nI (j + 1)) = some j := by
  unfold sk
  rw [if_neg (nI_ne0 (by omega) (by omega)), nI_clamp (by omega)]
  simp [hj]
/-- whether m places from x on lie in a row of z -/
def hpN (x : Int32) (m z : Nat) : Int32 := if x < 0 then 0 else if nI z - nI m < x then 0 else 1
theorem hpN_cases (x : Int32) {m z : Nat} (hm : m < 2 ^ 29) (hz : z < 2 ^ 29) : hpN x m z = 0 ∨ hpN x m z = 1 ∧ ∃ i : Nat, i + m ≤ z ∧ x = nI i := by
  unfold hpN
  by_cases h : x < 0
  · rw [if_pos h]; exact Or.inl rfl
  · rw [if_neg h]
    by_cases h2 : nI z - nI m < x
    · rw [if_pos h2]; exact Or.inl rfl
    · rw [if_neg h2]
      obtain ⟨j, hj, e⟩ := nI_of h
      refine Or.inr ⟨rfl, j, ?_, e⟩
      rw [e, i_lt, pk_sub_toInt (by omega) (by omega), nI_toInt hj] at h2
      omega
theorem X5_places (N j m z : Nat) (hm : m < 2 ^ 29) (x : Int32) (g : GS) (e : g 1 j 1 = nI z) : F_X5_hasPlaces N j x (nI m) g = some (hpN x m z, g) := by
  unfold F_X5_hasPlaces hpN
  rw [e, if_neg (nI_pos (by omega) : ¬ nI m < 0)]
  split
  · rfl
  · split <;> rfl
theorem cmp_places (x : Int32) {m z : Nat} (hm : m < 2 ^ 29) (hz : z < 2 ^ 29) (h0 : ¬ x < 0) : (lg_cmp (x.toInt64 + (nI m).toInt64) (nI z).toInt64 ≤ 0) ↔ ¬ nI z - nI m < x := by
  obtain ⟨j, hj, rfl⟩ := nI_of h0
  rw [lgc_le, Int64.lt_iff_toInt_lt, i_lt, pk_sub_toInt (by omega) (by omega), nI_toInt hj, Int32.toInt_toInt64, nI_toInt (by omega)]
  have e : ((nI j).toInt64 + (nI m).toInt64).toInt = (j : Int) + m := by
    rw [Int64.toInt_add, Int32.toInt_toInt64, Int32.toInt_toInt64, nI_toInt hj, nI_toInt (by omega), Int.bmod]
    split <;> omega
  rw [e]
  omega
theorem X8_rowFound (N j m z : Nat) (hj : j < 8) (hm : m < 2 ^ 29) (hz : z < 2 ^ 29) (x : Int32) (g : GS) (e2 : (0 : Int32) ≤ g 11 2 j) (e3 : g 11 3 j = nI z) : F_X8_rowFound N (nI j) x (nI m) g = if hpN x m z = 0 then some ((-1000010 : Int32) - 2, g3 g 10 0 1 2) else some (0, g3 g 10 0 1 0) := by
  unfold F_X8_rowFound F_X8_finding
  rw [ix_nI hj (by decide), bd1_s, if_pos e2, e3]
  unfold hpN
  by_cases h : x < 0
  · rw [if_pos h, if_pos h, if_pos rfl, bd2_s]
  · rw [if_neg h, if_neg h]
    by_cases q : nI z - nI m < x
    · rw [if_pos q, if_pos rfl, if_neg (fun t => (cmp_places x hm hz h).mp t q), bd2_s]
    · rw [if_neg q, if_neg (show ¬ (1 : Int32) = 0 by decide), if_pos ((cmp_places x hm hz h).mpr q)]
theorem X8_isMany (N : Nat) (x y : Int32) (g : GS) : F_X8_isMany N x y g = some (if wi x 0 7 = 0 then 0 else wi y 1 12, g) := by
  unfold F_X8_isMany
  rw [X8_isRow, bd2_s]
  by_cases q : wi x 0 7 = 0
  · rw [if_pos q, if_pos q]
  · rw [if_neg q, if_neg q, X8_inL N y 1 12 (by decide) (by decide), bd2_s]
    rcases wi_01 y 1 12 with e | e
    · rw [e, if_pos rfl]
    · rw [e, if_neg (by decide)]
/-- K: is the draft as was seen? -/
theorem K_seen (N : Nat) (hN : 2000 ≤ N) (g : GS) {u : Nat → Int32} (hu : VA 999 u) (fo f : Nat → Int32) {p j i m : Nat} (hp : p < nP u) (hj : j < 8) (him : i + m ≤ 40) (f0 : f 0 = nI p) (f1 : f 1 = nI (j + 1)) (f2 : f 2 = nI i) (f3 : f 3 = nI m) : ∀ (n k : Nat) (sc pa : Nat → Int32), RK sc fo pa (aHrs u k) → aF u (fun k => g 2 j (i + k)) p k = true → k ≤ m → m < k + n → ∃ sc' pa', L_X2_draftIsAsSeen_29 N n (nI k) (D1 (g2 g 5 0 f) sc fo pa) = some (if aF u (fun k => g 2 j (i + k)) p m then .inr (nI m, D1 (g2 g 5 0 f) sc' fo pa') else .inl (0, D1 (g2 g 5 0 f) sc' fo pa')) := by
  have hP := hu.2.1
  intro n
  induction n with
  | zero => intro k sc pa _ _ h1 h2; omega
  | succ n ih =>
    intro k sc pa hk hF h1 h2
    rw [L_X2_draftIsAsSeen_29, show (D1 (g2 g 5 0 f) sc fo pa) 5 0 3 = nI m from f3]
    by_cases h : k = m
    · subst h
      rw [if_pos (nI_le (Nat.le_refl k) (by omega)), hF]
      exact ⟨sc, pa, rfl⟩
    · rw [if_neg (nI_ge (by omega) (by omega))]
      obtain ⟨hV, hVP, -, -⟩ := VA_hrs hu k (by omega)
      obtain ⟨sc1, pa1, e1, k1⟩ := draftHr N hN (g2 g 5 0 f) hV hk (by omega) (fun gv13 => bd1 (ix (gv13 5 0 0) 6) (fun jv14 => bd1 (sk (gv13 5 0 1)) (fun jv16 => bd1 (ix ((gv13 5 0 2) + nI k) 40) (fun jv18 => if (gv13 13 1 (7 * jv14 + 4)) = (gv13 2 jv16 jv18) then L_X2_draftIsAsSeen_29 N n (nI k + 1) gv13 else some (.inl ((0 : Int32), gv13))))))
      rw [e1]
      show ∃ sc' pa', bd1 (ix (f 0) 6) (fun jv14 => bd1 (sk (f 1)) (fun jv16 => bd1 (ix (f 2 + nI k) 40) (fun jv18 => if (pa1 (7 * jv14 + 4)) = (g 2 jv16 jv18) then L_X2_draftIsAsSeen_29 N n (nI k + 1) (D1 (g2 g 5 0 f) sc1 fo pa1) else some (.inl ((0 : Int32), D1 (g2 g 5 0 f) sc1 fo pa1))))) = _
      obtain ⟨hV1, hVP1, -, -⟩ := VA_hrs hu (k + 1) (by omega)
      rw [f0, f1, f2, ix_nI (by omega) (by decide), bd1_s, sk_n j hj, bd1_s, nI_add, ix_nI (by omega) (by decide), bd1_s, nI_1, RK_f (v := aHrs u (k + 1)) k1 (by rw [hVP1]; exact hp) (by decide)]
      by_cases q : pf (aHrs u (k + 1)) p 4 = g 2 j (i + k)
      · rw [if_pos q]
        refine ih (k + 1) sc1 pa1 k1 ?_ (by omega) (by omega)
        show (aF u _ p k && decide _) = true
        rw [hF]
        simpa using q
      · rw [if_neg q]
        have hf : aF u (fun k => g 2 j (i + k)) p (k + 1) = false := by
          show (aF u _ p k && decide _) = false
          rw [hF]
          simpa using q
        have := aF_false hf (m - (k + 1))
        rw [show k + 1 + (m - (k + 1)) = m by omega] at this
        rw [this]
        exact ⟨sc1, pa1, rfl⟩
theorem K_isSeen (N : Nat) (hN : 2000 ≤ N) (g : GS) {u : Nat → Int32} (hu : VA 999 u) (fo f : Nat → Int32) {p j i m z : Nat} (hp : p < nP u) (hj : j < 8) (hz : z ≤ 40) (ez : g 1 j 1 = nI z) (him : i + m ≤ z) (f0 : f 0 = nI p) (f1 : f 1 = nI (j + 1)) (f2 : f 2 = nI i) (f3 : f 3 = nI m) (sc pa : Nat → Int32) (hk : RK sc fo pa u) : ∃ sc' pa', F_X2_draftIsAsSeen N (D1 (g2 g 5 0 f) sc fo pa) = some (b01 (aF u (fun k => g 2 j (i + k)) p m), D1 (g2 g 5 0 f) sc' fo pa') := by
  unfold F_X2_draftIsAsSeen
  have e5 : (D1 (g2 g 5 0 f) sc fo pa) 5 0 = f := rfl
  obtain ⟨sc1, pa1, e⟩ := K_seen N hN g hu fo f hp hj (show i + m ≤ 40 by omega) f0 f1 f2 f3 N 0 sc pa hk rfl (by omega) (by omega)
  rw [nI_0] at e
  have hh : hpN (nI i) m z = 1 := by
    unfold hpN
    rw [if_neg (nI_pos (by omega)), if_neg]
    rw [i_lt, pk_sub_toInt (by omega) (by omega), nI_toInt (by omega)]
    omega
  rw [e5, f1, if_neg (nI_ne0 (by omega) (by omega)), sk_n j hj, bd1_s, f2, f3, X5_places N j m z (by omega) (nI i) (D1 (g2 g 5 0 f) sc fo pa) ez, bd2_s, hh, if_neg (by decide), e]
  refine ⟨sc1, pa1, ?_⟩
  by_cases q : aF u (fun k => g 2 j (i + k)) p m = true
  · rw [q, if_pos rfl]; rfl
  · have q := Bool.eq_false_iff.mpr q
    rw [q, if_neg Bool.false_ne_true]; rfl
/-- what the class has noted when it has tried those below y -/
def noted (hi : Nat) (f : Nat → Int32) (c : Nat → Bool) (y : Nat) : Prop := (hi ≤ 9 → f 4 = bitsF c y) ∧ f 5 = nI (cntF c y) ∧ f 6 = ans (fstF c y) ∧ f 7 = ans (lstF c y)
theorem noted_yes {hi : Nat} {f : Nat → Int32} {c : Nat → Bool} {y : Nat} (hy : y ≤ 100) (hyh : y ≤ hi) (h : noted hi f c y) (q : c y = true) : noted hi (note f (nI y)) c (y + 1) := by
  obtain ⟨a, b, d, e⟩ := h
  have hc := cntF_le c y
  have e5 : note f (nI y) 5 = nI (cntF c (y + 1)) := by
    unfold note
    rw [cntF, if_pos q, ← nI_1, ← b]
    by_cases q2 : (9 : Int32) < nI y
    · simp [q2, va_up]
    · simp [q2, va_up]
  have e7 : note f (nI y) 7 = nI y := by
    unfold note
    by_cases q2 : (9 : Int32) < nI y
    · simp [q2, va_up]
    · simp [q2, va_up]
  have e6 : note f (nI y) 6 = if f 5 = 0 then nI y else f 6 := by
    unfold note
    by_cases q2 : (9 : Int32) < nI y
    · by_cases q3 : f 5 = 0
      · simp [q2, q3, va_up]
      · simp [q2, q3, va_up]
    · by_cases q3 : f 5 = 0
      · simp [q2, q3, va_up]
      · simp [q2, q3, va_up]
  refine ⟨fun h9 => ?_, e5, ?_, ?_⟩
  · have q2 : ¬ (9 : Int32) < nI y := nI_nlt (b := y) (a := 9) (by omega) (by omega)
    rw [bitsF, if_pos q, ← a h9]
    unfold note
    simp [q2, va_up]
  · rw [e6, fstF, b]
    by_cases z : cntF c y = 0
    · rw [if_pos (by rw [z]; rfl), (cnt_fst c y).mp z]
      dsimp only
      rw [if_pos q]
      rfl
    · rw [if_neg (nI_ne0 (by omega) (by omega)), d]
      cases ef : fstF c y with
      | none => exact absurd ((cnt_fst c y).mpr ef) z
      | some k => rfl
  · rw [e7, lstF, if_pos q]
    rfl
theorem noted_no {hi : Nat} {f : Nat → Int32} {c : Nat → Bool} {y : Nat} (h : noted hi f c y) (q : c y = false) : noted hi f c (y + 1) := by
  obtain ⟨a, b, d, e⟩ := h
  have q' : ¬ c y = true := by rw [q]; decide
  refine ⟨fun h9 => by rw [bitsF, if_neg q']; exact a h9, by rw [cntF, if_neg q']; exact b, ?_, by rw [lstF, if_neg q']; exact e⟩
  rw [fstF, if_neg q', d]
  cases fstF c y <;> rfl
theorem note_lo (f : Nat → Int32) (x : Int32) {k : Nat} (h : k < 4) : note f x k = f k := by
  unfold note
  by_cases q1 : f 5 = 0
  · by_cases q2 : 9 < x
    · simp only [q1, q2, if_true]
      rw [up_ne _ _ (by omega), up_ne _ _ (by omega), up_ne _ _ (by omega)]
    · simp only [q1, q2, if_true, if_false]
      rw [up_ne _ _ (by omega), up_ne _ _ (by omega), up_ne _ _ (by omega), up_ne _ _ (by omega)]
  · by_cases q2 : 9 < x
    · simp only [q1, q2, if_true, if_false]
      rw [up_ne _ _ (by omega), up_ne _ _ (by omega)]
    · simp only [q1, q2, if_false]
      rw [up_ne _ _ (by omega), up_ne _ _ (by omega), up_ne _ _ (by omega)]
/-- those that fit -/
def fitC (U : Nat → Nat → Int32) (it : Nat → Int32) (p m lo : Nat) : Nat → Bool := fun k => decide (lo ≤ k) && aF (U k) it p m
theorem K_search (N : Nat) (hN : 2000 ≤ N) (g : GS) (v : Nat → Int32) (U : Nat → Nat → Int32) (z1 z2 : Int32) {lo hi : Nat} (hhi : hi ≤ 99) {p j i m z : Nat} (hp : p < nP v) (hj : j < 8) (hz : z ≤ 40) (ez : g 1 j 1 = nI z) (him : i + m ≤ z) (hU : ∀ y, lo ≤ y → y ≤ hi → VA 999 (U y) ∧ nP (U y) = nP v) (hD : ∀ y, lo ≤ y → y ≤ hi → ∀ f sc fo pa, ∃ sc' fo' pa', F_X2_draftWith N z1 z2 (nI y) (D1 (g2 g 5 0 f) sc fo pa) = some (D1 (g2 g 5 0 f) sc' fo' pa') ∧ RK sc' fo' pa' (U y)) : ∀ (n y : Nat) (f sc fo pa : Nat → Int32), f 0 = nI p → f 1 = nI (j + 1) → f 2 = nI i → f 3 = nI m → noted hi f (fitC U (fun k => g 2 j (i + k)) p m lo) y → lo ≤ y → y ≤ hi + 1 → hi + 1 < y + n → ∃ f' sc' fo' pa', L_X2_search_25 N z1 z2 (nI lo) (nI hi) n (nI y) (D1 (g2 g 5 0 f) sc fo pa) = some (nI (hi + 1), D1 (g2 g 5 0 f') sc' fo' pa') ∧ noted hi f' (fitC U (fun k => g 2 j (i + k)) p m lo) (hi + 1) := by
  intro n
  induction n with
  | zero => intro y f sc fo pa _ _ _ _ _ _ h1 h2; omega
  | succ n ih =>
    intro y f sc fo pa f0 f1 f2 f3 hn hl h1 h2
    rw [L_X2_search_25]
    by_cases h : y = hi + 1
    · subst h
      rw [if_pos (nI_lt (by omega) (by omega))]
      exact ⟨f, sc, fo, pa, rfl, hn⟩
    · rw [if_neg (nI_nlt (by omega) (by omega)), nI_1]
      obtain ⟨hV, eP⟩ := hU y hl (by omega)
      obtain ⟨sc1, fo1, pa1, e1, k1⟩ := hD y hl (by omega) f sc fo pa
      obtain ⟨sc2, pa2, e2⟩ := K_isSeen N hN g hV fo1 f (p := p) (by rw [eP]; exact hp) hj hz ez him f0 f1 f2 f3 sc1 pa1 k1
      rw [e1, bd1_s, e2, bd2_s]
      have ec : fitC U (fun k => g 2 j (i + k)) p m lo y = aF (U y) (fun k => g 2 j (i + k)) p m := by unfold fitC; rw [decide_eq_true hl, Bool.true_and]
      by_cases q : aF (U y) (fun k => g 2 j (i + k)) p m = true
      · rw [q, b01_t, if_neg (by decide), X2_note, bd1_s]
        exact ih (y + 1) (note f (nI y)) sc2 fo1 pa2 (by rw [note_lo _ _ (by decide)]; exact f0) (by rw [note_lo _ _ (by decide)]; exact f1) (by rw [note_lo _ _ (by decide)]; exact f2) (by rw [note_lo _ _ (by decide)]; exact f3) (noted_yes (by omega) (by omega) hn (by rw [ec]; exact q)) (by omega) (by omega) (by omega)
      · have q := Bool.eq_false_iff.mpr q
        rw [q, b01_f, if_pos rfl]
        exact ih (y + 1) f sc2 fo1 pa2 f0 f1 f2 f3 (noted_no hn (by rw [ec]; exact q)) (by omega) (by omega) (by omega)
theorem X2_search (N : Nat) (hN : 2000 ≤ N) (g : GS) (v : Nat → Int32) (U : Nat → Nat → Int32) (z1 z2 : Int32) {lo hi : Nat} (hlo : lo ≤ 1) (hlh : lo ≤ hi) (hhi : hi ≤ 99) {p j i m z : Nat} (hp : p < nP v) (hj : j < 8) (hz : z ≤ 40) (ez : g 1 j 1 = nI z) (him : i + m ≤ z) (hU : ∀ y, lo ≤ y → y ≤ hi → VA 999 (U y) ∧ nP (U y) = nP v) (hD : ∀ y, lo ≤ y → y ≤ hi → ∀ f sc fo pa, ∃ sc' fo' pa', F_X2_draftWith N z1 z2 (nI y) (D1 (g2 g 5 0 f) sc fo pa) = some (D1 (g2 g 5 0 f) sc' fo' pa') ∧ RK sc' fo' pa' (U y)) (f : Nat → Int32) (f0 : f 0 = nI p) (f1 : f 1 = nI (j + 1)) (f2 : f 2 = nI i) (f3 : f 3 = nI m) : ∃ f' sc' fo' pa', F_X2_search N z1 z2 (nI lo) (nI hi) (g2 g 5 0 f) = some (D1 (g2 g 5 0 f') sc' fo' pa') ∧ noted hi f' (fitC U (fun k => g 2 j (i + k)) p m lo) (hi + 1) := by
  unfold F_X2_search
  rw [g3_5, g3_5, g3_5, g3_5]
  have hs := D1_self (g2 g 5 0 (va_up (va_up (va_up (va_up f 4 0) 5 0) 6 (-1000000)) 7 (-1000000)))
  have c0 : lo = 1 → fitC U (fun k => g 2 j (i + k)) p m lo 0 = false := fun e => by unfold fitC; rw [e]; rfl
  have hn : noted hi (va_up (va_up (va_up (va_up f 4 0) 5 0) 6 (-1000000)) 7 (-1000000)) (fitC U (fun k => g 2 j (i + k)) p m lo) lo := by
    rcases (show lo = 0 ∨ lo = 1 by omega) with e | e
    · rw [e]
      exact ⟨fun _ => rfl, rfl, rfl, rfl⟩
    · have := c0 e
      rw [show noted hi _ (fitC U (fun k => g 2 j (i + k)) p m lo) lo = noted hi _ (fitC U (fun k => g 2 j (i + k)) p m lo) (0 + 1) by rw [e]]
      exact noted_no ⟨fun _ => rfl, rfl, rfl, rfl⟩ this
  obtain ⟨f', sc', fo', pa', e, hn'⟩ := K_search N hN g v U z1 z2 hhi hp hj hz ez him hU hD N lo (va_up (va_up (va_up (va_up f 4 0) 5 0) 6 (-1000000)) 7 (-1000000)) (g 0 1) (g 12 1) (g 13 1) f0 f1 f2 f3 hn (Nat.le_refl lo) (by omega) (by omega)
  rw [show D1 (g2 g 5 0 (va_up (va_up (va_up (va_up f 4 0) 5 0) 6 (-1000000)) 7 (-1000000))) (g 0 1) (g 12 1) (g 13 1) = _ from hs] at e
  exact ⟨f', sc', fo', pa', by rw [e, bd2_s], hn'⟩
/-- the reference: is 'then' as was seen? -/
theorem M_isSo (N : Nat) (hN : 2000 ≤ N) (g : GS) {w : Nat → Int32} (hw : VA 999 w) {p : Nat} (hp : p < nP w) (a m : Nat) (it : Nat → Int32) (ha : a + m ≤ 320) (hit : ∀ k, k < m → g 11 4 (a + k) = it k) : ∀ (n k : Nat) (ris u : Nat → Int32), E53 u (aHrs w k) → k ≤ m → m < k + n → ∃ ris' u', L_X8_isSo_6 N (nI p) (nI a) (nI m) n (b01 (aF w it p k)) (nI k) (T7 g ris u) = some (b01 (aF w it p m), nI m, T7 g ris' u') := by
  have hP := hw.2.1
  intro n
  induction n with
  | zero => intro k ris u _ h1 h2; omega
  | succ n ih =>
    intro k ris u he h1 h2
    rw [L_X8_isSo_6]
    by_cases h : k = m
    · subst h
      rw [if_pos (nI_le (Nat.le_refl k) (by omega))]
      exact ⟨ris, u, rfl⟩
    · rw [if_neg (nI_ge (by omega) (by omega)), nI_1]
      obtain ⟨hV, hVP, -, -⟩ := VA_hrs hw k (by omega)
      obtain ⟨r1, u1, e1, k1⟩ := then_hour N hN g ris u hV he (by omega)
      have k1 : E53 u1 (aHrs w (k + 1)) := k1
      rw [e1, bd1_s]
      have ih' := ih (k + 1) r1 u1 k1 (by omega) (by omega)
      by_cases q : aF w it p k = true
      · rw [q, b01_t, if_neg (by decide), X8_of4 N 7 p (by omega) rfl, bd2_s, T7_7, e53_pf k1 (by omega) (by decide), nI_add, ix_nI (by omega) (by decide), bd1_s, show (T7 g r1 u1) 11 4 (a + k) = it k from hit k (by omega)]
        rw [aF, q, Bool.true_and] at ih'
        by_cases q2 : pf (aHrs w (k + 1)) p 4 = it k
        · rw [if_pos q2]
          rw [decide_eq_true q2] at ih'
          exact ih'
        · rw [if_neg q2]
          rw [decide_eq_false q2] at ih'
          exact ih'
      · have q := Bool.eq_false_iff.mpr q
        rw [q, b01_f, if_pos rfl]
        rw [aF, q, Bool.false_and] at ih'
        exact ih'
theorem X8_isSo (N : Nat) (hN : 2000 ≤ N) (g : GS) {w : Nat → Int32} (hw : VA 999 w) {p : Nat} (hp : p < nP w) (a m : Nat) (it : Nat → Int32) (ha : a + m ≤ 320) (hm : m ≤ 40) (hit : ∀ k, k < m → g 11 4 (a + k) = it k) (ris u : Nat → Int32) (he : E53 u w) : ∃ ris' u', F_X8_isSo N (nI p) (nI a) (nI m) (T7 g ris u) = some (b01 (aF w it p m), T7 g ris' u') := by
  unfold F_X8_isSo
  obtain ⟨r, u', e⟩ := M_isSo N hN g hw hp a m it ha hit N 0 ris u he (by omega) (by omega)
  rw [nI_0, aF, b01_t] at e
  refine ⟨r, u', ?_⟩
  rw [e, bd3_s, if_pos]
  cases aF w it p m
  · exact Or.inl rfl
  · exact Or.inr rfl
