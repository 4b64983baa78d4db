/-! ===== rows that are the same up to 53 ===== -/
def E53 (u v : Nat → Int32) : Prop := ∀ k, k < 53 → u k = v k
theorem E53.rf (v : Nat → Int32) : E53 v v := fun _ _ => rfl
theorem E53.tr {u v w : Nat → Int32} (h : E53 u v) (h2 : E53 v w) : E53 u w := fun k hk => (h k hk).trans (h2 k hk)
theorem E53.sy {u v : Nat → Int32} (h : E53 u v) : E53 v u := fun k hk => (h k hk).symm
theorem e53_pf {u v : Nat → Int32} (h : E53 u v) {p f : Nat} (hp : p < 6) (hf : f < 7) : pf u p f = pf v p f := h _ (by omega)
theorem e53_up {u v : Nat → Int32} (h : E53 u v) (k : Nat) {x y : Int32} (e : x = y) : E53 (va_up u k x) (va_up v k y) := by
  subst e
  intro i hi
  unfold va_up
  split
  · rfl
  · exact h i hi
theorem e53_nP {u v : Nat → Int32} (h : E53 u v) : nP u = nP v := nP_eq (h 0 (by decide))
theorem e53_nW {u v : Nat → Int32} (h : E53 u v) : nW u = nW v := nW_eq (h 1 (by decide))
theorem e53_nH {u v : Nat → Int32} (h : E53 u v) : nH u = nH v := nH_eq (h 4 (by decide))
theorem e53_aUp {u v : Nat → Int32} (h : E53 u v) {p : Nat} (hp : p < 6) : aUp u p = aUp v p := by
  show decide (_ = _) = decide (_ = _)
  rw [e53_pf h hp (by decide)]
theorem e53_aPol {u v : Nat → Int32} (h : E53 u v) {p : Nat} (hp : p < 6) : aPol u p = aPol v p := by
  show (aUp u p && !decide (_ < u 2)) = (aUp v p && !decide (_ < v 2))
  rw [e53_aUp h hp, e53_pf h hp (by decide), h 2 (by decide)]
theorem anyF_eq {f g : Nat → Bool} : ∀ {n : Nat}, (∀ k, k < n → f k = g k) → anyF f n = anyF g n := by
  intro n
  induction n with
  | zero => intro _; rfl
  | succ n ih =>
    intro h
    rw [anyF, anyF, ih (fun k hk => h k (by omega)), h n (by omega)]
theorem bitsF_eq {f g : Nat → Bool} : ∀ {n : Nat}, (∀ k, k < n → f k = g k) → bitsF f n = bitsF g n := by
  intro n
  induction n with
  | zero => intro _; rfl
  | succ n ih =>
    intro h
    rw [bitsF, bitsF, ih (fun k hk => h k (by omega)), h n (by omega)]
theorem e53_aOther {u v : Nat → Int32} (h : E53 u v) (hP : nP v ≤ 6) (p : Nat) : aOther u p = aOther v p := by
  unfold aOther
  rw [e53_nP h]
  exact anyF_eq (fun k hk => by rw [e53_aUp h (by omega), e53_pf h (by omega) (by decide)])
theorem e53_aLift {u v : Nat → Int32} (h : E53 u v) (hP : nP v ≤ 6) {p : Nat} (hp : p < 6) (w : Int32) : aLift u p w = aLift v p w := by
  unfold aLift
  rw [e53_pf h hp (f := 0) (by decide), e53_pf h hp (f := 1) (by decide), e53_pf h hp (f := 4) (by decide), e53_aOther h hP]
theorem e53_aRise {u v : Nat → Int32} (h : E53 u v) (hP : nP v ≤ 6) {p : Nat} (hp : p < 6) (w : Int32) : aRise u p w = aRise v p w := by
  unfold aRise
  rw [e53_aLift h hP hp, e53_pf h hp (by decide)]
theorem e53_aSnap {u v : Nat → Int32} (h : E53 u v) {p : Nat} (hp : p < 6) (x : Int32) : aSnap u p x = aSnap v p x := by
  unfold aSnap
  rw [e53_pf h hp (f := 4) (by decide), e53_pf h hp (f := 5) (by decide), h 3 (by decide)]
theorem e53_aMove {u v : Nat → Int32} (h : E53 u v) {p : Nat} (hp : p < 6) (x w : Int32) : E53 (aMove u p x w) (aMove v p x w) := by
  unfold aMove
  rw [e53_aSnap h hp, e53_pf h hp (f := 4) (by decide), e53_pf h hp (f := 5) (by decide)]
  split
  · exact e53_up (e53_up (e53_up (e53_up h _ rfl) _ rfl) _ rfl) _ rfl
  · split
    · exact e53_up h _ rfl
    · split
      · exact e53_up h _ rfl
      · exact e53_up (e53_up (e53_up h _ rfl) _ rfl) _ rfl
theorem e53_aMv {u v : Nat → Int32} (h : E53 u v) (hP : nP v ≤ 6) (w : Int32) : ∀ n, n ≤ 6 → E53 (aMv u w n) (aMv v w n) := by
  intro n
  induction n with
  | zero => intro _; exact h
  | succ n ih =>
    intro hn
    have ih := ih (by omega)
    rw [aMv, aMv, e53_aUp ih (by omega), e53_aRise h hP (by omega)]
    split
    · exact e53_aMove ih (by omega) _ _
    · exact ih
theorem e53_aHour {u v : Nat → Int32} (h : E53 u v) (hP : nP v ≤ 6) (w : Int32) : E53 (aHour u w) (aHour v w) := by
  unfold aHour
  rw [e53_nP h]
  have := e53_aMv h hP w (nP v) hP
  exact e53_up this _ (by rw [this 4 (by decide)])
theorem e53_aForce {u v : Nat → Int32} (h : E53 u v) (hW : nW v ≤ 6) (k : Nat) : aForce u k = aForce v k := by
  unfold aForce
  rw [e53_nW h]
  by_cases q : nW v = 0
  · rw [if_pos q, if_pos q]
  · rw [if_neg q, if_neg q]
    have := Nat.mod_lt k (show 0 < nW v by omega)
    exact h _ (by omega)
theorem e53_aHr {u v : Nat → Int32} (h : E53 u v) (hP : nP v ≤ 6) (hW : nW v ≤ 6) : E53 (aHr u) (aHr v) := by
  unfold aHr
  rw [e53_nH h, e53_aForce h hW]
  exact e53_aHour h hP _
theorem e53_aHrs {u v : Nat → Int32} (h : E53 u v) {B : Nat} (hv : VA B v) : ∀ n, B + n < 2 ^ 30 → E53 (aHrs u n) (aHrs v n) := by
  intro n
  induction n with
  | zero => intro _; exact h
  | succ n ih =>
    intro hB
    have a := (VA_hrs hv n (by omega)).1
    exact e53_aHr (ih (by omega)) a.2.1 a.2.2.2.1
/-! the reference's 'then' over rows up to 53 -/
theorem then_hour (N : Nat) (hN : 2000 ≤ N) (g : GS) (ris u : Nat → Int32) {B : Nat} {w : Nat → Int32} (hv : VA B w) (he : E53 u w) (hB : B < 2 ^ 29) : ∃ ris' u', F_X8_hour N 7 (T7 g ris u) = some (T7 g ris' u') ∧ E53 u' (aHr w) := by
  obtain ⟨r, e⟩ := X8_hour7 N hN g ris u (VA_cong hv he) hB
  exact ⟨r, _, e, e53_aHr he hv.2.1 hv.2.2.2.1⟩
theorem then_hourBy (N : Nat) (hN : 2000 ≤ N) (g : GS) (ris u : Nat → Int32) (x : Int32) {B : Nat} {w : Nat → Int32} (hv : VA B w) (he : E53 u w) : ∃ ris' u', F_X8_hourBy N 7 x (T7 g ris u) = some (T7 g ris' u') ∧ E53 u' (aHour w x) := by
  obtain ⟨r, e⟩ := X8_hourBy7 N hN g ris u x (VA_cong hv he)
  exact ⟨r, _, e, e53_aHour he hv.2.1 x⟩
theorem then_hours (N : Nat) (hN : 2000 ≤ N) (g : GS) (ris u : Nat → Int32) {B : Nat} {w : Nat → Int32} (hv : VA B w) (he : E53 u w) (m : Nat) (hm : m ≤ 100) (hB : B < 2000) : ∃ ris' u', F_X8_hoursOf N 7 (nI m) (T7 g ris u) = some (T7 g ris' u') ∧ E53 u' (aHrs w m) := by
  obtain ⟨r, e⟩ := X8_hoursOf N hN g ris u (VA_cong hv he) m hm hB
  exact ⟨r, _, e, e53_aHrs he hv m (by omega)⟩
theorem then_lay (N : Nat) (hN : 2000 ≤ N) (g : GS) (ris u : Nat → Int32) : ∃ ris' u', F_X8_layThen N (T7 g ris u) = some (T7 g ris' u') ∧ E53 u' (g 11 5) := by
  have := X8_layThen N hN (T7 g ris u)
  refine ⟨ris, lay (g 11 5) u, ?_, lay_lo _ _⟩
  rw [this]
  show some (g2 (g2 (T7 g ris u) 11 8 ris) 11 7 (lay (g 11 5) u)) = _
  rw [T7_r, T7_u]
theorem T7_self (g : GS) : T7 g (g 11 8) (g 11 7) = g := by
  unfold T7
  rw [g2_self g 11 8, g2_self g 11 7]
theorem then_lay0 (N : Nat) (hN : 2000 ≤ N) (g : GS) : ∃ ris' u', F_X8_layThen N g = some (T7 g ris' u') ∧ E53 u' (g 11 5) := by
  have := then_lay N hN g (g 11 8) (g 11 7)
  rw [T7_self] at this
  exact this
/-- the draft, laid anew -/
theorem draft_lay (N : Nat) (hN : 2000 ≤ N) (g : GS) {B : Nat} {v : Nat → Int32} (hv : VA B v) (hk : RK (g 0 0) (g 12 0) (g 13 0) v) (sc fo pa : Nat → Int32) : ∃ sc' fo' pa', F_X4_become N 1 0 (D1 g sc fo pa) = some (D1 g sc' fo' pa') ∧ RK sc' fo' pa' v := draft0 N hN g hv hk (fun _ _ => rfl) sc fo pa
theorem draft_lay0 (N : Nat) (hN : 2000 ≤ N) (g : GS) {B : Nat} {v : Nat → Int32} (hv : VA B v) (hk : RK (g 0 0) (g 12 0) (g 13 0) v) : ∃ sc' fo' pa', F_X4_become N 1 0 g = some (D1 g sc' fo' pa') ∧ RK sc' fo' pa' v := by
  have := draft_lay N hN g hv hk (g 0 1) (g 12 1) (g 13 1)
  rw [D1_self] at this
  exact this
/-- the first of n numbers from i on -/
def fnd (c : Nat → Bool) : Nat → Nat → Option Nat
  | _, 0 => none
  | i, n + 1 => if c i then some i else fnd c (i + 1) n
def ans (o : Option Nat) : Int32 := match o with
  | none => -1000000
  | some k => nI k
/-- what a loop that ends with the first that fits gives -/
def lpr (o : Option Nat) (z : Int32) (g : GS) : (Int32 × GS) ⊕ (Int32 × GS) := match o with
  | none => .inr (z, g)
  | some k => .inl (nI k, g)
theorem bs2_lpr (o : Option Nat) (z : Int32) (g : GS) : bs2 (some (lpr o z g)) (fun r g => some (r, g)) (fun _ g => some ((-1000000 : Int32), g)) = some (ans o, g) := by
  cases o <;> rfl
