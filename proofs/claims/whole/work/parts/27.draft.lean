/-! ===== the draft of the class, the 'then' of the reference ===== -/
def D1 (g : GS) (sc fo pa : Nat → Int32) : GS := g2 (g2 (g2 g 0 1 sc) 12 1 fo) 13 1 pa
def T7 (g : GS) (ris u : Nat → Int32) : GS := g2 (g2 g 11 8 ris) 11 7 u
theorem g2_comm (g : GS) {c j d k : Nat} (f h : Nat → Int32) (hn : c ≠ d ∨ j ≠ k) : g2 (g2 g c j f) d k h = g2 (g2 g d k h) c j f := by
  funext a b
  unfold g2 va_up
  by_cases q : c = d
  · subst q
    have hj : j ≠ k := by rcases hn with h | h; exact absurd rfl h; exact h
    by_cases qa : a = c
    · subst qa
      by_cases qk : b = k
      · subst qk
        simp [Ne.symm hj]
      · simp [qk]
    · simp [qa]
  · by_cases qa : a = c
    · subst qa
      have : ¬ a = d := q
      simp [this]
    · by_cases qd : a = d
      · subst qd
        simp [qa]
      · simp [qa, qd]
theorem D1_0 (g : GS) (sc fo pa : Nat → Int32) : D1 g sc fo pa 0 1 = sc := rfl
theorem D1_12 (g : GS) (sc fo pa : Nat → Int32) : D1 g sc fo pa 12 1 = fo := rfl
theorem D1_13 (g : GS) (sc fo pa : Nat → Int32) : D1 g sc fo pa 13 1 = pa := rfl
theorem D1_at0 (g : GS) (sc fo pa : Nat → Int32) {j : Nat} (h : j ≠ 1) : D1 g sc fo pa 0 j = g 0 j := by
  show va_up (g 0) 1 sc j = _
  exact up_ne _ _ h
theorem D1_at12 (g : GS) (sc fo pa : Nat → Int32) {j : Nat} (h : j ≠ 1) : D1 g sc fo pa 12 j = g 12 j := by
  show va_up (g 12) 1 fo j = _
  exact up_ne _ _ h
theorem D1_at13 (g : GS) (sc fo pa : Nat → Int32) {j : Nat} (h : j ≠ 1) : D1 g sc fo pa 13 j = g 13 j := by
  show va_up (g 13) 1 pa j = _
  exact up_ne _ _ h
theorem D1_p (g : GS) (sc fo pa pa' : Nat → Int32) : g2 (D1 g sc fo pa) 13 1 pa' = D1 g sc fo pa' := by
  unfold D1
  rw [g2_g2]
theorem D1_f (g : GS) (sc fo pa fo' : Nat → Int32) : g2 (D1 g sc fo pa) 12 1 fo' = D1 g sc fo' pa := by
  unfold D1
  rw [g2_comm _ _ _ (Or.inl (by decide)), g2_g2]
theorem D1_s (g : GS) (sc fo pa sc' : Nat → Int32) : g2 (D1 g sc fo pa) 0 1 sc' = D1 g sc' fo pa := by
  unfold D1
  rw [g2_comm _ _ _ (Or.inl (by decide)), g2_comm (g2 g 0 1 sc) _ _ (Or.inl (by decide)), g2_g2]
theorem D1_self (g : GS) : D1 g (g 0 1) (g 12 1) (g 13 1) = g := by
  unfold D1
  rw [g2_self g 0 1, g2_self g 12 1, g2_self g 13 1]
theorem RA_cong {a : Nat → Int32} {k0 k12 k13 l0 l12 l13 : Nat → Nat → Int32} {acts : Int32} {was : Nat → Int32} (h : RA a k0 k12 k13 acts was) (e0 : ∀ j, 2 ≤ j → l0 j = k0 j) (e12 : ∀ j, 2 ≤ j → l12 j = k12 j) (e13 : ∀ j, 2 ≤ j → l13 j = k13 j) : RA a l0 l12 l13 acts was := by
  obtain ⟨l, ⟨n, h1, h2, h3, h4, h5⟩, hM, hV⟩ := h
  refine ⟨l, ⟨n, h1, h2, h3, h4, fun i v hi => ?_⟩, hM, hV⟩
  rw [e0 _ (by omega), e12 _ (by omega), e13 _ (by omega)]
  exact h5 i v hi
theorem RI_cong {k0 k12 k13 l0 l12 l13 : Nat → Nat → Int32} {isK kept : Nat → Int32} (h : RI k0 k12 k13 isK kept) (e0 : ∀ j, 26 ≤ j → l0 j = k0 j) (e12 : ∀ j, 26 ≤ j → l12 j = k12 j) (e13 : ∀ j, 26 ≤ j → l13 j = k13 j) : RI l0 l12 l13 isK kept := by
  intro j hj
  rw [e0 _ (by omega), e12 _ (by omega), e13 _ (by omega)]
  exact h j hj
theorem Rel_D1 {g : GS} (h : Rel g) (sc fo pa : Nat → Int32) : Rel (D1 g sc fo pa) := by
  obtain ⟨a, b, c, d, e, f, i, j, k⟩ := h
  exact ⟨a, b, c, d, e, RA_cong f (fun j hj => D1_at0 g sc fo pa (by omega)) (fun j hj => D1_at12 g sc fo pa (by omega)) (fun j hj => D1_at13 g sc fo pa (by omega)), RI_cong i (fun j hj => D1_at0 g sc fo pa (by omega)) (fun j hj => D1_at12 g sc fo pa (by omega)) (fun j hj => D1_at13 g sc fo pa (by omega)), j, k⟩
theorem Rel_T7 {g : GS} (h : Rel g) (ris u : Nat → Int32) : Rel (T7 g ris u) := h
theorem Rel_th {g : GS} (h : Rel g) (x : Int32) : Rel (g3 g 10 0 0 x) := h
/-- a foretelling: the class's draft, the reference's 'then' -/
theorem Sim.draft {K M : GS → Option (Int32 × GS)} {g : GS} (h : Rel g) (r : Int32) (sc fo pa ris u : Nat → Int32) (h1 : K g = some (r, D1 g sc fo pa)) (h2 : M (D1 g sc fo pa) = some (r, T7 (g3 (D1 g sc fo pa) 10 0 0 0) ris u)) : Sim K M g :=
  ⟨r, _, _, h1, h2, Rel_T7 (Rel_th (Rel_D1 h sc fo pa) 0) ris u⟩
/-- nothing but 'thrown' changes -/
theorem Sim.read {K M : GS → Option (Int32 × GS)} {g : GS} (h : Rel g) (r : Int32) (h1 : K g = some (r, g)) (h2 : M g = some (r, g3 g 10 0 0 0)) : Sim K M g := ⟨r, _, _, h1, h2, Rel_th h 0⟩
def lay (v old : Nat → Int32) : Nat → Int32 := fun k => if k < 53 then v k else old k
theorem L_lay (N : Nat) : ∀ (n i : Nat) (g : GS), i ≤ 53 → 53 < i + n → L_X8_layThen_2 N n (nI i) g = some (nI 53, g2 g 11 7 (fun k => if i ≤ k ∧ k < 53 then g 11 5 k else g 11 7 k)) := by
  intro n
  induction n with
  | zero => intro i g h1 h2; omega
  | succ n ih =>
    intro i g h1 h2
    rw [L_X8_layThen_2]
    by_cases h : i = 53
    · subst h
      rw [if_pos (show (53 : Int32) ≤ nI 53 by decide)]
      congr 2
      rw [show (fun k => if 53 ≤ k ∧ k < 53 then g 11 5 k else g 11 7 k) = g 11 7 from funext fun k => if_neg (by omega), g2_self]
    · rw [if_neg (show ¬ (53 : Int32) ≤ nI i from nI_ge (b := 53) (by omega) (by omega)), ix_nI (by omega) (by omega), bd1_s, nI_1, ih (i + 1) _ (by omega) (by omega)]
      congr 2
      rw [g3_g2, g2_g2, g2_same]
      congr 1
      funext k
      rw [g2_row _ _ _ (show 5 ≠ 7 by decide)]
      unfold va_up
      by_cases q : k = i
      · subst q; rw [if_neg (by omega), if_pos rfl, if_pos (by omega)]
      · by_cases q2 : i ≤ k ∧ k < 53
        · rw [if_pos (by omega), if_pos q2]
        · rw [if_neg (by omega), if_neg q, if_neg q2]
theorem X8_layThen (N : Nat) (hN : 2000 ≤ N) (g : GS) : F_X8_layThen N g = some (T7 g (g 11 8) (lay (g 11 5) (g 11 7))) := by
  unfold F_X8_layThen
  have := L_lay N N 0 g (by omega) (by omega)
  rw [nI_0] at this
  rw [this, bd2_s]
  unfold T7
  rw [g2_self]
  congr 2
  funext k
  unfold lay
  by_cases q : k < 53
  · rw [if_pos ⟨Nat.zero_le k, q⟩, if_pos q]
  · rw [if_neg (fun z => q z.2), if_neg q]
theorem T7_7 (g : GS) (ris u : Nat → Int32) : T7 g ris u 11 7 = u := rfl
theorem T7_8 (g : GS) (ris u : Nat → Int32) : T7 g ris u 11 8 = ris := rfl
theorem T7_u (g : GS) (ris u u' : Nat → Int32) : g2 (T7 g ris u) 11 7 u' = T7 g ris u' := by
  unfold T7
  rw [g2_g2]
theorem T7_r (g : GS) (ris u ris' : Nat → Int32) : g2 (T7 g ris u) 11 8 ris' = T7 g ris' u := by
  unfold T7
  rw [g2_comm _ _ _ (Or.inr (by decide)), g2_g2]
theorem X8_hour7 (N : Nat) (hN : 2000 ≤ N) (g : GS) (ris u : Nat → Int32) {B : Nat} (hv : VA B u) (hB : B < 2 ^ 29) : ∃ ris', F_X8_hour N 7 (T7 g ris u) = some (T7 g ris' (aHr u)) := by
  have := X8_hour N 7 hN rfl (by decide) (T7 g ris u) hv.1 hv.2.1 hv.2.2.1 hv.2.2.2.1 hv.2.2.2.2.1 (Nat.lt_of_le_of_lt hv.2.2.2.2.2.1 (by omega))
  rw [T7_r, T7_u] at this
  exact ⟨_, this⟩
theorem X8_hourBy7 (N : Nat) (hN : 2000 ≤ N) (g : GS) (ris u : Nat → Int32) (w : Int32) {B : Nat} (hv : VA B u) : ∃ ris', F_X8_hourBy N 7 w (T7 g ris u) = some (T7 g ris' (aHour u w)) := by
  have := X8_hourBy N 7 hN rfl (by decide) w (T7 g ris u) hv.1 hv.2.1
  rw [T7_r, T7_u] at this
  exact ⟨_, this⟩
theorem L_hoursOf (N : Nat) (hN : 2000 ≤ N) (g : GS) (v : Nat → Int32) {B : Nat} (hv : VA B v) (m : Nat) (hm : B + m < 2 ^ 29) : ∀ (n i : Nat) (ris : Nat → Int32), i ≤ m → m < i + n → ∃ ris', L_X8_hoursOf_2 N 7 (nI m) n (nI i) (T7 g ris (aHrs v i)) = some (nI m, T7 g ris' (aHrs v m)) := by
  intro n
  induction n with
  | zero => intro i ris h1 h2; omega
  | succ n ih =>
    intro i ris h1 h2
    rw [L_X8_hoursOf_2]
    by_cases h : i = m
    · subst h
      rw [if_pos (nI_le (Nat.le_refl i) (by omega))]
      exact ⟨ris, rfl⟩
    · rw [if_neg (nI_ge (by omega) (by omega))]
      obtain ⟨r1, e1⟩ := X8_hour7 N hN g ris (aHrs v i) (VA_hrs hv i (by omega)).1 (by omega)
      rw [e1, bd1_s, nI_1]
      exact ih (i + 1) r1 (by omega) (by omega)
theorem X8_hoursOf (N : Nat) (hN : 2000 ≤ N) (g : GS) (ris v : Nat → Int32) {B : Nat} (hv : VA B v) (m : Nat) (hm : m ≤ 100) (hB : B < 2000) : ∃ ris', F_X8_hoursOf N 7 (nI m) (T7 g ris v) = some (T7 g ris' (aHrs v m)) := by
  unfold F_X8_hoursOf
  obtain ⟨r, e⟩ := L_hoursOf N hN g v hv m (by omega) N 0 ris (by omega) (by omega)
  rw [nI_0] at e
  exact ⟨r, by rw [show T7 g ris v = T7 g ris (aHrs v 0) from rfl, e, bd2_s]⟩
/-! the class's copy of a ROOF -/
theorem X3_become (N r i s k : Nat) (hrs : r ≠ s) (g : GS) : F_X3_become N r i s k g = some (g2 g 13 r (fun x => if 7 * i ≤ x ∧ x < 7 * i + 7 then g 13 s (7 * k + (x - 7 * i)) else g 13 r x)) := by
  unfold F_X3_become
  have hsr : s ≠ r := fun q => hrs q.symm
  simp only [g3_g2, g2_g2, g2_same, g2_row _ _ _ hsr]
  congr 2
  funext x
  unfold va_up
  by_cases q : 7 * i ≤ x ∧ x < 7 * i + 7
  · rw [if_pos q]
    obtain ⟨y, hy, rfl⟩ : ∃ y, y < 7 ∧ x = 7 * i + y := ⟨x - 7 * i, by omega, by omega⟩
    rcases (show y = 0 ∨ y = 1 ∨ y = 2 ∨ y = 3 ∨ y = 4 ∨ y = 5 ∨ y = 6 by omega) with rfl | rfl | rfl | rfl | rfl | rfl | rfl <;> simp
  · rw [if_neg q, if_neg (by omega), if_neg (by omega), if_neg (by omega), if_neg (by omega), if_neg (by omega), if_neg (by omega), if_neg (by omega)]
