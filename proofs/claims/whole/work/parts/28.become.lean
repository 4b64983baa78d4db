theorem L_bec42 (N r s W : Nat) (hrs : r ≠ s) (hW : W ≤ 6) : ∀ (n i : Nat) (g : GS), g 0 r 3 = nI W → i ≤ W → W < i + n → L_X4_become_42 N r s n (nI i) g = some (nI W, g2 g 12 r (fun k => if i ≤ k ∧ k < W then g 12 s k else g 12 r k)) := by
  intro n
  induction n with
  | zero => intro i g h0 h1 h2; omega
  | succ n ih =>
    intro i g h0 h1 h2
    rw [L_X4_become_42, h0]
    by_cases h : i = W
    · subst h
      rw [if_pos (nI_le (Nat.le_refl i) (by omega))]
      congr 2
      rw [show (fun k => if i ≤ k ∧ k < i then g 12 s k else g 12 r k) = g 12 r from funext fun k => if_neg (by omega), g2_self]
    · rw [if_neg (nI_ge (by omega) (by omega)), ix_nI (by omega) (by decide), bd1_s, nI_1, ih (i + 1) _ (by rw [g3_g2, g2_kind _ _ _ (by decide)]; exact h0) (by omega) (by omega)]
      congr 2
      rw [g3_g2, g2_g2, g2_same, g2_row _ _ _ (fun q => hrs q.symm)]
      congr 1
      funext k
      unfold va_up
      by_cases q : k = i
      · subst q; rw [if_neg (by omega), if_pos rfl, if_pos (by omega)]
      · by_cases q2 : i ≤ k ∧ k < W
        · rw [if_pos (by omega), if_pos q2]
        · rw [if_neg (by omega), if_neg q, if_neg q2]
theorem L_bec70 (N r s P : Nat) (hrs : r ≠ s) (hP : P ≤ 6) : ∀ (n i : Nat) (g : GS), g 0 r 4 = nI P → i ≤ P → P < i + n → L_X4_become_70 N r s n (nI i) g = some (nI P, g2 g 13 r (fun k => if 7 * i ≤ k ∧ k < 7 * P then g 13 s k else g 13 r k)) := by
  intro n
  induction n with
  | zero => intro i g h0 h1 h2; omega
  | succ n ih =>
    intro i g h0 h1 h2
    rw [L_X4_become_70, h0]
    by_cases h : i = P
    · subst h
      rw [if_pos (nI_le (Nat.le_refl i) (by omega))]
      congr 2
      rw [show (fun k => if 7 * i ≤ k ∧ k < 7 * i then g 13 s k else g 13 r k) = g 13 r from funext fun k => if_neg (by omega), g2_self]
    · rw [if_neg (nI_ge (by omega) (by omega)), ix_nI (by omega) (by decide), bd1_s, X3_become N r i s i hrs, bd1_s, nI_1, ih (i + 1) _ (by rw [g2_kind _ _ _ (by decide)]; exact h0) (by omega) (by omega)]
      congr 2
      rw [g2_g2, g2_same, g2_row _ _ _ (fun q => hrs q.symm)]
      congr 1
      funext k
      by_cases q : 7 * i ≤ k ∧ k < 7 * P
      · rw [if_pos q]
        by_cases q2 : k < 7 * i + 7
        · rw [if_neg (by omega), if_pos (by omega), show 7 * i + (k - 7 * i) = k by omega]
        · rw [if_pos (by omega)]
      · rw [if_neg q, if_neg (by omega), if_neg (by omega)]
def bSc (g : GS) (r s : Nat) : Nat → Int32 := fun k => if k < 5 then g 0 s k else g 0 r k
def bFo (g : GS) (r s W : Nat) : Nat → Int32 := fun k => if 0 ≤ k ∧ k < W then g 12 s k else g 12 r k
def bPa (g : GS) (r s P : Nat) : Nat → Int32 := fun k => if 7 * 0 ≤ k ∧ k < 7 * P then g 13 s k else g 13 r k
theorem X4_become' (N r s W P : Nat) (hN : 2000 ≤ N) (hrs : r ≠ s) (g : GS) (hW : W ≤ 6) (hP : P ≤ 6) (e3 : g 0 s 3 = nI W) (e4 : g 0 s 4 = nI P) : F_X4_become N r s g = some (g2 (g2 (g2 g 0 r (bSc g r s)) 12 r (bFo g r s W)) 13 r (bPa g r s P)) := by
  have hsr : s ≠ r := fun q => hrs q.symm
  unfold F_X4_become
  simp only [g3_g2, g2_g2, g2_same, g2_row _ _ _ hsr]
  have es : va_up (va_up (va_up (va_up (va_up (g 0 r) 0 (g 0 s 0)) 1 (g 0 s 1)) 2 (g 0 s 2)) 3 (g 0 s 3)) 4 (g 0 s 4) = bSc g r s := by
    funext k
    unfold va_up bSc
    by_cases q : k < 5
    · rw [if_pos q]
      rcases (show k = 0 ∨ k = 1 ∨ k = 2 ∨ k = 3 ∨ k = 4 by omega) with rfl | rfl | rfl | rfl | rfl <;> rfl
    · rw [if_neg q, if_neg (by omega), if_neg (by omega), if_neg (by omega), if_neg (by omega), if_neg (by omega)]
  rw [es]
  have a := L_bec42 N r s W hrs hW N 0 (g2 g 0 r (bSc g r s)) (by rw [g2_same]; exact e3) (by omega) (by omega)
  rw [nI_0, g2_kind g _ _ (show 12 ≠ 0 by decide)] at a
  rw [a, bd2_s]
  have b := L_bec70 N r s P hrs hP N 0 (g2 (g2 g 0 r (bSc g r s)) 12 r (bFo g r s W)) (by rw [g2_kind _ _ _ (show 0 ≠ 12 by decide), g2_same]; exact e4) (by omega) (by omega)
  rw [nI_0, g2_kind _ _ _ (show 13 ≠ 12 by decide), g2_kind g _ _ (show 13 ≠ 0 by decide)] at b
  show bd2 (L_X4_become_70 N r s N 0 (g2 (g2 g 0 r (bSc g r s)) 12 r (bFo g r s W))) _ = _
  rw [b, bd2_s]
  rfl
theorem RK_bec (g : GS) (r s : Nat) {B : Nat} {v : Nat → Int32} (hv : VA B v) (hk : RK (g 0 s) (g 12 s) (g 13 s) v) : RK (bSc g r s) (bFo g r s (nW v)) (bPa g r s (nP v)) v := by
  obtain ⟨a, b, c, d, e, f⟩ := hk
  have hP := hv.2.1
  refine ⟨a, b, c, d, fun k hk => ?_, fun i hi => ?_⟩
  · unfold bFo
    rw [if_pos ⟨Nat.zero_le k, hk⟩]
    exact e k hk
  · obtain ⟨f1, f2⟩ := f i hi
    refine ⟨fun x hx => ?_, ?_⟩
    · unfold bPa
      rw [if_pos (by omega)]
      exact f1 x hx
    · unfold bPa
      rw [if_pos (by omega)]
      exact f2
theorem X4_become (N r s : Nat) (hN : 2000 ≤ N) (hrs : r ≠ s) (g : GS) {B : Nat} {v : Nat → Int32} (hv : VA B v) (hk : RK (g 0 s) (g 12 s) (g 13 s) v) : ∃ sc fo pa, F_X4_become N r s g = some (g2 (g2 (g2 g 0 r sc) 12 r fo) 13 r pa) ∧ RK sc fo pa v :=
  ⟨_, _, _, X4_become' N r s (nW v) (nP v) hN hrs g hv.2.2.2.1 hv.2.1 (hk.2.1.trans hv.2.2.1) (hk.1.trans hv.1), RK_bec g r s hv hk⟩
/-- the same up to 53 -/
theorem RK_cong {sc fo pa v u : Nat → Int32} (h : RK sc fo pa v) (hP : nP v ≤ 6) (hW : nW v ≤ 6) (e : ∀ k, k < 53 → u k = v k) : RK sc fo pa u := by
  obtain ⟨a, b, c, d, f, p⟩ := h
  have eP : nP u = nP v := nP_eq (e 0 (by omega))
  have eW : nW u = nW v := nW_eq (e 1 (by omega))
  refine ⟨by rw [e 0 (by omega)]; exact a, by rw [e 1 (by omega)]; exact b, by rw [e 4 (by omega)]; exact c, by rw [eP, e 2 (by omega), e 3 (by omega)]; exact d, ?_, ?_⟩
  · rw [eW]
    intro k hk
    rw [e _ (by omega)]
    exact f k hk
  · rw [eP]
    intro i hi
    obtain ⟨p1, p2⟩ := p i hi
    refine ⟨fun k hk => ?_, ?_⟩
    · rw [e _ (by omega)]; exact p1 k hk
    · rw [e _ (by omega), e _ (by omega)]; exact p2
theorem VP_cong {p q : Nat → Int32} (h : VP p) (e : ∀ f, f < 7 → q f = p f) : VP q := by
  obtain ⟨a, b, c, d, f, i⟩ := h
  rw [← e 0 (by omega)] at a
  rw [← e 1 (by omega)] at b
  rw [← e 2 (by omega)] at c
  rw [← e 3 (by omega)] at d f i
  rw [← e 4 (by omega), ← e 5 (by omega)] at f
  rw [← e 6 (by omega)] at i
  exact ⟨a, b, c, d, f, i⟩
theorem VA_cong {B : Nat} {v u : Nat → Int32} (h : VA B v) (e : ∀ k, k < 53 → u k = v k) : VA B u := by
  refine VA_papers h (fun k hk => e k (by omega)) (fun i hi => VP_cong (VA_paper h hi) (fun f hf => e _ (by have := h.2.1; omega)))
theorem lay_lo (v old : Nat → Int32) : ∀ k, k < 53 → lay v old k = v k := fun k hk => if_pos hk
/-- the draft is laid: it tells what the reference's 'then' is laid to -/
theorem draft0 (N : Nat) (hN : 2000 ≤ N) (g : GS) {B : Nat} {v u : Nat → Int32} (hv : VA B v) (hk : RK (g 0 0) (g 12 0) (g 13 0) v) (e : ∀ k, k < 53 → u k = v k) (sc fo pa : Nat → Int32) : ∃ sc' fo' pa', F_X4_become N 1 0 (D1 g sc fo pa) = some (D1 g sc' fo' pa') ∧ RK sc' fo' pa' u := by
  obtain ⟨sc', fo', pa', e1, k1⟩ := X4_become N 1 0 hN (by decide) (D1 g sc fo pa) hv hk
  refine ⟨sc', fo', pa', ?_, RK_cong k1 hv.2.1 hv.2.2.2.1 e⟩
  rw [e1, D1_s, D1_f, D1_p]
theorem draftHour (N : Nat) (hN : 2000 ≤ N) (g : GS) {B : Nat} {u : Nat → Int32} {sc fo pa : Nat → Int32} (hv : VA B u) (hk : RK sc fo pa u) {wn : Nat} (hw : wn ≤ 99) : ∃ sc' pa', F_X4_passHourIn N 1 (nI wn) (D1 g sc fo pa) = some (D1 g sc' fo pa') ∧ RK sc' fo pa' (aHour u (nI wn)) := by
  obtain ⟨sc', pa', e, k⟩ := X4_passHourIn N 1 hN (D1 g sc fo pa) hv hk hw
  exact ⟨sc', pa', by rw [e, D1_p, D1_s], k⟩
/-- the draft's own HOUR -/
theorem draftHr (N : Nat) (hN : 2000 ≤ N) (g : GS) {B : Nat} {u : Nat → Int32} {sc fo pa : Nat → Int32} (hv : VA B u) (hk : RK sc fo pa u) (hB : B < 2 ^ 29) {C : Type} (f : GS → Option C) : ∃ sc' pa', bd2 (F_X4_forceAfter N 1 0 (D1 g sc fo pa)) (fun x g' => bd1 (F_X4_passHourIn N 1 x g') f) = f (D1 g sc' fo pa') ∧ RK sc' fo pa' (aHr u) := by
  rw [X4_force0 N 1 (D1 g sc fo pa) hv hk hB, bd2_s]
  obtain ⟨n, hn, e⟩ := aForce_n hv (nH u)
  obtain ⟨sc', pa', e1, k⟩ := draftHour N hN g hv hk (wn := n) (by omega)
  rw [← e] at e1 k
  exact ⟨sc', pa', by rw [e1, bd1_s], k⟩
theorem L_passDraft (N : Nat) (hN : 2000 ≤ N) (g : GS) (u : Nat → Int32) {B : Nat} (hv : VA B u) (m : Nat) (hm : B + m < 2 ^ 29) : ∀ (n i : Nat) (sc fo pa : Nat → Int32), RK sc fo pa (aHrs u i) → i ≤ m → m < i + n → ∃ sc' pa', L_X2_passDraft_2 N (nI m) n (nI i) (D1 g sc fo pa) = some (nI m, D1 g sc' fo pa') ∧ RK sc' fo pa' (aHrs u m) := by
  intro n
  induction n with
  | zero => intro i sc fo pa hk h1 h2; omega
  | succ n ih =>
    intro i sc fo pa hk h1 h2
    rw [L_X2_passDraft_2]
    by_cases h : i = m
    · subst h
      rw [if_pos (nI_le (Nat.le_refl i) (by omega))]
      exact ⟨sc, pa, rfl, hk⟩
    · rw [if_neg (nI_ge (by omega) (by omega)), nI_1]
      obtain ⟨sc', pa', e, k⟩ := draftHr N hN g (VA_hrs hv i (by omega)).1 hk (by omega) (fun gv6 => L_X2_passDraft_2 N (nI m) n (nI (i + 1)) gv6)
      rw [e]
      exact ih (i + 1) sc' fo pa' k (by omega) (by omega)
theorem X2_passDraft (N : Nat) (hN : 2000 ≤ N) (g : GS) (u : Nat → Int32) {B : Nat} (hv : VA B u) (m : Nat) (hm : m ≤ 100) (hB : B < 2000) (sc fo pa : Nat → Int32) (hk : RK sc fo pa u) : ∃ sc' pa', F_X2_passDraft N (nI m) (D1 g sc fo pa) = some (D1 g sc' fo pa') ∧ RK sc' fo pa' (aHrs u m) := by
  unfold F_X2_passDraft
  obtain ⟨sc', pa', e, k⟩ := L_passDraft N hN g u hv m (by omega) N 0 sc fo pa hk (by omega) (by omega)
  rw [nI_0] at e
  exact ⟨sc', pa', by rw [e, bd2_s], k⟩
theorem X2_draftAhead (N : Nat) (hN : 2000 ≤ N) (g : GS) {B : Nat} {v u : Nat → Int32} (hv : VA B v) (hk : RK (g 0 0) (g 12 0) (g 13 0) v) (e : ∀ k, k < 53 → u k = v k) (m : Nat) (hm : m ≤ 100) (hB : B < 2000) : ∃ sc' fo' pa', F_X2_draftAhead N (nI m) g = some (D1 g sc' fo' pa') ∧ RK sc' fo' pa' (aHrs u m) := by
  unfold F_X2_draftAhead
  obtain ⟨sc, fo, pa, e1, k1⟩ := draft0 N hN g hv hk e (g 0 1) (g 12 1) (g 13 1)
  rw [D1_self] at e1
  obtain ⟨sc', pa', e2, k2⟩ := X2_passDraft N hN g u (VA_cong hv e) m hm hB sc fo pa k1
  exact ⟨sc', fo, pa', by rw [e1, bd1_s, e2, bd1_s], k2⟩
