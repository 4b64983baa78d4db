/-! ===== the reference's tokens ===== -/
def MZ (g : GS) (u r : Nat → Int32) : GS := g2 (g2 g 11 6 u) 10 0 r
theorem MZ_10 (g : GS) (u r : Nat → Int32) : MZ g u r 10 0 = r := rfl
theorem MZ_6 (g : GS) (u r : Nat → Int32) : MZ g u r 11 6 = u := rfl
theorem MZ_11 (g : GS) (u r : Nat → Int32) : MZ g u r 11 11 = g 11 11 := rfl
theorem MZ_g (g : GS) (u r : Nat → Int32) (i : Nat) (v : Int32) : g3 (MZ g u r) 10 0 i v = MZ g u (va_up r i v) := by
  unfold MZ
  rw [g3_g2, g2_same, g2_g2]
theorem MZ_u (g : GS) (u r : Nat → Int32) (i : Nat) (v : Int32) : g3 (MZ g u r) 11 6 i v = MZ g (va_up u i v) r := by
  unfold MZ
  rw [g3_g2]
  show g2 (g2 (g2 g 11 6 u) 10 0 r) 11 6 (va_up u i v) = _
  rw [g2_comm _ _ _ (Or.inl (by decide)), g2_g2]
def Tk (z : Nat) (B : Nat → Int32) (c : Nat) (r : Nat → Int32) : Prop := (r 15 = 1 ↔ z ≤ c) ∧ (r 15 = 2 ↔ wi (B c) 97 122 = 1) ∧ (r 15 = 2 → r 16 = B c ∧ r 13 = nI (c + 1)) ∧ (r 15 = 4 ↔ B c = 44 ∨ B c = 59) ∧ (r 15 = 4 → r 16 = B c ∧ r 13 = nI (c + 1)) ∧ (r 15 = 3 ↔ fig B c = 1 ∨ fig B c = 2) ∧ (r 15 = 3 → r 16 = nv B c ∧ r 13 = nI (c + fig B c))
def MI (z : Nat) (B : Nat → Int32) (c : Nat) (r0 r : Nat → Int32) : Prop := c ≤ z ∧ r 12 = nI z ∧ r 14 = nI c ∧ r 17 = 0 ∧ Tk z B c r ∧ ∀ i, i < 13 ∨ 18 < i → r i = r0 i
def FT (n c : Nat) (r0 r : Nat → Int32) : Prop := (n = 1 ∨ n = 2 ∨ n = 3) ∧ r 17 = nI n ∧ r 18 = nI c ∧ ∀ i, i < 13 ∨ 18 < i → r i = r0 i
theorem wi_d {x : Int32} (h : dgt x = true) : wi x 48 57 = 1 := by simpa [dgt] using h
theorem wi_nd {x : Int32} (h : ¬ dgt x = true) : wi x 48 57 = 0 := by
  rcases wi_01 x 48 57 with t | t
  · exact t
  · exact absurd (by simpa [dgt] using t) h
set_option maxRecDepth 100000 in
theorem cls : ∀ n, n < 256 → (wi (nI n) 97 122 = 1 → wi (nI n) 48 57 = 0 ∧ ¬ nI n = 44 ∧ ¬ nI n = 59) ∧ (wi (nI n) 48 57 = 1 → wi (nI n) 97 122 = 0 ∧ ¬ nI n = 44 ∧ ¬ nI n = 59) ∧ (nI n = 44 ∨ nI n = 59 → wi (nI n) 97 122 = 0 ∧ wi (nI n) 48 57 = 0) := by decide +kernel
/-- the rest of a number -/
theorem L_tok (N : Nat) (g : GS) (u : Nat → Int32) {z : Nat} (hz : z ≤ 100) (s : Nat) : ∀ (n c : Nat) (r : Nat → Int32), r 12 = nI z → r 13 = nI c → r 14 = nI s → s + 2 ≤ c → c ≤ z → z < c + n → ∃ e r', L_X8_nextToken_165 N n (MZ g u r) = some (MZ g u r') ∧ c ≤ e ∧ e ≤ z ∧ (dgt (BT z (g 11 11) c) = false → e = c) ∧ (dgt (BT z (g 11 11) c) = true → c < e) ∧ r' 13 = nI e ∧ ∀ i, i ≠ 13 → r' i = r i := by
  intro n
  induction n with
  | zero => intro c r _ _ _ h1 h2 h3; omega
  | succ n ih =>
    intro c r h12 h13 h14 h1 h2 h3
    rw [L_X8_nextToken_165]
    simp only [MZ_10, MZ_g, MZ_11, h12, h13, h14]
    by_cases h : c = z
    · subst h
      rw [if_pos (nI_le (Nat.le_refl c) (by omega))]
      have hd : dgt (BT c (g 11 11) c) = false := by unfold BT; rw [if_neg (by omega)]; decide
      exact ⟨c, r, rfl, Nat.le_refl c, Nat.le_refl c, fun _ => rfl, fun q => by rw [hd] at q; exact absurd q (by decide), h13, fun _ _ => rfl⟩
    · have hb : BT z (g 11 11) c = g 11 11 c := if_pos (by omega)
      rw [if_neg (nI_ge (by omega) (by omega)), ix_nI (by omega) (by decide), bd1_s, X8_inL N _ 48 57 (by decide) (by decide), bd2_s]
      by_cases q : dgt (BT z (g 11 11) c) = true
      · have q' := wi_d q
        rw [hb] at q'
        simp only [MZ_10, MZ_g, MZ_11, h12, h13, h14, q']
        rw [if_neg (by decide), pk_sub (by omega), if_pos (show (2 : Int32) ≤ nI (c - s) from nI_le (a := 2) (by omega) (by omega)), nI_1, up_self]
        obtain ⟨e, r', e1, e2, e3, e4, e5, e6, e7⟩ := ih (c + 1) (va_up r 13 (nI (c + 1))) (by simpa [va_up] using h12) (by simp [va_up]) (by simpa [va_up] using h14) (by omega) (by omega) (by omega)
        refine ⟨e, r', e1, by omega, e3, fun t => by rw [q] at t; exact absurd t (by decide), fun _ => by omega, e6, fun i hi => ?_⟩
        rw [e7 i hi, up_ne _ _ hi]
      · have q' := wi_nd q
        rw [hb] at q'
        rw [q', if_pos rfl]
        exact ⟨c, r, rfl, Nat.le_refl c, h2, fun _ => rfl, fun t => absurd t q, h13, fun _ _ => rfl⟩
theorem X8_next (N : Nat) (hN : 2000 ≤ N) (g : GS) (u : Nat → Int32) {z : Nat} (hz : okB z (g 11 11)) (c : Nat) (r : Nat → Int32) (h12 : r 12 = nI z) (h13 : r 13 = nI c) (h17 : r 17 = 0) (hc : c ≤ z) : ∃ r', F_X8_nextToken N (MZ g u r) = some (MZ g u r') ∧ MI z (BT z (g 11 11)) c r r' := by
  have h100 := hz.1
  unfold F_X8_nextToken
  simp only [MZ_10, MZ_g, MZ_11, h12, h13]
  by_cases h : c = z
  · subst h
    rw [if_pos (nI_le (Nat.le_refl c) (by omega)), if_pos rfl, if_pos (nI_le (Nat.le_refl c) (by omega)), if_neg (by decide)]
    have hb : BT c (g 11 11) c = -1 := if_neg (by omega)
    have hf : fig (BT c (g 11 11)) c = 0 := by unfold fig; rw [hb]; rfl
    refine ⟨_, rfl, Nat.le_refl c, by simpa [va_up] using h12, by simp [va_up], by simpa [va_up] using h17, ⟨?_, ?_, ?_, ?_, ?_, ?_, ?_⟩, fun i hi => ?_⟩
    · simp [va_up]
    · rw [hb]; simp [va_up]; decide
    · simp [va_up]
    · rw [hb]; simp [va_up]
    · simp [va_up]
    · rw [hf]; simp [va_up]
    · simp [va_up]
    · rw [up_ne _ _ (by omega), up_ne _ _ (by omega), up_ne _ _ (by omega), up_ne _ _ (by omega)]
  · have hb : BT z (g 11 11) c = g 11 11 c := if_pos (by omega)
    have hlt : ¬ nI z ≤ nI c := nI_ge (by omega) (by omega)
    have hne : ¬ nI c = nI z := fun q => h ((nI_eq (by omega) (by omega)).mp q)
    rw [if_neg hlt, ix_nI (by omega) (by decide), bd1_s, if_neg hne, X8_inL N _ 97 122 (by decide) (by decide), bd2_s]
    rw [← hb]
    obtain ⟨bn, hbn, ebn⟩ := hz.2 c (by omega)
    have hcl := cls bn hbn
    rw [← ebn, ← hb] at hcl
    generalize hx : BT z (g 11 11) c = x at hcl
    have fin : ∀ (t v : Int32), (t = 2 ∨ t = 4 ∨ t = 0) → ¬ dgt x = true → (t = 2 ↔ wi x 97 122 = 1) → (t = 4 ↔ x = 44 ∨ x = 59) → MI z (BT z (g 11 11)) c r (va_up (va_up (va_up (va_up r 14 (nI c)) 16 x) 15 t) 13 (nI (c + 1))) := by
      intro t v ht nd e2 e4
      have hf : fig (BT z (g 11 11)) c = 0 := by unfold fig; rw [hx, if_neg nd]
      refine ⟨hc, by simpa [va_up] using h12, by simp [va_up], by simpa [va_up] using h17, ⟨?_, ?_, ?_, ?_, ?_, ?_, ?_⟩, fun i hi => ?_⟩
      · have : ¬ t = 1 := by rcases ht with q | q | q <;> rw [q] <;> decide
        refine ⟨fun q => absurd (by simpa [va_up] using q) this, fun q => by omega⟩
      · rw [hx]; simpa [va_up] using e2
      · rw [hx]; simp [va_up]
      · rw [hx]; simpa [va_up] using e4
      · rw [hx]; simp [va_up]
      · have : ¬ t = 3 := by rcases ht with q | q | q <;> rw [q] <;> decide
        rw [hf]
        refine ⟨fun q => absurd (by simpa [va_up] using q) this, fun q => by omega⟩
      · have : ¬ t = 3 := by rcases ht with q | q | q <;> rw [q] <;> decide
        exact fun q => absurd (by simpa [va_up] using q) this
      · rw [up_ne _ _ (by omega), up_ne _ _ (by omega), up_ne _ _ (by omega), up_ne _ _ (by omega)]
    have r12 : va_up (va_up r 14 (nI c)) 16 x 12 = nI z := by simpa [va_up] using h12
    have r13 : va_up (va_up r 14 (nI c)) 16 x 13 = nI c := by simpa [va_up] using h13
    have r16 : va_up (va_up r 14 (nI c)) 16 x 16 = x := up_same _ _ _
    rcases wi_01 x 97 122 with w | w
    case inr =>
      have nd : ¬ dgt x = true := fun t => by have := wi_d t; rw [(hcl.1 w).1] at this; exact absurd this (by decide)
      rw [w, if_neg (by decide)]
      simp only [MZ_10, MZ_g, MZ_11]
      rw [r12, r13, if_neg hlt, if_neg (by decide), nI_1]
      exact ⟨_, rfl, fin 2 0 (Or.inl rfl) nd ⟨fun _ => w, fun _ => rfl⟩ ⟨fun q => absurd q (by decide), fun q => by rcases q with q | q; exact absurd q (hcl.1 w).2.1; exact absurd q (hcl.1 w).2.2⟩⟩
    case inl =>
      rw [w, if_pos rfl]
      simp only [MZ_10, MZ_g, MZ_11]
      rw [r16, X8_inL N _ 48 57 (by decide) (by decide), bd2_s]
      have nw : ¬ wi x 97 122 = 1 := by rw [w]; decide
      by_cases d : dgt x = true
      · rw [wi_d d, if_neg (by decide)]
        simp only [MZ_10, MZ_g, MZ_11]
        rw [r12, r13, r16, if_neg hlt, if_pos trivial, nI_1]
        have hcd := hcl.2.1 (wi_d d)
        generalize hR : va_up (va_up (va_up (va_up (va_up r 14 (nI c)) 16 x) 15 3) 13 (nI (c + 1))) 16 (x - 48) = R
        have R12 : R 12 = nI z := by rw [← hR]; simpa [va_up] using h12
        have R13 : R 13 = nI (c + 1) := by rw [← hR]; simp [va_up]
        have R14 : R 14 = nI c := by rw [← hR]; simp [va_up]
        have R16 : R 16 = x - 48 := by rw [← hR]; simp [va_up]
        have R17 : R 17 = 0 := by rw [← hR]; simpa [va_up] using h17
        have Rr : ∀ i, i < 13 ∨ 18 < i → R i = r i := fun i hi => by rw [← hR, up_ne _ _ (by omega), up_ne _ _ (by omega), up_ne _ _ (by omega), up_ne _ _ (by omega), up_ne _ _ (by omega)]
        have done : ∀ (e : Nat) (r' : Nat → Int32), c < e → e ≤ z → r' 13 = nI e → r' 14 = nI c → r' 16 = nv (BT z (g 11 11)) c → r' 17 = 0 → r' 12 = nI z → (∀ i, i < 13 ∨ 18 < i → r' i = r i) → (e = c + 1 ∧ fig (BT z (g 11 11)) c = 1 ∨ e = c + 2 ∧ fig (BT z (g 11 11)) c = 2 ∨ c + 2 < e ∧ fig (BT z (g 11 11)) c = 3) → ∃ r'', (if r' 13 - r' 14 ≤ (2 : Int32) then some (MZ g u (va_up r' 15 3)) else some (MZ g u (va_up r' 15 0))) = some (MZ g u r'') ∧ MI z (BT z (g 11 11)) c r r'' := by
          intro e r' he hez g13 g14 g16 g17 g12 gr ho
          rw [g13, g14, pk_sub (by omega)]
          have nb1 : ¬ z ≤ c := by omega
          by_cases l : e - c ≤ 2
          · rw [if_pos (show nI (e - c) ≤ (2 : Int32) from nI_le (b := 2) l (by decide))]
            have hf : fig (BT z (g 11 11)) c = e - c := by omega
            refine ⟨_, rfl, hc, by simpa [va_up] using g12, by simpa [va_up] using g14, by simpa [va_up] using g17, ⟨?_, ?_, ?_, ?_, ?_, ?_, ?_⟩, fun i hi => ?_⟩
            · rw [up_same]; exact ⟨fun q => absurd q (by decide), fun q => absurd q nb1⟩
            · rw [up_same, hx]; exact ⟨fun q => absurd q (by decide), fun q => absurd q nw⟩
            · rw [up_same]; exact fun q => absurd q (by decide)
            · rw [up_same, hx]; exact ⟨fun q => absurd q (by decide), fun q => by rcases q with q | q; exact absurd q hcd.2.1; exact absurd q hcd.2.2⟩
            · rw [up_same]; exact fun q => absurd q (by decide)
            · rw [up_same]; exact ⟨fun _ => by omega, fun _ => rfl⟩
            · intro _
              rw [up_ne _ _ (by decide), up_ne _ _ (by decide), g13, g16]
              exact ⟨rfl, by rw [hf]; congr 1; omega⟩
            · rw [up_ne _ _ (by omega)]; exact gr i hi
          · rw [if_neg (show ¬ nI (e - c) ≤ (2 : Int32) from nI_ge (a := 2) (by omega) (by omega))]
            refine ⟨_, rfl, hc, by simpa [va_up] using g12, by simpa [va_up] using g14, by simpa [va_up] using g17, ⟨?_, ?_, ?_, ?_, ?_, ?_, ?_⟩, fun i hi => ?_⟩
            · rw [up_same]; exact ⟨fun q => absurd q (by decide), fun q => absurd q nb1⟩
            · rw [up_same, hx]; exact ⟨fun q => absurd q (by decide), fun q => absurd q nw⟩
            · rw [up_same]; exact fun q => absurd q (by decide)
            · rw [up_same, hx]; exact ⟨fun q => absurd q (by decide), fun q => by rcases q with q | q; exact absurd q hcd.2.1; exact absurd q hcd.2.2⟩
            · rw [up_same]; exact fun q => absurd q (by decide)
            · rw [up_same]; exact ⟨fun q => absurd q (by decide), fun q => by omega⟩
            · rw [up_same]; exact fun q => absurd q (by decide)
            · rw [up_ne _ _ (by omega)]; exact gr i hi
        have d0 : dgt (BT z (g 11 11) c) = true := by rw [hx]; exact d
        obtain ⟨n1, hn1⟩ : ∃ n1, N = n1 + 1 := ⟨N - 1, by omega⟩
        have eL : ∀ T, L_X8_nextToken_165 N (n1 + 1) (MZ g u R) = T → L_X8_nextToken_165 N N (MZ g u R) = T := fun T hT => by rw [← hT, ← hn1]
        by_cases e1 : dgt (BT z (g 11 11) (c + 1)) = true
        · have hc1 := dgt_lt e1
          have hb1 : BT z (g 11 11) (c + 1) = g 11 11 (c + 1) := if_pos hc1
          have q' := wi_d e1
          rw [hb1] at q'
          have step : L_X8_nextToken_165 N (n1 + 1) (MZ g u R) = L_X8_nextToken_165 N n1 (MZ g u (va_up (va_up R 16 (10 * R 16 + g 11 11 (c + 1) - 48)) 13 (nI (c + 1 + 1)))) := by
            rw [L_X8_nextToken_165]
            simp only [MZ_10, MZ_g, MZ_11, R12, R13]
            rw [if_neg (nI_ge hc1 (by omega)), ix_nI (by omega) (by decide), bd1_s, X8_inL N _ 48 57 (by decide) (by decide), bd2_s, q', if_neg (by decide)]
            simp only [MZ_10, MZ_g, MZ_11, R13, R14]
            rw [pk_sub (by omega), if_neg (show ¬ (2 : Int32) ≤ nI (c + 1 - c) from nI_ge (b := 2) (by omega) (by decide)), ix_nI (by omega) (by decide), bd1_s, nI_1]
          obtain ⟨e, r', l1, l2, l3, l4, l5, l6, l7⟩ := L_tok N g u h100 c n1 (c + 2) (va_up (va_up R 16 (10 * R 16 + g 11 11 (c + 1) - 48)) 13 (nI (c + 1 + 1))) (by simpa [va_up] using R12) (by simp [va_up]) (by simpa [va_up] using R14) (by omega) (by omega) (by omega)
          rw [eL _ (step.trans l1), bd1_s]
          simp only [MZ_10, MZ_g]
          refine done e r' (by omega) l3 l6 (by rw [l7 14 (by decide)]; simpa [va_up] using R14) ?_ (by rw [l7 17 (by decide)]; simpa [va_up] using R17) (by rw [l7 12 (by decide)]; simpa [va_up] using R12) (fun i hi => by rw [l7 i (by omega), up_ne _ _ (by omega), up_ne _ _ (by omega)]; exact Rr i hi) ?_
          · rw [l7 16 (by decide), up_ne _ _ (by decide), up_same, R16]
            unfold nv
            rw [if_pos e1, hb1, hx]
          · by_cases e2 : dgt (BT z (g 11 11) (c + 2)) = true
            · have := l5 e2
              right; right
              exact ⟨by omega, by unfold fig; rw [if_pos d0, if_pos e1, if_pos e2]⟩
            · have := l4 (Bool.eq_false_iff.mpr e2)
              right; left
              exact ⟨this, by unfold fig; rw [if_pos d0, if_pos e1, if_neg e2]⟩
        · have step : L_X8_nextToken_165 N (n1 + 1) (MZ g u R) = some (MZ g u R) := by
            rw [L_X8_nextToken_165]
            simp only [MZ_10, MZ_g, MZ_11, R12, R13]
            by_cases l : c + 1 = z
            · rw [if_pos (nI_le (by omega) (by omega))]
            · have hb1 : BT z (g 11 11) (c + 1) = g 11 11 (c + 1) := if_pos (by omega)
              have q' := wi_nd e1
              rw [hb1] at q'
              rw [if_neg (nI_ge (by omega) (by omega)), ix_nI (by omega) (by decide), bd1_s, X8_inL N _ 48 57 (by decide) (by decide), bd2_s, q', if_pos rfl]
          rw [eL _ step, bd1_s]
          simp only [MZ_10, MZ_g]
          refine done (c + 1) R (by omega) (by omega) R13 R14 ?_ R17 R12 Rr (Or.inl ⟨rfl, by unfold fig; rw [if_pos d0, if_neg e1]⟩)
          rw [R16]
          unfold nv
          rw [if_neg e1, hx]
      · rw [wi_nd d, if_pos rfl]
        simp only [MZ_10, MZ_g, MZ_11]
        rw [r12, r13, r16]
        by_cases s1 : x = 44
        · rw [if_pos s1, if_neg hlt, if_neg (by decide), nI_1]
          exact ⟨_, rfl, fin 4 0 (Or.inr (Or.inl rfl)) d ⟨fun q => absurd q (by decide), fun q => absurd q nw⟩ ⟨fun _ => Or.inl s1, fun _ => rfl⟩⟩
        · rw [if_neg s1]
          by_cases s2 : x = 59
          · rw [if_pos s2, if_neg hlt, if_neg (by decide), nI_1]
            exact ⟨_, rfl, fin 4 0 (Or.inr (Or.inl rfl)) d ⟨fun q => absurd q (by decide), fun q => absurd q nw⟩ ⟨fun _ => Or.inr s2, fun _ => rfl⟩⟩
          · rw [if_neg s2, if_neg hlt, if_neg (by decide), nI_1]
            exact ⟨_, rfl, fin 0 0 (Or.inr (Or.inr rfl)) d ⟨fun q => absurd q (by decide), fun q => absurd q nw⟩ ⟨fun q => absurd q (by decide), fun q => by rcases q with q | q; exact absurd q s1; exact absurd q s2⟩⟩
