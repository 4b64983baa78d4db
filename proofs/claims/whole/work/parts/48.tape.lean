/-! ===== the tape: what both read, said of its bytes ===== -/
abbrev ER (α : Type) := (Nat × Nat) ⊕ α
def BT (z : Nat) (b : Nat → Int32) (i : Nat) : Int32 := if i < z then b i else -1
def dgt (x : Int32) : Bool := decide (wi x 48 57 = 1)
def fig (B : Nat → Int32) (q : Nat) : Nat := if dgt (B q) then (if dgt (B (q + 1)) then (if dgt (B (q + 2)) then 3 else 2) else 1) else 0
def nv (B : Nat → Int32) (q : Nat) : Int32 := if dgt (B (q + 1)) then 10 * (B q - 48) + B (q + 1) - 48 else B q - 48
def aN (B : Nat → Int32) (lo hi : Int32) (q : Nat) : ER (Int32 × Nat) := if fig B q = 0 ∨ fig B q = 3 then .inl (1, q) else if wi (nv B q) lo hi = 0 then .inl (2, q) else .inr (nv B q, q + fig B q)
def aT (B : Nat → Int32) (c : Int32) (q : Nat) : ER Nat := if B q = c then .inr (q + 1) else .inl (1, q)
/-- the tape is z bytes long -/
def okB (z : Nat) (b : Nat → Int32) : Prop := z ≤ 100 ∧ ∀ k, k < 100 → ∃ n : Nat, n < 256 ∧ b k = nI n
theorem BT_end {z : Nat} {b : Nat → Int32} (h : okB z b) (q : Nat) : BT z b q = -1 ↔ z ≤ q := by
  unfold BT
  by_cases c : q < z
  · rw [if_pos c]
    obtain ⟨n, hn, e⟩ := h.2 q (by have := h.1; omega)
    rw [e]
    refine ⟨fun t => ?_, fun t => by omega⟩
    have := congrArg Int32.toInt t
    rw [nI_toInt (by omega), show (-1 : Int32).toInt = -1 by decide] at this
    omega
  · rw [if_neg c]; exact ⟨fun _ => by omega, fun _ => rfl⟩
theorem dgt_lt {z : Nat} {b : Nat → Int32} {q : Nat} (h : dgt (BT z b q) = true) : q < z := by
  by_cases c : q < z
  · exact c
  · unfold BT at h
    rw [if_neg c] at h
    exact absurd h (by decide)
theorem BT_lt {z : Nat} {b : Nat → Int32} {q : Nat} {c : Int32} (hc : c ≠ -1) (h : BT z b q = c) : q < z := by
  by_cases d : q < z
  · exact d
  · unfold BT at h
    rw [if_neg d] at h
    exact absurd h.symm hc
theorem fig_le {z : Nat} {b : Nat → Int32} {q : Nat} (h : q ≤ z) : q + fig (BT z b) q ≤ z := by
  unfold fig
  by_cases h0 : dgt (BT z b q) = true
  · rw [if_pos h0]
    have := dgt_lt h0
    by_cases h1 : dgt (BT z b (q + 1)) = true
    · rw [if_pos h1]
      have := dgt_lt h1
      by_cases h2 : dgt (BT z b (q + 2)) = true
      · rw [if_pos h2]; have := dgt_lt h2; omega
      · rw [if_neg h2]; omega
    · rw [if_neg h1]; omega
  · rw [if_neg h0]; omega
/-! the class -/
def tp (g : GS) (q : Nat) (f : Int32) : GS := g2 g 3 0 (va_up (va_up (g 3 0) 1 (nI q)) 2 f)
theorem tp_g3_1 (g : GS) (q q' : Nat) (f : Int32) : g3 (tp g q f) 3 0 1 (nI q') = tp g q' f := by
  unfold tp
  rw [g3_g2, g2_same, g2_g2]
  congr 1
  funext k
  unfold va_up
  by_cases h : k = 1
  · subst h; simp
  · by_cases h2 : k = 2
    · subst h2; simp
    · simp [h, h2]
theorem tp_g3_2 (g : GS) (q : Nat) (f f' : Int32) : g3 (tp g q f) 3 0 2 f' = tp g q f' := by
  unfold tp
  rw [g3_g2, g2_same, g2_g2, up_up]
theorem D1_3 (g : GS) (sc fo pa : Nat → Int32) (i : Nat) (x : Int32) : g3 (D1 g sc fo pa) 3 0 i x = D1 (g3 g 3 0 i x) sc fo pa := by
  unfold D1
  rw [g3_g2, g3_g2]
  show g2 (g2 (g2 (g2 g 0 1 sc) 12 1 fo) 13 1 pa) 3 0 (va_up (g 3 0) i x) = _
  rw [g2_comm _ _ _ (Or.inl (by decide)), g2_comm _ _ (va_up (g 3 0) i x) (Or.inl (by decide)), g2_comm g _ (va_up (g 3 0) i x) (Or.inl (by decide))]
theorem Dt_1 (g : GS) (q q' : Nat) (f : Int32) (sc fo pa : Nat → Int32) : g3 (D1 (tp g q f) sc fo pa) 3 0 1 (nI q') = D1 (tp g q' f) sc fo pa := by rw [D1_3, tp_g3_1]
theorem Dt_2 (g : GS) (q : Nat) (f f' : Int32) (sc fo pa : Nat → Int32) : g3 (D1 (tp g q f) sc fo pa) 3 0 2 f' = D1 (tp g q f') sc fo pa := by rw [D1_3, tp_g3_2]
theorem K_byte (N : Nat) (g : GS) {z : Nat} (hz : okB z (g 4 0)) (ez : g 3 0 0 = nI z) (q : Nat) (f : Int32) (sc fo pa : Nat → Int32) (i : Nat) (hi : i < 2 ^ 30) : F_X6_byteAt N (nI i) (D1 (tp g q f) sc fo pa) = some (BT z (g 4 0) i, D1 (tp g q f) sc fo pa) := by
  have h100 := hz.1
  have e0 : (D1 (tp g q f) sc fo pa) 3 0 0 = nI z := ez
  unfold F_X6_byteAt BT
  rw [e0, if_neg (nI_pos (by omega))]
  by_cases c : i < z
  · rw [if_neg (nI_ge c (by omega)), if_neg (show ¬ (100 : Int32) ≤ nI i from nI_ge (b := 100) (by omega) (by omega)), ix_nI (by omega) (by decide), bd1_s, if_pos c]
    rfl
  · rw [if_pos (nI_le (by omega) (by omega)), if_neg c]
theorem K_next (N : Nat) (g : GS) {z : Nat} (hz : okB z (g 4 0)) (ez : g 3 0 0 = nI z) (q : Nat) (hq : q < 2 ^ 30) (f : Int32) (sc fo pa : Nat → Int32) : F_X6_next N (D1 (tp g q f) sc fo pa) = some (BT z (g 4 0) q, D1 (tp g q f) sc fo pa) := by
  unfold F_X6_next
  have e1 : (D1 (tp g q f) sc fo pa) 3 0 1 = nI q := rfl
  rw [e1, K_byte N g hz ez q f sc fo pa q hq, bd2_s]
theorem K_take (N : Nat) (g : GS) {z : Nat} (hz : okB z (g 4 0)) (ez : g 3 0 0 = nI z) (q : Nat) (hq : q < 2 ^ 29) (c : Int32) (sc fo pa : Nat → Int32) : F_X6_take N c (D1 (tp g q 0) sc fo pa) = (match aT (BT z (g 4 0)) c q with | .inr q' => some (1, D1 (tp g q' 0) sc fo pa) | .inl (n, q') => some (0, D1 (tp g q' (nI n)) sc fo pa)) := by
  unfold F_X6_take F_X6_hasFault aT
  have e1 : (D1 (tp g q 0) sc fo pa) 3 0 1 = nI q := rfl
  rw [K_next N g hz ez q (by omega) 0 sc fo pa, bd2_s]
  by_cases h : BT z (g 4 0) q = c
  · rw [if_pos h, if_pos h, e1, nI_1, Dt_1]
  · rw [if_neg h, if_neg h, bd2_s, if_pos (Or.inl rfl), Dt_2]
    rfl
theorem X6_fig (N : Nat) (x : Int32) (k : GS) : F_X6_isFigure N x k = some (wi x 48 57, k) := by
  unfold F_X6_isFigure wi
  split
  · rfl
  · split <;> rfl
theorem K_figs (N : Nat) (g : GS) {z : Nat} (hz : okB z (g 4 0)) (ez : g 3 0 0 = nI z) (q : Nat) (hq : q < 2 ^ 29) (f : Int32) (sc fo pa : Nat → Int32) : ∀ (n i : Nat), i ≤ 3 → 3 < i + n → (∀ k, k < i → dgt (BT z (g 4 0) (q + k)) = true) → L_X6_figuresHere_2 N n (nI i) (D1 (tp g q f) sc fo pa) = some (nI (fig (BT z (g 4 0)) q), D1 (tp g q f) sc fo pa) := by
  intro n
  induction n with
  | zero => intro i h1 h2; omega
  | succ n ih =>
    intro i h1 h2 hd
    have e1 : (D1 (tp g q f) sc fo pa) 3 0 1 = nI q := rfl
    rw [L_X6_figuresHere_2]
    by_cases h : i = 3
    · subst h
      rw [if_pos (by decide)]
      have a0 := hd 0 (by omega)
      have a1 := hd 1 (by omega)
      have a2 := hd 2 (by omega)
      unfold fig
      rw [if_pos (by simpa using a0), if_pos a1, if_pos a2]
    · rw [if_neg (show ¬ (3 : Int32) ≤ nI i from nI_ge (b := 3) (by omega) (by omega)), e1, nI_add, K_byte N g hz ez q f sc fo pa (q + i) (by omega), bd2_s, X6_fig N, bd2_s, nI_1]
      by_cases c : dgt (BT z (g 4 0) (q + i)) = true
      · have c' : wi (BT z (g 4 0) (q + i)) 48 57 = 1 := by simpa [dgt] using c
        rw [c', if_neg (by decide)]
        refine ih (i + 1) (by omega) (by omega) (fun k hk => ?_)
        by_cases t : k = i
        · rw [t]; exact c
        · exact hd k (by omega)
      · have c' : wi (BT z (g 4 0) (q + i)) 48 57 = 0 := by
          rcases wi_01 (BT z (g 4 0) (q + i)) 48 57 with t | t
          · exact t
          · exact absurd (by simpa [dgt] using t) c
        rw [c', if_pos rfl]
        have ef : fig (BT z (g 4 0)) q = i := by
          unfold fig
          rcases (show i = 0 ∨ i = 1 ∨ i = 2 by omega) with rfl | rfl | rfl
          · rw [if_neg (by simpa using c)]
          · rw [if_pos (by simpa using hd 0 (by omega)), if_neg c]
          · rw [if_pos (by simpa using hd 0 (by omega)), if_pos (hd 1 (by omega)), if_neg c]
        rw [ef]
theorem fig_3 (B : Nat → Int32) (q : Nat) : fig B q = 0 ∨ fig B q = 1 ∧ dgt (B (q + 1)) = false ∨ fig B q = 2 ∧ dgt (B (q + 1)) = true ∨ fig B q = 3 := by
  unfold fig
  by_cases h0 : dgt (B q) = true
  · rw [if_pos h0]
    by_cases h1 : dgt (B (q + 1)) = true
    · rw [if_pos h1]
      by_cases h2 : dgt (B (q + 2)) = true
      · rw [if_pos h2]; exact Or.inr (Or.inr (Or.inr rfl))
      · rw [if_neg h2]; exact Or.inr (Or.inr (Or.inl ⟨rfl, h1⟩))
    · rw [if_neg h1]; exact Or.inr (Or.inl ⟨rfl, Bool.eq_false_iff.mpr h1⟩)
  · rw [if_neg h0]; exact Or.inl rfl
theorem K_number (N : Nat) (hN : 2000 ≤ N) (g : GS) {z : Nat} (hz : okB z (g 4 0)) (ez : g 3 0 0 = nI z) (q : Nat) (hq : q < 2 ^ 29) (lo hi : Int32) (sc fo pa : Nat → Int32) : F_X6_takeNumber N lo hi (D1 (tp g q 0) sc fo pa) = (match aN (BT z (g 4 0)) lo hi q with | .inr (v, q') => some (v, D1 (tp g q' 0) sc fo pa) | .inl (n, q') => some (-1, D1 (tp g q' (nI n)) sc fo pa)) := by
  have e1 : (D1 (tp g q 0) sc fo pa) 3 0 1 = nI q := rfl
  have eF := K_figs N g hz ez q hq 0 sc fo pa N 0 (by omega) (by omega) (fun k hk => by omega)
  rw [nI_0] at eF
  unfold F_X6_takeNumber F_X6_figuresHere F_X6_hasFault aN
  rw [eF, bd2_s, bd2_s]
  have rng : ∀ (v : Int32) (F : Nat), (if v < lo then bd2 (some ((0 : Int32), g3 (D1 (tp g q 0) sc fo pa) 3 0 2 2)) (fun rv27 gv26 => some ((-1 : Int32), gv26)) else if v ≤ hi then some (v, (g3 (D1 (tp g q 0) sc fo pa) 3 0 1 ((D1 (tp g q 0) sc fo pa) 3 0 1 + nI F))) else bd2 (some ((0 : Int32), g3 (D1 (tp g q 0) sc fo pa) 3 0 2 2)) (fun rv31 gv30 => some ((-1 : Int32), gv30))) = (match (if wi v lo hi = 0 then .inl (2, q) else .inr (v, q + F) : ER (Int32 × Nat)) with | .inr (v, q') => some (v, D1 (tp g q' 0) sc fo pa) | .inl (n, q') => some (-1, D1 (tp g q' (nI n)) sc fo pa)) := by
    intro v F
    rw [e1, nI_add, Dt_1, Dt_2]
    unfold wi
    by_cases c : v < lo
    · rw [if_pos c, if_pos c, if_pos rfl]
      rfl
    · rw [if_neg c, if_neg c]
      by_cases d : hi < v
      · rw [if_pos d, if_pos rfl, if_neg (by rw [i_le]; rw [i_lt] at d; omega)]
        rfl
      · rw [if_neg d, if_neg (show ¬ (1 : Int32) = 0 by decide), if_pos (by rw [i_le]; rw [i_lt] at d; omega)]
  rcases fig_3 (BT z (g 4 0)) q with f | ⟨f, d⟩ | ⟨f, d⟩ | f
  · rw [f, if_pos (by decide), if_pos (Or.inl rfl), bd2_s, Dt_2]
    rfl
  · rw [f, if_neg (by decide), if_pos (by decide), K_next N g hz ez q (by omega) 0 sc fo pa, bd2_s, if_neg (by decide), if_neg (show ¬ ((1 : Nat) = 0 ∨ (1 : Nat) = 3) by decide)]
    have en : nv (BT z (g 4 0)) q = BT z (g 4 0) q - 48 := by unfold nv; rw [d, if_neg Bool.false_ne_true]
    rw [en]
    exact rng _ 1
  · rw [f, if_neg (by decide), if_pos (by decide), K_next N g hz ez q (by omega) 0 sc fo pa, bd2_s, if_pos (by decide), e1, nI_1, K_byte N g hz ez q 0 sc fo pa (q + 1) (by omega), bd2_s, if_neg (show ¬ ((2 : Nat) = 0 ∨ (2 : Nat) = 3) by decide)]
    have en : nv (BT z (g 4 0)) q = 10 * (BT z (g 4 0) q - 48) + BT z (g 4 0) (q + 1) - 48 := by unfold nv; rw [d, if_pos rfl]
    rw [en]
    exact rng _ 2
  · rw [f, if_neg (by decide), if_neg (by decide), if_pos (Or.inr rfl), bd2_s, Dt_2]
    rfl
