/-! ===== the parts of the text: both read alike ===== -/
def KB (g : GS) (z : Nat) (B : Nat → Int32) : Prop := okB z (g 4 0) ∧ g 3 0 0 = nI z ∧ BT z (g 4 0) = B
def MB (h : GS) (z : Nat) (B : Nat → Int32) : Prop := okB z (h 11 11) ∧ BT z (h 11 11) = B
theorem aN_ok {B : Nat → Int32} {lo hi v : Int32} {q d : Nat} (h : aN B lo hi q = .inr (v, d)) : ¬ v < lo ∧ ¬ hi < v ∧ d = q + fig B q := by
  unfold aN at h
  by_cases a : fig B q = 0 ∨ fig B q = 3
  · rw [if_pos a] at h; cases h
  · rw [if_neg a] at h
    rcases wi_cases (nv B q) lo hi with ⟨w, -⟩ | ⟨w, w1, w2⟩
    · rw [if_pos w] at h; cases h
    · rw [if_neg (by rw [w]; decide)] at h
      injection h with h
      injection h with h1 h2
      rw [← h1]
      exact ⟨w1, w2, h2.symm⟩
theorem nat_of {v lo hi : Int32} {a b : Nat} (ha : lo = nI a) (hb : hi = nI b) (hb2 : b < 1000) (ha2 : a < 1000) (h1 : ¬ v < lo) (h2 : ¬ hi < v) : ∃ n : Nat, a ≤ n ∧ n ≤ b ∧ v = nI n := by
  rw [ha, i_lt, nI_toInt (by omega)] at h1
  rw [hb, i_lt, nI_toInt (by omega)] at h2
  exact ⟨v.toInt.toNat, by omega, by omega, nI_ofI (by omega)⟩
theorem ne_m1 (n : Nat) (h : n < 2 ^ 31) : ¬ nI n = (-1 : Int32) := by
  intro q
  have := congrArg Int32.toInt q
  rw [nI_toInt h, show (-1 : Int32).toInt = -1 by decide] at this
  omega
theorem K_takeD (N : Nat) (g : GS) {z : Nat} {B : Nat → Int32} (hK : KB g z B) {q : Nat} (hq : q ≤ z) (c : Int32) (sc fo pa : Nat → Int32) : (B q = c ∧ F_X6_take N c (D1 (tp g q 0) sc fo pa) = some (1, D1 (tp g (q + 1) 0) sc fo pa)) ∨ (¬ B q = c ∧ F_X6_take N c (D1 (tp g q 0) sc fo pa) = some (0, D1 (tp g q (nI 1)) sc fo pa)) := by
  obtain ⟨h1, h2, rfl⟩ := hK
  have := K_take N g h1 h2 q (by have := h1.1; omega) c sc fo pa
  rw [this]
  unfold aT
  by_cases h : BT z (g 4 0) q = c
  · rw [if_pos h]; exact Or.inl ⟨h, rfl⟩
  · rw [if_neg h]; exact Or.inr ⟨h, rfl⟩
theorem K_numD (N : Nat) (hN : 2000 ≤ N) (g : GS) {z : Nat} {B : Nat → Int32} (hK : KB g z B) {q : Nat} (hq : q ≤ z) (lo hi : Int32) (sc fo pa : Nat → Int32) : (∃ v d, aN B lo hi q = .inr (v, d) ∧ d ≤ z ∧ ¬ v < lo ∧ ¬ hi < v ∧ F_X6_takeNumber N lo hi (D1 (tp g q 0) sc fo pa) = some (v, D1 (tp g d 0) sc fo pa)) ∨ (∃ n, aN B lo hi q = .inl (n, q) ∧ F_X6_takeNumber N lo hi (D1 (tp g q 0) sc fo pa) = some (-1, D1 (tp g q (nI n)) sc fo pa)) := by
  obtain ⟨h1, h2, rfl⟩ := hK
  have := K_number N hN g h1 h2 q (by have := h1.1; omega) lo hi sc fo pa
  rw [this]
  cases e : aN (BT z (g 4 0)) lo hi q with
  | inr p =>
    obtain ⟨v, d⟩ := p
    obtain ⟨a, b, c⟩ := aN_ok e
    exact Or.inl ⟨v, d, rfl, by rw [c]; exact fig_le hq, a, b, rfl⟩
  | inl p =>
    obtain ⟨n, d⟩ := p
    have hd : d = q := by
      unfold aN at e
      split at e
      · injection e with e; injection e with _ e; exact e.symm
      · split at e
        · injection e with e; injection e with _ e; exact e.symm
        · cases e
    subst hd
    exact Or.inr ⟨n, rfl, rfl⟩
theorem M_numD (N : Nat) (hN : 2000 ≤ N) {h : GS} {z : Nat} {B : Nat → Int32} (hM : MB h z B) (u : Nat → Int32) {c : Nat} {r0 r : Nat → Int32} (hI : MI z B c r0 r) (lo hi : Int32) : (∀ v d, aN B lo hi c = .inr (v, d) → ∃ r', F_X8_number N lo hi (MZ h u r) = some (v, MZ h u r') ∧ MI z B d r0 r') ∧ (∀ n d, aN B lo hi c = .inl (n, d) → ∃ r', F_X8_number N lo hi (MZ h u r) = some (lo, MZ h u r') ∧ FT n d r0 r') := by
  obtain ⟨h1, rfl⟩ := hM
  rcases M_number N hN h u h1 hI lo hi with ⟨v, d, r', e, f, m⟩ | ⟨n, r', e, f, m⟩
  · rw [e]
    refine ⟨fun v' d' q => ?_, fun n d q => by cases q⟩
    injection q with q
    injection q with q1 q2
    subst q1
    subst q2
    exact ⟨r', f, m⟩
  · rw [e]
    refine ⟨fun v' d' q => (by cases q), fun n' d q => ?_⟩
    injection q with q
    injection q with q1 q2
    subst q1
    subst q2
    exact ⟨r', f, m⟩
theorem M_signD (N : Nat) (hN : 2000 ≤ N) {h : GS} {z : Nat} {B : Nat → Int32} (hM : MB h z B) (u : Nat → Int32) {c : Nat} {r0 r : Nat → Int32} (hI : MI z B c r0 r) {x : Int32} (hx : x = 44 ∨ x = 59) : (B c = x → ∃ r', F_X8_mustSign N x (MZ h u r) = some (MZ h u r') ∧ MI z B (c + 1) r0 r') ∧ (¬ B c = x → ∃ r', F_X8_mustSign N x (MZ h u r) = some (MZ h u r') ∧ FT 1 c r0 r') := by
  obtain ⟨h1, rfl⟩ := hM
  rcases M_sign N hN h u h1 hI hx with ⟨q, e⟩ | ⟨q, e⟩
  · exact ⟨fun _ => e, fun t => absurd q t⟩
  · exact ⟨fun t => absurd t q, fun _ => e⟩
/-- the reference's reading of the first row -/
def lawC (N : Nat) {C : Type} (g : GS) (k : GS → Option C) : Option C := bd2 (F_X8_isLetter N (114 : Int32) g) (fun rv11 gv10 => bd1 (F_X8_must N rv11 gv10) (fun gv13 => bd2 (F_X8_number N (1 : Int32) (40 : Int32) gv13) (fun rv16 gv15 => bd1 (ix (2 : Int32) 53) (fun jv17 => bd1 (F_X8_mustSign N (44 : Int32) (g3 gv15 11 6 jv17 rv16)) (fun gv20 => bd2 (F_X8_number N (1 : Int32) (99 : Int32) gv20) (fun rv23 gv22 => bd1 (ix (3 : Int32) 53) (fun jv24 => bd1 (F_X8_mustSign N (59 : Int32) (g3 gv22 11 6 jv24 rv23)) k)))))))
theorem both_law (N : Nat) (hN : 2000 ≤ N) (g : GS) {z : Nat} {B : Nat → Int32} (hK : KB g z B) (sc fo pa : Nat → Int32) :
    (∃ n q sc', F_X6_readLaw N 1 (D1 (tp g 0 0) sc fo pa) = some (0, D1 (tp g q (nI n)) sc' fo pa) ∧ ∀ (h : GS) (u r0 r : Nat → Int32), MB h z B → MI z B 0 r0 r → ∃ u' r', (∀ {C : Type} (k : GS → Option C), lawC N (MZ h u r) k = k (MZ h u' r')) ∧ FT n q r0 r')
    ∨ (∃ a c q, (∃ n : Nat, 1 ≤ n ∧ n ≤ 40 ∧ a = nI n) ∧ (∃ n : Nat, 1 ≤ n ∧ n ≤ 99 ∧ c = nI n) ∧ q ≤ z ∧ F_X6_readLaw N 1 (D1 (tp g 0 0) sc fo pa) = some (1, D1 (tp g q 0) (va_up (va_up sc 0 a) 1 c) fo pa) ∧ ∀ (h : GS) (u r0 r : Nat → Int32), MB h z B → MI z B 0 r0 r → ∃ r', (∀ {C : Type} (k : GS → Option C), lawC N (MZ h u r) k = k (MZ h (va_up (va_up u 2 a) 3 c) r')) ∧ MI z B q r0 r') := by
  have ix2 : ix (2 : Int32) 53 = some 2 := by decide
  have ix3 : ix (3 : Int32) 53 = some 3 := by decide
  have lt_of : ∀ q c, c ≠ -1 → B q = c → q + 1 ≤ z := fun q c hc hb => by
    obtain ⟨h1, -, rfl⟩ := hK
    exact BT_lt hc hb
  unfold F_X6_readLaw
  rcases K_takeD N g hK (q := 0) (by omega) 114 sc fo pa with ⟨b1, e1⟩ | ⟨b1, e1⟩
  case inr =>
    rw [e1, bd2_s, if_pos rfl]
    refine Or.inl ⟨1, 0, sc, rfl, fun h u r0 r hM hI => ?_⟩
    obtain ⟨r', m1, f⟩ := M_must0 N h u hI
    refine ⟨va_up (va_up u 2 1) 3 1, r', fun k => ?_, f⟩
    unfold lawC
    rw [M_letter N h u hI (x := 114) (by decide), bd2_s, decide_eq_false b1, b01_f, m1, bd1_s, Z_number N 1 40 h u r' f.ne, bd2_s, ix2, bd1_s, MZ_u, Z_sign N 44 h _ r' f.ne, bd1_s, Z_number N 1 99 h _ r' f.ne, bd2_s, ix3, bd1_s, MZ_u, Z_sign N 59 h _ r' f.ne, bd1_s]
  have hq1 := lt_of 0 114 (by decide) b1
  have M1 : ∀ (h : GS) (u r0 r : Nat → Int32), MB h z B → MI z B 0 r0 r → ∃ r1, F_X8_must N 1 (MZ h u r) = some (MZ h u r1) ∧ MI z B (0 + 1) r0 r1 := fun h u r0 r hM hI => by
    obtain ⟨h1, rfl⟩ := hM
    exact M_step N hN h u h1 hI (by rw [b1]; decide)
  rw [e1, bd2_s, if_neg (by decide)]
  rcases K_numD N hN g hK (q := 0 + 1) hq1 1 40 sc fo pa with ⟨a, d, ea, hd, a1, a2, e2⟩ | ⟨n, ea, e2⟩
  case inr =>
    rw [e2, bd2_s, if_pos rfl, D1_at0']
    refine Or.inl ⟨n, 0 + 1, _, rfl, fun h u r0 r hM hI => ?_⟩
    obtain ⟨r1, m1, i1⟩ := M1 h u r0 r hM hI
    obtain ⟨r2, m2, f⟩ := (M_numD N hN hM u i1 1 40).2 _ _ ea
    refine ⟨va_up (va_up u 2 1) 3 1, r2, fun k => ?_, f⟩
    unfold lawC
    rw [M_letter N h u hI (x := 114) (by decide), bd2_s, decide_eq_true b1, b01_t, m1, bd1_s, m2, bd2_s, ix2, bd1_s, MZ_u, Z_sign N 44 h _ r2 f.ne, bd1_s, Z_number N 1 99 h _ r2 f.ne, bd2_s, ix3, bd1_s, MZ_u, Z_sign N 59 h _ r2 f.ne, bd1_s]
  obtain ⟨an, an1, an2, ean⟩ := nat_of (a := 1) (b := 40) rfl rfl (by decide) (by decide) a1 a2
  have ham : ¬ a = -1 := by rw [ean]; exact ne_m1 an (by omega)
  rw [e2, bd2_s, if_neg ham, D1_at0']
  rcases K_takeD N g hK hd 44 (va_up sc 0 a) fo pa with ⟨b3, e3⟩ | ⟨b3, e3⟩
  case inr =>
    rw [e3, bd2_s, if_pos rfl]
    refine Or.inl ⟨1, d, _, rfl, fun h u r0 r hM hI => ?_⟩
    obtain ⟨r1, m1, i1⟩ := M1 h u r0 r hM hI
    obtain ⟨r2, m2, i2⟩ := (M_numD N hN hM u i1 1 40).1 _ _ ea
    obtain ⟨r3, m3, f⟩ := (M_signD N hN hM (va_up u 2 a) i2 (x := 44) (Or.inl rfl)).2 b3
    refine ⟨va_up (va_up u 2 a) 3 1, r3, fun k => ?_, f⟩
    unfold lawC
    rw [M_letter N h u hI (x := 114) (by decide), bd2_s, decide_eq_true b1, b01_t, m1, bd1_s, m2, bd2_s, ix2, bd1_s, MZ_u, m3, bd1_s, Z_number N 1 99 h _ r3 f.ne, bd2_s, ix3, bd1_s, MZ_u, Z_sign N 59 h _ r3 f.ne, bd1_s]
  have hq3 := lt_of d 44 (by decide) b3
  rw [e3, bd2_s, if_neg (by decide)]
  rcases K_numD N hN g hK hq3 1 99 (va_up sc 0 a) fo pa with ⟨c, d4, ec, hd4, c1, c2, e4⟩ | ⟨n, ec, e4⟩
  case inr =>
    rw [e4, bd2_s, if_pos rfl, D1_at0']
    refine Or.inl ⟨n, d + 1, _, rfl, fun h u r0 r hM hI => ?_⟩
    obtain ⟨r1, m1, i1⟩ := M1 h u r0 r hM hI
    obtain ⟨r2, m2, i2⟩ := (M_numD N hN hM u i1 1 40).1 _ _ ea
    obtain ⟨r3, m3, i3⟩ := (M_signD N hN hM (va_up u 2 a) i2 (x := 44) (Or.inl rfl)).1 b3
    obtain ⟨r4, m4, f⟩ := (M_numD N hN hM (va_up u 2 a) i3 1 99).2 _ _ ec
    refine ⟨va_up (va_up u 2 a) 3 1, r4, fun k => ?_, f⟩
    unfold lawC
    rw [M_letter N h u hI (x := 114) (by decide), bd2_s, decide_eq_true b1, b01_t, m1, bd1_s, m2, bd2_s, ix2, bd1_s, MZ_u, m3, bd1_s, m4, bd2_s, ix3, bd1_s, MZ_u, Z_sign N 59 h _ r4 f.ne, bd1_s]
  obtain ⟨cn, cn1, cn2, ecn⟩ := nat_of (a := 1) (b := 99) rfl rfl (by decide) (by decide) c1 c2
  have hcm : ¬ c = -1 := by rw [ecn]; exact ne_m1 cn (by omega)
  rw [e4, bd2_s, if_neg hcm, D1_at0']
  rcases K_takeD N g hK hd4 59 (va_up (va_up sc 0 a) 1 c) fo pa with ⟨b5, e5⟩ | ⟨b5, e5⟩
  case inr =>
    rw [e5, bd2_s, if_pos rfl]
    refine Or.inl ⟨1, d4, _, rfl, fun h u r0 r hM hI => ?_⟩
    obtain ⟨r1, m1, i1⟩ := M1 h u r0 r hM hI
    obtain ⟨r2, m2, i2⟩ := (M_numD N hN hM u i1 1 40).1 _ _ ea
    obtain ⟨r3, m3, i3⟩ := (M_signD N hN hM (va_up u 2 a) i2 (x := 44) (Or.inl rfl)).1 b3
    obtain ⟨r4, m4, i4⟩ := (M_numD N hN hM (va_up u 2 a) i3 1 99).1 _ _ ec
    obtain ⟨r5, m5, f⟩ := (M_signD N hN hM (va_up (va_up u 2 a) 3 c) i4 (x := 59) (Or.inr rfl)).2 b5
    refine ⟨va_up (va_up u 2 a) 3 c, r5, fun k => ?_, f⟩
    unfold lawC
    rw [M_letter N h u hI (x := 114) (by decide), bd2_s, decide_eq_true b1, b01_t, m1, bd1_s, m2, bd2_s, ix2, bd1_s, MZ_u, m3, bd1_s, m4, bd2_s, ix3, bd1_s, MZ_u, m5, bd1_s]
  have hq5 := lt_of d4 59 (by decide) b5
  rw [e5, bd2_s, if_neg (by decide)]
  refine Or.inr ⟨a, c, d4 + 1, ⟨an, an1, an2, ean⟩, ⟨cn, cn1, cn2, ecn⟩, hq5, rfl, fun h u r0 r hM hI => ?_⟩
  obtain ⟨r1, m1, i1⟩ := M1 h u r0 r hM hI
  obtain ⟨r2, m2, i2⟩ := (M_numD N hN hM u i1 1 40).1 _ _ ea
  obtain ⟨r3, m3, i3⟩ := (M_signD N hN hM (va_up u 2 a) i2 (x := 44) (Or.inl rfl)).1 b3
  obtain ⟨r4, m4, i4⟩ := (M_numD N hN hM (va_up u 2 a) i3 1 99).1 _ _ ec
  obtain ⟨r5, m5, i5⟩ := (M_signD N hN hM (va_up (va_up u 2 a) 3 c) i4 (x := 59) (Or.inr rfl)).1 b5
  refine ⟨r5, fun k => ?_, i5⟩
  unfold lawC
  rw [M_letter N h u hI (x := 114) (by decide), bd2_s, decide_eq_true b1, b01_t, m1, bd1_s, m2, bd2_s, ix2, bd1_s, MZ_u, m3, bd1_s, m4, bd2_s, ix3, bd1_s, MZ_u, m5, bd1_s]
