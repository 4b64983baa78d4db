/-! ===== winds and papers of the text ===== -/
/-- the row u is read so far: p PAPERS, w WINDS -/
def IV (p w : Nat) (u : Nat → Int32) : Prop := u 0 = nI p ∧ p ≤ 6 ∧ u 1 = nI w ∧ w ≤ 6 ∧ u 4 = 0 ∧ (∃ n : Nat, 1 ≤ n ∧ n ≤ 40 ∧ u 2 = nI n) ∧ (∃ n : Nat, 1 ≤ n ∧ n ≤ 99 ∧ u 3 = nI n) ∧ (∀ k, k < w → ∃ n : Nat, n ≤ 9 ∧ u (5 + k) = nI n) ∧ (∀ i, i < p → VP (fun f => u (11 + 7 * i + f)) ∧ u (11 + 7 * i + 3) = 0) ∧ ∀ k, 11 + 7 * p ≤ k → k < 53 → u k = 0
def KV (p w : Nat) (sc fo pa u : Nat → Int32) : Prop := sc 4 = u 0 ∧ sc 3 = u 1 ∧ sc 2 = u 4 ∧ sc 0 = u 2 ∧ sc 1 = u 3 ∧ (∀ k, k < w → fo k = u (5 + k)) ∧ ∀ i, i < p → (∀ f, f < 6 → pa (7 * i + f) = u (11 + 7 * i + f)) ∧ pa (7 * i + 6) = -1000000
theorem IV_VA {p w : Nat} {u : Nat → Int32} (h : IV p w u) : VA 999 u ∧ nP u = p ∧ nW u = w := by
  obtain ⟨a, b, c, d, e, f, i, j, k, l⟩ := h
  have hP : nP u = p := by unfold nP; rw [a, nI_clamp (by omega)]
  have hW : nW u = w := by unfold nW; rw [c, nI_clamp (by omega)]
  have hH : nH u = 0 := by unfold nH; rw [e]; rfl
  refine ⟨⟨by rw [hP]; exact a, by omega, by rw [hW]; exact c, by omega, by rw [hH, e]; rfl, by omega, fun _ => ⟨f, i⟩, by rw [hW]; exact j, by rw [hP]; exact fun x hx => (k x hx).1⟩, hP, hW⟩
theorem KV_RK {p w : Nat} {sc fo pa u : Nat → Int32} (h : IV p w u) (hk : KV p w sc fo pa u) : RK sc fo pa u := by
  obtain ⟨-, hP, hW⟩ := IV_VA h
  obtain ⟨a, b, c, d, e, f, i⟩ := hk
  refine ⟨a, b, c, fun _ => ⟨d, e⟩, by rw [hW]; exact f, ?_⟩
  rw [hP]
  intro x hx
  obtain ⟨i1, i2⟩ := i x hx
  refine ⟨i1, ?_⟩
  rw [(h.2.2.2.2.2.2.2.2.1 x hx).2, if_neg (by decide)]
  exact i2
/-- one WIND more -/
theorem IV_wind {w : Nat} {u : Nat → Int32} (h : IV 0 w u) (hw : w < 6) {v : Int32} (hv : ∃ n : Nat, n ≤ 9 ∧ v = nI n) : IV 0 (w + 1) (va_up (va_up u (5 + w) v) 1 (nI (w + 1))) := by
  obtain ⟨a, b, c, d, e, f, i, j, k, l⟩ := h
  refine ⟨by rw [up_ne _ _ (by omega), up_ne _ _ (by omega)]; exact a, by omega, up_same _ _ _, by omega, by rw [up_ne _ _ (by omega), up_ne _ _ (by omega)]; exact e, by rw [up_ne _ _ (by omega), up_ne _ _ (by omega)]; exact f, by rw [up_ne _ _ (by omega), up_ne _ _ (by omega)]; exact i, fun x hx => ?_, fun x hx => by omega, fun x h1 h2 => ?_⟩
  · rw [up_ne _ _ (by omega)]
    by_cases q : x = w
    · subst q; rw [up_same]; exact hv
    · rw [up_ne _ _ (by omega)]; exact j x (by omega)
  · rw [up_ne _ _ (by omega), up_ne _ _ (by omega)]; exact l x h1 h2
theorem KV_wind {w : Nat} {sc fo pa u : Nat → Int32} (h : KV 0 w sc fo pa u) (hw : w < 6) (v : Int32) : KV 0 (w + 1) (va_up sc 3 (nI (w + 1))) (va_up fo w v) pa (va_up (va_up u (5 + w) v) 1 (nI (w + 1))) := by
  obtain ⟨a, b, c, d, e, f, i⟩ := h
  refine ⟨?_, ?_, ?_, ?_, ?_, fun x hx => ?_, fun x hx => by omega⟩
  · rw [up_ne _ _ (by omega), up_ne _ _ (by omega), up_ne _ _ (by omega)]; exact a
  · rw [up_same, up_same]
  · rw [up_ne _ _ (by omega), up_ne _ _ (by omega), up_ne _ _ (by omega)]; exact c
  · rw [up_ne _ _ (by omega), up_ne _ _ (by omega), up_ne _ _ (by omega)]; exact d
  · rw [up_ne _ _ (by omega), up_ne _ _ (by omega), up_ne _ _ (by omega)]; exact e
  · rw [up_ne _ _ (show 5 + x ≠ 1 by omega)]
    by_cases q : x = w
    · subst q; rw [up_same, up_same]
    · rw [up_ne _ _ q, up_ne _ _ (by omega)]; exact f x (by omega)
def pU (u : Nat → Int32) (p : Nat) (s b w : Int32) : Nat → Int32 := va_up (va_up (va_up (va_up u (11 + 7 * p) s) (11 + 7 * p + 1) b) (11 + 7 * p + 2) w) 0 (nI (p + 1))
def pK (pa : Nat → Int32) (p : Nat) (s b w : Int32) : Nat → Int32 := va_up (va_up (va_up (va_up (va_up (va_up (va_up pa (7 * p) s) (7 * p + 1) b) (7 * p + 2) w) (7 * p + 3) 0) (7 * p + 4) 0) (7 * p + 5) 0) (7 * p + 6) (-1000000)
theorem pU_lo (u : Nat → Int32) (p : Nat) (s b w : Int32) {k : Nat} (h0 : k ≠ 0) (h : k < 11 + 7 * p ∨ 11 + 7 * p + 3 ≤ k) : pU u p s b w k = u k := by
  unfold pU
  rw [up_ne _ _ (by omega), up_ne _ _ (by omega), up_ne _ _ (by omega), up_ne _ _ (by omega)]
theorem IV_paper {p w : Nat} {u : Nat → Int32} (h : IV p w u) (hp : p < 6) {s b v : Int32} (hs : ∃ n : Nat, 1 ≤ n ∧ n ≤ 5 ∧ s = nI n) (hb : ∃ n : Nat, n ≤ 9 ∧ b = nI n) (hv : ∃ n : Nat, 1 ≤ n ∧ n ≤ 60 ∧ v = nI n) : IV (p + 1) w (pU u p s b v) := by
  obtain ⟨a, a2, c, d, e, f, i, j, k, l⟩ := h
  have z : ∀ x, x < 7 → u (11 + 7 * p + x) = 0 := fun x hx => l _ (by omega) (by omega)
  refine ⟨up_same _ _ _, by omega, by rw [pU_lo _ _ _ _ _ (by omega) (by omega)]; exact c, d, by rw [pU_lo _ _ _ _ _ (by omega) (by omega)]; exact e, by rw [pU_lo _ _ _ _ _ (by omega) (by omega)]; exact f, by rw [pU_lo _ _ _ _ _ (by omega) (by omega)]; exact i, fun x hx => by rw [pU_lo _ _ _ _ _ (by omega) (by omega)]; exact j x hx, fun x hx => ?_, fun x h1 h2 => by rw [pU_lo _ _ _ _ _ (by omega) (by omega)]; exact l x (by omega) h2⟩
  by_cases q : x = p
  · subst q
    have e0 : pU u x s b v (11 + 7 * x + 0) = s := by unfold pU; simp [va_up]
    have e1 : pU u x s b v (11 + 7 * x + 1) = b := by unfold pU; simp [va_up]
    have e2 : pU u x s b v (11 + 7 * x + 2) = v := by unfold pU; simp [va_up]
    have e3 : ∀ y, 3 ≤ y → y < 7 → pU u x s b v (11 + 7 * x + y) = 0 := fun y h1 h2 => by rw [pU_lo _ _ _ _ _ (by omega) (by omega)]; exact z y h2
    refine ⟨⟨by dsimp only; rw [e0]; exact hs, by dsimp only; rw [e1]; exact hb, by dsimp only; rw [e2]; exact hv, Or.inl (e3 3 (by decide) (by decide)), ⟨0, 0, by omega, by omega, e3 4 (by decide) (by decide), e3 5 (by decide) (by decide), fun t => ?_, fun _ => rfl⟩, fun t => ?_⟩, e3 3 (by decide) (by decide)⟩
    · dsimp only at t; rw [e3 3 (by decide) (by decide)] at t; exact absurd t (by decide)
    · dsimp only at t; rw [e3 3 (by decide) (by decide)] at t; exact absurd t (by decide)
  · obtain ⟨k1, k2⟩ := k x (by omega)
    refine ⟨VP_cong k1 (fun y hy => pU_lo _ _ _ _ _ (by omega) (by omega)), by rw [pU_lo _ _ _ _ _ (by omega) (by omega)]; exact k2⟩
theorem KV_paper {p w : Nat} {sc fo pa u : Nat → Int32} (hI : IV p w u) (h : KV p w sc fo pa u) (hp : p < 6) (s b v : Int32) : KV (p + 1) w (va_up sc 4 (nI (p + 1))) fo (pK pa p s b v) (pU u p s b v) := by
  obtain ⟨a, b', c, d, e, f, i⟩ := h
  have l := hI.2.2.2.2.2.2.2.2.2
  have hw := hI.2.2.2.1
  refine ⟨by rw [up_same]; exact (up_same _ _ _).symm, by rw [up_ne _ _ (by decide), pU_lo _ _ _ _ _ (by omega) (by omega)]; exact b', by rw [up_ne _ _ (by decide), pU_lo _ _ _ _ _ (by omega) (by omega)]; exact c, by rw [up_ne _ _ (by decide), pU_lo _ _ _ _ _ (by omega) (by omega)]; exact d, by rw [up_ne _ _ (by decide), pU_lo _ _ _ _ _ (by omega) (by omega)]; exact e, fun x hx => by rw [pU_lo _ _ _ _ _ (by omega) (by omega)]; exact f x hx, fun x hx => ?_⟩
  by_cases q : x = p
  · subst q
    refine ⟨fun y hy => ?_, by unfold pK; rw [up_same]⟩
    have z : ∀ y, 3 ≤ y → y < 7 → pU u x s b v (11 + 7 * x + y) = 0 := fun y h1 h2 => by rw [pU_lo _ _ _ _ _ (by omega) (by omega)]; exact l _ (by omega) (by omega)
    rcases (show y = 0 ∨ y = 1 ∨ y = 2 ∨ y = 3 ∨ y = 4 ∨ y = 5 by omega) with rfl | rfl | rfl | rfl | rfl | rfl
    · unfold pK pU; simp [va_up]
    · unfold pK pU; simp [va_up]
    · unfold pK pU; simp [va_up]
    · rw [z 3 (by decide) (by decide)]; unfold pK; simp [va_up]
    · rw [z 4 (by decide) (by decide)]; unfold pK; simp [va_up]
    · rw [z 5 (by decide) (by decide)]; unfold pK; simp [va_up]
  · obtain ⟨i1, i2⟩ := i x (by omega)
    have lo : ∀ y, y < 7 → pK pa p s b v (7 * x + y) = pa (7 * x + y) := fun y hy => by
      unfold pK
      rw [up_ne _ _ (by omega), up_ne _ _ (by omega), up_ne _ _ (by omega), up_ne _ _ (by omega), up_ne _ _ (by omega), up_ne _ _ (by omega), up_ne _ _ (by omega)]
    exact ⟨fun y hy => by rw [lo y (by omega), pU_lo _ _ _ _ _ (by omega) (by omega)]; exact i1 y hy, by rw [lo 6 (by omega)]; exact i2⟩
theorem Z_wind (N : Nat) (x1 : Int32) (n : Nat) (h : GS) (u r : Nat → Int32) (hf : ¬ r 17 = 0) : L_X8_roof_78 N x1 (n + 1) (MZ h u r) = some (MZ h u r) := by
  rw [L_X8_roof_78, Z_letter N 119 h u r hf, bd2_s, if_pos rfl]
theorem Z_papers (N : Nat) (x1 : Int32) (n : Nat) (h : GS) (u r : Nat → Int32) (hf : ¬ r 17 = 0) : L_X8_roof_106 N x1 (n + 1) (MZ h u r) = some (MZ h u r) := by
  rw [L_X8_roof_106, Z_sort N h u r hf, bd2_s, if_pos rfl]
theorem both_winds (N : Nat) (hN : 2000 ≤ N) (g : GS) {z : Nat} {B : Nat → Int32} (hK : KB g z B) (pa : Nat → Int32) (x1 : Int32) : ∀ (d i q nK nM : Nat) (u sc fo : Nat → Int32), i + d = 6 → d + 2 ≤ nK → d + 2 ≤ nM → q ≤ z → IV 0 i u → KV 0 i sc fo pa u →
    (∃ n q' sc' fo', L_X6_readWinds_2 N 1 nK (nI i) (D1 (tp g q 0) sc fo pa) = some (.inl (0, D1 (tp g q' (nI n)) sc' fo' pa)) ∧ ∀ (h : GS) (r0 r : Nat → Int32), MB h z B → MI z B q r0 r → ∃ u' r', L_X8_roof_78 N x1 nM (MZ h u r) = some (MZ h u' r') ∧ FT n q' r0 r')
    ∨ (∃ j q' x u' sc' fo', q' ≤ z ∧ IV 0 j u' ∧ KV 0 j sc' fo' pa u' ∧ L_X6_readWinds_2 N 1 nK (nI i) (D1 (tp g q 0) sc fo pa) = some (.inr (x, D1 (tp g q' 0) sc' fo' pa)) ∧ ∀ (h : GS) (r0 r : Nat → Int32), MB h z B → MI z B q r0 r → ∃ r', L_X8_roof_78 N x1 nM (MZ h u r) = some (MZ h u' r') ∧ MI z B q' r0 r') := by
  have ix1 : ix (1 : Int32) 53 = some 1 := by decide
  have lt_of : ∀ q c, c ≠ -1 → B q = c → q + 1 ≤ z := fun q c hc hb => by
    obtain ⟨h1, -, rfl⟩ := hK
    exact BT_lt hc hb
  intro d
  induction d with
  | zero =>
    intro i q nK nM u sc fo hid hnK hnM hq hI hV
    obtain ⟨nK, rfl⟩ : ∃ n, nK = n + 1 := ⟨nK - 1, by omega⟩
    obtain ⟨nM, rfl⟩ : ∃ n, nM = n + 2 := ⟨nM - 2, by omega⟩
    have hi : i = 6 := by omega
    subst hi
    have en : F_X6_next N (D1 (tp g q 0) sc fo pa) = some (B q, D1 (tp g q 0) sc fo pa) := by
      obtain ⟨h1, h2, rfl⟩ := hK
      exact K_next N g h1 h2 q (by have := h1.1; omega) 0 sc fo pa
    rw [L_X6_readWinds_2, if_neg (by decide), en, bd2_s]
    by_cases b : B q = 119
    · rw [if_pos b, if_pos (by decide)]
      unfold F_X6_hasFault
      rw [bd2_s, if_pos (Or.inl rfl), Dt_2]
      refine Or.inl ⟨3, q, sc, fo, rfl, fun h r0 r hM hI' => ?_⟩
      obtain ⟨r', m, f⟩ := M_bad N h u hI' (n := 3) (Or.inr (Or.inr rfl))
      refine ⟨u, r', ?_, f⟩
      rw [L_X8_roof_78, M_letter N h u hI' (x := 119) (by decide), bd2_s, decide_eq_true b, b01_t, if_neg (by decide)]
      unfold F_X8_readWind
      rw [ix1, bd1_s, MZ_6, if_pos (show u 1 = 6 from hI.2.2.1), show F_X8_bad N 3 (MZ h u r) = _ from m, bd1_s, Z_letter N 119 h u r' f.ne, bd2_s, Z_must N 0 h u r' f.ne, bd1_s, Z_number N 0 9 h u r' f.ne, bd2_s, Z_sign N 59 h u r' f.ne, bd1_s, MZ_10, if_neg f.ne, bd1_s, Z_wind N x1 nM h u r' f.ne]
    · rw [if_neg b]
      refine Or.inr ⟨6, q, _, u, sc, fo, hq, hI, hV, rfl, fun h r0 r hM hI' => ⟨r, ?_, hI'⟩⟩
      rw [L_X8_roof_78, M_letter N h u hI' (x := 119) (by decide), bd2_s, decide_eq_false b, b01_f, if_pos rfl]
  | succ d ih =>
    intro i q nK nM u sc fo hid hnK hnM hq hI hV
    obtain ⟨nK, rfl⟩ : ∃ n, nK = n + 1 := ⟨nK - 1, by omega⟩
    obtain ⟨nM, rfl⟩ : ∃ n, nM = n + 2 := ⟨nM - 2, by omega⟩
    have hi : i < 6 := by omega
    have en : F_X6_next N (D1 (tp g q 0) sc fo pa) = some (B q, D1 (tp g q 0) sc fo pa) := by
      obtain ⟨h1, h2, rfl⟩ := hK
      exact K_next N g h1 h2 q (by have := h1.1; omega) 0 sc fo pa
    rw [L_X6_readWinds_2, if_neg (show ¬ (6 : Int32) < nI i from nI_nlt (b := i) (a := 6) (by omega) (by decide)), en, bd2_s]
    by_cases b : B q = 119
    case neg =>
      rw [if_neg b]
      refine Or.inr ⟨i, q, _, u, sc, fo, hq, hI, hV, rfl, fun h r0 r hM hI' => ⟨r, ?_, hI'⟩⟩
      rw [L_X8_roof_78, M_letter N h u hI' (x := 119) (by decide), bd2_s, decide_eq_false b, b01_f, if_pos rfl]
    have hq1 := lt_of q 119 (by decide) b
    have n6 : ¬ nI i = (6 : Int32) := fun t => by have := (nI_eq (b := 6) (by omega) (by decide)).mp t; omega
    have e1 : (D1 (tp g q 0) sc fo pa) 3 0 1 = nI q := rfl
    rw [if_pos b, if_neg n6, e1, nI_1, nI_1, Dt_1]
    have M1 : ∀ (h : GS) (r0 r : Nat → Int32), MB h z B → MI z B q r0 r → ∃ r1, MI z B (q + 1) r0 r1 ∧ ∀ (k : GS → Option GS), bd1 (F_X8_readWind N (MZ h u r)) k = bd1 (bd2 (F_X8_number N (0 : Int32) (9 : Int32) (MZ h u r1)) (fun rv11 gv10 => bd1 (F_X8_mustSign N (59 : Int32) gv10) (fun gv13 => if (gv13 10 0 17) = 0 then bd1 (ix ((5 : Int32) + (gv13 11 6 1)) 53) (fun jv15 => some (g3 (g3 gv13 11 6 jv15 rv11) 11 6 1 (((g3 gv13 11 6 jv15 rv11) 11 6 1) + (1 : Int32)))) else some gv13))) k := fun h r0 r hM hI' => by
      obtain ⟨r1, m1, i1⟩ : ∃ r1, F_X8_must N 1 (MZ h u r) = some (MZ h u r1) ∧ MI z B (q + 1) r0 r1 := by
        obtain ⟨h1, rfl⟩ := hM
        exact M_step N hN h u h1 hI' (by rw [b]; decide)
      refine ⟨r1, i1, fun k => ?_⟩
      unfold F_X8_readWind
      rw [ix1, bd1_s, MZ_6, if_neg (show ¬ u 1 = 6 by rw [hI.2.2.1]; exact n6), M_letter N h u hI' (x := 119) (by decide), bd2_s, decide_eq_true b, b01_t, m1, bd1_s]
    rcases K_numD N hN g hK hq1 0 9 sc fo pa with ⟨v, q2, ev, hq2, v1, v2, e2⟩ | ⟨n, ev, e2⟩
    case inr =>
      rw [e2, bd2_s, if_pos rfl]
      refine Or.inl ⟨n, q + 1, sc, fo, rfl, fun h r0 r hM hI' => ?_⟩
      obtain ⟨r1, i1, m1⟩ := M1 h r0 r hM hI'
      obtain ⟨r2, m2, f⟩ := (M_numD N hN hM u i1 0 9).2 _ _ ev
      refine ⟨u, r2, ?_, f⟩
      rw [L_X8_roof_78, M_letter N h u hI' (x := 119) (by decide), bd2_s, decide_eq_true b, b01_t, if_neg (by decide), m1, m2, bd2_s, Z_sign N 59 h u r2 f.ne, bd1_s, MZ_10, if_neg f.ne, bd1_s, Z_wind N x1 nM h u r2 f.ne]
    obtain ⟨vn, -, vn2, evn⟩ := nat_of (a := 0) (b := 9) rfl rfl (by decide) (by decide) v1 v2
    have hvm : ¬ v = -1 := by rw [evn]; exact ne_m1 vn (by omega)
    rw [e2, bd2_s, if_neg hvm]
    rcases K_takeD N g hK hq2 59 sc fo pa with ⟨b3, e3⟩ | ⟨b3, e3⟩
    case inr =>
      rw [e3, bd2_s, if_pos rfl]
      refine Or.inl ⟨1, q2, sc, fo, rfl, fun h r0 r hM hI' => ?_⟩
      obtain ⟨r1, i1, m1⟩ := M1 h r0 r hM hI'
      obtain ⟨r2, m2, i2⟩ := (M_numD N hN hM u i1 0 9).1 _ _ ev
      obtain ⟨r3, m3, f⟩ := (M_signD N hN hM u i2 (x := 59) (Or.inr rfl)).2 b3
      refine ⟨u, r3, ?_, f⟩
      rw [L_X8_roof_78, M_letter N h u hI' (x := 119) (by decide), bd2_s, decide_eq_true b, b01_t, if_neg (by decide), m1, m2, bd2_s, m3, bd1_s, MZ_10, if_neg f.ne, bd1_s, Z_wind N x1 nM h u r3 f.ne]
    have hq3 := lt_of q2 59 (by decide) b3
    rw [e3, bd2_s, if_neg (by decide), ix_nI (by omega) (by decide), bd1_s, D1_at12', D1_at0']
    have IH := ih (i + 1) (q2 + 1) nK (nM + 1) (va_up (va_up u (5 + i) v) 1 (nI (i + 1))) (va_up sc 3 (nI (i + 1))) (va_up fo i v) (by omega) (by omega) (by omega) hq3 (IV_wind hI hi ⟨vn, vn2, evn⟩) (KV_wind hV hi v)
    have go : ∀ (h : GS) (r0 r : Nat → Int32), MB h z B → MI z B q r0 r → ∃ r3, MI z B (q2 + 1) r0 r3 ∧ L_X8_roof_78 N x1 (nM + 2) (MZ h u r) = L_X8_roof_78 N x1 (nM + 1) (MZ h (va_up (va_up u (5 + i) v) 1 (nI (i + 1))) r3) := fun h r0 r hM hI' => by
      obtain ⟨r1, i1, m1⟩ := M1 h r0 r hM hI'
      obtain ⟨r2, m2, i2⟩ := (M_numD N hN hM u i1 0 9).1 _ _ ev
      obtain ⟨r3, m3, i3⟩ := (M_signD N hN hM u i2 (x := 59) (Or.inr rfl)).1 b3
      refine ⟨r3, i3, ?_⟩
      rw [L_X8_roof_78, M_letter N h u hI' (x := 119) (by decide), bd2_s, decide_eq_true b, b01_t, if_neg (by decide), m1, m2, bd2_s, m3, bd1_s, MZ_10, if_pos i3.2.2.2.1, MZ_6, hI.2.2.1, show (5 : Int32) = nI 5 from rfl, nI_add, ix_nI (by omega) (by decide), bd1_s, MZ_u, MZ_6, MZ_u, up_ne _ _ (by omega), hI.2.2.1, nI_1, bd1_s]
    rcases IH with ⟨n, q', sc', fo', k1, m⟩ | ⟨j, q', x, u', sc', fo', a1, a2, a3, k1, m⟩
    · refine Or.inl ⟨n, q', sc', fo', k1, fun h r0 r hM hI' => ?_⟩
      obtain ⟨r3, i3, e⟩ := go h r0 r hM hI'
      rw [e]
      exact m h r0 r3 hM i3
    · refine Or.inr ⟨j, q', x, u', sc', fo', a1, a2, a3, k1, fun h r0 r hM hI' => ?_⟩
      obtain ⟨r3, i3, e⟩ := go h r0 r hM hI'
      rw [e]
      exact m h r0 r3 hM i3
