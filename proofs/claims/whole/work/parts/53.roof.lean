theorem both_papers (N : Nat) (hN : 2000 ≤ N) (g : GS) {z : Nat} {B : Nat → Int32} (hK : KB g z B) (fo : Nat → Int32) (w : Nat) (x1 : Int32) : ∀ (d i q nK nM : Nat) (u sc pa : Nat → Int32), i + d = 6 → d + 2 ≤ nK → d + 2 ≤ nM → q ≤ z → IV i w u → KV i w sc fo pa u →
    (∃ n q' sc' pa', L_X6_readPapers_2 N 1 nK (nI i) (D1 (tp g q 0) sc fo pa) = some (.inl (0, D1 (tp g q' (nI n)) sc' fo pa')) ∧ ∀ (h : GS) (r0 r : Nat → Int32), MB h z B → MI z B q r0 r → ∃ u' r', L_X8_roof_106 N x1 nM (MZ h u r) = some (MZ h u' r') ∧ FT n q' r0 r')
    ∨ (∃ j q' x u' sc' pa', q' ≤ z ∧ i ≤ j ∧ (¬ srt (B q) = 0 → i < j) ∧ IV j w u' ∧ KV j w sc' fo pa' u' ∧ L_X6_readPapers_2 N 1 nK (nI i) (D1 (tp g q 0) sc fo pa) = some (.inr (x, D1 (tp g q' 0) sc' fo pa')) ∧ ∀ (h : GS) (r0 r : Nat → Int32), MB h z B → MI z B q r0 r → ∃ r', L_X8_roof_106 N x1 nM (MZ h u r) = some (MZ h u' r') ∧ MI z B q' r0 r') := by
  have ix0 : ix (0 : Int32) 53 = some 0 := by decide
  have lt_of : ∀ q c, c ≠ -1 → B q = c → q + 1 ≤ z := fun q c hc hb => by
    obtain ⟨h1, -, rfl⟩ := hK
    exact BT_lt hc hb
  intro d
  induction d with
  | zero =>
    intro i q nK nM u sc pa hid hnK hnM hq hI hV
    obtain ⟨nK, rfl⟩ : ∃ n, nK = n + 1 := ⟨nK - 1, by omega⟩
    obtain ⟨nM, rfl⟩ : ∃ n, nM = n + 2 := ⟨nM - 2, by omega⟩
    have hi : i = 6 := by omega
    subst hi
    have en : F_X6_next N (D1 (tp g q 0) sc fo pa) = some (B q, D1 (tp g q 0) sc fo pa) := by
      obtain ⟨h1, h2, rfl⟩ := hK
      exact K_next N g h1 h2 q (by have := h1.1; omega) 0 sc fo pa
    rw [L_X6_readPapers_2, if_neg (by decide), en, bd2_s, X6_sortOf, bd2_s]
    by_cases b : srt (B q) = 0
    · rw [if_pos b]
      refine Or.inr ⟨6, q, _, u, sc, pa, hq, Nat.le_refl 6, fun t => absurd b t, hI, hV, rfl, fun h r0 r hM hI' => ⟨r, ?_, hI'⟩⟩
      rw [L_X8_roof_106, M_sort N h u hI', bd2_s, decide_eq_true b]
      rfl
    · rw [if_neg b, if_pos (by decide)]
      unfold F_X6_hasFault
      rw [bd2_s, if_pos (Or.inl rfl), Dt_2]
      refine Or.inl ⟨3, q, sc, pa, rfl, fun h r0 r hM hI' => ?_⟩
      obtain ⟨r', m, f⟩ := M_bad N h u hI' (n := 3) (Or.inr (Or.inr rfl))
      refine ⟨u, r', ?_, f⟩
      rw [L_X8_roof_106, M_sort N h u hI', bd2_s, decide_eq_false b, show b01 (!false) = 1 from rfl, if_neg (by decide)]
      unfold F_X8_readPaper
      rw [X8_kindBy, bd2_s, ix0, bd1_s, MZ_6, if_pos (show u 0 = 6 from hI.1), show F_X8_bad N 3 (MZ h u r) = _ from m, bd1_s, Z_must N 1 h u r' f.ne, bd1_s, Z_number N 0 9 h u r' f.ne, bd2_s, Z_sign N 44 h u r' f.ne, bd1_s, Z_number N 1 60 h u r' f.ne, bd2_s, Z_sign N 59 h u r' f.ne, bd1_s, MZ_10, if_neg f.ne, bd1_s, Z_papers N x1 nM h u r' f.ne]
  | succ d ih =>
    intro i q nK nM u sc pa hid hnK hnM hq hI hV
    obtain ⟨nK, rfl⟩ : ∃ n, nK = n + 1 := ⟨nK - 1, by omega⟩
    obtain ⟨nM, rfl⟩ : ∃ n, nM = n + 2 := ⟨nM - 2, by omega⟩
    have hi : i < 6 := by omega
    have en : ∀ sc pa, F_X6_next N (D1 (tp g q 0) sc fo pa) = some (B q, D1 (tp g q 0) sc fo pa) := fun sc pa => by
      obtain ⟨h1, h2, rfl⟩ := hK
      exact K_next N g h1 h2 q (by have := h1.1; omega) 0 sc fo pa
    rw [L_X6_readPapers_2, if_neg (show ¬ (6 : Int32) < nI i from nI_nlt (b := i) (a := 6) (by omega) (by decide)), en, bd2_s, X6_sortOf, bd2_s]
    by_cases b : srt (B q) = 0
    case pos =>
      rw [if_pos b]
      refine Or.inr ⟨i, q, _, u, sc, pa, hq, Nat.le_refl i, fun t => absurd b t, hI, hV, rfl, fun h r0 r hM hI' => ⟨r, ?_, hI'⟩⟩
      rw [L_X8_roof_106, M_sort N h u hI', bd2_s, decide_eq_true b]
      rfl
    obtain ⟨bw, bs, -⟩ := srt_w b
    have hq1 : q + 1 ≤ z := lt_of q (B q) (fun t => by rw [t] at bw; exact absurd bw (by decide)) rfl
    have n6 : ¬ nI i = (6 : Int32) := fun t => by have := (nI_eq (b := 6) (by omega) (by decide)).mp t; omega
    rw [if_neg b, if_neg n6, ix_nI (by omega) (by decide), bd1_s]
    unfold F_X6_readPaper
    have e1 : (D1 (tp g q 0) sc fo pa) 3 0 1 = nI q := rfl
    rw [en, bd2_s, X6_sortOf, bd2_s, e1, nI_1 q, D1_at13', Dt_1]
    have M1 : ∀ (h : GS) (r0 r : Nat → Int32), MB h z B → MI z B q r0 r → ∃ r1, MI z B (q + 1) r0 r1 ∧ ∀ (k : GS → Option GS), bd1 (F_X8_readPaper N (MZ h u r)) k = bd1 (bd2 (F_X8_number N (0 : Int32) (9 : Int32) (MZ h u r1)) (fun rv11 gv10 => bd1 (F_X8_mustSign N (44 : Int32) gv10) (fun gv13 => bd2 (F_X8_number N (1 : Int32) (60 : Int32) gv13) (fun rv16 gv15 => bd1 (F_X8_mustSign N (59 : Int32) gv15) (fun gv18 => if (gv18 10 0 17) = 0 then bd1 (ix ((11 : Int32) + ((7 : Int32) * (gv18 11 6 0))) 53) (fun jv20 => bd1 (ix (((11 : Int32) + ((7 : Int32) * (gv18 11 6 0))) + (1 : Int32)) 53) (fun jv22 => bd1 (ix (((11 : Int32) + ((7 : Int32) * (gv18 11 6 0))) + (2 : Int32)) 53) (fun jv24 => some (g3 (g3 (g3 (g3 gv18 11 6 jv20 (srt (B q))) 11 6 jv22 rv11) 11 6 jv24 rv16) 11 6 0 (((g3 (g3 (g3 gv18 11 6 jv20 (srt (B q))) 11 6 jv22 rv11) 11 6 jv24 rv16) 11 6 0) + (1 : Int32)))))) else some gv18))))) k := fun h r0 r hM hI' => by
      obtain ⟨-, t2, t2', -⟩ := hI'.2.2.2.2.1
      obtain ⟨r1, m1, i1⟩ : ∃ r1, F_X8_must N 1 (MZ h u r) = some (MZ h u r1) ∧ MI z B (q + 1) r0 r1 := by
        obtain ⟨h1, rfl⟩ := hM
        exact M_step N hN h u h1 hI' bw
      refine ⟨r1, i1, fun k => ?_⟩
      unfold F_X8_readPaper
      rw [X8_kindBy, bd2_s, MZ_10, (t2' (t2.mpr bw)).1, if_neg b, ix0, bd1_s, MZ_6, if_neg (show ¬ u 0 = 6 by rw [hI.1]; exact n6), m1, bd1_s]
    have Lp : ∀ (h : GS) (r0 r : Nat → Int32), MI z B q r0 r → L_X8_roof_106 N x1 (nM + 2) (MZ h u r) = bd1 (F_X8_readPaper N (MZ h u r)) (fun gv45 => L_X8_roof_106 N x1 (nM + 1) gv45) := fun h r0 r hI' => by
      rw [L_X8_roof_106, M_sort N h u hI', bd2_s, decide_eq_false b, show b01 (!false) = 1 from rfl, if_neg (by decide)]
    rcases K_numD N hN g hK hq1 0 9 sc fo (va_up pa (7 * i) (srt (B q))) with ⟨v, q2, ev, hq2, v1, v2, e2⟩ | ⟨n, ev, e2⟩
    case inr =>
      rw [e2, bd2_s, if_pos rfl, D1_at13', bd2_s, if_pos rfl]
      refine Or.inl ⟨n, q + 1, sc, _, rfl, fun h r0 r hM hI' => ?_⟩
      obtain ⟨r1, i1, m1⟩ := M1 h r0 r hM hI'
      obtain ⟨r2, m2, f⟩ := (M_numD N hN hM u i1 0 9).2 _ _ ev
      refine ⟨u, r2, ?_, f⟩
      rw [Lp h r0 r hI', m1, m2, bd2_s, Z_sign N 44 h u r2 f.ne, bd1_s, Z_number N 1 60 h u r2 f.ne, bd2_s, Z_sign N 59 h u r2 f.ne, bd1_s, MZ_10, if_neg f.ne, bd1_s, Z_papers N x1 nM h u r2 f.ne]
    obtain ⟨vn, -, vn2, evn⟩ := nat_of (a := 0) (b := 9) rfl rfl (by decide) (by decide) v1 v2
    have hvm : ¬ v = -1 := by rw [evn]; exact ne_m1 vn (by omega)
    rw [e2, bd2_s, if_neg hvm, D1_at13']
    rcases K_takeD N g hK hq2 44 sc fo (va_up (va_up pa (7 * i) (srt (B q))) (7 * i + 1) v) with ⟨b3, e3⟩ | ⟨b3, e3⟩
    case inr =>
      rw [e3, bd2_s, if_pos rfl, bd2_s, if_pos rfl]
      refine Or.inl ⟨1, q2, sc, _, rfl, fun h r0 r hM hI' => ?_⟩
      obtain ⟨r1, i1, m1⟩ := M1 h r0 r hM hI'
      obtain ⟨r2, m2, i2⟩ := (M_numD N hN hM u i1 0 9).1 _ _ ev
      obtain ⟨r3, m3, f⟩ := (M_signD N hN hM u i2 (x := 44) (Or.inl rfl)).2 b3
      refine ⟨u, r3, ?_, f⟩
      rw [Lp h r0 r hI', m1, m2, bd2_s, m3, bd1_s, Z_number N 1 60 h u r3 f.ne, bd2_s, Z_sign N 59 h u r3 f.ne, bd1_s, MZ_10, if_neg f.ne, bd1_s, Z_papers N x1 nM h u r3 f.ne]
    have hq3 := lt_of q2 44 (by decide) b3
    rw [e3, bd2_s, if_neg (by decide)]
    have st : ∀ (q : Nat) (y f : Int32), F_X3_settle N 1 i 0 (-1000000) (g3 (D1 (tp g q f) sc fo (va_up (va_up pa (7 * i) (srt (B q2))) (7 * i + 1) v)) 13 1 (7 * i + 2) y) = some (D1 (tp g q f) sc fo (pK pa i (srt (B q2)) v y)) := fun q y f => by
      unfold F_X3_settle
      rw [D1_at13', D1_at13', D1_at13', D1_at13', D1_at13']
      rfl
    have st : ∀ (q' : Nat) (y f : Int32), F_X3_settle N 1 i 0 (-1000000) (g3 (D1 (tp g q' f) sc fo (va_up (va_up pa (7 * i) (srt (B q))) (7 * i + 1) v)) 13 1 (7 * i + 2) y) = some (D1 (tp g q' f) sc fo (pK pa i (srt (B q)) v y)) := fun q' y f => by
      unfold F_X3_settle
      rw [D1_at13', D1_at13', D1_at13', D1_at13', D1_at13']
      rfl
    have pk2 : ∀ y, pK pa i (srt (B q)) v y (7 * i + 2) = y := fun y => by unfold pK; simp [va_up]
    rcases K_numD N hN g hK hq3 1 60 sc fo (va_up (va_up pa (7 * i) (srt (B q))) (7 * i + 1) v) with ⟨y, q4, ey, hq4, y1, y2, e4⟩ | ⟨n, ey, e4⟩
    case inr =>
      rw [e4, bd2_s, st, bd1_s, D1_13, pk2, if_pos rfl, bd2_s, if_pos rfl]
      refine Or.inl ⟨n, q2 + 1, sc, _, rfl, fun h r0 r hM hI' => ?_⟩
      obtain ⟨r1, i1, m1⟩ := M1 h r0 r hM hI'
      obtain ⟨r2, m2, i2⟩ := (M_numD N hN hM u i1 0 9).1 _ _ ev
      obtain ⟨r3, m3, i3⟩ := (M_signD N hN hM u i2 (x := 44) (Or.inl rfl)).1 b3
      obtain ⟨r4, m4, f⟩ := (M_numD N hN hM u i3 1 60).2 _ _ ey
      refine ⟨u, r4, ?_, f⟩
      rw [Lp h r0 r hI', m1, m2, bd2_s, m3, bd1_s, m4, bd2_s, Z_sign N 59 h u r4 f.ne, bd1_s, MZ_10, if_neg f.ne, bd1_s, Z_papers N x1 nM h u r4 f.ne]
    obtain ⟨yn, yn1, yn2, eyn⟩ := nat_of (a := 1) (b := 60) rfl rfl (by decide) (by decide) y1 y2
    have hym : ¬ y = -1 := by rw [eyn]; exact ne_m1 yn (by omega)
    rw [e4, bd2_s, st, bd1_s, D1_13, pk2, if_neg hym]
    rcases K_takeD N g hK hq4 59 sc fo (pK pa i (srt (B q)) v y) with ⟨b5, e5⟩ | ⟨b5, e5⟩
    case inr =>
      rw [e5, bd2_s, if_pos rfl, bd2_s, if_pos rfl]
      refine Or.inl ⟨1, q4, sc, _, rfl, fun h r0 r hM hI' => ?_⟩
      obtain ⟨r1, i1, m1⟩ := M1 h r0 r hM hI'
      obtain ⟨r2, m2, i2⟩ := (M_numD N hN hM u i1 0 9).1 _ _ ev
      obtain ⟨r3, m3, i3⟩ := (M_signD N hN hM u i2 (x := 44) (Or.inl rfl)).1 b3
      obtain ⟨r4, m4, i4⟩ := (M_numD N hN hM u i3 1 60).1 _ _ ey
      obtain ⟨r5, m5, f⟩ := (M_signD N hN hM u i4 (x := 59) (Or.inr rfl)).2 b5
      refine ⟨u, r5, ?_, f⟩
      rw [Lp h r0 r hI', m1, m2, bd2_s, m3, bd1_s, m4, bd2_s, m5, bd1_s, MZ_10, if_neg f.ne, bd1_s, Z_papers N x1 nM h u r5 f.ne]
    have hq5 := lt_of q4 59 (by decide) b5
    rw [e5, bd2_s, if_neg (by decide), bd2_s, if_neg (by decide), nI_1, D1_at0']
    have IH := ih (i + 1) (q4 + 1) nK (nM + 1) (pU u i (srt (B q)) v y) (va_up sc 4 (nI (i + 1))) (pK pa i (srt (B q)) v y) (by omega) (by omega) (by omega) hq5 (IV_paper hI hi bs ⟨vn, vn2, evn⟩ ⟨yn, yn1, yn2, eyn⟩) (KV_paper hI hV hi (srt (B q)) v y)
    have go : ∀ (h : GS) (r0 r : Nat → Int32), MB h z B → MI z B q r0 r → ∃ r3, MI z B (q4 + 1) r0 r3 ∧ L_X8_roof_106 N x1 (nM + 2) (MZ h u r) = L_X8_roof_106 N x1 (nM + 1) (MZ h (pU u i (srt (B q)) v y) r3) := fun h r0 r hM hI' => by
      obtain ⟨r1, i1, m1⟩ := M1 h r0 r hM hI'
      obtain ⟨r2, m2, i2⟩ := (M_numD N hN hM u i1 0 9).1 _ _ ev
      obtain ⟨r3, m3, i3⟩ := (M_signD N hN hM u i2 (x := 44) (Or.inl rfl)).1 b3
      obtain ⟨r4, m4, i4⟩ := (M_numD N hN hM u i3 1 60).1 _ _ ey
      obtain ⟨r5, m5, i5⟩ := (M_signD N hN hM u i4 (x := 59) (Or.inr rfl)).1 b5
      refine ⟨r5, i5, ?_⟩
      have x0 : (11 : Int32) + ((7 : Int32) * nI i) = nI (11 + 7 * i) := by rw [show (7 : Int32) = nI 7 from rfl, show (11 : Int32) = nI 11 from rfl, pk_mul, nI_add]
      rw [Lp h r0 r hI', m1, m2, bd2_s, m3, bd1_s, m4, bd2_s, m5, bd1_s, MZ_10, if_pos i5.2.2.2.1, MZ_6, hI.1, x0, ix_nI (by omega) (by decide), bd1_s, nI_1, ix_nI (by omega) (by decide), bd1_s, show (2 : Int32) = nI 2 from rfl, nI_add, ix_nI (by omega) (by decide), bd1_s, MZ_u, MZ_u, MZ_u, MZ_6, MZ_u, up_ne _ _ (by omega), up_ne _ _ (by omega), up_ne _ _ (by omega), hI.1, nI_1, bd1_s]
      rfl
    rcases IH with ⟨n, q', sc', pa', k1, m⟩ | ⟨j, q', x, u', sc', pa', a1, a2, -, a3, a4, k1, m⟩
    · refine Or.inl ⟨n, q', sc', pa', k1, fun h r0 r hM hI' => ?_⟩
      obtain ⟨r3, i3, e⟩ := go h r0 r hM hI'
      rw [e]
      exact m h r0 r3 hM i3
    · refine Or.inr ⟨j, q', x, u', sc', pa', a1, by omega, fun _ => by omega, a3, a4, k1, fun h r0 r hM hI' => ?_⟩
      obtain ⟨r3, i3, e⟩ := go h r0 r hM hI'
      rw [e]
      exact m h r0 r3 hM i3
theorem L_roof11 (N : Nat) (h : GS) (r : Nat → Int32) : ∀ (n i : Nat) (u : Nat → Int32), i ≤ 53 → 53 < i + n → L_X8_roof_11 N n (nI i) (MZ h u r) = some (nI 53, MZ h (fun k => if i ≤ k ∧ k < 53 then 0 else u k) r) := by
  intro n
  induction n with
  | zero => intro i u h1 h2; omega
  | succ n ih =>
    intro i u h1 h2
    rw [L_X8_roof_11]
    by_cases q : i = 53
    · subst q
      rw [if_pos (by decide), show (fun k => if 53 ≤ k ∧ k < 53 then 0 else u k) = u from funext fun k => if_neg (by omega)]
    · rw [if_neg (show ¬ (53 : Int32) ≤ nI i from nI_ge (b := 53) (by omega) (by omega)), ix_nI (by omega) (by decide), bd1_s, nI_1, MZ_u, ih (i + 1) _ (by omega) (by omega)]
      congr 3
      funext k
      unfold va_up
      by_cases q1 : k = i
      · subst q1; rw [if_neg (by omega), if_pos rfl, if_pos (by omega)]
      · by_cases q2 : i ≤ k ∧ k < 53
        · rw [if_pos (by omega), if_pos q2]
        · rw [if_neg (by omega), if_neg q1, if_neg q2]
theorem L_roof142 (N : Nat) : ∀ (n i : Nat) (g : GS), i ≤ 53 → 53 < i + n → L_X8_roof_142 N n (nI i) g = some (nI 53, g2 g 11 5 (fun k => if i ≤ k ∧ k < 53 then g 11 6 k else g 11 5 k)) := by
  intro n
  induction n with
  | zero => intro i g h1 h2; omega
  | succ n ih =>
    intro i g h1 h2
    rw [L_X8_roof_142]
    by_cases q : i = 53
    · subst q
      rw [if_pos (by decide)]
      congr 2
      rw [show (fun k => if 53 ≤ k ∧ k < 53 then g 11 6 k else g 11 5 k) = g 11 5 from funext fun k => if_neg (by omega), g2_self]
    · rw [if_neg (show ¬ (53 : Int32) ≤ nI i from nI_ge (b := 53) (by omega) (by omega)), ix_nI (by omega) (by decide), bd1_s, nI_1, ih (i + 1) _ (by omega) (by omega)]
      congr 2
      rw [g3_g2, g2_g2, g2_same, g2_row _ _ _ (show 6 ≠ 5 by decide)]
      congr 1
      funext k
      unfold va_up
      by_cases q1 : k = i
      · subst q1; rw [if_neg (by omega), if_pos rfl, if_pos (by omega)]
      · by_cases q2 : i ≤ k ∧ k < 53
        · rw [if_pos (by omega), if_pos q2]
        · rw [if_neg (by omega), if_neg q1, if_neg q2]
theorem MZ_self (h : GS) (i : Nat) (v : Int32) : g3 h 10 0 i v = MZ h (h 11 6) (va_up (h 10 0) i v) := by
  unfold MZ
  rw [g3_g2, g2_self]
