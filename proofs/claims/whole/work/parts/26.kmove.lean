/-! ===== the class's ROOFS: an HOUR, a copy ===== -/
theorem X3_snapsBy (N r i : Nat) (x st : Int32) (g : GS) {v : Nat → Int32} (f4 : g 13 r (7 * i + 4) = pf v i 4) (f5 : g 13 r (7 * i + 5) = pf v i 5) (es : st = v 3) : F_X3_snapsBy N r i x st g = some (b01 (aSnap v i x), g) := by
  unfold F_X3_snapsBy aSnap
  rw [f4, f5, es]
  by_cases h : x ≤ 0
  · simp [h, b01]
  · by_cases h2 : pf v i 4 + x ≤ pf v i 5 + v 3
    · simp [h, h2, b01]
    · simp [h, h2, b01]
theorem g3_13 (g : GS) (r i : Nat) (w : Int32) (u : Nat → Int32) : g3 (g2 g 13 r u) 13 r i w = g2 g 13 r (va_up u i w) := by
  rw [g3_g2, g2_same, g2_g2]
/-- a PAPER is changed in both -/
theorem RK_up {sc fo pa v : Nat → Int32} (h : RK sc fo pa v) (hW : nW v ≤ 6) {i : Nat} {pa' v' : Nat → Int32} (lo : ∀ k, k < 11 → v' k = v k) (hp : ∀ k, k < 7 * i ∨ 7 * i + 7 ≤ k → pa' k = pa k) (hv : ∀ k, 11 ≤ k → (k < 11 + 7 * i ∨ 11 + 7 * i + 7 ≤ k) → v' k = v k) (hf : ∀ f, f < 6 → pa' (7 * i + f) = v' (11 + 7 * i + f)) (h6 : pa' (7 * i + 6) = (if v' (11 + 7 * i + 3) = 2 then v' (11 + 7 * i + 6) else -1000000)) : RK sc fo pa' v' := by
  obtain ⟨a, b, c, d, e, f⟩ := h
  have eP : nP v' = nP v := nP_eq (lo 0 (by omega))
  have eW : nW v' = nW v := nW_eq (lo 1 (by omega))
  refine ⟨by rw [lo 0 (by omega)]; exact a, by rw [lo 1 (by omega)]; exact b, by rw [lo 4 (by omega)]; exact c, ?_, ?_, ?_⟩
  · rw [eP, lo 2 (by omega), lo 3 (by omega)]; exact d
  · rw [eW]
    intro k hk
    rw [lo (5 + k) (by omega)]
    exact e k hk
  · rw [eP]
    intro j hj
    by_cases q : j = i
    · subst q; exact ⟨hf, h6⟩
    · obtain ⟨f1, f2⟩ := f j hj
      refine ⟨fun k hk => ?_, ?_⟩
      · rw [hp (7 * j + k) (by omega), hv (11 + 7 * j + k) (by omega) (by omega)]; exact f1 k hk
      · rw [hp (7 * j + 6) (by omega), hv (11 + 7 * j + 3) (by omega) (by omega), hv (11 + 7 * j + 6) (by omega) (by omega)]; exact f2
theorem X3_moveBy (N r i : Nat) (x st nf : Int32) (g : GS) {B : Nat} {u : Nat → Int32} (hv : VA B u) {pa : Nat → Int32} (hk : RK (g 0 r) (g 12 r) pa u) (hi : i < nP u) (hu : aUp u i = true) (x1 : -60 ≤ x.toInt) (x2 : x.toInt ≤ 1782) {w : Int32} (es : st = u 3) (en : nf = nI i + w) : ∃ pa', F_X3_moveBy N r i x st nf (g2 g 13 r pa) = some (g2 g 13 r pa') ∧ RK (g 0 r) (g 12 r) pa' (aMove u i x w) := by
  have hP := hv.2.1
  have hW := hv.2.2.2.1
  have hu' : pf u i 3 = 1 := by simpa [aUp] using hu
  have f3 : pa (7 * i + 3) = pf u i 3 := RK_f hk hi (by decide)
  have f4 : pa (7 * i + 4) = pf u i 4 := RK_f hk hi (by decide)
  have f5 : pa (7 * i + 5) = pf u i 5 := RK_f hk hi (by decide)
  have f6 : pa (7 * i + 6) = -1000000 := by
    rw [(hk.2.2.2.2.2 i hi).2, show u (11 + 7 * i + 3) = 1 from hu', if_neg (by decide)]
  obtain ⟨-, -, -, -, ⟨o, n, hno, ho, e4, e5, h1, h2⟩, -⟩ := VA_paper hv hi
  have e4 : pf u i 4 = nI n := e4
  have e5 : pf u i 5 = nI o := e5
  have i4 : (pf u i 4).toInt = n := by rw [e4]; exact nI_toInt (by omega)
  have i5 : (pf u i 5).toInt = o := by rw [e5]; exact nI_toInt (by omega)
  have is : (pf u i 4 + x).toInt = n + x.toInt := by rw [i_add _ _ (by omega) (by omega), i4]
  unfold F_X3_moveBy aMove
  rw [X3_snapsBy N r i x st (g2 g 13 r pa) (v := u) (by rw [g2_same]; exact f4) (by rw [g2_same]; exact f5) es, bd2_s]
  by_cases hs : aSnap u i x = true
  · rw [hs, b01_t, if_neg (by decide), if_pos rfl]
    unfold F_X3_settle
    rw [bd1_s, g3_13, g3_13, g3_13, g3_13, g2_same, f5, en]
    refine ⟨_, rfl, ?_⟩
    refine RK_up hk hW (i := i) (fun k hk => ?_) (fun k hk => ?_) (fun k h11 hk => ?_) (fun f hf => ?_) ?_
    · rw [up_ne _ _ (by omega), up_ne _ _ (by omega), up_ne _ _ (by omega), up_ne _ _ (by omega)]
    · rw [up_ne _ _ (by omega), up_ne _ _ (by omega), up_ne _ _ (by omega), up_ne _ _ (by omega)]
    · rw [up_ne _ _ (by omega), up_ne _ _ (by omega), up_ne _ _ (by omega), up_ne _ _ (by omega)]
    · rcases (show f = 0 ∨ f = 1 ∨ f = 2 ∨ f = 3 ∨ f = 4 ∨ f = 5 by omega) with rfl | rfl | rfl | rfl | rfl | rfl
      · simpa [va_up, pf] using RK_f (f := 0) hk hi (by decide)
      · simpa [va_up] using RK_f (f := 1) hk hi (by decide)
      · simpa [va_up] using RK_f (f := 2) hk hi (by decide)
      · simp [va_up]
      · simp [va_up]
      · simp [va_up]
    · have e : nI i + w + pf u i 5 = nI i + pf u i 5 + w := by rw [Int32.add_assoc, Int32.add_comm w, ← Int32.add_assoc]
      simp [va_up, e]
  · have hs := Bool.eq_false_iff.mpr hs
    rw [hs, b01_f, if_pos rfl, if_neg Bool.false_ne_true]
    simp only [g3_13, g2_same, f4, f5]
    have keep : ∀ y z : Int32, y = z → RK (g 0 r) (g 12 r) (va_up pa (7 * i + 4) y) (va_up u (11 + 7 * i + 4) z) := by
      rintro y z rfl
      refine RK_up hk hW (i := i) (fun k hk => ?_) (fun k hk => ?_) (fun k h11 hk => ?_) (fun f hf => ?_) ?_
      · rw [up_ne _ _ (by omega)]
      · rw [up_ne _ _ (by omega)]
      · rw [up_ne _ _ (by omega)]
      · rcases (show f = 0 ∨ f = 1 ∨ f = 2 ∨ f = 3 ∨ f = 4 ∨ f = 5 by omega) with rfl | rfl | rfl | rfl | rfl | rfl
        · simpa [va_up, pf] using RK_f (f := 0) hk hi (by decide)
        · simpa [va_up] using RK_f (f := 1) hk hi (by decide)
        · simpa [va_up] using RK_f (f := 2) hk hi (by decide)
        · simpa [va_up] using RK_f (f := 3) hk hi (by decide)
        · simp [va_up]
        · simpa [va_up] using RK_f (f := 5) hk hi (by decide)
      · rw [up_ne _ _ (by omega), up_ne _ _ (by omega), f6, show u (11 + 7 * i + 3) = 1 from hu', if_neg (by decide)]
    have em : (if pf u i 5 < pf u i 4 + x then pf u i 5 else pf u i 4 + x) = (if pf u i 4 + x ≤ pf u i 5 then pf u i 4 + x else pf u i 5) := by
      by_cases q : pf u i 4 + x ≤ pf u i 5
      · rw [if_pos q, if_neg (by rw [i_lt]; rw [i_le] at q; omega)]
      · rw [if_neg q, if_pos (by rw [i_lt]; rw [i_le] at q; omega)]
    by_cases hx : 0 ≤ x
    · rw [if_pos hx, if_pos hx]
      exact ⟨_, rfl, keep _ _ em⟩
    · rw [if_neg hx, if_neg hx]
      have hx' : x.toInt < 0 := by rw [i_le, t0] at hx; omega
      have q : pf u i 4 + x ≤ pf u i 5 := by rw [i_le, is, i5]; omega
      have em' : (if pf u i 5 < pf u i 4 + x then pf u i 5 else pf u i 4 + x) = pf u i 4 + x := by rw [em, if_pos q]
      rw [em']
      by_cases hz : 0 < pf u i 4 + x
      · rw [if_pos hz, if_pos hz, if_pos q]
        exact ⟨_, rfl, keep _ _ rfl⟩
      · rw [if_neg hz, if_neg hz]
        unfold F_X3_settle
        rw [bd1_s, g3_13, g3_13, g3_13, g3_13]
        refine ⟨_, rfl, ?_⟩
        refine RK_up hk hW (i := i) (fun k hk => ?_) (fun k hk => ?_) (fun k h11 hk => ?_) (fun f hf => ?_) ?_
        · rw [up_ne _ _ (by omega), up_ne _ _ (by omega), up_ne _ _ (by omega)]
        · rw [up_ne _ _ (by omega), up_ne _ _ (by omega), up_ne _ _ (by omega), up_ne _ _ (by omega), up_ne _ _ (by omega)]
        · rw [up_ne _ _ (by omega), up_ne _ _ (by omega), up_ne _ _ (by omega)]
        · rcases (show f = 0 ∨ f = 1 ∨ f = 2 ∨ f = 3 ∨ f = 4 ∨ f = 5 by omega) with rfl | rfl | rfl | rfl | rfl | rfl
          · simpa [va_up, pf] using RK_f (f := 0) hk hi (by decide)
          · simpa [va_up] using RK_f (f := 1) hk hi (by decide)
          · simpa [va_up] using RK_f (f := 2) hk hi (by decide)
          · simp [va_up]
          · simp [va_up]
          · simp [va_up]
        · simp [va_up]
theorem L_pass7 (N r : Nat) (hN : 2000 ≤ N) (g : GS) {B : Nat} {v : Nat → Int32} (hv : VA B v) {wn : Nat} (hw : wn ≤ 99) : ∀ (n i : Nat) (pa : Nat → Int32), RK (g 0 r) (g 12 r) pa (aMv v (nI wn) i) → i ≤ nP v → nP v < i + n → ∃ pa', L_X4_passHourIn_7 N r (nI wn) (b01 (decide (1 < cntF (isT v) (nP v)))) n (nI i) (g2 g 13 r pa) = some (nI (nP v), g2 g 13 r pa') ∧ RK (g 0 r) (g 12 r) pa' (aMv v (nI wn) (nP v)) := by
  have hP := hv.2.1
  intro n
  induction n with
  | zero => intro i pa _ h1 h2; omega
  | succ n ih =>
    intro i pa hk h1 h2
    have e0 : nP (aMv v (nI wn) i) = nP v := nP_eq (aMv_hi (by omega))
    have hz : (g2 g 13 r pa) 0 r 4 = nI (nP v) := by
      rw [g2_kind _ _ _ (by decide), hk.1, aMv_hi (by omega)]; exact hv.1
    rw [L_X4_passHourIn_7]
    by_cases h : i = nP v
    · rw [if_pos ((kP_le hz h1 hP).mpr h), ← h]
      refine ⟨pa, rfl, ?_⟩
      exact hk
    · have hi : i < nP v := by omega
      have hu : VA B (aMv v (nI wn) i) := VA_mv hv hw i h1
      have ff : ∀ f, f < 6 → pa (7 * i + f) = pf (aMv v (nI wn) i) i f := fun f hf => RK_f hk (by rw [e0]; exact hi) hf
      have fv : ∀ f, pf (aMv v (nI wn) i) i f = pf v i f := fun f => aMv_hi (by omega)
      rw [if_neg (fun q => h ((kP_le hz h1 hP).mp q)), ix_nI (by omega) (by decide), bd1_s, X3_isUp N r i _ (v := aMv v (nI wn) i) (by rw [g2_same]; exact ff 3 (by decide)), bd2_s, nI_1]
      by_cases q : aUp (aMv v (nI wn) i) i = true
      · have qv : aUp v i = true := by unfold aUp at q ⊢; rw [fv 3] at q; exact q
        have hr := aRise_i (VA_paper hv hi) hw
        rw [q, b01_t, if_neg (by decide), X3_liftIn N r i (nI wn) _ (v := v) hi (VA_paper hv hi) qv (by rw [g2_same]; exact (ff 0 (by decide)).trans (fv 0)) (by rw [g2_same]; exact (ff 1 (by decide)).trans (fv 1)) (by rw [g2_same]; exact (ff 4 (by decide)).trans (fv 4)), bd2_s]
        rw [g2_same, ff 2 (by decide), fv 2, show aLift v i (nI wn) - pf v i 2 = aRise v i (nI wn) from rfl]
        obtain ⟨pa1, e1, k1⟩ := X3_moveBy N r i (aRise v i (nI wn)) ((g2 g 13 r pa) 0 r 1) (nI i + nI wn) g hu hk (by rw [e0]; exact hi) q hr.1 hr.2 (w := nI wn) (by rw [g2_kind _ _ _ (by decide)]; exact (hk.2.2.2.1 (by rw [e0]; omega)).2) rfl
        rw [e1, bd1_s]
        refine ih (i + 1) pa1 ?_ (by omega) (by omega)
        rw [aMv, if_pos q]
        exact k1
      · have q := Bool.eq_false_iff.mpr q
        rw [q, b01_f, if_pos rfl]
        refine ih (i + 1) pa ?_ (by omega) (by omega)
        rw [aMv, if_neg (by rw [q]; decide)]
        exact hk
theorem X4_passHourIn (N r : Nat) (hN : 2000 ≤ N) (g : GS) {B : Nat} {v : Nat → Int32} (hv : VA B v) (hk : RK (g 0 r) (g 12 r) (g 13 r) v) {wn : Nat} (hw : wn ≤ 99) : ∃ sc pa, F_X4_passHourIn N r (nI wn) g = some (g2 (g2 g 13 r pa) 0 r sc) ∧ RK sc (g 12 r) pa (aHour v (nI wn)) := by
  unfold F_X4_passHourIn
  rw [X4_isPaired N r hN g hv hk, bd2_s]
  obtain ⟨pa, e, k⟩ := L_pass7 N r hN g hv hw N 0 (g 13 r) hk (by omega) (by have := hv.2.1; omega)
  rw [g2_self, nI_0] at e
  rw [e, bd2_s, g3_g2]
  refine ⟨_, pa, rfl, ?_⟩
  rw [g2_kind _ _ _ (by decide)]
  obtain ⟨a, b, c, d, f, p⟩ := k
  have lo : ∀ k, k ≠ 4 → aHour v (nI wn) k = aMv v (nI wn) (nP v) k := fun k h => by unfold aHour; rw [up_ne _ _ h]
  have eP : nP (aHour v (nI wn)) = nP (aMv v (nI wn) (nP v)) := nP_eq (lo 0 (by omega))
  have eW : nW (aHour v (nI wn)) = nW (aMv v (nI wn) (nP v)) := nW_eq (lo 1 (by omega))
  have hW : nW (aMv v (nI wn) (nP v)) ≤ 6 := by rw [nW_eq (aMv_hi (by omega))]; exact hv.2.2.2.1
  refine ⟨by rw [up_ne _ _ (by decide), lo 0 (by omega)]; exact a, by rw [up_ne _ _ (by decide), lo 1 (by omega)]; exact b, ?_, ?_, ?_, ?_⟩
  · rw [up_same, c]
    unfold aHour
    rw [up_same]
  · rw [eP, lo 2 (by omega), lo 3 (by omega), up_ne _ _ (by decide), up_ne _ _ (by decide)]; exact d
  · rw [eW]
    intro k hk
    rw [lo (5 + k) (by omega)]
    exact f k hk
  · rw [eP]
    intro i hi
    obtain ⟨p1, p2⟩ := p i hi
    refine ⟨fun k hk => ?_, ?_⟩
    · rw [lo (11 + 7 * i + k) (by omega)]; exact p1 k hk
    · rw [lo (11 + 7 * i + 3) (by omega), lo (11 + 7 * i + 6) (by omega)]; exact p2
