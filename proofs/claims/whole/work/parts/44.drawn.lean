/-! ===== drawn ===== -/
theorem lN_i32 {n : Nat} (h : n < 2 ^ 31) : (lN n).toInt32 = nI n := by
  apply Int32.toInt_inj.mp
  rw [nI_toInt h, Int64.toInt_toInt32, pk_lT (by omega), Int.bmod]
  split <;> omega
def lcg (s : Nat) : Nat := (s * 16807) % 2147483647
theorem lcg_lt (s : Nat) : lcg s < 2147483647 := Nat.mod_lt _ (by decide)
theorem lcg_l {s : Nat} (h : s < 2 ^ 31) : (lN s * (16807 : Int64)) - (lN s * (16807 : Int64)) / (2147483647 : Int64) * (2147483647 : Int64) = lN (lcg s) := by
  rw [show (16807 : Int64) = lN 16807 from rfl, show (2147483647 : Int64) = lN 2147483647 from rfl, lN_mul, pk_lRem (by omega) (by decide) (by decide)]
  rfl
def aDraw (u : Nat → Int32) (x : Nat) : Nat → Int32 :=
  if pf u (x % nP u) 3 = 0 then aSend u (x % nP u) (nI (x % 40 + 1))
  else if aUp u (x % nP u) then (if x % 2 = 0 then aLet u (x % nP u) (clamp (pf u (x % nP u) 5 + 5)) else u)
  else u
def aYr : Nat → (Nat → Int32) → Nat → Nat → Int32
  | 0, u, _ => u
  | n + 1, u, s => aYr n (aHour (aDraw u (lcg s)) (nI (lcg s % 10))) (lcg s)
theorem aDraw_VA {B : Nat} {u : Nat → Int32} (h : VA B u) (hp : 0 < nP u) (x : Nat) : VA B (aDraw u x) ∧ nP (aDraw u x) = nP u := by
  have hx : x % nP u < nP u := Nat.mod_lt _ hp
  unfold aDraw
  split
  · exact ⟨VA_send h hx (by omega) (by omega), nP_eq (aSend_lo _ _ _ (by omega))⟩
  · split
    · rename_i q
      split
      · obtain ⟨n, h1, h2, e⟩ := clamp_n (pf u (x % nP u) 5 + 5)
        rw [e]
        exact ⟨VA_let h hx q h1 h2, nP_eq (aLet_lo _ _ _ (by omega))⟩
      · exact ⟨h, rfl⟩
    · exact ⟨h, rfl⟩
theorem aYr_VA : ∀ (n : Nat) {B : Nat} {u : Nat → Int32} (s : Nat), VA B u → 0 < nP u → B + n < 2 ^ 29 → VA (B + n) (aYr n u s) ∧ nP (aYr n u s) = nP u := by
  intro n
  induction n with
  | zero => intro B u s h _ _; exact ⟨h, rfl⟩
  | succ n ih =>
    intro B u s h hp hB
    obtain ⟨a, b⟩ := aDraw_VA h hp (lcg s)
    obtain ⟨c, d, -, -⟩ := VA_hour a (by omega) (wn := lcg s % 10) (by omega)
    obtain ⟨e, f⟩ := ih (lcg s) c (by rw [d, b]; exact hp) (by omega)
    rw [show B + (n + 1) = B + 1 + n by omega]
    exact ⟨e, by rw [aYr, f, d, b]⟩
theorem K_drawAct (N : Nat) (g : GS) {B : Nat} {u sc fo pa : Nat → Int32} (hv : VA B u) (hp : 0 < nP u) (hk : RK sc fo pa u) {x : Nat} (hx : x < 2 ^ 31) : ∃ pa', F_X2_drawAct N (nI x) (D1 g sc fo pa) = some (D1 g sc fo pa') ∧ RK sc fo pa' (aDraw u x) := by
  have hP := hv.2.1
  have h4 : (D1 g sc fo pa) 0 1 4 = nI (nP u) := hk.1.trans hv.1
  have hj : x % nP u < nP u := Nat.mod_lt _ hp
  unfold F_X2_drawAct
  rw [h4, if_pos (show (1 : Int32) ≤ nI (nP u) from nI_le (a := 1) (by omega) (by omega)), if_neg (nI_ne0 hp (by omega)), pk_rem hx hp (by omega), ix_nI (by omega) (by decide), bd1_s, D1_13, RK_f hk hj (by decide), show (40 : Int32) = nI 40 from rfl, pk_rem hx (by decide) (by decide), nI_1, show (2 : Int32) = nI 2 from rfl, pk_rem hx (by decide) (by decide)]
  unfold aDraw
  by_cases q : pf u (x % nP u) 3 = 0
  · rw [if_pos q, if_pos q]
    rw [show F_X3_rise N 1 (x % nP u) (nI (x % 40 + 1)) (D1 g sc fo pa) = some (D1 g sc fo _) from X3_rise N 1 (x % nP u) (nI (x % 40 + 1)) (g2 (g2 g 0 1 sc) 12 1 fo) pa, bd1_s]
    exact ⟨_, rfl, RK_send hk hv.2.2.2.1 hj _⟩
  · rw [if_neg q, if_neg q, X3_isUp N 1 (x % nP u) (D1 g sc fo pa) (v := u) (RK_f hk hj (by decide)), bd2_s]
    by_cases q2 : aUp u (x % nP u) = true
    · rw [q2, b01_t, if_neg (by decide), if_pos rfl]
      by_cases q3 : x % 2 = 0
      · rw [if_pos q3, if_pos (by rw [q3]; rfl)]
        obtain ⟨pa1, e1, k1⟩ := X3_letOutBy N 1 (x % nP u) 5 (g2 (g2 g 0 1 sc) 12 1 fo) hk hv.2.2.2.1 hj q2
        have e1 : F_X3_letOutBy N 1 (x % nP u) 5 (D1 g sc fo pa) = some (D1 g sc fo pa1) := e1
        rw [e1, bd1_s]
        exact ⟨pa1, rfl, k1⟩
      · rw [if_neg q3, if_neg (nI_ne0 (by omega) (by omega))]
        exact ⟨pa, rfl, hk⟩
    · have q2 := Bool.eq_false_iff.mpr q2
      rw [q2, b01_f, if_pos rfl, if_neg Bool.false_ne_true]
      exact ⟨pa, rfl, hk⟩
theorem K_years (N : Nat) (hN : 2000 ≤ N) (g : GS) (m : Nat) (hm : m ≤ 60) (z2 : Int32) : ∀ (n i B s : Nat) (u sc fo pa : Nat → Int32), VA B u → B + (m - i) < 2 ^ 28 → 0 < nP u → RK sc fo pa u → s < 2 ^ 31 → i ≤ m → m < i + n → ∃ s' sc' pa', L_X2_draftYears_17 N (nI m) z2 n (lN s) (nI i) (D1 g sc fo pa) = some (s', nI m, D1 g sc' fo pa') ∧ RK sc' fo pa' (aYr (m - i) u s) := by
  intro n
  induction n with
  | zero => intro i B s u sc fo pa _ _ _ _ _ h1 h2; omega
  | succ n ih =>
    intro i B s u sc fo pa hv hB hp hk hs h1 h2
    rw [L_X2_draftYears_17]
    by_cases h : i = m
    · subst h
      rw [if_pos (nI_le (Nat.le_refl i) (by omega)), Nat.sub_self]
      exact ⟨_, sc, pa, rfl, hk⟩
    · have hl := lcg_lt s
      rw [if_neg (nI_ge (by omega) (by omega)), nI_1, lcg_l hs, lN_i32 (by omega), show (10 : Int64) = lN 10 from rfl, pk_lRem (by omega) (by decide) (by decide), lN_i32 (by omega)]
      obtain ⟨pa1, e1, k1⟩ := K_drawAct N g hv hp hk (x := lcg s) (by omega)
      obtain ⟨a, b⟩ := aDraw_VA hv hp (lcg s)
      obtain ⟨sc2, pa2, e2, k2⟩ := draftHour N hN g a k1 (wn := lcg s % 10) (by omega)
      obtain ⟨c, d, -, -⟩ := VA_hour a (by omega) (wn := lcg s % 10) (by omega)
      rw [e1, bd1_s, e2, bd1_s, show m - i = (m - (i + 1)) + 1 by omega, aYr]
      exact ih (i + 1) (B + 1) (lcg s) _ sc2 fo pa2 c (by omega) (by rw [d, b]; exact hp) k2 (by omega) (by omega) (by omega)
theorem e53_aDraw {u v : Nat → Int32} (h : E53 u v) (hP : nP v ≤ 6) (hp : 0 < nP v) (x : Nat) : E53 (aDraw u x) (aDraw v x) := by
  have hj : x % nP v < 6 := by have := Nat.mod_lt x hp; omega
  unfold aDraw
  rw [e53_nP h, e53_pf h hj (f := 3) (by decide), e53_aUp h hj, e53_pf h hj (f := 5) (by decide)]
  split
  · exact e53_aSend h _ _
  · split
    · split
      · exact e53_aLet h hj rfl
      · exact h
    · exact h
/-- the reference's draw of one HOUR -/
theorem M_years (N : Nat) (hN : 2000 ≤ N) (g : GS) (m : Nat) (hm : m ≤ 60) (z2 z3 : Int32) : ∀ (n i B s : Nat) (w ris u : Nat → Int32), VA B w → B + (m - i) < 2 ^ 28 → 0 < nP w → E53 u w → s < 2 ^ 31 → i ≤ m → m < i + n → ∃ s' ris' u', L_X8_drawn_63 N (nI m) z2 z3 n (lN s) (nI i) (T7 g ris u) = some (s', nI m, T7 g ris' u') ∧ E53 u' (aYr (m - i) w s) := by
  intro n
  induction n with
  | zero => intro i B s w ris u _ _ _ _ _ h1 h2; omega
  | succ n ih =>
    intro i B s w ris u hv hB hp he hs h1 h2
    have hP := hv.2.1
    rw [L_X8_drawn_63]
    by_cases h : i = m
    · subst h
      rw [if_pos (nI_le (Nat.le_refl i) (by omega)), Nat.sub_self]
      exact ⟨_, ris, u, rfl, he⟩
    · have hl := lcg_lt s
      have h0 : (T7 g ris u) 11 7 0 = nI (nP w) := by rw [T7_7, he 0 (by decide)]; exact hv.1
      have hj : lcg s % nP w < nP w := Nat.mod_lt _ hp
      have hj6 : lcg s % nP w < 6 := by omega
      have hz : ¬ lN (nP w) = 0 := fun q => by
        have := (pk_lEQ (a := nP w) (b := 0) (by omega) (by omega)).mp q
        omega
      rw [if_neg (nI_ge (by omega) (by omega)), nI_1, lcg_l hs, show ix (0 : Int32) 53 = some 0 from by decide, bd1_s, h0, nI_l (by omega), if_neg hz, pk_lRem (by omega) hp (by omega), lN_i32 (by omega), show (10 : Int64) = lN 10 from rfl, pk_lRem (by omega) (by decide) (by decide), lN_i32 (by omega), show (40 : Int64) = lN 40 from rfl, pk_lRem (by omega) (by decide) (by decide), lN_i32 (by omega), nI_1, show (2 : Int64) = lN 2 from rfl, pk_lRem (by omega) (by decide) (by decide)]
      obtain ⟨a, b⟩ := aDraw_VA hv hp (lcg s)
      obtain ⟨c, d, -, -⟩ := VA_hour a (by omega) (wn := lcg s % 10) (by omega)
      have go : ∀ u1, E53 u1 (aDraw w (lcg s)) → ∃ s' ris' u', bd1 (F_X8_hourBy N 7 (nI (lcg s % 10)) (T7 g ris u1)) (fun gv51 => L_X8_drawn_63 N (nI m) z2 z3 n (lN (lcg s)) (nI (i + 1)) gv51) = some (s', nI m, T7 g ris' u') ∧ E53 u' (aYr (m - i) w s) := by
        intro u1 k1
        obtain ⟨r2, u2, e2, k2⟩ := then_hourBy N hN g ris u1 (nI (lcg s % 10)) a k1
        rw [e2, bd1_s, show m - i = (m - (i + 1)) + 1 by omega, aYr]
        exact ih (i + 1) (B + 1) (lcg s) _ r2 u2 c (by omega) (by rw [d, b]; exact hp) k2 (by omega) (by omega) (by omega)
      rw [X8_of3 N 7 _ hj6 rfl, bd2_s, T7_7, e53_pf he hj6 (by decide)]
      unfold aDraw at go
      by_cases q : pf w (lcg s % nP w) 3 = 0
      · rw [if_pos q] at go ⊢
        rw [show F_X8_goesUp N 7 (nI (lcg s % nP w)) (nI (lcg s % 40 + 1)) (T7 g ris u) = some (T7 g ris (aSend u (lcg s % nP w) (nI (lcg s % 40 + 1)))) from X8_goesUp N 7 _ rfl hj6 _ (g2 g 11 8 ris) u, bd1_s]
        exact go _ (e53_aSend he _ _)
      · rw [if_neg q] at go ⊢
        rw [X8_isUp' N 7 _ hj6 rfl, bd2_s, T7_7, e53_aUp he hj6]
        by_cases q2 : aUp w (lcg s % nP w) = true
        · rw [if_pos q2] at go
          rw [q2, b01_t, if_neg (by decide)]
          have hcm : (lg_cmp (lN (lcg s % 2)) (0 : Int64) = 0) ↔ lcg s % 2 = 0 := by
            rcases (show lcg s % 2 = 0 ∨ lcg s % 2 = 1 by omega) with e | e
            · rw [e]; exact ⟨fun _ => rfl, fun _ => by decide⟩
            · rw [e]; exact ⟨fun z => absurd z (by decide), fun z => absurd z (by decide)⟩
          by_cases q3 : lcg s % 2 = 0
          · rw [if_pos q3] at go
            rw [if_pos (hcm.mpr q3), X8_of5 N 7 _ hj6 rfl, bd2_s, T7_7, e53_pf he hj6 (by decide)]
            have lt : ∀ x, F_X8_letsOut N 7 (nI (lcg s % nP w)) x (T7 g ris u) = some (T7 g ris (aLet u (lcg s % nP w) x)) := fun x => X8_letsOut N 7 _ rfl hj6 x (g2 g 11 8 ris) u
            have hc := clamp_m (pf w (lcg s % nP w) 5 + 5)
            have h15 : (1 : Int32) ≤ pf w (lcg s % nP w) 5 + 5 := by
              obtain ⟨-, -, -, -, ⟨o, k, hko, ho, -, e5, -⟩, -⟩ := VA_paper hv hj
              have e5 : pf w (lcg s % nP w) 5 = nI o := e5
              rw [e5, show (5 : Int32) = nI 5 from rfl, nI_add]
              exact nI_le (a := 1) (by omega) (by omega)
            rw [if_pos h15] at hc
            by_cases q4 : pf w (lcg s % nP w) 5 + 5 ≤ 40
            · rw [if_pos q4] at hc ⊢
              rw [lt, bd1_s]
              exact go _ (e53_aLet he hj6 hc)
            · rw [if_neg q4] at hc ⊢
              rw [lt, bd1_s]
              exact go _ (e53_aLet he hj6 hc)
          · rw [if_neg q3] at go
            rw [if_neg (fun z => q3 (hcm.mp z))]
            exact go u he
        · rw [if_neg q2] at go
          have q2 := Bool.eq_false_iff.mpr q2
          rw [q2, b01_f, if_pos rfl]
          exact go u he
theorem p_drawn (N : Nat) (hN : 2000 ≤ N) (x y z : Int32) (g : GS) (h : Rel g) : Sim (F_X7_drawn N x y z) (F_X8_drawn N x y z) g := by
  obtain ⟨hv, hk⟩ := h.2.2.2.2.1
  have hP := hv.2.1
  have h4 : g 0 0 4 = nI (nP (g 11 5)) := hk.1.trans hv.1
  have h0 : (g3 g 10 0 0 0) 11 5 0 = nI (nP (g 11 5)) := hv.1
  rcases Nat.eq_zero_or_pos (nP (g 11 5)) with hz0 | hz
  · have hz : ¬ 0 < nP (g 11 5) := by omega
    exact Sim.read h (-1000002) (by unfold F_X7_drawn; rw [X4_isRead N 0 _ hP g h4, bd2_s, decide_eq_false hz, b01_f, if_pos rfl]) (by unfold F_X8_drawn; rw [X8_isThere N _ hP _ h0, bd2_s, decide_eq_false hz, b01_f, if_pos rfl])
  rcases wi_cases x 0 60 with ⟨w, -⟩ | ⟨w, w1, w2⟩
  · exact Sim.read h (-1000001) (by unfold F_X7_drawn; rw [X4_isRead N 0 _ hP g h4, bd2_s, decide_eq_true hz, b01_t, if_neg (by decide), X7_within, bd2_s, w, if_pos rfl]) (by unfold F_X8_drawn; rw [X8_isThere N _ hP _ h0, bd2_s, decide_eq_true hz, b01_t, if_neg (by decide), X8_inL N x 0 60 (by decide) (by decide), bd2_s, w, if_pos rfl])
  rcases wi_cases y 1 999999 with ⟨u, -⟩ | ⟨u, u1, u2⟩
  · exact Sim.read h (-1000001) (by unfold F_X7_drawn; rw [X4_isRead N 0 _ hP g h4, bd2_s, decide_eq_true hz, b01_t, if_neg (by decide), X7_within, bd2_s, w, if_neg (by decide), X7_within, bd2_s, u, if_pos rfl]) (by unfold F_X8_drawn; rw [X8_isThere N _ hP _ h0, bd2_s, decide_eq_true hz, b01_t, if_neg (by decide), X8_inL N x 0 60 (by decide) (by decide), bd2_s, w, if_neg (by decide), X8_inL N y 1 999999 (by decide) (by decide), bd2_s, u, if_pos rfl])
  rcases wi_cases z 0 1 with ⟨t, -⟩ | ⟨t, t1, t2⟩
  · exact Sim.read h (-1000001) (by unfold F_X7_drawn; rw [X4_isRead N 0 _ hP g h4, bd2_s, decide_eq_true hz, b01_t, if_neg (by decide), X7_within, bd2_s, w, if_neg (by decide), X7_within, bd2_s, u, if_neg (by decide), X7_within, bd2_s, t, if_pos rfl]) (by unfold F_X8_drawn; rw [X8_isThere N _ hP _ h0, bd2_s, decide_eq_true hz, b01_t, if_neg (by decide), X8_inL N x 0 60 (by decide) (by decide), bd2_s, w, if_neg (by decide), X8_inL N y 1 999999 (by decide) (by decide), bd2_s, u, if_neg (by decide), X8_inL N z 0 1 (by decide) (by decide), bd2_s, t, if_pos rfl])
  obtain ⟨m, hm, rfl⟩ := wi_nI (n := 60) (by decide) w1 w2
  obtain ⟨s, hs1, hs2, rfl⟩ : ∃ n : Nat, 1 ≤ n ∧ n ≤ 999999 ∧ y = nI n := by
    rw [i_lt] at u1 u2
    have a : (1 : Int32).toInt = 1 := by decide
    have b : (999999 : Int32).toInt = 999999 := by decide
    exact ⟨y.toInt.toNat, by omega, by omega, nI_ofI (by omega)⟩
  obtain ⟨zn, hzn, rfl⟩ := wi_nI (n := 1) (by decide) t1 t2
  obtain ⟨sc1, fo1, pa1, e1, k1⟩ := draft_lay0 N hN g hv hk
  obtain ⟨s2, sc2, pa2, e2, k2⟩ := K_years N hN g m (by omega) (nI s) N 0 999 s (g 11 5) sc1 fo1 pa1 hv (by omega) hz k1 (by omega) (by omega) (by omega)
  obtain ⟨hV, hVP⟩ := aYr_VA (m - 0) s hv hz (by omega)
  obtain ⟨r1, u1', l1, j1⟩ := then_lay0 N hN (g3 (D1 g sc2 fo1 pa2) 10 0 0 0)
  have j1 : E53 u1' (g 11 5) := j1
  obtain ⟨s3, r3, u3, l3, j3⟩ := M_years N hN (g3 (D1 g sc2 fo1 pa2) 10 0 0 0) m (by omega) (nI s) (nI zn) N 0 999 s (g 11 5) r1 u1' hv (by omega) hz j1 (by omega) (by omega) (by omega)
  rw [nI_0] at e2 l3
  have eK : F_X2_draftYears N (nI m) (nI s) g = some (D1 g sc2 fo1 pa2) := by
    unfold F_X2_draftYears
    rw [e1, bd1_s, nI_l (by omega), e2, bd3_s]
  have h7 : (T7 (g3 (D1 g sc2 fo1 pa2) 10 0 0 0) r3 u3) 11 7 0 = nI (nP (g 11 5)) := by rw [T7_7, j3 0 (by decide), hV.1, hVP]
  have b1 : bitsF (aPol ((T7 (g3 (D1 g sc2 fo1 pa2) 10 0 0 0) r3 u3) 11 7)) (nP (g 11 5)) = bitsF (aPol (aYr (m - 0) (g 11 5) s)) (nP (g 11 5)) := by
    rw [T7_7]
    exact bitsF_eq (fun p hp => e53_aPol j3 (show p < 6 by omega))
  have b2 : bitsF (fun p => decide (pf ((T7 (g3 (D1 g sc2 fo1 pa2) 10 0 0 0) r3 u3) 11 7) p 3 = 2)) (nP (g 11 5)) = bitsF (fun p => decide (pf (aYr (m - 0) (g 11 5) s) p 3 = 2)) (nP (g 11 5)) := by
    rw [T7_7]
    exact bitsF_eq (fun p hp => by rw [e53_pf j3 (show p < 6 by omega) (by decide)])
  refine Sim.draft h (if zn = 0 then bsum (bitsF (aPol (aYr (m - 0) (g 11 5) s)) (nP (g 11 5))) 6 else bsum (bitsF (fun p => decide (pf (aYr (m - 0) (g 11 5) s) p 3 = 2)) (nP (g 11 5))) 6) sc2 fo1 pa2 r3 u3 ?_ ?_
  · unfold F_X7_drawn
    rw [X4_isRead N 0 _ hP g h4, bd2_s, decide_eq_true hz, b01_t, if_neg (by decide), X7_within, bd2_s, w, if_neg (by decide), X7_within, bd2_s, u, if_neg (by decide), X7_within, bd2_s, t, if_neg (by decide), eK, bd1_s]
    rcases (show zn = 0 ∨ zn = 1 by omega) with rfl | rfl
    · rw [if_pos (by decide), X4_policyBits N 1 hN (D1 g sc2 fo1 pa2) hV k2, bd2_s, J6_bitCount, bd2_s, hVP, bc_bits _ hP]
      rfl
    · rw [if_neg (by decide), X4_bitsOf N 1 hN 2 (D1 g sc2 fo1 pa2) hV k2, bd2_s, J6_bitCount, bd2_s, hVP, bc_bits _ hP]
      rfl
  · unfold F_X8_drawn
    rw [X8_isThere N (nP (g 11 5)) hP (g3 (D1 g sc2 fo1 pa2) 10 0 0 0) hv.1, bd2_s, decide_eq_true hz, b01_t, if_neg (by decide), X8_inL N _ 0 60 (by decide) (by decide), bd2_s, w, if_neg (by decide), X8_inL N _ 1 999999 (by decide) (by decide), bd2_s, u, if_neg (by decide), X8_inL N _ 0 1 (by decide) (by decide), bd2_s, t, if_neg (by decide), l1, bd1_s, nI_l (by omega), l3, bd3_s]
    rcases (show zn = 0 ∨ zn = 1 by omega) with rfl | rfl
    · rw [if_pos (by decide), X8_policies N 7 (nP (g 11 5)) hN rfl hP _ h7, bd2_s, X8_bits N hN, bd2_s, b1]
      rfl
    · rw [if_neg (by decide), X8_those N 7 (nP (g 11 5)) hN 2 rfl hP _ h7, bd2_s, X8_bits N hN, bd2_s, b2]
      rfl
