theorem K_when_pol (N : Nat) (hN : 2000 ≤ N) (g : GS) {B : Nat} {v : Nat → Int32} (hv : VA B v) (hB : B < 1500) (j : Nat) (hj : j < nP v) : ∀ (n i : Nat) (sc fo pa : Nat → Int32), RK sc fo pa (aHrs v i) → i ≤ 61 → 61 < i + n → ∃ sc' pa', L_X2_firstHour_13 N (nI j) 0 n (nI i) (D1 g sc fo pa) = some (lpr (fnd (fun k => aPol (aHrs v k) j) i (61 - i)) (nI 61) (D1 g sc' fo pa')) := by
  intro n
  induction n with
  | zero => intro i sc fo pa hk h1 h2; omega
  | succ n ih =>
    intro i sc fo pa hk h1 h2
    rw [L_X2_firstHour_13]
    by_cases h : i = 61
    · subst h
      rw [if_pos (by decide)]
      exact ⟨sc, pa, rfl⟩
    · rw [if_neg (show ¬ (60 : Int32) < nI i from nI_nlt (a := 60) (by omega) (by omega)), show 61 - i = (60 - i) + 1 by omega, fnd]
      obtain ⟨hV, hVP, -, -⟩ := VA_hrs hv i (by omega)
      have hj' : j < nP (aHrs v i) := by rw [hVP]; exact hj
      rw [if_pos rfl, X4_isPolicy N 1 j (by have := hv.2.1; omega) (D1 g sc fo pa) (v := aHrs v i) (RK_f hk hj' (by decide)) (RK_f hk hj' (by decide)) (hk.2.2.2.1 (by omega)).1, bd2_s]
      by_cases q : aPol (aHrs v i) j = true
      · rw [q, b01_t, if_neg (by decide)]
        refine ⟨sc, pa, ?_⟩
        rw [if_pos rfl]
        rfl
      · have q := Bool.eq_false_iff.mpr q
        rw [q, b01_f, if_pos rfl, if_neg Bool.false_ne_true]
        obtain ⟨sc', pa', e, k⟩ := draftHr N hN g hV hk (by omega) (fun gv => L_X2_firstHour_13 N (nI j) 0 n (nI i + 1) gv)
        rw [e, nI_1]
        obtain ⟨sc2, pa2, e2⟩ := ih (i + 1) sc' fo pa' k (by omega) (by omega)
        exact ⟨sc2, pa2, by rw [e2, show 61 - (i + 1) = 60 - i by omega]⟩
theorem M_when_pol (N : Nat) (hN : 2000 ≤ N) (g : GS) {B : Nat} {v : Nat → Int32} (hv : VA B v) (hB : B < 1500) (j : Nat) (hj6 : j < 6) : ∀ (n i : Nat) (ris u : Nat → Int32), E53 u (aHrs v i) → i ≤ 61 → 61 < i + n → ∃ ris' u', L_X8_when_34 N (nI j) 1 n (nI i) (T7 g ris u) = some (lpr (fnd (fun k => aPol (aHrs v k) j) i (61 - i)) (nI 61) (T7 g ris' u')) := by
  intro n
  induction n with
  | zero => intro i ris u he h1 h2; omega
  | succ n ih =>
    intro i ris u he h1 h2
    rw [L_X8_when_34]
    by_cases h : i = 61
    · subst h
      rw [if_pos (by decide)]
      exact ⟨ris, u, rfl⟩
    · rw [if_neg (show ¬ (60 : Int32) < nI i from nI_nlt (a := 60) (by omega) (by omega)), show 61 - i = (60 - i) + 1 by omega, fnd]
      obtain ⟨hV, hVP, -, -⟩ := VA_hrs hv i (by omega)
      rw [if_pos rfl, X8_isPolicy' N 7 j hj6 rfl, bd2_s, show aPol (T7 g ris u 11 7) j = aPol (aHrs v i) j from e53_aPol he hj6]
      by_cases q : aPol (aHrs v i) j = true
      · rw [q, b01_t, if_neg (by decide)]
        refine ⟨ris, u, ?_⟩
        rw [if_pos rfl]
        rfl
      · have q := Bool.eq_false_iff.mpr q
        rw [q, b01_f, if_pos rfl, if_neg Bool.false_ne_true]
        obtain ⟨r', u', e, k⟩ := then_hour N hN g ris u hV he (by omega)
        rw [e, bd1_s, nI_1]
        obtain ⟨r2, u2, e2⟩ := ih (i + 1) r' u' k (by omega) (by omega)
        exact ⟨r2, u2, by rw [e2, show 61 - (i + 1) = 60 - i by omega]⟩
theorem K_when_snp (N : Nat) (hN : 2000 ≤ N) (g : GS) {B : Nat} {v : Nat → Int32} (hv : VA B v) (hB : B < 1500) (j : Nat) (hj : j < nP v) : ∀ (n i : Nat) (sc fo pa : Nat → Int32), RK sc fo pa (aHrs v i) → i ≤ 61 → 61 < i + n → ∃ sc' pa', L_X2_firstHour_13 N (nI j) 1 n (nI i) (D1 g sc fo pa) = some (lpr (fnd (fun k => decide (pf (aHrs v k) j 3 = 2)) i (61 - i)) (nI 61) (D1 g sc' fo pa')) := by
  intro n
  induction n with
  | zero => intro i sc fo pa hk h1 h2; omega
  | succ n ih =>
    intro i sc fo pa hk h1 h2
    rw [L_X2_firstHour_13]
    by_cases h : i = 61
    · subst h
      rw [if_pos (by decide)]
      exact ⟨sc, pa, rfl⟩
    · rw [if_neg (show ¬ (60 : Int32) < nI i from nI_nlt (a := 60) (by omega) (by omega)), show 61 - i = (60 - i) + 1 by omega, fnd]
      obtain ⟨hV, hVP, -, -⟩ := VA_hrs hv i (by omega)
      have hj' : j < nP (aHrs v i) := by rw [hVP]; exact hj
      rw [if_neg (by decide), ix_nI (by have := hv.2.1; omega) (by decide), bd1_s, show D1 g sc fo pa 13 1 (7 * j + 3) = pf (aHrs v i) j 3 from RK_f hk hj' (by decide)]
      by_cases q : pf (aHrs v i) j 3 = 2
      · rw [if_pos q]
        refine ⟨sc, pa, ?_⟩
        rw [decide_eq_true q, if_pos rfl]
        rfl
      · rw [if_neg q, decide_eq_false q, if_neg Bool.false_ne_true]
        obtain ⟨sc', pa', e, k⟩ := draftHr N hN g hV hk (by omega) (fun gv => L_X2_firstHour_13 N (nI j) 1 n (nI i + 1) gv)
        rw [e, nI_1]
        obtain ⟨sc2, pa2, e2⟩ := ih (i + 1) sc' fo pa' k (by omega) (by omega)
        exact ⟨sc2, pa2, by rw [e2, show 61 - (i + 1) = 60 - i by omega]⟩
theorem M_when_snp (N : Nat) (hN : 2000 ≤ N) (g : GS) {B : Nat} {v : Nat → Int32} (hv : VA B v) (hB : B < 1500) (j : Nat) (hj6 : j < 6) : ∀ (n i : Nat) (ris u : Nat → Int32), E53 u (aHrs v i) → i ≤ 61 → 61 < i + n → ∃ ris' u', L_X8_when_34 N (nI j) 2 n (nI i) (T7 g ris u) = some (lpr (fnd (fun k => decide (pf (aHrs v k) j 3 = 2)) i (61 - i)) (nI 61) (T7 g ris' u')) := by
  intro n
  induction n with
  | zero => intro i ris u he h1 h2; omega
  | succ n ih =>
    intro i ris u he h1 h2
    rw [L_X8_when_34]
    by_cases h : i = 61
    · subst h
      rw [if_pos (by decide)]
      exact ⟨ris, u, rfl⟩
    · rw [if_neg (show ¬ (60 : Int32) < nI i from nI_nlt (a := 60) (by omega) (by omega)), show 61 - i = (60 - i) + 1 by omega, fnd]
      obtain ⟨hV, hVP, -, -⟩ := VA_hrs hv i (by omega)
      rw [if_neg (by decide), X8_of3 N 7 j hj6 rfl, bd2_s, show pf (T7 g ris u 11 7) j 3 = pf (aHrs v i) j 3 from e53_pf he hj6 (by decide)]
      by_cases q : pf (aHrs v i) j 3 = 2
      · rw [if_pos q]
        refine ⟨ris, u, ?_⟩
        rw [decide_eq_true q, if_pos rfl]
        rfl
      · rw [if_neg q, decide_eq_false q, if_neg Bool.false_ne_true]
        obtain ⟨r', u', e, k⟩ := then_hour N hN g ris u hV he (by omega)
        rw [e, bd1_s, nI_1]
        obtain ⟨r2, u2, e2⟩ := ih (i + 1) r' u' k (by omega) (by omega)
        exact ⟨r2, u2, by rw [e2, show 61 - (i + 1) = 60 - i by omega]⟩
theorem p_when (N : Nat) (hN : 2000 ≤ N) (x y : Int32) (g : GS) (h : Rel g) : Sim (F_X7_when N x y) (F_X8_when N x y) g := by
  obtain ⟨hv, hk⟩ := h.2.2.2.2.1
  have hP := hv.2.1
  have h4 : g 0 0 4 = nI (nP (g 11 5)) := hk.1.trans hv.1
  have h0 : (g3 g 10 0 0 0) 11 5 0 = nI (nP (g 11 5)) := hv.1
  rcases hp_cases x (P := nP (g 11 5)) (by omega) with w | ⟨w, j, hj, rfl⟩
  · exact Sim.read h (-1000001) (by unfold F_X7_when; rw [X4_hasPaper N 0 _ x g h4, bd2_s, w, if_pos rfl]) (by unfold F_X8_when; rw [X8_isPaper N _ hP x _ h0, bd2_s, w, if_pos rfl])
  rcases wi_cases y 1 2 with ⟨u, -⟩ | ⟨u, u1, u2⟩
  · exact Sim.read h (-1000001) (by unfold F_X7_when; rw [X4_hasPaper N 0 _ _ g h4, bd2_s, w, if_neg (by decide), X7_within, bd2_s, u, if_pos rfl]) (by unfold F_X8_when; rw [X8_isPaper N _ hP _ _ h0, bd2_s, w, if_neg (by decide), X8_inL N y 1 2 (by decide) (by decide), bd2_s, u, if_pos rfl])
  have hj6 : j < 6 := by omega
  have hy : y = 1 ∨ y = 2 := by
    rw [i_lt] at u1 u2
    rcases (show y.toInt = 1 ∨ y.toInt = 2 by have a : (1 : Int32).toInt = 1 := by decide
                                              have b : (2 : Int32).toInt = 2 := by decide
                                              omega) with q | q
    · exact Or.inl (Int32.toInt_inj.mp (q.trans (by decide)))
    · exact Or.inr (Int32.toInt_inj.mp (q.trans (by decide)))
  obtain ⟨sc, fo, pa, e1, k1⟩ := draft_lay0 N hN g hv hk
  rcases hy with rfl | rfl
  · obtain ⟨sc2, pa2, e2⟩ := K_when_pol N hN g hv (by decide) j hj N 0 sc fo pa k1 (by omega) (by omega)
    obtain ⟨r1, u1', l1, l2⟩ := then_lay0 N hN (g3 (D1 g sc2 fo pa2) 10 0 0 0)
    obtain ⟨r2, u2', l3⟩ := M_when_pol N hN (g3 (D1 g sc2 fo pa2) 10 0 0 0) hv (by decide) j hj6 N 0 r1 u1' l2 (by omega) (by omega)
    rw [nI_0] at e2 l3
    refine Sim.draft h (ans (fnd (fun k => aPol (aHrs (g 11 5) k) j) 0 (61 - 0))) sc2 fo pa2 r2 u2' ?_ ?_
    · unfold F_X7_when F_X2_firstHour
      rw [X4_hasPaper N 0 _ _ g h4, bd2_s, w, if_neg (by decide), X7_within, bd2_s, u, if_neg (by decide), if_neg (by decide), e1, bd1_s, e2, bs2_lpr, bd2_s]
    · unfold F_X8_when
      rw [X8_isPaper N (nP (g 11 5)) hP _ (g3 (D1 g sc2 fo pa2) 10 0 0 0) hv.1, bd2_s, w, if_neg (by decide), X8_inL N _ 1 2 (by decide) (by decide), bd2_s, u, if_neg (by decide), l1, bd1_s, l3, bs2_lpr]
  · obtain ⟨sc2, pa2, e2⟩ := K_when_snp N hN g hv (by decide) j hj N 0 sc fo pa k1 (by omega) (by omega)
    obtain ⟨r1, u1', l1, l2⟩ := then_lay0 N hN (g3 (D1 g sc2 fo pa2) 10 0 0 0)
    obtain ⟨r2, u2', l3⟩ := M_when_snp N hN (g3 (D1 g sc2 fo pa2) 10 0 0 0) hv (by decide) j hj6 N 0 r1 u1' l2 (by omega) (by omega)
    rw [nI_0] at e2 l3
    refine Sim.draft h (ans (fnd (fun k => decide (pf (aHrs (g 11 5) k) j 3 = 2)) 0 (61 - 0))) sc2 fo pa2 r2 u2' ?_ ?_
    · unfold F_X7_when F_X2_firstHour
      rw [X4_hasPaper N 0 _ _ g h4, bd2_s, w, if_neg (by decide), X7_within, bd2_s, u, if_neg (by decide), if_pos rfl, e1, bd1_s, e2, bs2_lpr, bd2_s]
    · unfold F_X8_when
      rw [X8_isPaper N (nP (g 11 5)) hP _ (g3 (D1 g sc2 fo pa2) 10 0 0 0) hv.1, bd2_s, w, if_neg (by decide), X8_inL N _ 1 2 (by decide) (by decide), bd2_s, u, if_neg (by decide), l1, bd1_s, l3, bs2_lpr]

theorem X4_riseOf (N r : Nat) (hN : 2000 ≤ N) (g : GS) {B : Nat} {v : Nat → Int32} (hv : VA B v) (hk : RK (g 0 r) (g 12 r) (g 13 r) v) (j : Nat) (hj : j < nP v) (hu : aUp v j = true) (x : Int32) : F_X4_riseOf N r (nI j) x g = some (aRise v j x, g) := by
  have hP := hv.2.1
  unfold F_X4_riseOf
  rw [ix_nI (by omega) (by decide), bd1_s, X4_isPaired N r hN g hv hk, bd2_s, X3_liftIn N r j x g hj (VA_paper hv hj) hu (RK_f (f := 0) hk hj (by decide)) (RK_f hk hj (by decide)) (RK_f hk hj (by decide)), bd2_s, RK_f hk hj (by decide)]
  rfl
theorem K_gust (N : Nat) (hN : 2000 ≤ N) (g : GS) {B : Nat} {v : Nat → Int32} (hv : VA B v) (hk : RK (g 0 0) (g 12 0) (g 13 0) v) (j : Nat) (hj : j < nP v) (hu : aUp v j = true) : ∀ (n i : Nat), i ≤ 100 → 100 < i + n → L_X2_leastSnappingForce_2 N (nI j) n (nI i) g = some (lpr (fnd (fun k => aSnap v j (aRise v j (nI k))) i (100 - i)) (nI 100) g) := by
  have hP := hv.2.1
  intro n
  induction n with
  | zero => intro i h1 h2; omega
  | succ n ih =>
    intro i h1 h2
    rw [L_X2_leastSnappingForce_2]
    by_cases h : i = 100
    · subst h
      rw [if_pos (by decide)]
      rfl
    · rw [if_neg (show ¬ (99 : Int32) < nI i from nI_nlt (a := 99) (by omega) (by omega)), show 100 - i = (99 - i) + 1 by omega, fnd, ix_nI (by omega) (by decide), bd1_s, X4_riseOf N 0 hN g hv hk j hj hu, bd2_s, X3_snapsBy N 0 j _ _ g (v := v) (RK_f hk hj (by decide)) (RK_f hk hj (by decide)) (hk.2.2.2.1 (by omega)).2, bd2_s]
      by_cases q : aSnap v j (aRise v j (nI i)) = true
      · rw [q, b01_t, if_neg (by decide), if_pos rfl]
        rfl
      · have q := Bool.eq_false_iff.mpr q
        rw [q, b01_f, if_pos rfl, if_neg Bool.false_ne_true, nI_1, ih (i + 1) (by omega) (by omega), show 100 - (i + 1) = 99 - i by omega]
theorem M_gust (N : Nat) (hN : 2000 ≤ N) (g : GS) {B : Nat} (hv : VA B (g 11 5)) (j : Nat) (hj6 : j < 6) : ∀ (n i : Nat), i ≤ 100 → 100 < i + n → L_X8_gust_32 N (nI j) n (nI i) g = some (lpr (fnd (fun k => aSnap (g 11 5) j (aRise (g 11 5) j (nI k))) i (100 - i)) (nI 100) g) := by
  intro n
  induction n with
  | zero => intro i h1 h2; omega
  | succ n ih =>
    intro i h1 h2
    rw [L_X8_gust_32]
    by_cases h : i = 100
    · subst h
      rw [if_pos (by decide)]
      rfl
    · rw [if_neg (show ¬ (100 : Int32) ≤ nI i from nI_ge (b := 100) (by omega) (by omega)), show 100 - i = (99 - i) + 1 by omega, fnd, X8_riseOf N 5 j hN rfl hj6 _ g hv.1 hv.2.1, bd2_s, X8_doesSnap N 5 j rfl hj6, bd2_s]
      by_cases q : aSnap (g 11 5) j (aRise (g 11 5) j (nI i)) = true
      · rw [q, b01_t, if_neg (by decide), if_pos rfl]
        rfl
      · have q := Bool.eq_false_iff.mpr q
        rw [q, b01_f, if_pos rfl, if_neg Bool.false_ne_true, nI_1, ih (i + 1) (by omega) (by omega), show 100 - (i + 1) = 99 - i by omega]
theorem p_gust (N : Nat) (hN : 2000 ≤ N) (x : Int32) (g : GS) (h : Rel g) : Sim (F_X7_gust N x) (F_X8_gust N x) g := by
  obtain ⟨hv, hk⟩ := h.2.2.2.2.1
  have hP := hv.2.1
  have h4 : g 0 0 4 = nI (nP (g 11 5)) := hk.1.trans hv.1
  have h0 : (g3 g 10 0 0 0) 11 5 0 = nI (nP (g 11 5)) := hv.1
  rcases hp_cases x (P := nP (g 11 5)) (by omega) with w | ⟨w, j, hj, rfl⟩
  · exact Sim.read h (-1000001) (by unfold F_X7_gust; rw [X4_hasPaper N 0 _ x g h4, bd2_s, w, if_pos rfl]) (by unfold F_X8_gust; rw [X8_isPaper N _ hP x _ h0, bd2_s, w, if_pos rfl])
  have hj6 : j < 6 := by omega
  have f3 : g 13 0 (7 * j + 3) = pf (g 11 5) j 3 := RK_f hk hj (by decide)
  by_cases hu : aUp (g 11 5) j = true
  case neg =>
    have hu := Bool.eq_false_iff.mpr hu
    exact Sim.read h (-1000002) (by unfold F_X7_gust; rw [X4_hasPaper N 0 _ _ g h4, bd2_s, w, if_neg (by decide), ix_nI hj6 (by decide), bd1_s, X3_isUp N 0 j g f3, bd2_s, hu, b01_f, if_pos rfl]) (by unfold F_X8_gust; rw [X8_isPaper N _ hP _ _ h0, bd2_s, w, if_neg (by decide), X8_isUp' N 5 j hj6 rfl, bd2_s, show aUp ((g3 g 10 0 0 0) 11 5) j = false from hu, b01_f, if_pos rfl])
  have e := K_gust N hN g hv hk j hj hu N 0 (by omega) (by omega)
  have l := M_gust N hN (g3 g 10 0 0 0) hv j hj6 N 0 (by omega) (by omega)
  rw [nI_0] at e l
  refine Sim.read h (ans (fnd (fun k => aSnap (g 11 5) j (aRise (g 11 5) j (nI k))) 0 (100 - 0))) ?_ ?_
  · unfold F_X7_gust F_X2_leastSnappingForce
    rw [X4_hasPaper N 0 _ _ g h4, bd2_s, w, if_neg (by decide), ix_nI hj6 (by decide), bd1_s, X3_isUp N 0 j g f3, bd2_s, hu, b01_t, if_neg (by decide), e, bs2_lpr, bd2_s]
  · unfold F_X8_gust
    rw [X8_isPaper N _ hP _ _ h0, bd2_s, w, if_neg (by decide), X8_isUp' N 5 j hj6 rfl, bd2_s, show aUp ((g3 g 10 0 0 0) 11 5) j = true from hu, b01_t, if_neg (by decide), l, bs2_lpr]
    rfl

theorem p_pull (N : Nat) (hN : 2000 ≤ N) (x : Int32) (g : GS) (h : Rel g) : Sim (F_X7_pull N x) (F_X8_pull N x) g := by
  obtain ⟨hv, hk⟩ := h.2.2.2.2.1
  have hP := hv.2.1
  have h4 : g 0 0 4 = nI (nP (g 11 5)) := hk.1.trans hv.1
  have h0 : (g3 g 10 0 0 0) 11 5 0 = nI (nP (g 11 5)) := hv.1
  rcases hp_cases x (P := nP (g 11 5)) (by omega) with w | ⟨w, j, hj, rfl⟩
  · exact Sim.read h (-1000001) (by unfold F_X7_pull; rw [X4_hasPaper N 0 _ x g h4, bd2_s, w, if_pos rfl]) (by unfold F_X8_pull; rw [X8_isPaper N _ hP x _ h0, bd2_s, w, if_pos rfl])
  have hj6 : j < 6 := by omega
  have f3 : g 13 0 (7 * j + 3) = pf (g 11 5) j 3 := RK_f hk hj (by decide)
  by_cases hu : aUp (g 11 5) j = true
  case neg =>
    have hu := Bool.eq_false_iff.mpr hu
    exact Sim.read h (-1000002) (by unfold F_X7_pull; rw [X4_hasPaper N 0 _ _ g h4, bd2_s, w, if_neg (by decide), ix_nI hj6 (by decide), bd1_s, X3_isUp N 0 j g f3, bd2_s, hu, b01_f, if_pos rfl]) (by unfold F_X8_pull; rw [X8_isPaper N _ hP _ _ h0, bd2_s, w, if_neg (by decide), X8_isUp' N 5 j hj6 rfl, bd2_s, show aUp ((g3 g 10 0 0 0) 11 5) j = false from hu, b01_f, if_pos rfl])
  have hH := hv.2.2.2.2.2.1
  refine Sim.read h (aRise (g 11 5) j (aForce (g 11 5) (nH (g 11 5)))) ?_ ?_
  · unfold F_X7_pull
    rw [X4_hasPaper N 0 _ _ g h4, bd2_s, w, if_neg (by decide), ix_nI hj6 (by decide), bd1_s, X3_isUp N 0 j g f3, bd2_s, hu, b01_t, if_neg (by decide), X4_force0 N 0 g hv hk (by decide), bd2_s, X4_riseOf N 0 hN g hv hk j hj hu, bd2_s]
  · unfold F_X8_pull
    rw [X8_isPaper N _ hP _ _ h0, bd2_s, w, if_neg (by decide), X8_isUp' N 5 j hj6 rfl, bd2_s, show aUp ((g3 g 10 0 0 0) 11 5) j = true from hu, b01_t, if_neg (by decide), show ix (4 : Int32) 53 = some 4 from by decide, bd1_s, show (g3 g 10 0 0 0) 11 5 4 = nI (nH (g 11 5)) from hv.2.2.2.2.1, X8_forceOf N 5 (nH (g 11 5)) rfl (g3 g 10 0 0 0) hv.2.2.1 hv.2.2.2.1 (by omega), bd2_s, X8_riseOf N 5 j hN rfl hj6 _ (g3 g 10 0 0 0) hv.1 hv.2.1, bd2_s]
    rfl

