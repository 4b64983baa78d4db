/-! ===== let out, hours, undone, images ===== -/
/-- OUT is o then, HIGH no more than that -/
def aLet (v : Nat → Int32) (j : Nat) (o : Int32) : Nat → Int32 := va_up (va_up v (11 + 7 * j + 5) o) (11 + 7 * j + 4) (if pf v j 4 ≤ o then pf v j 4 else o)
theorem aLet_lo (v : Nat → Int32) (j : Nat) (o : Int32) {k : Nat} (h : k < 11 + 7 * j ∨ 11 + 7 * j + 7 ≤ k) : aLet v j o k = v k := by
  unfold aLet
  rw [up_ne _ _ (by omega), up_ne _ _ (by omega)]
theorem VA_let {B : Nat} {v : Nat → Int32} (h : VA B v) {j : Nat} (hj : j < nP v) (hu : aUp v j = true) {n : Nat} (h1 : 1 ≤ n) (h2 : n ≤ 40) : VA B (aLet v j (nI n)) := by
  have hu' : pf v j 3 = 1 := by simpa [aUp] using hu
  refine VA_up h hj (fun k hk => aLet_lo v j _ hk) ?_
  obtain ⟨q0, q1, q2, q3, ⟨o, m, hmo, ho, e4, e5, -, -⟩, q6⟩ := VA_paper h hj
  have e4 : pf v j 4 = nI m := e4
  unfold aLet
  refine ⟨by simpa [va_up] using q0, by simpa [va_up] using q1, by simpa [va_up] using q2, by simpa [va_up] using q3, ?_, fun z => ?_⟩
  · refine ⟨n, if m ≤ n then m else n, by split <;> omega, h2, ?_, by simp [va_up], fun _ => h1, fun z => absurd (by simpa [va_up] using hu') z⟩
    dsimp only
    rw [up_same, e4]
    by_cases q : m ≤ n
    · rw [if_pos q, if_pos (nI_le q (by omega))]
    · rw [if_neg q, if_neg (nI_ge (by omega) (by omega))]
  · have z : pf v j 3 = 2 := by simpa [va_up] using z
    rw [hu'] at z
    exact absurd z (by decide)
def clamp (x : Int32) : Int32 := if 40 < x then 40 else if x < 1 then 1 else x
theorem clamp_n (x : Int32) : ∃ n : Nat, 1 ≤ n ∧ n ≤ 40 ∧ clamp x = nI n := by
  unfold clamp
  have a : (1 : Int32).toInt = 1 := by decide
  have b : (40 : Int32).toInt = 40 := by decide
  by_cases q : 40 < x
  · rw [if_pos q]; exact ⟨40, by omega, by omega, rfl⟩
  · rw [if_neg q]
    by_cases q2 : x < 1
    · rw [if_pos q2]; exact ⟨1, by omega, by omega, rfl⟩
    · rw [if_neg q2]
      rw [i_lt] at q q2
      exact ⟨x.toInt.toNat, by omega, by omega, nI_ofI (by omega)⟩
theorem clamp_k (x : Int32) : (if (1 : Int32) < (if x < 40 then x else 40) then (if x < 40 then x else 40) else 1) = clamp x := by
  unfold clamp
  have a : (1 : Int32).toInt = 1 := by decide
  have b : (40 : Int32).toInt = 40 := by decide
  by_cases q : x < 40
  · rw [if_pos q]
    have q' : ¬ 40 < x := by rw [i_lt] at q ⊢; omega
    rw [if_neg q']
    by_cases q2 : x < 1
    · rw [if_pos q2, if_neg (by rw [i_lt] at q2 ⊢; omega)]
    · rw [if_neg q2]
      by_cases q3 : 1 < x
      · rw [if_pos q3]
      · rw [if_neg q3]
        exact Int32.toInt_inj.mp (by rw [i_lt] at q2 q3; omega)
  · rw [if_neg q, if_pos (by decide)]
    by_cases q2 : 40 < x
    · rw [if_pos q2]
    · rw [if_neg q2, if_neg (by rw [i_lt] at q ⊢; omega)]
      exact Int32.toInt_inj.mp (by rw [i_lt] at q q2; omega)
theorem X3_letOutBy (N r j : Nat) (x : Int32) (g : GS) {sc fo pa v : Nat → Int32} (hk : RK sc fo pa v) (hW : nW v ≤ 6) (hj : j < nP v) (hu : aUp v j = true) : ∃ pa', F_X3_letOutBy N r j x (g2 g 13 r pa) = some (g2 g 13 r pa') ∧ RK sc fo pa' (aLet v j (clamp (pf v j 5 + x))) := by
  have hu' : pf v j 3 = 1 := by simpa [aUp] using hu
  unfold F_X3_letOutBy
  rw [g2_same, show pa (7 * j + 5) = pf v j 5 from RK_f hk hj (by decide), show pa (7 * j + 4) = pf v j 4 from RK_f hk hj (by decide), clamp_k, g3_13, g3_13]
  refine ⟨_, rfl, RK_up hk hW (i := j) (fun k hk => aLet_lo v j _ (by omega)) (fun k hk => ?_) (fun k h11 hk => aLet_lo v j _ hk) (fun f hf => ?_) ?_⟩
  · rw [up_ne _ _ (by omega), up_ne _ _ (by omega)]
  · unfold aLet
    rcases (show f = 0 ∨ f = 1 ∨ f = 2 ∨ f = 3 ∨ f = 4 ∨ f = 5 by omega) with rfl | rfl | rfl | rfl | rfl | rfl
    · simpa [va_up, pf] using RK_f (f := 0) hk hj (by decide)
    · simpa [va_up] using RK_f (f := 1) hk hj (by decide)
    · simpa [va_up] using RK_f (f := 2) hk hj (by decide)
    · simpa [va_up] using RK_f (f := 3) hk hj (by decide)
    · rw [up_same, up_same]
      by_cases q : pf v j 4 ≤ clamp (pf v j 5 + x)
      · rw [if_pos q, if_neg (by rw [i_le] at q; rw [i_lt]; omega)]
      · rw [if_neg q, if_pos (by rw [i_le] at q; rw [i_lt]; omega)]
    · simp [va_up]
  · unfold aLet
    rw [up_ne _ _ (by omega), up_ne _ _ (by omega), up_ne _ _ (by omega), up_ne _ _ (by omega), up_ne _ _ (by omega), up_ne _ _ (by omega)]
    exact (hk.2.2.2.2.2 j hj).2
theorem X8_letsOut (N b j : Nat) (hb : lenM b = 53) (hj : j < 6) (x : Int32) (g : GS) (u : Nat → Int32) : F_X8_letsOut N b (nI j) x (g2 g 11 b u) = some (g2 g 11 b (aLet u j x)) := by
  unfold F_X8_letsOut aLet
  rw [X8_be5 N b j hj hb, bd1_s, g3_11, X8_of4 N b j hj hb, bd2_s, g2_same]
  have e : pf (va_up u (11 + 7 * j + 5) x) j 4 = pf u j 4 := up_ne _ _ (by omega)
  rw [e]
  by_cases q : pf u j 4 ≤ x
  · rw [if_pos q, if_pos q, X8_of4 N b j hj hb, bd2_s, X8_be4 N b j hj hb, bd1_s, g3_11, g2_same, e]
  · rw [if_neg q, if_neg q, X8_be4 N b j hj hb, bd1_s, g3_11]

theorem p_let (N : Nat) (hN : 2000 ≤ N) (x y : Int32) (g : GS) (h : Rel g) : Sim (F_X7_let N x y) (F_X8_let N x y) g := by
  obtain ⟨hv, hk⟩ := h.2.2.2.2.1
  have hP := hv.2.1
  have h4 : g 0 0 4 = nI (nP (g 11 5)) := hk.1.trans hv.1
  have h0 : (g3 g 10 0 0 0) 11 5 0 = nI (nP (g 11 5)) := hv.1
  rcases hp_cases x (P := nP (g 11 5)) (by omega) with w | ⟨w, j, hj, rfl⟩
  · exact Sim.read h (-1000001) (by unfold F_X7_let; rw [X4_hasPaper N 0 _ x g h4, bd2_s, w, if_pos rfl]) (by unfold F_X8_let; rw [X8_isPaper N _ hP x _ h0, bd2_s, w, if_pos rfl])
  have hj6 : j < 6 := by omega
  have f3 : g 13 0 (7 * j + 3) = pf (g 11 5) j 3 := RK_f hk hj (by decide)
  have f5 : g 13 0 (7 * j + 5) = pf (g 11 5) j 5 := RK_f hk hj (by decide)
  by_cases y0 : y = 0
  · subst y0
    exact Sim.read h (-1000001) (by unfold F_X7_let; rw [X4_hasPaper N 0 _ _ g h4, bd2_s, w, if_neg (by decide), if_pos rfl]) (by unfold F_X8_let; rw [X8_isPaper N _ hP _ _ h0, bd2_s, w, if_neg (by decide), X8_inL N 0 (-40) 40 (by decide) (by decide), bd2_s, show wi 0 (-40) 40 = 1 from by decide, if_neg (by decide), if_pos rfl])
  rcases wi_cases y (-40) 40 with ⟨u, -⟩ | ⟨u, u1, u2⟩
  · exact Sim.read h (-1000001) (by unfold F_X7_let; rw [X4_hasPaper N 0 _ _ g h4, bd2_s, w, if_neg (by decide), if_neg y0, X7_within, bd2_s, u, if_pos rfl]) (by unfold F_X8_let; rw [X8_isPaper N _ hP _ _ h0, bd2_s, w, if_neg (by decide), X8_inL N y (-40) 40 (by decide) (by decide), bd2_s, u, if_pos rfl])
  by_cases hu : aUp (g 11 5) j = true
  case neg =>
    have hu := Bool.eq_false_iff.mpr hu
    exact Sim.read h (-1000002) (by unfold F_X7_let; rw [X4_hasPaper N 0 _ _ g h4, bd2_s, w, if_neg (by decide), if_neg y0, X7_within, bd2_s, u, if_neg (by decide), ix_nI hj6 (by decide), bd1_s, X3_isUp N 0 j g f3, bd2_s, hu, b01_f, if_pos rfl]) (by unfold F_X8_let; rw [X8_isPaper N _ hP _ _ h0, bd2_s, w, if_neg (by decide), X8_inL N y (-40) 40 (by decide) (by decide), bd2_s, u, if_neg (by decide), if_neg y0, X8_isUp' N 5 j hj6 rfl, bd2_s, show aUp ((g3 g 10 0 0 0) 11 5) j = false from hu, b01_f, if_pos rfl])
  rcases wi_cases (pf (g 11 5) j 5 + y) 1 40 with ⟨t, -⟩ | ⟨t, t1, t2⟩
  · exact Sim.read h (-1000002) (by unfold F_X7_let; rw [X4_hasPaper N 0 _ _ g h4, bd2_s, w, if_neg (by decide), if_neg y0, X7_within, bd2_s, u, if_neg (by decide), ix_nI hj6 (by decide), bd1_s, X3_isUp N 0 j g f3, bd2_s, hu, b01_t, if_neg (by decide), f5, X7_within, bd2_s, t, if_pos rfl]) (by unfold F_X8_let; rw [X8_isPaper N _ hP _ _ h0, bd2_s, w, if_neg (by decide), X8_inL N y (-40) 40 (by decide) (by decide), bd2_s, u, if_neg (by decide), if_neg y0, X8_isUp' N 5 j hj6 rfl, bd2_s, show aUp ((g3 g 10 0 0 0) 11 5) j = true from hu, b01_t, if_neg (by decide), X8_of5 N 5 j hj6 rfl, bd2_s, show pf ((g3 g 10 0 0 0) 11 5) j 5 = pf (g 11 5) j 5 from rfl, X8_inL N _ 1 40 (by decide) (by decide), bd2_s, t, if_pos rfl])
  obtain ⟨l, hKA, hMA, hVl⟩ := h.2.2.2.2.2.1
  have hll : l.length ≤ 24 := by obtain ⟨_, _, _, _, q, _⟩ := hKA; exact q
  have ec : clamp (pf (g 11 5) j 5 + y) = pf (g 11 5) j 5 + y := by unfold clamp; rw [if_neg t2, if_neg t1]
  obtain ⟨n, hn1, hn2, en⟩ := clamp_n (pf (g 11 5) j 5 + y)
  have hV : VA 999 (aLet (g 11 5) j (pf (g 11 5) j 5 + y)) := by rw [← ec, en]; exact VA_let hv hj hu hn1 hn2
  have eP : nP (aLet (g 11 5) j (pf (g 11 5) j 5 + y)) = nP (g 11 5) := nP_eq (aLet_lo _ _ _ (by omega))
  have e55 : pf (aLet (g 11 5) j (pf (g 11 5) j 5 + y)) j 5 = pf (g 11 5) j 5 + y := by show aLet (g 11 5) j (pf (g 11 5) j 5 + y) (11 + 7 * j + 5) = _; unfold aLet; rw [up_ne _ _ (by omega), up_same]
  refine Sim.act h (pf (g 11 5) j 5 + y) (aLet (g 11 5) j (pf (g 11 5) j 5 + y)) (push l (g 11 5)) hV (by rw [eP]; omega) (push_all hVl ⟨hv, by omega⟩) ?_ ?_
  · obtain ⟨k, e, kf, k0, k12, k13, ka⟩ := K_keep N hN g hv hk hKA
    have hk' : RK (k 0 0) (k 12 0) (k 13 0) (g 11 5) := by rw [k0, k12, k13]; exact hk
    obtain ⟨pa', er, kr⟩ := X3_letOutBy N 0 j y k hk' hv.2.2.2.1 hj hu
    rw [g2_self] at er
    rw [ec] at kr
    refine ⟨g2 k 13 0 pa', ?_, kf.tr (KF.ro k (Or.inr (Or.inr rfl)) (by decide) _), kr, KA_cong ka (fun _ _ => rfl) (fun _ _ => rfl) (fun i hi => g2_row k 13 pa' (by omega))⟩
    unfold F_X7_let
    rw [X4_hasPaper N 0 _ _ g h4, bd2_s, w, if_neg (by decide), if_neg y0, X7_within, bd2_s, u, if_neg (by decide), ix_nI hj6 (by decide), bd1_s, X3_isUp N 0 j g f3, bd2_s, hu, b01_t, if_neg (by decide), f5, X7_within, bd2_s, t, if_neg (by decide), e, bd1_s, er, bd1_s, g2_same, RK_f kr (by rw [eP]; exact hj) (by decide), e55]
  · intro k e11 e10
    obtain ⟨m, e, mf, m5, ma⟩ := M_keep N hN (g3 k 10 0 0 0) hll (l := l) (by show MA (k 10 0 10) (k 11 9) l; rw [e10, e11]; exact hMA)
    have e5 : (g3 k 10 0 0 0) 11 5 = g 11 5 := by show k 11 5 = _; rw [e11]
    rw [e5] at m5 ma
    have eu := X8_letsOut N 5 j rfl hj6 (pf (g 11 5) j 5 + y) m (m 11 5)
    rw [g2_self, m5] at eu
    refine ⟨_, ?_, ((MF.sc k (Or.inl rfl) 0).tr mf).tr (MF.ar m (Or.inl rfl) (aLet (g 11 5) j (pf (g 11 5) j 5 + y))), g2_same _ _ _ _, ma⟩
    unfold F_X8_let
    rw [X8_isPaper N _ hP _ (g3 k 10 0 0 0) (by rw [e5]; exact hv.1), bd2_s, w, if_neg (by decide), X8_inL N y (-40) 40 (by decide) (by decide), bd2_s, u, if_neg (by decide), if_neg y0, X8_isUp' N 5 j hj6 rfl, bd2_s, e5, hu, b01_t, if_neg (by decide), X8_of5 N 5 j hj6 rfl, bd2_s, e5, X8_inL N _ 1 40 (by decide) (by decide), bd2_s, t, if_neg (by decide), e, bd1_s, X8_of5 N 5 j hj6 rfl, bd2_s, m5, eu, bd1_s, X8_of5 N 5 j hj6 rfl, bd2_s, g2_same, e55]

/-- the rows behind n HOURS -/
def pushN (l : List (Nat → Int32)) (v : Nat → Int32) : Nat → List (Nat → Int32)
  | 0 => l
  | n + 1 => push (pushN l v n) (aHrs v n)
theorem pushN_len {l : List (Nat → Int32)} (hl : l.length ≤ 24) (v : Nat → Int32) : ∀ n, (pushN l v n).length ≤ 24 := by
  intro n
  induction n with
  | zero => exact hl
  | succ n ih => rw [pushN, push_len ih]; split <;> omega
theorem K_hour0 (N : Nat) (hN : 2000 ≤ N) (k : GS) {B : Nat} {v : Nat → Int32} (hv : VA B v) (hk : RK (k 0 0) (k 12 0) (k 13 0) v) (hB : B < 2 ^ 29) : ∃ sc pa, (∀ {C : Type} (f : GS → Option C), bd2 (F_X4_forceAfter N 0 0 k) (fun x g' => bd1 (F_X4_passHourIn N 0 x g') f) = f (g2 (g2 k 13 0 pa) 0 0 sc)) ∧ RK sc (k 12 0) pa (aHr v) := by
  obtain ⟨n, hn, e⟩ := aForce_n hv (nH v)
  obtain ⟨sc, pa, e1, kr⟩ := X4_passHourIn N 0 hN k hv hk (wn := n) (by omega)
  rw [← e] at e1 kr
  refine ⟨sc, pa, fun f => ?_, kr⟩
  rw [X4_force0 N 0 k hv hk hB, bd2_s, e1, bd1_s]
theorem L_Khours (N : Nat) (hN : 2000 ≤ N) (g : GS) {v : Nat → Int32} (hv : VA 999 v) (l : List (Nat → Int32)) (m : Nat) (hm : m ≤ 24) : ∀ (n i : Nat) (k : GS), KF g k → RK (k 0 0) (k 12 0) (k 13 0) (aHrs v i) → KA (k 6 0) (k 0) (k 12) (k 13) (pushN l v i) → i ≤ m → m < i + n → ∃ k', L_X7_hours_46 N (nI m) n (nI i) k = some (nI m, k') ∧ KF g k' ∧ RK (k' 0 0) (k' 12 0) (k' 13 0) (aHrs v m) ∧ KA (k' 6 0) (k' 0) (k' 12) (k' 13) (pushN l v m) := by
  intro n
  induction n with
  | zero => intro i k _ _ _ h1 h2; omega
  | succ n ih =>
    intro i k kf hk ka h1 h2
    rw [L_X7_hours_46]
    by_cases h : i = m
    · subst h
      rw [if_pos (nI_le (Nat.le_refl i) (by omega))]
      exact ⟨k, rfl, kf, hk, ka⟩
    · rw [if_neg (nI_ge (by omega) (by omega)), nI_1]
      have hV := (VA_hrs hv i (by omega)).1
      obtain ⟨k1, e1, kf1, a0, a12, a13, ka1⟩ := K_keep N hN k hV hk ka
      have hk1 : RK (k1 0 0) (k1 12 0) (k1 13 0) (aHrs v i) := by rw [a0, a12, a13]; exact hk
      obtain ⟨sc, pa, e2, kr⟩ := K_hour0 N hN k1 hV hk1 (by omega)
      rw [e1, bd1_s, e2]
      refine ih (i + 1) _ ((kf.tr kf1).tr ((KF.ro k1 (Or.inr (Or.inr rfl)) (by decide) pa).tr (KF.ro _ (Or.inl rfl) (by decide) sc))) kr ?_ (by omega) (by omega)
      exact KA_cong ka1 (fun j hj => by rw [g2_row _ _ _ (by omega), g2_kind _ _ _ (by decide)]) (fun j hj => rfl) (fun j hj => by rw [g2_kind _ _ _ (show 13 ≠ 0 by decide), g2_row _ _ _ (by omega)])
theorem L_Mhours (N : Nat) (hN : 2000 ≤ N) (g : GS) {v : Nat → Int32} (hv : VA 999 v) (l : List (Nat → Int32)) (hl : l.length ≤ 24) (m : Nat) (hm : m ≤ 24) : ∀ (n i : Nat) (k : GS), MF g k → k 11 5 = aHrs v i → MA (k 10 0 10) (k 11 9) (pushN l v i) → i ≤ m → m < i + n → ∃ k', L_X8_hours_49 N (nI m) n (nI i) k = some (nI m, k') ∧ MF g k' ∧ k' 11 5 = aHrs v m ∧ MA (k' 10 0 10) (k' 11 9) (pushN l v m) := by
  intro n
  induction n with
  | zero => intro i k _ _ _ h1 h2; omega
  | succ n ih =>
    intro i k mf e5 ma h1 h2
    rw [L_X8_hours_49]
    by_cases h : i = m
    · subst h
      rw [if_pos (nI_le (Nat.le_refl i) (by omega))]
      exact ⟨k, rfl, mf, e5, ma⟩
    · rw [if_neg (nI_ge (by omega) (by omega)), nI_1]
      have hV := (VA_hrs hv i (by omega)).1
      obtain ⟨k1, e1, mf1, m5, ma1⟩ := M_keep N hN k (pushN_len hl v i) ma
      rw [e5] at m5 ma1
      have hH := hV.2.2.2.2.2.1
      have e2 := X8_hour N 5 hN rfl (by decide) k1 (by rw [m5]; exact hV.1) (by rw [m5]; exact hV.2.1) (by rw [m5]; exact hV.2.2.1) (by rw [m5]; exact hV.2.2.2.1) (by rw [m5]; exact hV.2.2.2.2.1) (by rw [m5]; omega)
      rw [e1, bd1_s, e2, bd1_s]
      refine ih (i + 1) _ ((mf.tr mf1).tr ((MF.ar k1 (Or.inr (Or.inr (Or.inl rfl))) _).tr (MF.ar _ (Or.inl rfl) _))) ?_ ma1 (by omega) (by omega)
      rw [g2_same, m5]
      rfl
theorem pushN_all {l : List (Nat → Int32)} {v : Nat → Int32} {Q : (Nat → Int32) → Prop} (h : ∀ u ∈ l, Q u) : ∀ n, (∀ i, i < n → Q (aHrs v i)) → ∀ u ∈ pushN l v n, Q u := by
  intro n
  induction n with
  | zero => intro _; exact h
  | succ n ih => intro hq; exact push_all (ih (fun i hi => hq i (by omega))) (hq n (by omega))
theorem VA_less {B C : Nat} {v : Nat → Int32} (h : VA B v) (hc : nH v ≤ C) : VA C v := by
  obtain ⟨a0, a1, a2, a3, a4, a5, a6, a7, a8⟩ := h
  exact ⟨a0, a1, a2, a3, a4, hc, a6, a7, a8⟩

theorem p_hours (N : Nat) (hN : 2000 ≤ N) (x : Int32) (g : GS) (h : Rel g) : Sim (F_X7_hours N x) (F_X8_hours N x) g := by
  obtain ⟨hv, hk⟩ := h.2.2.2.2.1
  have hP := hv.2.1
  have h4 : g 0 0 4 = nI (nP (g 11 5)) := hk.1.trans hv.1
  have h0 : (g3 g 10 0 0 0) 11 5 0 = nI (nP (g 11 5)) := hv.1
  rcases Nat.eq_zero_or_pos (nP (g 11 5)) with hz0 | hz
  · have hz : ¬ 0 < nP (g 11 5) := by omega
    exact Sim.read h (-1000002) (by unfold F_X7_hours; rw [X4_isRead N 0 _ hP g h4, bd2_s, decide_eq_false hz, b01_f, if_pos rfl]) (by unfold F_X8_hours; rw [X8_isThere N _ hP _ h0, bd2_s, decide_eq_false hz, b01_f, if_pos rfl])
  rcases wi_cases x 1 24 with ⟨w, -⟩ | ⟨w, w1, w2⟩
  · exact Sim.read h (-1000001) (by unfold F_X7_hours; rw [X4_isRead N 0 _ hP g h4, bd2_s, decide_eq_true hz, b01_t, if_neg (by decide), X7_within, bd2_s, w, if_pos rfl]) (by unfold F_X8_hours; rw [X8_isThere N _ hP _ h0, bd2_s, decide_eq_true hz, b01_t, if_neg (by decide), X8_inL N x 1 24 (by decide) (by decide), bd2_s, w, if_pos rfl])
  obtain ⟨n, hn1, hn2, rfl⟩ : ∃ n : Nat, 1 ≤ n ∧ n ≤ 24 ∧ x = nI n := by
    rw [i_lt] at w1 w2
    have a : (1 : Int32).toInt = 1 := by decide
    have b : (24 : Int32).toInt = 24 := by decide
    exact ⟨x.toInt.toNat, by omega, by omega, nI_ofI (by omega)⟩
  have h2 : g 0 0 2 = nI (nH (g 11 5)) := hk.2.2.1.trans hv.2.2.2.2.1
  have hH := hv.2.2.2.2.2.1
  by_cases hf : nH (g 11 5) + n ≤ 999
  case neg =>
    exact Sim.read h (-1000003) (by unfold F_X7_hours; rw [X4_isRead N 0 _ hP g h4, bd2_s, decide_eq_true hz, b01_t, if_neg (by decide), X7_within, bd2_s, w, if_neg (by decide), h2, nI_add, if_neg (show ¬ nI _ ≤ (999 : Int32) from nI_ge (a := 999) (by omega) (by omega))]) (by unfold F_X8_hours; rw [X8_isThere N _ hP _ h0, bd2_s, decide_eq_true hz, b01_t, if_neg (by decide), X8_inL N _ 1 24 (by decide) (by decide), bd2_s, w, if_neg (by decide), show ix (4 : Int32) 53 = some 4 from by decide, bd1_s, show (g3 g 10 0 0 0) 11 5 4 = nI (nH (g 11 5)) from hv.2.2.2.2.1, nI_add, if_neg (show ¬ nI _ ≤ (999 : Int32) from nI_ge (a := 999) (by omega) (by omega))])
  obtain ⟨l, hKA, hMA, hVl⟩ := h.2.2.2.2.2.1
  have hll : l.length ≤ 24 := by obtain ⟨_, _, _, _, q, _⟩ := hKA; exact q
  obtain ⟨hV, hVP, hVW, hVH⟩ := VA_hrs hv n (by omega)
  have hV : VA 999 (aHrs (g 11 5) n) := VA_less hV (by omega)
  refine Sim.act h (bitsF (aPol (aHrs (g 11 5) n)) (nP (aHrs (g 11 5) n))) (aHrs (g 11 5) n) (pushN l (g 11 5) n) hV (by rw [hVP]; exact hz) (pushN_all hVl n (fun i hi => ?_)) ?_ ?_
  · obtain ⟨a, b, c, d⟩ := VA_hrs hv i (by omega)
    exact ⟨VA_less a (by omega), by rw [b]; exact hz⟩
  · obtain ⟨k, e, kf, kr, ka⟩ := L_Khours N hN g hv l n hn2 N 0 g (KF.rf g) hk hKA (by omega) (by omega)
    rw [nI_0] at e
    refine ⟨k, ?_, kf, kr, ka⟩
    unfold F_X7_hours
    rw [X4_isRead N 0 _ hP g h4, bd2_s, decide_eq_true hz, b01_t, if_neg (by decide), X7_within, bd2_s, w, if_neg (by decide), h2, nI_add, if_pos (show nI _ ≤ (999 : Int32) from nI_le (b := 999) hf (by decide)), e, bd2_s, X4_policyBits N 0 hN k hV kr, bd2_s]
  · intro k e11 e10
    have e5 : (g3 k 10 0 0 0) 11 5 = g 11 5 := by show k 11 5 = _; rw [e11]
    obtain ⟨m, e, mf, m5, ma⟩ := L_Mhours N hN k hv l hll n hn2 N 0 (g3 k 10 0 0 0) (MF.sc k (Or.inl rfl) 0) e5 (by show MA (k 10 0 10) (k 11 9) l; rw [e10, e11]; exact hMA) (by omega) (by omega)
    rw [nI_0] at e
    refine ⟨m, ?_, mf, m5, ma⟩
    unfold F_X8_hours
    rw [X8_isThere N (nP (g 11 5)) hP (g3 k 10 0 0 0) (by rw [e5]; exact hv.1), bd2_s, decide_eq_true hz, b01_t, if_neg (by decide), X8_inL N _ 1 24 (by decide) (by decide), bd2_s, w, if_neg (by decide), show ix (4 : Int32) 53 = some 4 from by decide, bd1_s, e5, hv.2.2.2.2.1, nI_add, if_pos (show nI _ ≤ (999 : Int32) from nI_le (b := 999) hf (by decide)), e, bd2_s, X8_policies N 5 (nP (aHrs (g 11 5) n)) hN rfl hV.2.1 m (by rw [m5]; exact hV.1), bd2_s, m5]

