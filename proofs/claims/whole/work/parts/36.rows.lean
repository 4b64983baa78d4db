/-! ===== rows: set, drop; the tape: feed; kinds: as ===== -/
theorem RR_lane {k1 k2 : Nat → Nat → Int32} {m2 m3 m4 : Nat → Int32} (h : RR k1 k2 m2 m3 m4) {j : Nat} (hj : j < 8) : (k1 j 0 = -1 ∧ m2 j < 0) ∨ (¬ k1 j 0 = -1 ∧ ¬ m2 j < 0 ∧ m2 j = k1 j 0 ∧ m3 j = k1 j 1) := by
  obtain ⟨a, b, c, -⟩ := h j hj
  rcases b with q | q | q | q
  · left; exact ⟨q, by rw [a, q]; decide⟩
  all_goals
    right
    have hne : ¬ k1 j 0 = -1 := by rw [q]; decide
    exact ⟨hne, by rw [a, q]; decide, a, c hne⟩
theorem i_nlt0 {x : Int32} : ¬ x < 0 ↔ 0 ≤ x := by rw [i_lt, i_le]; omega
theorem X5_isMissing (N j : Nat) (g : GS) : F_X5_isMissing N j g = some (if g 1 j 0 = -1 then 1 else 0, g) := by
  unfold F_X5_isMissing
  split <;> rfl
theorem X5_has1 (N j z : Nat) (hz : z ≤ 40) (x : Int32) (g : GS) (e : g 1 j 1 = nI z) : F_X5_hasPlaces N j x 1 g = some (hp x z, g) := by
  unfold F_X5_hasPlaces
  rw [e, if_neg (show ¬ (1 : Int32) < 0 by decide), ← wi_pred x (P := z) (by omega)]
  unfold wi
  split
  · rfl
  · split <;> rfl
def cutL (l v : Int32) : Int32 := if l = 0 then v.toInt8.toInt32 else if l = 1 then v.toInt16.toInt32 else v
theorem X5_put (N j i : Nat) (hi : i < 40) (v : Int32) (g : GS) : F_X5_put N j (nI i) v g = some (cutL (g 1 j 0) v, g3 g 2 j i (cutL (g 1 j 0) v)) := by
  unfold F_X5_put F_X5_cut cutL
  rw [ix_nI hi (by decide)]
  split
  · rw [bd2_s, bd1_s]
  · split
    · rw [bd2_s, bd1_s]
    · rw [bd2_s, bd1_s]
theorem RR_drop {k1 k2 : Nat → Nat → Int32} {m2 m3 m4 : Nat → Int32} (h : RR k1 k2 m2 m3 m4) (j : Nat) {f : Nat → Int32} (f0 : f 0 = -1) (f1 : f 1 = 0) : RR (va_up k1 j f) k2 (va_up m2 j (-1)) m3 m4 := by
  intro i hi
  obtain ⟨a, b, c, d, e⟩ := h i hi
  by_cases q : i = j
  · subst q
    rw [up_same, up_same, f0, f1]
    exact ⟨rfl, Or.inl rfl, fun z => absurd rfl z, ⟨0, by omega, rfl⟩, e⟩
  · rw [up_ne _ _ q, up_ne _ _ q]
    exact ⟨a, b, c, d, e⟩
theorem p_drop (N : Nat) (x : Int32) (g : GS) (h : Rel g) : Sim (F_X7_drop N x) (F_X8_drop N x) g := by
  rcases wi_cases x 0 7 with ⟨w, -⟩ | ⟨w, w1, w2⟩
  · exact Sim.read h (-1000001) (by unfold F_X7_drop; rw [X7_isRow, bd2_s, w, if_pos rfl]) (by unfold F_X8_drop; rw [X8_isRow, bd2_s, w, if_pos rfl])
  obtain ⟨j, hj, rfl⟩ := wi_nI (n := 7) (by decide) w1 w2
  rcases RR_lane h.1 hj with ⟨l1, l2⟩ | ⟨l1, l2, l3, l4⟩
  · refine Sim.of ((-1000010 : Int32) - 1) (g3 g 9 0 1 1) (g3 (g3 (g3 (g3 g 9 0 1 1) 10 0 0 0) 10 0 1 0) 10 0 1 1) ?_ ?_ ⟨h.1, h.2.1, h.2.2.1, rfl, h.2.2.2.2⟩
    · unfold F_X7_drop F_X7_found
      rw [X7_isRow, bd2_s, w, if_neg (by decide), ix_nI hj (by decide), bd1_s, X5_isMissing, if_pos l1, bd2_s, if_neg (by decide), bd2_s]
    · unfold F_X8_drop F_X8_finding
      rw [X8_isRow, bd2_s, w, if_neg (by decide), ix_nI hj (by decide), bd1_s, if_neg, bd2_s]
      exact (show ¬ (0 : Int32) ≤ g 11 2 j by rw [← i_nlt0]; exact fun q => q l2)
  · have hn : (0 : Int32) ≤ g 11 2 j := by rw [← i_nlt0]; exact l2
    refine Sim.of (g 1 j 1) (g3 (g2 g 1 j (va_up (va_up (g 1 j) 0 (-1)) 1 0)) 9 0 1 0) (g3 (g3 (g3 (g3 (g2 g 1 j (va_up (va_up (g 1 j) 0 (-1)) 1 0)) 9 0 1 0) 10 0 0 0) 10 0 1 0) 11 2 j (-1)) ?_ ?_ ⟨RR_drop h.1 j rfl rfl, h.2.1, h.2.2.1, rfl, h.2.2.2.2⟩
    · unfold F_X7_drop F_X5_end F_X7_unfound
      rw [X7_isRow, bd2_s, w, if_neg (by decide), ix_nI hj (by decide), bd1_s, X5_isMissing, if_neg l1, bd2_s, if_pos rfl, bd1_s, bd2_s, g3_g2 g, g3_g2 (g2 g 1 j _), g2_same, g2_g2]
    · unfold F_X8_drop
      rw [X8_isRow, bd2_s, w, if_neg (by decide), ix_nI hj (by decide), bd1_s, if_pos]
      · exact congrArg (fun z => some (z, _)) l4
      · exact hn
theorem p_set (N : Nat) (x y v : Int32) (g : GS) (h : Rel g) : Sim (F_X7_set N x y v) (F_X8_set N x y v) g := by
  rcases wi_cases x 0 7 with ⟨w, -⟩ | ⟨w, w1, w2⟩
  · exact Sim.read h (-1000001) (by unfold F_X7_set; rw [X7_isRow, bd2_s, w, if_pos rfl]) (by unfold F_X8_set; rw [X8_isRow, bd2_s, w, if_pos rfl])
  obtain ⟨j, hj, rfl⟩ := wi_nI (n := 7) (by decide) w1 w2
  rcases RR_lane h.1 hj with ⟨l1, l2⟩ | ⟨l1, l2, l3, l4⟩
  · refine Sim.of ((-1000010 : Int32) - 1) (g3 g 9 0 1 1) (g3 (g3 (g3 (g3 g 9 0 1 1) 10 0 0 0) 10 0 1 0) 10 0 1 1) ?_ ?_ ⟨h.1, h.2.1, h.2.2.1, rfl, h.2.2.2.2⟩
    · unfold F_X7_set F_X7_found
      rw [X7_isRow, bd2_s, w, if_neg (by decide), ix_nI hj (by decide), bd1_s, X5_isMissing, if_pos l1, bd2_s, if_neg (by decide), bd2_s]
    · unfold F_X8_set F_X8_finding
      rw [X8_isRow, bd2_s, w, if_neg (by decide), ix_nI hj (by decide), bd1_s, if_neg, bd2_s]
      exact (show ¬ (0 : Int32) ≤ g 11 2 j by rw [← i_nlt0]; exact fun q => q l2)
  obtain ⟨z, hz, ez⟩ := (h.1 j hj).2.2.2.1
  have e3 : ∀ k : GS, k 11 = g 11 → k 11 3 j = nI z := fun k e => by rw [e, l4, ez]
  rcases hp_cases y (P := z) (by omega) with u | ⟨u, i, hi, rfl⟩
  · refine Sim.of ((-1000010 : Int32) - 2) (g3 g 9 0 1 2) (g3 (g3 (g3 (g3 g 9 0 1 2) 10 0 0 0) 10 0 1 0) 10 0 1 2) ?_ ?_ ⟨h.1, h.2.1, h.2.2.1, rfl, h.2.2.2.2⟩
    · unfold F_X7_set F_X7_found
      rw [X7_isRow, bd2_s, w, if_neg (by decide), ix_nI hj (by decide), bd1_s, X5_isMissing, if_neg l1, bd2_s, if_pos rfl, X5_has1 N j z hz y g ez, bd2_s, u, if_pos rfl, bd2_s]
    · unfold F_X8_set F_X8_finding
      rw [X8_isRow, bd2_s, w, if_neg (by decide), ix_nI hj (by decide), bd1_s, if_pos]
      · simp only [e3 (g3 (g3 g 9 0 1 2) 10 0 0 0) rfl]
        rw [X8_inL N y 0 (nI z - 1) (by decide) rfl, bd2_s, wi_pred y (by omega), u, if_pos rfl, bd2_s]
      · exact (show (0 : Int32) ≤ g 11 2 j by rw [← i_nlt0]; exact l2)
  · have hi40 : i < 40 := by omega
    have el : ∀ k : GS, k 11 = g 11 → k 11 2 j = g 1 j 0 := fun k e => by rw [e, l3]
    have ei : (40 : Int32) * nI j + nI i = nI (40 * j + i) := by rw [show (40 : Int32) = nI 40 from rfl, pk_mul, nI_add]
    refine Sim.of (cutL (g 1 j 0) v) (g3 (g3 g 2 j i (cutL (g 1 j 0) v)) 9 0 1 0) (g3 (g3 (g3 (g3 (g3 g 2 j i (cutL (g 1 j 0) v)) 9 0 1 0) 10 0 0 0) 10 0 1 0) 11 4 (40 * j + i) (cutL (g 1 j 0) v)) ?_ ?_ ?_
    · unfold F_X7_set F_X7_unfound
      rw [X7_isRow, bd2_s, w, if_neg (by decide), ix_nI hj (by decide), bd1_s, X5_isMissing, if_neg l1, bd2_s, if_pos rfl, X5_has1 N j z hz _ g ez, bd2_s, u, if_neg (by decide), X5_put N j i hi40, bd2_s, bd2_s]
    · unfold F_X8_set
      rw [X8_isRow, bd2_s, w, if_neg (by decide), ix_nI hj (by decide), bd1_s, if_pos]
      · simp only [e3 (g3 (g3 (g3 g 2 j i (cutL (g 1 j 0) v)) 9 0 1 0) 10 0 0 0) rfl]
        rw [X8_inL N _ 0 (nI z - 1) (by decide) rfl, bd2_s, wi_pred _ (by omega), u, if_neg (by decide), ei, ix_nI (by omega) (by decide)]
        simp only [bd1_s]
        rw [el (g3 (g3 (g3 (g3 g 2 j i (cutL (g 1 j 0) v)) 9 0 1 0) 10 0 0 0) 10 0 1 0) rfl]
        unfold cutL
        split
        · rfl
        · split <;> rfl
      · exact (show (0 : Int32) ≤ g 11 2 j by rw [← i_nlt0]; exact l2)
    · refine ⟨fun t ht => ?_, h.2.1, h.2.2.1, rfl, h.2.2.2.2⟩
      obtain ⟨a, b, c, d, e⟩ := h.1 t ht
      refine ⟨a, b, c, d, fun k hk => ?_⟩
      show va_up (g 11 4) (40 * j + i) (cutL (g 1 j 0) v) (40 * t + k) = va_up (g 2) j (va_up (g 2 j) i (cutL (g 1 j 0) v)) t k
      by_cases q : t = j
      · subst q
        rw [up_same]
        by_cases q2 : k = i
        · subst q2; rw [up_same, up_same]
        · rw [up_ne _ _ (by omega), up_ne _ _ q2]; exact e k hk
      · rw [up_ne _ _ (by omega), up_ne _ _ q]; exact e k hk
theorem p_feed (N : Nat) (x : Int32) (g : GS) (h : Rel g) : Sim (F_X7_feed N x) (F_X8_feed N x) g := by
  rcases wi_cases x 0 255 with ⟨w, -⟩ | ⟨w, w1, w2⟩
  · exact Sim.read h (-1000001) (by unfold F_X7_feed; rw [X7_within, bd2_s, w, if_pos rfl]) (by unfold F_X8_feed; rw [X8_inL N x 0 255 (by decide) (by decide), bd2_s, w, if_pos rfl])
  obtain ⟨b, hb, rfl⟩ := wi_nI (n := 255) (by decide) w1 w2
  obtain ⟨z, hz, e1, e2, e3⟩ := h.2.1
  by_cases q : z = 100
  · subst q
    exact Sim.read h (-1000003) (by unfold F_X7_feed; rw [X7_within, bd2_s, w, if_neg (by decide), e1, if_neg (by decide)]) (by unfold F_X8_feed; rw [X8_inL N _ 0 255 (by decide) (by decide), bd2_s, w, if_neg (by decide), show (g3 g 10 0 0 0) 10 0 12 = nI 100 from e2, if_pos (by decide)])
  · refine Sim.of (nI (z + 1)) (g3 (g3 g 4 0 z (nI b)) 3 0 0 (nI (z + 1))) (g3 (g3 (g3 (g3 (g3 g 4 0 z (nI b)) 3 0 0 (nI (z + 1))) 10 0 0 0) 11 11 z (nI b)) 10 0 12 (nI (z + 1))) ?_ ?_ ?_
    · unfold F_X7_feed F_X6_append
      rw [X7_within, bd2_s, w, if_neg (by decide), e1, if_pos (show nI z < (100 : Int32) from nI_lt (b := 100) (by omega) (by omega)), if_neg (show ¬ (100 : Int32) ≤ nI z from nI_ge (b := 100) (by omega) (by omega)), ix_nI (by omega) (by decide), bd1_s, bd1_s, nI_1]
      rfl
    · unfold F_X8_feed
      rw [X8_inL N _ 0 255 (by decide) (by decide), bd2_s, w, if_neg (by decide), show (g3 (g3 (g3 g 4 0 z (nI b)) 3 0 0 (nI (z + 1))) 10 0 0 0) 10 0 12 = nI z from e2, if_neg (show ¬ nI z = (100 : Int32) from fun t => q ((nI_eq (b := 100) (by omega) (by decide)).mp t)), ix_nI (by omega) (by decide), bd1_s, nI_1]
    · refine ⟨h.1, ⟨z + 1, by omega, rfl, rfl, fun k hk => ?_⟩, h.2.2.1, h.2.2.2.1, h.2.2.2.2⟩
      show va_up (g 11 11) z (nI b) k = va_up (g 4 0) z (nI b) k ∧ ∃ c : Nat, c < 256 ∧ va_up (g 4 0) z (nI b) k = nI c
      by_cases q2 : k = z
      · subst q2; rw [up_same, up_same]; exact ⟨rfl, b, by omega, rfl⟩
      · rw [up_ne _ _ q2, up_ne _ _ q2]; exact e3 k hk
def isK (s t : Nat) : Bool := decide (t = 0) || (decide (t = s) || (decide (t = 1 ∧ s < 4) || decide (t = 4 ∧ s = 5)))
theorem p_as (N : Nat) (x y : Int32) (g : GS) (h : Rel g) : Sim (F_X7_as N x y) (F_X8_as N x y) g := by
  obtain ⟨hv, hk⟩ := h.2.2.2.2.1
  have hP := hv.2.1
  have h4 : g 0 0 4 = nI (nP (g 11 5)) := hk.1.trans hv.1
  have h0 : ∀ k : GS, k 11 = g 11 → k 11 5 0 = nI (nP (g 11 5)) := fun k e => by rw [e]; exact hv.1
  rcases hp_cases x (P := nP (g 11 5)) (by omega) with w | ⟨w, j, hj, rfl⟩
  · exact Sim.read h (-1000001) (by unfold F_X7_as; rw [X4_hasPaper N 0 _ x g h4, bd2_s, w, if_pos rfl]) (by unfold F_X8_as; rw [X8_isPaper N _ hP x _ (h0 (g3 g 10 0 0 0) rfl), bd2_s, w, if_pos rfl])
  rcases wi_cases y 0 5 with ⟨u, -⟩ | ⟨u, u1, u2⟩
  · exact Sim.read h (-1000001) (by unfold F_X7_as; rw [X4_hasPaper N 0 _ _ g h4, bd2_s, w, if_neg (by decide), X7_within, bd2_s, u, if_pos rfl]) (by unfold F_X8_as; rw [X8_isPaper N _ hP _ _ (h0 (g3 g 10 0 0 0) rfl), bd2_s, w, if_neg (by decide), X8_inL N y 0 5 (by decide) (by decide), bd2_s, u, if_pos rfl])
  obtain ⟨t, ht, rfl⟩ := wi_nI (n := 5) (by decide) u1 u2
  have hj6 : j < 6 := by omega
  obtain ⟨⟨s, hs1, hs2, es⟩, -⟩ := VA_paper hv hj
  have es : pf (g 11 5) j 0 = nI s := es
  have f0 : g 13 0 (7 * j) = nI s := (RK_f (f := 0) hk hj (by decide)).trans es
  have eK : F_X3_isOf N 0 j (nI t) g = some (b01 (isK s t), g) := by
    unfold F_X3_isOf F_X3_kindAbove
    rw [f0]
    rcases (show s = 1 ∨ s = 2 ∨ s = 3 ∨ s = 4 ∨ s = 5 by omega) with rfl | rfl | rfl | rfl | rfl <;> rcases (show t = 0 ∨ t = 1 ∨ t = 2 ∨ t = 3 ∨ t = 4 ∨ t = 5 by omega) with rfl | rfl | rfl | rfl | rfl | rfl <;> rfl
  have eM : ∀ k : GS, F_X8_isOf N (nI s) (nI t) k = some (b01 (isK s t), k) := fun k => by
    unfold F_X8_isOf
    rcases (show s = 1 ∨ s = 2 ∨ s = 3 ∨ s = 4 ∨ s = 5 by omega) with rfl | rfl | rfl | rfl | rfl <;> rcases (show t = 0 ∨ t = 1 ∨ t = 2 ∨ t = 3 ∨ t = 4 ∨ t = 5 by omega) with rfl | rfl | rfl | rfl | rfl | rfl <;> rfl
  have eo : ∀ k : GS, k 11 = g 11 → F_X8_of N 5 (nI j) 0 k = some (nI s, k) := fun k e => by rw [X8_of0 N 5 j hj6 rfl, e, es]
  by_cases q : isK s t = true
  · refine Sim.of (nI j) (g3 g 9 0 1 0) (g3 (g3 (g3 g 9 0 1 0) 10 0 0 0) 10 0 1 0) ?_ ?_ ⟨h.1, h.2.1, h.2.2.1, rfl, h.2.2.2.2⟩
    · unfold F_X7_as F_X7_unfound
      rw [X4_hasPaper N 0 _ _ g h4, bd2_s, w, if_neg (by decide), X7_within, bd2_s, u, if_neg (by decide), ix_nI hj6 (by decide), bd1_s, eK, bd2_s, q, b01_t, if_neg (by decide), bd2_s]
    · unfold F_X8_as
      rw [X8_isPaper N _ hP _ _ (h0 (g3 (g3 g 9 0 1 0) 10 0 0 0) rfl), bd2_s, w, if_neg (by decide), X8_inL N _ 0 5 (by decide) (by decide), bd2_s, u, if_neg (by decide), eo (g3 (g3 (g3 g 9 0 1 0) 10 0 0 0) 10 0 1 0) rfl, bd2_s, eM, bd2_s, q, b01_t, if_neg (by decide)]
  · have q := Bool.eq_false_iff.mpr q
    refine Sim.of ((-1000010 : Int32) - 3) (g3 g 9 0 1 3) (g3 (g3 (g3 (g3 g 9 0 1 3) 10 0 0 0) 10 0 1 0) 10 0 1 3) ?_ ?_ ⟨h.1, h.2.1, h.2.2.1, rfl, h.2.2.2.2⟩
    · unfold F_X7_as F_X7_found
      rw [X4_hasPaper N 0 _ _ g h4, bd2_s, w, if_neg (by decide), X7_within, bd2_s, u, if_neg (by decide), ix_nI hj6 (by decide), bd1_s, eK, bd2_s, q, b01_f, if_pos rfl, bd2_s]
    · unfold F_X8_as F_X8_finding
      rw [X8_isPaper N _ hP _ _ (h0 (g3 (g3 g 9 0 1 3) 10 0 0 0) rfl), bd2_s, w, if_neg (by decide), X8_inL N _ 0 5 (by decide) (by decide), bd2_s, u, if_neg (by decide), eo (g3 (g3 (g3 g 9 0 1 3) 10 0 0 0) 10 0 1 0) rfl, bd2_s, eM, bd2_s, q, b01_f, if_pos rfl, bd2_s]
