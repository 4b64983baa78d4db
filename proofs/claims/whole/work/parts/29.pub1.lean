theorem X8_cellOf (N b p : Nat) (hp : p < 6) (hb : lenM b = 53) (g : GS) : F_X8_cellOf N b (nI p) g = some (if pf (g 11 b) p 3 = 2 then pf (g 11 b) p 6 else -1000000, g) := by
  unfold F_X8_cellOf
  rw [X8_of3 N b p hp hb, bd2_s]
  by_cases q : pf (g 11 b) p 3 = 2
  · rw [if_pos q, if_pos q, X8_of6 N b p hp hb, bd2_s]
  · rw [if_neg q, if_neg q]
theorem p_paper (N : Nat) (hN : 2000 ≤ N) (x y : Int32) (g : GS) (h : Rel g) : Sim (F_X7_paper N x y) (F_X8_paper N x y) g := by
  obtain ⟨hv, hk⟩ := h.2.2.2.2.1
  have hP := hv.2.1
  have h4 : g 0 0 4 = nI (nP (g 11 5)) := hk.1.trans hv.1
  have h0 : (g3 g 10 0 0 0) 11 5 0 = nI (nP (g 11 5)) := hv.1
  rcases hp_cases x (P := nP (g 11 5)) (by omega) with w | ⟨w, j, hj, rfl⟩
  · exact Sim.read h (-1000001) (by unfold F_X7_paper; rw [X4_hasPaper N 0 _ x g h4, bd2_s, w, if_pos rfl]) (by unfold F_X8_paper; rw [X8_isPaper N _ hP x _ h0, bd2_s, w, if_pos rfl])
  have ff : ∀ f, f < 6 → g 13 0 (7 * j + f) = pf (g 11 5) j f := fun f hf => RK_f hk hj hf
  have hj6 : j < 6 := by omega
  by_cases y0 : y = 0
  · refine Sim.read h (pf (g 11 5) j 1) ?_ ?_
    · unfold F_X7_paper
      rw [X4_hasPaper N 0 _ _ g h4, bd2_s, w, if_neg (by decide), ix_nI hj6 (by decide), bd1_s, if_pos y0, ff 1 (by decide)]
    · unfold F_X8_paper
      rw [X8_isPaper N _ hP _ _ h0, bd2_s, w, if_neg (by decide), if_pos y0, X8_of1 N 5 j hj6 rfl, bd2_s]
      rfl
  by_cases y1 : y = 1
  · refine Sim.read h (pf (g 11 5) j 2) ?_ ?_
    · unfold F_X7_paper
      rw [X4_hasPaper N 0 _ _ g h4, bd2_s, w, if_neg (by decide), ix_nI hj6 (by decide), bd1_s, if_neg y0, if_pos y1, ff 2 (by decide)]
    · unfold F_X8_paper
      rw [X8_isPaper N _ hP _ _ h0, bd2_s, w, if_neg (by decide), if_neg y0, if_pos y1, X8_of2 N 5 j hj6 rfl, bd2_s]
      rfl
  by_cases y2 : y = 2
  · refine Sim.read h (pf (g 11 5) j 3) ?_ ?_
    · unfold F_X7_paper
      rw [X4_hasPaper N 0 _ _ g h4, bd2_s, w, if_neg (by decide), ix_nI hj6 (by decide), bd1_s, if_neg y0, if_neg y1, if_pos y2, ff 3 (by decide)]
    · unfold F_X8_paper
      rw [X8_isPaper N _ hP _ _ h0, bd2_s, w, if_neg (by decide), if_neg y0, if_neg y1, if_pos y2, X8_of3 N 5 j hj6 rfl, bd2_s]
      rfl
  by_cases y3 : y = 3
  · refine Sim.read h (pf (g 11 5) j 4) ?_ ?_
    · unfold F_X7_paper
      rw [X4_hasPaper N 0 _ _ g h4, bd2_s, w, if_neg (by decide), ix_nI hj6 (by decide), bd1_s, if_neg y0, if_neg y1, if_neg y2, if_pos y3, ff 4 (by decide)]
    · unfold F_X8_paper
      rw [X8_isPaper N _ hP _ _ h0, bd2_s, w, if_neg (by decide), if_neg y0, if_neg y1, if_neg y2, if_pos y3, X8_of4 N 5 j hj6 rfl, bd2_s]
      rfl
  by_cases y4 : y = 4
  · refine Sim.read h (pf (g 11 5) j 5) ?_ ?_
    · unfold F_X7_paper
      rw [X4_hasPaper N 0 _ _ g h4, bd2_s, w, if_neg (by decide), ix_nI hj6 (by decide), bd1_s, if_neg y0, if_neg y1, if_neg y2, if_neg y3, if_pos y4, ff 5 (by decide)]
    · unfold F_X8_paper
      rw [X8_isPaper N _ hP _ _ h0, bd2_s, w, if_neg (by decide), if_neg y0, if_neg y1, if_neg y2, if_neg y3, if_pos y4, X8_of5 N 5 j hj6 rfl, bd2_s]
      rfl
  by_cases y5 : y = 5
  · refine Sim.read h (if pf (g 11 5) j 3 = 2 then pf (g 11 5) j 6 else -1000000) ?_ ?_
    · unfold F_X7_paper
      rw [X4_hasPaper N 0 _ _ g h4, bd2_s, w, if_neg (by decide), ix_nI hj6 (by decide), bd1_s, if_neg y0, if_neg y1, if_neg y2, if_neg y3, if_neg y4, if_pos y5, (hk.2.2.2.2.2 j hj).2]
    · unfold F_X8_paper
      rw [X8_isPaper N _ hP _ _ h0, bd2_s, w, if_neg (by decide), if_neg y0, if_neg y1, if_neg y2, if_neg y3, if_neg y4, if_pos y5, X8_cellOf N 5 j hj6 rfl, bd2_s]
      rfl
  by_cases y6 : y = 6
  · refine Sim.read h (b01 (aPol (g 11 5) j)) ?_ ?_
    · unfold F_X7_paper
      rw [X4_hasPaper N 0 _ _ g h4, bd2_s, w, if_neg (by decide), ix_nI hj6 (by decide), bd1_s, if_neg y0, if_neg y1, if_neg y2, if_neg y3, if_neg y4, if_neg y5, if_pos y6, X4_isPolicy N 0 j hj6 g (ff 3 (by decide)) (ff 4 (by decide)) (hk.2.2.2.1 (by omega)).1, bd2_s]
      cases aPol (g 11 5) j <;> rfl
    · unfold F_X8_paper
      rw [X8_isPaper N _ hP _ _ h0, bd2_s, w, if_neg (by decide), if_neg y0, if_neg y1, if_neg y2, if_neg y3, if_neg y4, if_neg y5, if_pos y6, X8_isPolicy' N 5 j hj6 rfl, bd2_s]
      show (if b01 (aPol (g 11 5) j) = 0 then _ else _) = _
      cases aPol (g 11 5) j <;> rfl
  refine Sim.read h (-1000001) ?_ ?_
  · unfold F_X7_paper
    rw [X4_hasPaper N 0 _ _ g h4, bd2_s, w, if_neg (by decide), ix_nI hj6 (by decide), bd1_s, if_neg y0, if_neg y1, if_neg y2, if_neg y3, if_neg y4, if_neg y5, if_neg y6]
  · unfold F_X8_paper
    rw [X8_isPaper N _ hP _ _ h0, bd2_s, w, if_neg (by decide), if_neg y0, if_neg y1, if_neg y2, if_neg y3, if_neg y4, if_neg y5, if_neg y6]

theorem p_kind (N : Nat) (hN : 2000 ≤ N) (x : Int32) (g : GS) (h : Rel g) : Sim (F_X7_kind N x) (F_X8_kind N x) g := by
  obtain ⟨hv, hk⟩ := h.2.2.2.2.1
  have hP := hv.2.1
  have h4 : g 0 0 4 = nI (nP (g 11 5)) := hk.1.trans hv.1
  have h0 : (g3 g 10 0 0 0) 11 5 0 = nI (nP (g 11 5)) := hv.1
  rcases hp_cases x (P := nP (g 11 5)) (by omega) with w | ⟨w, j, hj, rfl⟩
  · exact Sim.read h (-1000001) (by unfold F_X7_kind; rw [X4_hasPaper N 0 _ x g h4, bd2_s, w, if_pos rfl]) (by unfold F_X8_kind; rw [X8_isPaper N _ hP x _ h0, bd2_s, w, if_pos rfl])
  have hj6 : j < 6 := by omega
  refine Sim.read h (pf (g 11 5) j 0) ?_ ?_
  · unfold F_X7_kind
    rw [X4_hasPaper N 0 _ _ g h4, bd2_s, w, if_neg (by decide), ix_nI hj6 (by decide), bd1_s]
    exact congrArg (fun z => some (z, g)) (RK_f (f := 0) hk hj (by decide))
  · unfold F_X8_kind
    rw [X8_isPaper N _ hP _ _ h0, bd2_s, w, if_neg (by decide), X8_of0 N 5 j hj6 rfl, bd2_s]
    rfl

theorem p_force (N : Nat) (hN : 2000 ≤ N) (x : Int32) (g : GS) (h : Rel g) : Sim (F_X7_force N x) (F_X8_force N x) g := by
  obtain ⟨hv, hk⟩ := h.2.2.2.2.1
  have hP := hv.2.1
  have h4 : g 0 0 4 = nI (nP (g 11 5)) := hk.1.trans hv.1
  have h0 : (g3 g 10 0 0 0) 11 5 0 = nI (nP (g 11 5)) := hv.1
  rcases Nat.eq_zero_or_pos (nP (g 11 5)) with hz0 | hz
  · have hz : ¬ 0 < nP (g 11 5) := by omega
    exact Sim.read h (-1000002) (by unfold F_X7_force; rw [X4_isRead N 0 _ hP g h4, bd2_s, decide_eq_false hz, b01_f, if_pos rfl]) (by unfold F_X8_force; rw [X8_isThere N _ hP _ h0, bd2_s, decide_eq_false hz, b01_f, if_pos rfl])
  rcases wi_cases x 0 60 with ⟨w, -⟩ | ⟨w, w1, w2⟩
  · exact Sim.read h (-1000001) (by unfold F_X7_force; rw [X4_isRead N 0 _ hP g h4, bd2_s, decide_eq_true hz, b01_t, if_neg (by decide), X7_within, bd2_s, w, if_pos rfl]) (by unfold F_X8_force; rw [X8_isThere N _ hP _ h0, bd2_s, decide_eq_true hz, b01_t, if_neg (by decide), X8_inL N x 0 60 (by decide) (by decide), bd2_s, w, if_pos rfl])
  obtain ⟨n, hn, rfl⟩ := wi_nI (n := 60) (by decide) w1 w2
  refine Sim.read h (aForce (g 11 5) (nH (g 11 5) + n)) ?_ ?_
  · unfold F_X7_force
    rw [X4_isRead N 0 _ hP g h4, bd2_s, decide_eq_true hz, b01_t, if_neg (by decide), X7_within, bd2_s, w, if_neg (by decide), X4_forceAfter N 0 n g hv hk (by omega) (by decide), bd2_s]
  · unfold F_X8_force
    rw [X8_isThere N _ hP _ h0, bd2_s, decide_eq_true hz, b01_t, if_neg (by decide), X8_inL N _ 0 60 (by decide) (by decide), bd2_s, w, if_neg (by decide), show ix (4 : Int32) 53 = some 4 from by decide, bd1_s]
    have hH := hv.2.2.2.2.2.1
    rw [show (g3 g 10 0 0 0) 11 5 4 = nI (nH (g 11 5)) from hv.2.2.2.2.1, nI_add, X8_forceOf N 5 (nH (g 11 5) + n) rfl (g3 g 10 0 0 0) hv.2.2.1 hv.2.2.2.1 (by omega), bd2_s]
    rfl

theorem p_stand (N : Nat) (hN : 2000 ≤ N) (y : Int32) (g : GS) (h : Rel g) : Sim (F_X7_stand N y) (F_X8_stand N y) g := by
  obtain ⟨hv, hk⟩ := h.2.2.2.2.1
  have hP := hv.2.1
  have h4 : g 0 0 4 = nI (nP (g 11 5)) := hk.1.trans hv.1
  have h0 : (g3 g 10 0 0 0) 11 5 0 = nI (nP (g 11 5)) := hv.1
  rcases Nat.eq_zero_or_pos (nP (g 11 5)) with hz0 | hz
  · have hz : ¬ 0 < nP (g 11 5) := by omega
    exact Sim.read h (-1000002) (by unfold F_X7_stand; rw [X4_isRead N 0 _ hP g h4, bd2_s, decide_eq_false hz, b01_f, if_pos rfl]) (by unfold F_X8_stand; rw [X8_isThere N _ hP _ h0, bd2_s, decide_eq_false hz, b01_f, if_pos rfl])
  by_cases y0 : y = 0
  · refine Sim.read h (bitsF (fun p => decide (pf (g 11 5) p 3 = 1)) (nP (g 11 5))) ?_ ?_
    · unfold F_X7_stand
      rw [X4_isRead N 0 _ hP g h4, bd2_s, decide_eq_true hz, b01_t, if_neg (show ¬ (1 : Int32) = 0 by decide), if_pos y0, X4_bitsOf N 0 hN 1 g hv hk, bd2_s]
    · unfold F_X8_stand
      rw [X8_isThere N _ hP _ h0, bd2_s, decide_eq_true hz, b01_t, if_neg (show ¬ (1 : Int32) = 0 by decide), if_pos y0, X8_those N 5 _ hN 1 rfl hP _ h0, bd2_s]
      rfl
  by_cases y1 : y = 1
  · refine Sim.read h (bitsF (aPol (g 11 5)) (nP (g 11 5))) ?_ ?_
    · unfold F_X7_stand
      rw [X4_isRead N 0 _ hP g h4, bd2_s, decide_eq_true hz, b01_t, if_neg (show ¬ (1 : Int32) = 0 by decide), if_neg y0, if_pos y1, X4_policyBits N 0 hN g hv hk, bd2_s]
    · unfold F_X8_stand
      rw [X8_isThere N _ hP _ h0, bd2_s, decide_eq_true hz, b01_t, if_neg (show ¬ (1 : Int32) = 0 by decide), if_neg y0, if_pos y1, X8_policies N 5 _ hN rfl hP _ h0, bd2_s]
      rfl
  by_cases y2 : y = 2
  · refine Sim.read h (bitsF (fun p => decide (pf (g 11 5) p 3 = 2)) (nP (g 11 5))) ?_ ?_
    · unfold F_X7_stand
      rw [X4_isRead N 0 _ hP g h4, bd2_s, decide_eq_true hz, b01_t, if_neg (show ¬ (1 : Int32) = 0 by decide), if_neg y0, if_neg y1, if_pos y2, X4_bitsOf N 0 hN 2 g hv hk, bd2_s]
    · unfold F_X8_stand
      rw [X8_isThere N _ hP _ h0, bd2_s, decide_eq_true hz, b01_t, if_neg (show ¬ (1 : Int32) = 0 by decide), if_neg y0, if_neg y1, if_pos y2, X8_those N 5 _ hN 2 rfl hP _ h0, bd2_s]
      rfl
  by_cases y3 : y = 3
  · refine Sim.read h (g 11 5 2) ?_ ?_
    · unfold F_X7_stand
      rw [X4_isRead N 0 _ hP g h4, bd2_s, decide_eq_true hz, b01_t, if_neg (show ¬ (1 : Int32) = 0 by decide), if_neg y0, if_neg y1, if_neg y2, if_pos y3, (hk.2.2.2.1 hz).1]
    · unfold F_X8_stand
      rw [X8_isThere N _ hP _ h0, bd2_s, decide_eq_true hz, b01_t, if_neg (show ¬ (1 : Int32) = 0 by decide), if_neg y0, if_neg y1, if_neg y2, if_pos y3, show ix (2 : Int32) 53 = some 2 from by decide, bd1_s]
      rfl
  by_cases y4 : y = 4
  · refine Sim.read h (g 11 5 3) ?_ ?_
    · unfold F_X7_stand
      rw [X4_isRead N 0 _ hP g h4, bd2_s, decide_eq_true hz, b01_t, if_neg (show ¬ (1 : Int32) = 0 by decide), if_neg y0, if_neg y1, if_neg y2, if_neg y3, if_pos y4, (hk.2.2.2.1 hz).2]
    · unfold F_X8_stand
      rw [X8_isThere N _ hP _ h0, bd2_s, decide_eq_true hz, b01_t, if_neg (show ¬ (1 : Int32) = 0 by decide), if_neg y0, if_neg y1, if_neg y2, if_neg y3, if_pos y4, show ix (3 : Int32) 53 = some 3 from by decide, bd1_s]
      rfl
  refine Sim.read h (-1000001) ?_ ?_
  · unfold F_X7_stand
    rw [X4_isRead N 0 _ hP g h4, bd2_s, decide_eq_true hz, b01_t, if_neg (show ¬ (1 : Int32) = 0 by decide), if_neg y0, if_neg y1, if_neg y2, if_neg y3, if_neg y4]
  · unfold F_X8_stand
    rw [X8_isThere N _ hP _ h0, bd2_s, decide_eq_true hz, b01_t, if_neg (show ¬ (1 : Int32) = 0 by decide), if_neg y0, if_neg y1, if_neg y2, if_neg y3, if_neg y4]

theorem p_trace (N : Nat) (x : Int32) (g : GS) (h : Rel g) : Sim (F_X7_trace N x) (F_X8_trace N x) g := by
  obtain ⟨m, hm, e1, e2, e3⟩ := h.2.2.2.2.2.2.2.1
  have e2' : (g 10 0 24) = nI m := e2
  rcases hp_cases x (P := m) (by omega) with w | ⟨w, j, hj, rfl⟩
  · refine Sim.read h (-1000000) ?_ ?_
    · unfold F_X7_trace F_X1_traced
      rw [e1]
      unfold hp at w
      by_cases q : x < 0
      · rw [if_pos q, bd2_s]
      · rw [if_neg q] at w ⊢
        by_cases q2 : nI m ≤ x
        · rw [if_pos q2, bd2_s]
        · rw [if_neg q2] at w
          exact absurd w (by decide)
    · unfold F_X8_trace
      rw [e2', X8_inL N x 0 (nI m - 1) (by decide) rfl, bd2_s, wi_pred x (by omega), w, if_pos rfl]
  · refine Sim.read h (g 8 0 j) ?_ ?_
    · unfold F_X7_trace F_X1_traced
      rw [e1, if_neg (nI_pos (by omega)), if_neg (nI_ge hj (by omega)), if_neg (show ¬ (16 : Int32) ≤ nI j from nI_ge (b := 16) (by omega) (by omega)), ix_nI (by omega) (by decide), bd1_s, bd2_s]
    · unfold F_X8_trace
      rw [e2', X8_inL N _ 0 (nI m - 1) (by decide) rfl, bd2_s, wi_pred _ (by omega), w, if_neg (by decide), ix_nI (by omega) (by decide), bd1_s]
      exact congrArg (fun z => some (z, g3 g 10 0 0 0)) (e3 j hj)

theorem p_ahead (N : Nat) (hN : 2000 ≤ N) (x n y : Int32) (g : GS) (h : Rel g) : Sim (F_X7_ahead N x n y) (F_X8_ahead N x n y) g := by
  obtain ⟨hv, hk⟩ := h.2.2.2.2.1
  have hP := hv.2.1
  have h4 : g 0 0 4 = nI (nP (g 11 5)) := hk.1.trans hv.1
  have h0 : (g3 g 10 0 0 0) 11 5 0 = nI (nP (g 11 5)) := hv.1
  rcases hp_cases x (P := nP (g 11 5)) (by omega) with w | ⟨w, j, hj, rfl⟩
  · exact Sim.read h (-1000001) (by unfold F_X7_ahead; rw [X4_hasPaper N 0 _ x g h4, bd2_s, w, if_pos rfl]) (by unfold F_X8_ahead; rw [X8_isPaper N _ hP x _ h0, bd2_s, w, if_pos rfl])
  rcases wi_cases n 0 60 with ⟨u, -⟩ | ⟨u, u1, u2⟩
  · exact Sim.read h (-1000001) (by unfold F_X7_ahead; rw [X4_hasPaper N 0 _ _ g h4, bd2_s, w, if_neg (by decide), X7_within, bd2_s, u, if_pos rfl]) (by unfold F_X8_ahead; rw [X8_isPaper N _ hP _ _ h0, bd2_s, w, if_neg (by decide), X8_inL N n 0 60 (by decide) (by decide), bd2_s, u, if_pos rfl])
  obtain ⟨m, hm, rfl⟩ := wi_nI (n := 60) (by decide) u1 u2
  rcases wi_cases y 0 2 with ⟨t, -⟩ | ⟨t, t1, t2⟩
  · exact Sim.read h (-1000001) (by unfold F_X7_ahead; rw [X4_hasPaper N 0 _ _ g h4, bd2_s, w, if_neg (by decide), X7_within, bd2_s, u, if_neg (by decide), X7_within, bd2_s, t, if_pos rfl]) (by unfold F_X8_ahead; rw [X8_isPaper N _ hP _ _ h0, bd2_s, w, if_neg (by decide), X8_inL N _ 0 60 (by decide) (by decide), bd2_s, u, if_neg (by decide), X8_inL N y 0 2 (by decide) (by decide), bd2_s, t, if_pos rfl])
  have hj6 : j < 6 := by omega
  obtain ⟨sc, fo, pa, eK, kK⟩ := X2_draftAhead N hN g hv hk (lay_lo (g 11 5) (g 11 7)) m (by omega) (by decide)
  have hu := VA_cong hv (lay_lo (g 11 5) (g 11 7))
  obtain ⟨ris, eM⟩ := X8_hoursOf N hN (g3 (D1 g sc fo pa) 10 0 0 0) (g 11 8) (lay (g 11 5) (g 11 7)) hu m (by omega) (by decide)
  obtain ⟨hV, hVP, -, -⟩ := VA_hrs hu m (by omega)
  have eP : nP (lay (g 11 5) (g 11 7)) = nP (g 11 5) := nP_eq (lay_lo _ _ 0 (by decide))
  have hjV : j < nP (aHrs (lay (g 11 5) (g 11 7)) m) := by rw [hVP, eP]; exact hj
  have eL : F_X8_layThen N (g3 (D1 g sc fo pa) 10 0 0 0) = some (T7 (g3 (D1 g sc fo pa) 10 0 0 0) (g 11 8) (lay (g 11 5) (g 11 7))) := X8_layThen N hN _
  have KK : F_X7_ahead N (nI j) (nI m) y g = (if y = 0 then some (pa (7 * j + 4), D1 g sc fo pa) else if y = 1 then some (pa (7 * j + 5), D1 g sc fo pa) else some (pa (7 * j + 6), D1 g sc fo pa)) := by
    unfold F_X7_ahead
    rw [X4_hasPaper N 0 _ _ g h4, bd2_s, w, if_neg (by decide), X7_within, bd2_s, u, if_neg (by decide), X7_within, bd2_s, t, if_neg (by decide), eK, bd1_s, ix_nI hj6 (by decide), bd1_s]
    rfl
  have MM : F_X8_ahead N (nI j) (nI m) y (D1 g sc fo pa) = (if y = 0 then some (pf (aHrs (lay (g 11 5) (g 11 7)) m) j 4, T7 (g3 (D1 g sc fo pa) 10 0 0 0) ris (aHrs (lay (g 11 5) (g 11 7)) m)) else if y = 1 then some (pf (aHrs (lay (g 11 5) (g 11 7)) m) j 5, T7 (g3 (D1 g sc fo pa) 10 0 0 0) ris (aHrs (lay (g 11 5) (g 11 7)) m)) else some (if pf (aHrs (lay (g 11 5) (g 11 7)) m) j 3 = 2 then pf (aHrs (lay (g 11 5) (g 11 7)) m) j 6 else -1000000, T7 (g3 (D1 g sc fo pa) 10 0 0 0) ris (aHrs (lay (g 11 5) (g 11 7)) m))) := by
    unfold F_X8_ahead
    rw [X8_isPaper N (nP (g 11 5)) hP _ (g3 (D1 g sc fo pa) 10 0 0 0) hv.1, bd2_s, w, if_neg (by decide), X8_inL N _ 0 60 (by decide) (by decide), bd2_s, u, if_neg (by decide), X8_inL N y 0 2 (by decide) (by decide), bd2_s, t, if_neg (by decide), eL, bd1_s, eM, bd1_s, X8_of4 N 7 j hj6 rfl, X8_of5 N 7 j hj6 rfl, X8_cellOf N 7 j hj6 rfl, bd2_s, bd2_s, bd2_s]
    rfl
  by_cases y0 : y = 0
  · exact Sim.draft h (pf (aHrs (lay (g 11 5) (g 11 7)) m) j 4) sc fo pa ris _ (by rw [KK, if_pos y0, RK_f kK hjV (by decide)]) (by rw [MM, if_pos y0])
  by_cases y1 : y = 1
  · exact Sim.draft h (pf (aHrs (lay (g 11 5) (g 11 7)) m) j 5) sc fo pa ris _ (by rw [KK, if_neg y0, if_pos y1, RK_f kK hjV (by decide)]) (by rw [MM, if_neg y0, if_pos y1])
  · exact Sim.draft h _ sc fo pa ris _ (by rw [KK, if_neg y0, if_neg y1, (kK.2.2.2.2.2 j hjV).2]) (by rw [MM, if_neg y0, if_neg y1])

theorem p_policy (N : Nat) (hN : 2000 ≤ N) (n : Int32) (g : GS) (h : Rel g) : Sim (F_X7_policy N n) (F_X8_policy N n) g := by
  obtain ⟨hv, hk⟩ := h.2.2.2.2.1
  have hP := hv.2.1
  have h4 : g 0 0 4 = nI (nP (g 11 5)) := hk.1.trans hv.1
  have h0 : (g3 g 10 0 0 0) 11 5 0 = nI (nP (g 11 5)) := hv.1
  rcases Nat.eq_zero_or_pos (nP (g 11 5)) with hz0 | hz
  · have hz : ¬ 0 < nP (g 11 5) := by omega
    exact Sim.read h (-1000002) (by unfold F_X7_policy; rw [X4_isRead N 0 _ hP g h4, bd2_s, decide_eq_false hz, b01_f, if_pos rfl]) (by unfold F_X8_policy; rw [X8_isThere N _ hP _ h0, bd2_s, decide_eq_false hz, b01_f, if_pos rfl])
  rcases wi_cases n 0 60 with ⟨w, -⟩ | ⟨w, w1, w2⟩
  · exact Sim.read h (-1000001) (by unfold F_X7_policy; rw [X4_isRead N 0 _ hP g h4, bd2_s, decide_eq_true hz, b01_t, if_neg (by decide), X7_within, bd2_s, w, if_pos rfl]) (by unfold F_X8_policy; rw [X8_isThere N _ hP _ h0, bd2_s, decide_eq_true hz, b01_t, if_neg (by decide), X8_inL N n 0 60 (by decide) (by decide), bd2_s, w, if_pos rfl])
  obtain ⟨m, hm, rfl⟩ := wi_nI (n := 60) (by decide) w1 w2
  obtain ⟨sc, fo, pa, eK, kK⟩ := X2_draftAhead N hN g hv hk (lay_lo (g 11 5) (g 11 7)) m (by omega) (by decide)
  have hu := VA_cong hv (lay_lo (g 11 5) (g 11 7))
  obtain ⟨ris, eM⟩ := X8_hoursOf N hN (g3 (D1 g sc fo pa) 10 0 0 0) (g 11 8) (lay (g 11 5) (g 11 7)) hu m (by omega) (by decide)
  obtain ⟨hV, hVP, -, -⟩ := VA_hrs hu m (by omega)
  have eL : F_X8_layThen N (g3 (D1 g sc fo pa) 10 0 0 0) = some (T7 (g3 (D1 g sc fo pa) 10 0 0 0) (g 11 8) (lay (g 11 5) (g 11 7))) := X8_layThen N hN _
  refine Sim.draft h (bitsF (aPol (aHrs (lay (g 11 5) (g 11 7)) m)) (nP (aHrs (lay (g 11 5) (g 11 7)) m))) sc fo pa ris (aHrs (lay (g 11 5) (g 11 7)) m) ?_ ?_
  · unfold F_X7_policy
    rw [X4_isRead N 0 _ hP g h4, bd2_s, decide_eq_true hz, b01_t, if_neg (by decide), X7_within, bd2_s, w, if_neg (by decide), eK, bd1_s, X4_policyBits N 1 hN (D1 g sc fo pa) hV kK, bd2_s]
  · unfold F_X8_policy
    rw [X8_isThere N (nP (g 11 5)) hP (g3 (D1 g sc fo pa) 10 0 0 0) hv.1, bd2_s, decide_eq_true hz, b01_t, if_neg (by decide), X8_inL N _ 0 60 (by decide) (by decide), bd2_s, w, if_neg (by decide), eL, bd1_s, eM, bd1_s, X8_policies N 7 (nP (aHrs (lay (g 11 5) (g 11 7)) m)) hN rfl hV.2.1 (T7 (g3 (D1 g sc fo pa) 10 0 0 0) ris (aHrs (lay (g 11 5) (g 11 7)) m)) hV.1, bd2_s]
    rfl

