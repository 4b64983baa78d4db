/-! ===== undone, images ===== -/
theorem L_undo27 (N m : Nat) (hm : m < 24) : ∀ (n i : Nat) (g : GS), g 10 0 10 = nI m → i ≤ 53 → 53 < i + n → L_X8_undo_27 N n (nI i) g = some (nI 53, g2 g 11 5 (fun k => if i ≤ k ∧ k < 53 then g 11 9 (53 * m + k) else g 11 5 k)) := by
  intro n
  induction n with
  | zero => intro i g h0 h1 h2; omega
  | succ n ih =>
    intro i g h0 h1 h2
    rw [L_X8_undo_27]
    by_cases h : i = 53
    · subst h
      rw [if_pos (show (53 : Int32) ≤ nI 53 by decide)]
      congr 2
      rw [show (fun k => if 53 ≤ k ∧ k < 53 then g 11 9 (53 * m + k) else g 11 5 k) = g 11 5 from funext fun k => if_neg (by omega), g2_self]
    · rw [if_neg (show ¬ (53 : Int32) ≤ nI i from nI_ge (b := 53) (by omega) (by omega)), h0, show (53 : Int32) = nI 53 from rfl, pk_mul, nI_add, ix_nI (by omega) (by omega), bd1_s, ix_nI (by omega) (by omega), bd1_s, nI_1, ih (i + 1) (g3 g 11 5 i (g 11 9 (53 * m + i))) h0 (by omega) (by omega)]
      congr 2
      rw [g3_g2, g2_g2, g2_same, g2_row _ _ _ (show 9 ≠ 5 by decide)]
      congr 1
      funext k
      unfold va_up
      by_cases q : k = i
      · subst q; rw [if_neg (by omega), if_pos rfl, if_pos (by omega)]
      · by_cases q2 : i ≤ k ∧ k < 53
        · rw [if_pos (by omega), if_pos q2]
        · rw [if_neg (by omega), if_neg q, if_neg q2]
theorem lay_eq {u w old : Nat → Int32} (h : ∀ k, k < 53 → w k = u k) : (fun k => if 0 ≤ k ∧ k < 53 then w k else old k) = lay u old := by
  funext k
  unfold lay
  by_cases q : k < 53
  · rw [if_pos ⟨Nat.zero_le k, q⟩, if_pos q, h k q]
  · rw [if_neg (fun z => q z.2), if_neg q]
theorem p_undo (N : Nat) (hN : 2000 ≤ N) (g : GS) (h : Rel g) : Sim (F_X7_undo N) (F_X8_undo N) g := by
  obtain ⟨hv, hk⟩ := h.2.2.2.2.1
  obtain ⟨l, hKA, hMA, hVl⟩ := h.2.2.2.2.2.1
  obtain ⟨n, hn, a0, a1, hll, hR⟩ := hKA
  obtain ⟨m0, hm⟩ := hMA
  rcases Nat.eq_zero_or_pos l.length with hz | hz
  · exact Sim.read h (-1000002) (by unfold F_X7_undo; rw [a1, hz, if_pos (by decide)]) (by unfold F_X8_undo; rw [m0, hz, if_pos (by decide)])
  · have hlt : l.length - 1 < l.length := by omega
    have hu : l[l.length - 1]? = some l[l.length - 1] := List.getElem?_eq_getElem hlt
    generalize hue : l[l.length - 1] = u at hu
    have hVu := hVl u (List.mem_of_getElem? hu)
    have hRu := hR _ u hu
    have hmu := hm _ u hu
    have es : (n + 24 - l.length + (l.length - 1)) % 24 = (n + 23) % 24 := by omega
    rw [es] at hRu
    have hl1 : (l.take (l.length - 1)).length = l.length - 1 := by simp
    have hne : ¬ (nI l.length = 0) := nI_ne0 hz (by omega)
    have hV : VA 999 (lay u (g 11 5)) := VA_cong hVu.1 (lay_lo _ _)
    refine Sim.act h (nI (l.length - 1)) (lay u (g 11 5)) (l.take (l.length - 1)) hV (by rw [nP_eq (lay_lo u _ 0 (by decide))]; exact hVu.2) (fun w hw => hVl w (List.mem_of_mem_take hw)) ?_ ?_
    · have e1 : (nI n + 24 - 1) - (nI n + 24 - 1) / 24 * 24 = nI ((n + 23) % 24) := by
        rw [show (24 : Int32) = nI 24 from rfl, nI_add, show (1 : Int32) = nI 1 from rfl, pk_sub (by omega), pk_rem (by omega) (by decide) (by decide), show n + 24 - 1 = n + 23 by omega]
      have e2 : (if nI l.length - 1 < 0 then (0 : Int32) else nI l.length - 1) = nI (l.length - 1) := by
        rw [show (1 : Int32) = nI 1 from rfl, pk_sub (by omega), if_neg (nI_pos (by omega))]
      have hg : ∀ a : Nat → Int32, RK ((g2 g 6 0 a) 0 (2 + (n + 23) % 24)) ((g2 g 6 0 a) 12 (2 + (n + 23) % 24)) ((g2 g 6 0 a) 13 (2 + (n + 23) % 24)) u := fun a => hRu
      obtain ⟨sc, fo, pa, e, kr⟩ := X4_become N 0 (2 + (n + 23) % 24) hN (by omega) (g2 g 6 0 (va_up (va_up (g 6 0) 0 (nI ((n + 23) % 24))) 1 (nI (l.length - 1)))) hVu.1 (hg _)
      refine ⟨g2 (g2 (g2 (g2 g 6 0 (va_up (va_up (g 6 0) 0 (nI ((n + 23) % 24))) 1 (nI (l.length - 1)))) 0 0 sc) 12 0 fo) 13 0 pa, ?_, (((KF.ac g 0 _).tr (KF.ro _ (Or.inl rfl) (by decide) sc)).tr (KF.ro _ (Or.inr (Or.inl rfl)) (by decide) fo)).tr (KF.ro _ (Or.inr (Or.inr rfl)) (by decide) pa), RK_cong kr hVu.1.2.1 hVu.1.2.2.2.1 (lay_lo _ _), ?_⟩
      · unfold F_X7_undo F_X0_takeBack
        rw [a1, if_neg hne, a0, e1, ix_nI (by omega) (by decide), bd1_s, e2, g3_g2, g3_g2, g2_same, g2_g2, e, bd1_s, bd1_s]
        rfl
      · refine ⟨(n + 23) % 24, by omega, rfl, by rw [hl1]; rfl, by omega, fun i w hi => ?_⟩
        have hi2 : i < l.length - 1 := by have := (List.getElem?_eq_some_iff.mp hi).1; omega
        rw [List.getElem?_take, if_pos hi2] at hi
        have := hR i w hi
        rw [hl1, show ((n + 23) % 24 + 24 - (l.length - 1) + i) % 24 = (n + 24 - l.length + i) % 24 by omega]
        show RK (va_up (g 0) 0 sc _) (va_up (g 12) 0 fo _) (va_up (g 13) 0 pa _) w
        rw [up_ne _ _ (by omega), up_ne _ _ (by omega), up_ne _ _ (by omega)]
        exact this
    · intro k e11 e10
      have b := L_undo27 N (l.length - 1) (by omega) N 0 (g3 (g3 k 10 0 0 0) 10 0 10 (nI (l.length - 1))) rfl (by omega) (by omega)
      rw [nI_0] at b
      have ew : ∀ i, i < 53 → (g3 (g3 k 10 0 0 0) 10 0 10 (nI (l.length - 1))) 11 9 (53 * (l.length - 1) + i) = u i := fun i hi => by
        show k 11 9 _ = _
        rw [e11]; exact hmu i hi
      rw [lay_eq ew] at b
      refine ⟨_, ?_, ((MF.sc k (Or.inl rfl) 0).tr (MF.sc _ (Or.inr rfl) (nI (l.length - 1)))).tr (MF.ar _ (Or.inl rfl) (lay u ((g3 (g3 k 10 0 0 0) 10 0 10 (nI (l.length - 1))) 11 5))), ?_, ?_, fun i w hi => ?_⟩
      · unfold F_X8_undo
        have ea : k 10 0 10 = nI l.length := by rw [e10]; exact m0
        rw [ea, if_neg hne, show nI l.length - 1 = nI (l.length - 1) by rw [show (1 : Int32) = nI 1 from rfl, pk_sub (by omega)], b, bd2_s]
        rfl
      · rw [g2_same]
        show lay u (k 11 5) = _
        rw [e11]
      · rw [hl1]; rfl
      · have hi2 : i < l.length - 1 := by have := (List.getElem?_eq_some_iff.mp hi).1; omega
        rw [List.getElem?_take, if_pos hi2] at hi
        show ∀ x, x < 53 → k 11 9 (53 * i + x) = w x
        rw [e11]
        exact hm i w hi
theorem L_restore32 (N m : Nat) (hm : m < 2) : ∀ (n i : Nat) (g : GS), i ≤ 53 → 53 < i + n → L_X8_restore_32 N (nI m) n (nI i) g = some (nI 53, g2 g 11 5 (fun k => if i ≤ k ∧ k < 53 then g 11 22 (53 * m + k) else g 11 5 k)) := by
  intro n
  induction n with
  | zero => intro i g h1 h2; omega
  | succ n ih =>
    intro i g h1 h2
    rw [L_X8_restore_32]
    by_cases h : i = 53
    · subst h
      rw [if_pos (show (53 : Int32) ≤ nI 53 by decide)]
      congr 2
      rw [show (fun k => if 53 ≤ k ∧ k < 53 then g 11 22 (53 * m + k) else g 11 5 k) = g 11 5 from funext fun k => if_neg (by omega), g2_self]
    · rw [if_neg (show ¬ (53 : Int32) ≤ nI i from nI_ge (b := 53) (by omega) (by omega)), show (53 : Int32) = nI 53 from rfl, pk_mul, nI_add, ix_nI (by omega) (by omega), bd1_s, ix_nI (by omega) (by omega), bd1_s, nI_1, ih (i + 1) _ (by omega) (by omega)]
      congr 2
      rw [g3_g2, g2_g2, g2_same, g2_row _ _ _ (show 22 ≠ 5 by decide)]
      congr 1
      funext k
      unfold va_up
      by_cases q : k = i
      · subst q; rw [if_neg (by omega), if_pos rfl, if_pos (by omega)]
      · by_cases q2 : i ≤ k ∧ k < 53
        · rw [if_pos (by omega), if_pos q2]
        · rw [if_neg (by omega), if_neg q, if_neg q2]
theorem p_restore (N : Nat) (hN : 2000 ≤ N) (x : Int32) (g : GS) (h : Rel g) : Sim (F_X7_restore N x) (F_X8_restore N x) g := by
  rcases wi_cases x 0 1 with ⟨w, -⟩ | ⟨w, w1, w2⟩
  · exact Sim.read h (-1000001) (by unfold F_X7_restore; rw [X7_within, bd2_s, w, if_pos rfl]) (by unfold F_X8_restore; rw [X8_inL N x 0 1 (by decide) (by decide), bd2_s, w, if_pos rfl])
  obtain ⟨j, hj, rfl⟩ := wi_nI (n := 1) (by decide) w1 w2
  have hj2 : j < 2 := by omega
  rcases h.2.2.2.2.2.2.1 j hj2 with ⟨i0, p0⟩ | ⟨i1, hp, hV, hR⟩
  · exact Sim.read h (-1000002) (by unfold F_X7_restore; rw [X7_within, bd2_s, w, if_neg (by decide), ix_nI hj2 (by decide), bd1_s, X4_isRead N (26 + j) 0 (by omega) g p0, bd2_s]; rfl) (by unfold F_X8_restore; rw [X8_inL N _ 0 1 (by decide) (by decide), bd2_s, w, if_neg (by decide), ix_nI hj2 (by decide), bd1_s, if_pos (show (g3 g 10 0 0 0) 11 21 j = 0 from i0)])
  · generalize hu : (fun k => g 11 22 (53 * j + k)) = u at hp hV hR
    have hP := hV.2.1
    have hVL : VA 999 (lay u (g 11 5)) := VA_cong hV (lay_lo _ _)
    obtain ⟨n, hn, a0, -, -, -⟩ := h.2.2.2.2.2.1.choose_spec.1
    refine Sim.act h 1 (lay u (g 11 5)) [] hVL (by rw [nP_eq (lay_lo u _ 0 (by decide))]; exact hp) (fun u hu => by cases hu) ?_ ?_
    · obtain ⟨sc, fo, pa, e, kr⟩ := X4_become N 0 (26 + j) hN (by omega) g hV hR
      refine ⟨g3 (g2 (g2 (g2 g 0 0 sc) 12 0 fo) 13 0 pa) 6 0 1 0, ?_, (((KF.ro g (Or.inl rfl) (by decide) sc).tr (KF.ro _ (Or.inr (Or.inl rfl)) (by decide) fo)).tr (KF.ro _ (Or.inr (Or.inr rfl)) (by decide) pa)).tr (KF.ac _ 0 _), RK_cong kr hV.2.1 hV.2.2.2.1 (lay_lo _ _), n, hn, a0, rfl, by decide, fun i v hi => by simp at hi⟩
      unfold F_X7_restore F_X0_forget
      rw [X7_within, bd2_s, w, if_neg (by decide), ix_nI hj2 (by decide), bd1_s, X4_isRead N (26 + j) (nP u) hP g (hR.1.trans hV.1), bd2_s, decide_eq_true hp, b01_t, if_neg (by decide), e, bd1_s, bd1_s]
    · intro k e11 e10
      have b := L_restore32 N j hj2 N 0 (g3 k 10 0 0 0) (by omega) (by omega)
      rw [nI_0] at b
      have ew : ∀ i, i < 53 → (g3 k 10 0 0 0) 11 22 (53 * j + i) = u i := fun i _ => by
        show k 11 22 _ = _
        rw [e11, ← hu]
      rw [lay_eq ew] at b
      refine ⟨g3 (g2 (g3 k 10 0 0 0) 11 5 (lay u ((g3 k 10 0 0 0) 11 5))) 10 0 10 0, ?_, ((MF.sc k (Or.inl rfl) 0).tr (MF.ar _ (Or.inl rfl) _)).tr (MF.sc _ (Or.inr rfl) 0), ?_, rfl, fun i v hi => by simp at hi⟩
      · unfold F_X8_restore
        rw [X8_inL N _ 0 1 (by decide) (by decide), bd2_s, w, if_neg (by decide), ix_nI hj2 (by decide), bd1_s, if_neg (show ¬ (g3 k 10 0 0 0) 11 21 j = 0 by show ¬ k 11 21 j = 0; rw [e11, i1]; decide), b, bd2_s]
      · show lay u (k 11 5) = _
        rw [e11]
theorem L_image30 (N m : Nat) (hm : m < 2) : ∀ (n i : Nat) (g : GS), i ≤ 53 → 53 < i + n → L_X8_image_30 N (nI m) n (nI i) g = some (nI 53, g2 g 11 22 (fun k => if 53 * m + i ≤ k ∧ k < 53 * m + 53 then g 11 5 (k - 53 * m) else g 11 22 k)) := by
  intro n
  induction n with
  | zero => intro i g h1 h2; omega
  | succ n ih =>
    intro i g h1 h2
    rw [L_X8_image_30]
    by_cases h : i = 53
    · subst h
      rw [if_pos (show (53 : Int32) ≤ nI 53 by decide)]
      congr 2
      rw [show (fun k => if 53 * m + 53 ≤ k ∧ k < 53 * m + 53 then g 11 5 (k - 53 * m) else g 11 22 k) = g 11 22 from funext fun k => if_neg (by omega), g2_self]
    · rw [if_neg (show ¬ (53 : Int32) ≤ nI i from nI_ge (b := 53) (by omega) (by omega)), ix_nI (by omega) (by omega), bd1_s, show (53 : Int32) = nI 53 from rfl, pk_mul, nI_add, ix_nI (by omega) (by omega), bd1_s, nI_1, ih (i + 1) _ (by omega) (by omega)]
      congr 2
      rw [g3_g2, g2_g2, g2_same, g2_row _ _ _ (show 5 ≠ 22 by decide)]
      congr 1
      funext k
      unfold va_up
      by_cases q : k = 53 * m + i
      · subst q; rw [if_neg (by omega), if_pos rfl, if_pos (by omega), show 53 * m + i - 53 * m = i by omega]
      · by_cases q2 : 53 * m + i ≤ k ∧ k < 53 * m + 53
        · rw [if_pos (by omega), if_pos q2]
        · rw [if_neg (by omega), if_neg q, if_neg q2]
theorem p_image (N : Nat) (hN : 2000 ≤ N) (x : Int32) (g : GS) (h : Rel g) : Sim (F_X7_image N x) (F_X8_image N x) g := by
  obtain ⟨hv, hk⟩ := h.2.2.2.2.1
  have hP := hv.2.1
  have h4 : g 0 0 4 = nI (nP (g 11 5)) := hk.1.trans hv.1
  have h0 : (g3 g 10 0 0 0) 11 5 0 = nI (nP (g 11 5)) := hv.1
  rcases wi_cases x 0 1 with ⟨w, -⟩ | ⟨w, w1, w2⟩
  · exact Sim.read h (-1000001) (by unfold F_X7_image; rw [X7_within, bd2_s, w, if_pos rfl]) (by unfold F_X8_image; rw [X8_inL N x 0 1 (by decide) (by decide), bd2_s, w, if_pos rfl])
  obtain ⟨j, hj, rfl⟩ := wi_nI (n := 1) (by decide) w1 w2
  have hj2 : j < 2 := by omega
  rcases Nat.eq_zero_or_pos (nP (g 11 5)) with hz0 | hz
  · have hz : ¬ 0 < nP (g 11 5) := by omega
    exact Sim.read h (-1000002) (by unfold F_X7_image; rw [X7_within, bd2_s, w, if_neg (by decide), X4_isRead N 0 _ hP g h4, bd2_s, decide_eq_false hz, b01_f, if_pos rfl]) (by unfold F_X8_image; rw [X8_inL N _ 0 1 (by decide) (by decide), bd2_s, w, if_neg (by decide), X8_isThere N _ hP _ h0, bd2_s, decide_eq_false hz, b01_f, if_pos rfl])
  obtain ⟨sc, fo, pa, e, kr⟩ := X4_become N (26 + j) 0 hN (by omega) g hv hk
  have b := L_image30 N j hj2 N 0 (g3 (g2 (g2 (g2 g 0 (26 + j) sc) 12 (26 + j) fo) 13 (26 + j) pa) 10 0 0 0) (by omega) (by omega)
  rw [nI_0] at b
  refine Sim.of 1 (g2 (g2 (g2 g 0 (26 + j) sc) 12 (26 + j) fo) 13 (26 + j) pa) _ ?_ (by unfold F_X8_image; rw [X8_inL N _ 0 1 (by decide) (by decide), bd2_s, w, if_neg (by decide), X8_isThere N (nP (g 11 5)) hP (g3 (g2 (g2 (g2 g 0 (26 + j) sc) 12 (26 + j) fo) 13 (26 + j) pa) 10 0 0 0) hv.1, bd2_s, decide_eq_true hz, b01_t, if_neg (by decide), b, bd2_s, ix_nI hj2 (by decide), bd1_s]) ?_
  · unfold F_X7_image
    rw [X7_within, bd2_s, w, if_neg (by decide), X4_isRead N 0 _ hP g h4, bd2_s, decide_eq_true hz, b01_t, if_neg (by decide), ix_nI hj2 (by decide), bd1_s, e, bd1_s]
  · obtain ⟨a, c, d, f, -, hA, hI, hC, hY⟩ := h
    have k0 : ∀ i, i ≠ 26 + j → va_up (g 0) (26 + j) sc i = g 0 i := fun i hi => up_ne _ _ hi
    have k12 : ∀ i, i ≠ 26 + j → va_up (g 12) (26 + j) fo i = g 12 i := fun i hi => up_ne _ _ hi
    have k13 : ∀ i, i ≠ 26 + j → va_up (g 13) (26 + j) pa i = g 13 i := fun i hi => up_ne _ _ hi
    refine ⟨a, c, d, f, ?_, ?_, ?_, hC, hY⟩
    · show RV 999 (va_up (g 0) (26 + j) sc 0) (va_up (g 12) (26 + j) fo 0) (va_up (g 13) (26 + j) pa 0) (g 11 5)
      rw [k0 0 (by omega), k12 0 (by omega), k13 0 (by omega)]
      exact ⟨hv, hk⟩
    · obtain ⟨l, ⟨n, h1, h2, h3, h4, h5⟩, hM, hV⟩ := hA
      refine ⟨l, ⟨n, h1, h2, h3, h4, fun i v hi => ?_⟩, hM, hV⟩
      show RK (va_up (g 0) (26 + j) sc _) (va_up (g 12) (26 + j) fo _) (va_up (g 13) (26 + j) pa _) v
      rw [k0 _ (by omega), k12 _ (by omega), k13 _ (by omega)]
      exact h5 i v hi
    · intro i hi
      show ((va_up (g 11 21) j 1) i = 0 ∧ va_up (g 0) (26 + j) sc (26 + i) 4 = 0) ∨ ((va_up (g 11 21) j 1) i = 1 ∧ _ ∧ RV 999 (va_up (g 0) (26 + j) sc (26 + i)) (va_up (g 12) (26 + j) fo (26 + i)) (va_up (g 13) (26 + j) pa (26 + i)) (fun k => if 53 * j + 0 ≤ 53 * i + k ∧ 53 * i + k < 53 * j + 53 then g 11 5 (53 * i + k - 53 * j) else g 11 22 (53 * i + k)))
      by_cases q : i = j
      · subst q
        rw [up_same, up_same, up_same, up_same]
        have eq : ∀ k, k < 53 → (fun k => if 53 * i + 0 ≤ 53 * i + k ∧ 53 * i + k < 53 * i + 53 then g 11 5 (53 * i + k - 53 * i) else g 11 22 (53 * i + k)) k = g 11 5 k := fun k hk => by
          dsimp only
          rw [if_pos (by omega), show 53 * i + k - 53 * i = k by omega]
        refine Or.inr ⟨rfl, ?_, VA_cong hv eq, RK_cong kr hv.2.1 hv.2.2.2.1 eq⟩
        show 0 < nP (fun k => if 53 * i + 0 ≤ 53 * i + k ∧ 53 * i + k < 53 * i + 53 then g 11 5 (53 * i + k - 53 * i) else g 11 22 (53 * i + k))
        rw [nP_eq (eq 0 (by decide))]
        exact hz
      · rw [up_ne _ _ q, k0 _ (by omega), k12 _ (by omega), k13 _ (by omega)]
        have eq : (fun k => if 53 * j + 0 ≤ 53 * i + k ∧ 53 * i + k < 53 * j + 53 then g 11 5 (53 * i + k - 53 * j) else g 11 22 (53 * i + k)) = fun k => if k < 53 then g 11 22 (53 * i + k) else (if 53 * j + 0 ≤ 53 * i + k ∧ 53 * i + k < 53 * j + 53 then g 11 5 (53 * i + k - 53 * j) else g 11 22 (53 * i + k)) := by
          funext k
          by_cases z : k < 53
          · rw [if_pos z, if_neg (by omega)]
          · rw [if_neg z]
        have e53 : ∀ k, k < 53 → (fun k => if 53 * j + 0 ≤ 53 * i + k ∧ 53 * i + k < 53 * j + 53 then g 11 5 (53 * i + k - 53 * j) else g 11 22 (53 * i + k)) k = g 11 22 (53 * i + k) := fun k hk => by
          dsimp only
          rw [if_neg (by omega)]
        rcases hI i hi with z | ⟨z1, z2, z3, z4⟩
        · exact Or.inl z
        · refine Or.inr ⟨z1, ?_, VA_cong z3 e53, RK_cong z4 z3.2.1 z3.2.2.2.1 e53⟩
          show 0 < nP (fun k => if 53 * j + 0 ≤ 53 * i + k ∧ 53 * i + k < 53 * j + 53 then g 11 5 (53 * i + k - 53 * j) else g 11 22 (53 * i + k))
          rw [nP_eq (v := fun k => g 11 22 (53 * i + k)) (e53 0 (by decide))]
          exact z2
