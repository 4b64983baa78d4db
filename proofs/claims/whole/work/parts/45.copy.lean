/-! ===== copy ===== -/
theorem bg_s {C : Type} {b : Bool} (h : b = true) (x : Option C) : bg b x = x := by rw [h]; rfl
def cpA (f : Nat → Int32) (S T a n : Nat) : Nat → Int32 := fun k => if T + a ≤ k ∧ k < T + n then f (S + (k - T)) else f k
theorem L_cpDown (N : Nat) (g : GS) (a s c d m : Nat) (hS : 40 * a + s + m ≤ 320) (hT : 40 * c + d + m ≤ 320) (hd : 40 * a + s < 40 * c + d ∨ 40 * c + d + m ≤ 40 * a + s) : ∀ (n i : Nat), i ≤ m → m < i + n → L_X8_copy_143 N (nI a) (nI s) (nI c) (nI d) (nI m) 0 n (nI i) (g2 g 11 4 (cpA (g 11 4) (40 * a + s) (40 * c + d) (m - i) m)) = some (nI m, g2 g 11 4 (cpA (g 11 4) (40 * a + s) (40 * c + d) 0 m)) := by
  intro n
  induction n with
  | zero => intro i h1 h2; omega
  | succ n ih =>
    intro i h1 h2
    rw [L_X8_copy_143]
    by_cases h : i = m
    · subst h
      rw [if_pos (nI_le (Nat.le_refl i) (by omega)), Nat.sub_self]
    · have e1 : (((40 : Int32) * nI a) + nI s) + ((nI m - (1 : Int32)) - nI i) = nI (40 * a + s + (m - 1 - i)) := by
        rw [show (40 : Int32) = nI 40 from rfl, show (1 : Int32) = nI 1 from rfl, pk_mul, nI_add, pk_sub (by omega), pk_sub (by omega), nI_add]
      have e2 : (((40 : Int32) * nI c) + nI d) + ((nI m - (1 : Int32)) - nI i) = nI (40 * c + d + (m - 1 - i)) := by
        rw [show (40 : Int32) = nI 40 from rfl, show (1 : Int32) = nI 1 from rfl, pk_mul, nI_add, pk_sub (by omega), pk_sub (by omega), nI_add]
      rw [if_neg (nI_ge (by omega) (by omega)), if_pos rfl, e1, e2, ix_nI (by omega) (by decide), bd1_s, ix_nI (by omega) (by decide), bd1_s, nI_1, g3_11, g2_same]
      have e3 : va_up (cpA (g 11 4) (40 * a + s) (40 * c + d) (m - i) m) (40 * c + d + (m - 1 - i)) (cpA (g 11 4) (40 * a + s) (40 * c + d) (m - i) m (40 * a + s + (m - 1 - i))) = cpA (g 11 4) (40 * a + s) (40 * c + d) (m - (i + 1)) m := by
        funext k
        unfold va_up cpA
        by_cases q : k = 40 * c + d + (m - 1 - i)
        · rw [if_pos q, if_neg (by omega), if_pos (by omega)]
          congr 1
          omega
        · rw [if_neg q]
          by_cases q2 : 40 * c + d + (m - i) ≤ k ∧ k < 40 * c + d + m
          · rw [if_pos q2, if_pos (by omega)]
          · rw [if_neg q2, if_neg (by omega)]
      rw [e3]
      exact ih (i + 1) (by omega) (by omega)
def cpB (f : Nat → Int32) (S T i : Nat) : Nat → Int32 := fun k => if T ≤ k ∧ k < T + i then f (S + (k - T)) else f k
theorem L_cpUp (N : Nat) (g : GS) (a s c d m : Nat) (hS : 40 * a + s + m ≤ 320) (hT : 40 * c + d + m ≤ 320) (hd : 40 * c + d ≤ 40 * a + s ∨ 40 * a + s + m ≤ 40 * c + d) : ∀ (n i : Nat), i ≤ m → m < i + n → L_X8_copy_143 N (nI a) (nI s) (nI c) (nI d) (nI m) 1 n (nI i) (g2 g 11 4 (cpB (g 11 4) (40 * a + s) (40 * c + d) i)) = some (nI m, g2 g 11 4 (cpB (g 11 4) (40 * a + s) (40 * c + d) m)) := by
  intro n
  induction n with
  | zero => intro i h1 h2; omega
  | succ n ih =>
    intro i h1 h2
    rw [L_X8_copy_143]
    by_cases h : i = m
    · subst h
      rw [if_pos (nI_le (Nat.le_refl i) (by omega))]
    · have e1 : (((40 : Int32) * nI a) + nI s) + nI i = nI (40 * a + s + i) := by
        rw [show (40 : Int32) = nI 40 from rfl, pk_mul, nI_add, nI_add]
      have e2 : (((40 : Int32) * nI c) + nI d) + nI i = nI (40 * c + d + i) := by
        rw [show (40 : Int32) = nI 40 from rfl, pk_mul, nI_add, nI_add]
      rw [if_neg (nI_ge (by omega) (by omega)), if_neg (by decide), e1, e2, ix_nI (by omega) (by decide), bd1_s, ix_nI (by omega) (by decide), bd1_s, nI_1, g3_11, g2_same]
      have e3 : va_up (cpB (g 11 4) (40 * a + s) (40 * c + d) i) (40 * c + d + i) (cpB (g 11 4) (40 * a + s) (40 * c + d) i (40 * a + s + i)) = cpB (g 11 4) (40 * a + s) (40 * c + d) (i + 1) := by
        funext k
        unfold va_up cpB
        by_cases q : k = 40 * c + d + i
        · rw [if_pos q, if_neg (by omega), if_pos (by omega)]
          congr 1
          omega
        · rw [if_neg q]
          by_cases q2 : 40 * c + d ≤ k ∧ k < 40 * c + d + i
          · rw [if_pos q2, if_pos (by omega)]
          · rw [if_neg q2, if_neg (by omega)]
      rw [e3]
      exact ih (i + 1) (by omega) (by omega)
theorem cp0 (f : Nat → Int32) (S T m : Nat) : cpA f S T m m = f := by
  funext k
  unfold cpA
  rw [if_neg (by omega)]
theorem cpB0 (f : Nat → Int32) (S T : Nat) : cpB f S T 0 = f := by
  funext k
  unfold cpB
  rw [if_neg (by omega)]
theorem cpAB (f : Nat → Int32) (S T m : Nat) : cpA f S T 0 m = cpB f S T m := by
  funext k
  unfold cpA cpB
  rw [Nat.add_zero]
theorem RR_copy {k1 k2 : Nat → Nat → Int32} {m2 m3 m4 : Nat → Int32} (h : RR k1 k2 m2 m3 m4) {a s c d m : Nat} (ha : a < 8) (hc : c < 8) (hs : s + m ≤ 40) (hd : d + m ≤ 40) : RR k1 (va_up k2 c (va_cpy (k2 a) (k2 c) s d m)) m2 m3 (cpB m4 (40 * a + s) (40 * c + d) m) := by
  intro t ht
  obtain ⟨q1, q2, q3, q4, q5⟩ := h t ht
  refine ⟨q1, q2, q3, q4, fun k hk => ?_⟩
  unfold cpB
  by_cases q : t = c
  · subst q
    rw [up_same]
    by_cases z : d ≤ k ∧ k < d + m
    · rw [if_pos (by omega), pk_cpy_in z.1 z.2, show 40 * a + s + (40 * t + k - (40 * t + d)) = 40 * a + (s + (k - d)) by omega]
      exact (h a ha).2.2.2.2 _ (by omega)
    · rw [if_neg (by omega), pk_cpy_out (by omega)]
      exact q5 k hk
  · rw [if_neg (by omega), up_ne _ _ q]
    exact q5 k hk
theorem X5_placesX (N j z : Nat) (hz : z ≤ 40) (x n : Int32) (g : GS) (e : g 1 j 1 = nI z) : (F_X5_hasPlaces N j x n g = some (1, g) ∧ ∃ s m : Nat, x = nI s ∧ n = nI m ∧ s + m ≤ z) ∨ (F_X5_hasPlaces N j x n g = some (0, g) ∧ (x < 0 ∨ n < 0 ∨ ¬ x < 0 ∧ ¬ n < 0 ∧ 0 < lg_cmp (x.toInt64 + n.toInt64) (nI z).toInt64)) := by
  unfold F_X5_hasPlaces
  rw [e]
  by_cases h : x < 0
  · rw [if_pos h]; exact Or.inr ⟨rfl, Or.inl h⟩
  rw [if_neg h]
  by_cases h2 : n < 0
  · rw [if_pos h2]; exact Or.inr ⟨rfl, Or.inr (Or.inl h2)⟩
  rw [if_neg h2]
  obtain ⟨s, hs, rfl⟩ := nI_of h
  obtain ⟨m, hm, rfl⟩ := nI_of h2
  have e1 : (nI z - nI m).toInt = (z : Int) - m := by
    rw [i_sub, nI_toInt (by omega), nI_toInt hm]
    · rw [nI_toInt (by omega), nI_toInt hm]; omega
    · rw [nI_toInt (by omega), nI_toInt hm]; omega
  have e2 : ((nI s).toInt64 + (nI m).toInt64).toInt = (s : Int) + m := by
    rw [Int64.toInt_add, Int32.toInt_toInt64, Int32.toInt_toInt64, nI_toInt hs, nI_toInt hm, Int.bmod]
    split <;> omega
  by_cases h3 : nI z - nI m < nI s
  · rw [if_pos h3]
    refine Or.inr ⟨rfl, Or.inr (Or.inr ⟨h, h2, ?_⟩)⟩
    rw [lgc_gt, Int64.lt_iff_toInt_lt, e2, Int32.toInt_toInt64, nI_toInt (by omega)]
    rw [i_lt, e1, nI_toInt hs] at h3
    omega
  · rw [if_neg h3]
    refine Or.inl ⟨rfl, s, m, rfl, rfl, ?_⟩
    rw [i_lt, e1, nI_toInt hs] at h3
    omega
theorem p_copy (N : Nat) (hN : 2000 ≤ N) (x1 x2 x3 x4 x5 : Int32) (g : GS) (h : Rel g) : Sim (F_X7_copy N x1 x2 x3 x4 x5) (F_X8_copy N x1 x2 x3 x4 x5) g := by
  rcases wi_cases x1 0 7 with ⟨w, -⟩ | ⟨w, w1, w2⟩
  · exact Sim.read h (-1000001) (by unfold F_X7_copy; rw [X7_isRow, bd2_s, w, if_pos rfl]) (by unfold F_X8_copy; rw [X8_isRow, bd2_s, w, if_pos rfl])
  obtain ⟨a, ha, rfl⟩ := wi_nI (n := 7) (by decide) w1 w2
  rcases wi_cases x3 0 7 with ⟨u, -⟩ | ⟨u, u1, u2⟩
  · exact Sim.read h (-1000001) (by unfold F_X7_copy; rw [X7_isRow, bd2_s, w, if_neg (by decide), X7_isRow, bd2_s, u, if_pos rfl]) (by unfold F_X8_copy; rw [X8_isRow, bd2_s, w, if_neg (by decide), X8_isRow, bd2_s, u, if_pos rfl])
  obtain ⟨c, hc, rfl⟩ := wi_nI (n := 7) (by decide) u1 u2
  have ha : a < 8 := by omega
  have hc : c < 8 := by omega
  have fnd1 : ∀ n : Int32, F_X7_copy N (nI a) x2 (nI c) x4 x5 g = some ((-1000010 : Int32) - n, g3 g 9 0 1 n) → F_X8_copy N (nI a) x2 (nI c) x4 x5 (g3 g 9 0 1 n) = some ((-1000010 : Int32) - n, g3 (g3 (g3 (g3 g 9 0 1 n) 10 0 0 0) 10 0 1 0) 10 0 1 n) → Sim (F_X7_copy N (nI a) x2 (nI c) x4 x5) (F_X8_copy N (nI a) x2 (nI c) x4 x5) g := fun n e1 e2 => ⟨_, _, _, e1, e2, h.1, h.2.1, h.2.2.1, rfl, h.2.2.2.2⟩
  rcases RR_lane h.1 ha with ⟨l1, l2⟩ | ⟨l1, l2, l3, l4⟩
  · refine fnd1 1 ?_ ?_
    · unfold F_X7_copy F_X7_found
      rw [X7_isRow, bd2_s, w, if_neg (by decide), X7_isRow, bd2_s, u, if_neg (by decide), ix_nI ha (by decide), bd1_s, ix_nI hc (by decide), bd1_s, X5_isMissing, if_pos l1, bd2_s, if_neg (by decide), bd2_s]
    · unfold F_X8_copy F_X8_finding
      rw [X8_isRow, bd2_s, w, if_neg (by decide), X8_isRow, bd2_s, u, if_neg (by decide), ix_nI ha (by decide), bd1_s, if_pos (show (g3 (g3 g 9 0 1 1) 10 0 0 0) 11 2 a < 0 from l2), bd2_s]
  rcases RR_lane h.1 hc with ⟨k1, k2⟩ | ⟨k1, k2, k3, k4⟩
  · refine fnd1 1 ?_ ?_
    · unfold F_X7_copy F_X7_found
      rw [X7_isRow, bd2_s, w, if_neg (by decide), X7_isRow, bd2_s, u, if_neg (by decide), ix_nI ha (by decide), bd1_s, ix_nI hc (by decide), bd1_s, X5_isMissing, if_neg l1, bd2_s, if_pos rfl, X5_isMissing, if_pos k1, bd2_s, if_neg (by decide), bd2_s]
    · unfold F_X8_copy F_X8_finding
      rw [X8_isRow, bd2_s, w, if_neg (by decide), X8_isRow, bd2_s, u, if_neg (by decide), ix_nI ha (by decide), bd1_s, if_neg (show ¬ (g3 (g3 g 9 0 1 1) 10 0 0 0) 11 2 a < 0 from l2), ix_nI hc (by decide), bd1_s, if_neg (show ¬ (0 : Int32) ≤ (g3 (g3 g 9 0 1 1) 10 0 0 0) 11 2 c from by rw [← i_nlt0]; exact fun q => q k2), bd2_s]
  have kn : (0 : Int32) ≤ g 11 2 c := by rw [← i_nlt0]; exact k2
  have KH : ∀ T : Option (Int32 × GS), (if (g 1 a 0) = (g 1 c 0) then bd2 (F_X5_hasPlaces N a x2 x5 g) (fun rv27 gv26 => if rv27 = 0 then bd2 (F_X7_found N (2 : Int32) gv26) (fun rv31 gv30 => some (rv31, gv30)) else bd2 (F_X5_hasPlaces N c x4 x5 gv26) (fun rv34 gv33 => if rv34 = 0 then bd2 (F_X7_found N (2 : Int32) gv33) (fun rv42 gv41 => some (rv42, gv41)) else bg (okcpy x2 x4 x5) (bd2 (F_X7_unfound N x5 (g2 gv33 2 c (va_cpy (gv33 2 a) (gv33 2 c) x2.toNatClampNeg x4.toNatClampNeg x5.toNatClampNeg))) (fun rv39 gv38 => some (rv39, gv38))))) else bd2 (F_X7_found N (5 : Int32) g) (fun rv45 gv44 => some (rv45, gv44))) = T → F_X7_copy N (nI a) x2 (nI c) x4 x5 g = T := by
    rintro T rfl
    unfold F_X7_copy
    rw [X7_isRow, bd2_s, w, if_neg (by decide), X7_isRow, bd2_s, u, if_neg (by decide), ix_nI ha (by decide), bd1_s, ix_nI hc (by decide), bd1_s, X5_isMissing, if_neg l1, bd2_s, if_pos rfl, X5_isMissing, if_neg k1, bd2_s, if_pos rfl]
  have MH : ∀ (k : GS) (T : Option (Int32 × GS)), k 11 = g 11 → (if (g 11 2 a) = (g 11 2 c) then if x2 < 0 then bd2 (F_X8_finding N (2 : Int32) (g3 (g3 k 10 0 0 0) 10 0 1 (0 : Int32))) (fun rv22 gv21 => some (rv22, gv21)) else if x4 < 0 then bd2 (F_X8_finding N (2 : Int32) (g3 (g3 k 10 0 0 0) 10 0 1 (0 : Int32))) (fun rv26 gv25 => some (rv26, gv25)) else if x5 < 0 then bd2 (F_X8_finding N (2 : Int32) (g3 (g3 k 10 0 0 0) 10 0 1 (0 : Int32))) (fun rv30 gv29 => some (rv30, gv29)) else if 0 < (lg_cmp ((x2.toInt64) + (x5.toInt64)) ((g 11 3 a).toInt64)) then bd2 (F_X8_finding N (2 : Int32) (g3 (g3 k 10 0 0 0) 10 0 1 (0 : Int32))) (fun rv34 gv33 => some (rv34, gv33)) else if (lg_cmp ((x4.toInt64) + (x5.toInt64)) ((g 11 3 c).toInt64)) ≤ 0 then if x2 < x4 then bd2 (L_X8_copy_143 N (nI a) x2 (nI c) x4 x5 (0 : Int32) N (0 : Int32) (g3 (g3 k 10 0 0 0) 10 0 1 (0 : Int32))) (fun xv47 gv48 => some (x5, gv48)) else bd2 (L_X8_copy_143 N (nI a) x2 (nI c) x4 x5 (1 : Int32) N (0 : Int32) (g3 (g3 k 10 0 0 0) 10 0 1 (0 : Int32))) (fun xv50 gv51 => some (x5, gv51)) else bd2 (F_X8_finding N (2 : Int32) (g3 (g3 k 10 0 0 0) 10 0 1 (0 : Int32))) (fun rv55 gv54 => some (rv55, gv54)) else bd2 (F_X8_finding N (5 : Int32) (g3 (g3 k 10 0 0 0) 10 0 1 (0 : Int32))) (fun rv58 gv57 => some (rv58, gv57))) = T → F_X8_copy N (nI a) x2 (nI c) x4 x5 k = T := by
    rintro k T e rfl
    have e2 : ∀ b, (g3 k 10 0 0 0) 11 b = g 11 b := fun b => by show k 11 b = _; rw [e]
    unfold F_X8_copy
    rw [X8_isRow, bd2_s, w, if_neg (by decide), X8_isRow, bd2_s, u, if_neg (by decide), ix_nI ha (by decide), bd1_s, e2, e2, if_neg l2, ix_nI hc (by decide), bd1_s, if_pos kn]
  by_cases hl : g 1 a 0 = g 1 c 0
  case neg =>
    refine fnd1 5 (KH _ ?_) (MH _ _ rfl ?_)
    · rw [if_neg hl]; rfl
    · rw [if_neg (by rw [l3, k3]; exact hl)]; rfl
  have hl' : g 11 2 a = g 11 2 c := by rw [l3, k3]; exact hl
  obtain ⟨za, hza, eza⟩ := (h.1 a ha).2.2.2.1
  obtain ⟨zc, hzc, ezc⟩ := (h.1 c hc).2.2.2.1
  have ez3 : g 11 3 a = nI za := l4.trans eza
  have ez4 : g 11 3 c = nI zc := k4.trans ezc
  have two : F_X7_copy N (nI a) x2 (nI c) x4 x5 g = some ((-1000010 : Int32) - 2, g3 g 9 0 1 2) → (x2 < 0 ∨ x4 < 0 ∨ x5 < 0 ∨ ¬ x2 < 0 ∧ ¬ x4 < 0 ∧ ¬ x5 < 0 ∧ (0 < lg_cmp (x2.toInt64 + x5.toInt64) (nI za).toInt64 ∨ 0 < lg_cmp (x4.toInt64 + x5.toInt64) (nI zc).toInt64)) → Sim (F_X7_copy N (nI a) x2 (nI c) x4 x5) (F_X8_copy N (nI a) x2 (nI c) x4 x5) g := fun e o => by
    refine fnd1 2 e (MH _ _ rfl ?_)
    rw [if_pos hl', ez3, ez4]
    unfold F_X8_finding
    by_cases q1 : x2 < 0
    · rw [if_pos q1]; rfl
    rw [if_neg q1]
    by_cases q2 : x4 < 0
    · rw [if_pos q2]; rfl
    rw [if_neg q2]
    by_cases q3 : x5 < 0
    · rw [if_pos q3]; rfl
    rw [if_neg q3]
    by_cases q4 : 0 < lg_cmp (x2.toInt64 + x5.toInt64) (nI za).toInt64
    · rw [if_pos q4]; rfl
    rw [if_neg q4]
    have q5 : 0 < lg_cmp (x4.toInt64 + x5.toInt64) (nI zc).toInt64 := by
      rcases o with o | o | o | ⟨_, _, _, o | o⟩
      · exact absurd o q1
      · exact absurd o q2
      · exact absurd o q3
      · exact absurd o q4
      · exact o
    rw [if_neg (show ¬ lg_cmp (x4.toInt64 + x5.toInt64) (nI zc).toInt64 ≤ 0 by rw [lgc_le]; rw [lgc_gt] at q5; exact fun t => t q5)]
    rfl
  rcases X5_placesX N a za hza x2 x5 g eza with ⟨p1, s, m, rfl, rfl, hsm⟩ | ⟨p1, o⟩
  case inr =>
    refine two (KH _ ?_) ?_
    · rw [if_pos hl, p1, bd2_s, if_pos rfl]; rfl
    · by_cases q : x4 < 0
      · exact Or.inr (Or.inl q)
      · rcases o with o | o | ⟨o1, o2, o3⟩
        · exact Or.inl o
        · exact Or.inr (Or.inr (Or.inl o))
        · exact Or.inr (Or.inr (Or.inr ⟨o1, q, o2, Or.inl o3⟩))
  rcases X5_placesX N c zc hzc x4 (nI m) g ezc with ⟨p2, d, m', rfl, em, hdm⟩ | ⟨p2, o⟩
  case inr =>
    refine two (KH _ ?_) ?_
    · rw [if_pos hl, p1, bd2_s, if_neg (by decide), p2, bd2_s, if_pos rfl]; rfl
    · rcases o with o | o | ⟨o1, o2, o3⟩
      · exact Or.inr (Or.inl o)
      · exact Or.inr (Or.inr (Or.inl o))
      · exact Or.inr (Or.inr (Or.inr ⟨nI_pos (by omega), o1, o2, Or.inr o3⟩))
  have hm' : m = m' := by
    have hm'31 : m' < 2 ^ 31 := by omega
    exact (nI_eq (by omega) hm'31).mp em
  subst hm'
  have ok : okcpy (nI s) (nI d) (nI m) = true := by
    unfold okcpy
    rw [nI_clamp (by omega), nI_clamp (by omega), nI_clamp (by omega), decide_eq_true (nI_pos (by omega)), decide_eq_true (nI_pos (by omega)), decide_eq_true (nI_pos (by omega)), decide_eq_true (by omega), decide_eq_true (by omega)]
    rfl
  have eM : ∀ k : GS, k 11 = g 11 → F_X8_copy N (nI a) (nI s) (nI c) (nI d) (nI m) k = some (nI m, g2 (g3 (g3 k 10 0 0 0) 10 0 1 0) 11 4 (cpB (g 11 4) (40 * a + s) (40 * c + d) m)) := fun k e => by
    refine MH k _ e ?_
    have e4 : (g3 (g3 k 10 0 0 0) 10 0 1 0) 11 4 = g 11 4 := by show k 11 4 = _; rw [e]
    have c1 : ¬ 0 < lg_cmp ((nI s).toInt64 + (nI m).toInt64) (nI za).toInt64 := by
      intro q
      have := (cmp_places (nI s) (m := m) (z := za) (by omega) (by omega) (nI_pos (by omega))).mpr (by rw [i_lt, pk_sub_toInt (by omega) (by omega), nI_toInt (by omega)]; omega)
      rw [i_le] at this
      rw [i_lt] at q
      omega
    have c2 : lg_cmp ((nI d).toInt64 + (nI m).toInt64) (nI zc).toInt64 ≤ 0 := (cmp_places (nI d) (m := m) (z := zc) (by omega) (by omega) (nI_pos (by omega))).mpr (by rw [i_lt, pk_sub_toInt (by omega) (by omega), nI_toInt (by omega)]; omega)
    rw [if_pos hl', ez3, ez4, if_neg (nI_pos (by omega)), if_neg (nI_pos (by omega)), if_neg (nI_pos (by omega)), if_neg c1, if_pos c2]
    by_cases q : s < d
    · have L := L_cpDown N (g3 (g3 k 10 0 0 0) 10 0 1 0) a s c d m (by omega) (by omega) (by omega) N 0 (by omega) (by omega)
      rw [Nat.sub_zero, cp0, g2_self, nI_0, e4, cpAB] at L
      rw [if_pos (nI_lt q (by omega)), L, bd2_s]
    · have L := L_cpUp N (g3 (g3 k 10 0 0 0) 10 0 1 0) a s c d m (by omega) (by omega) (by omega) N 0 (by omega) (by omega)
      rw [cpB0, g2_self, nI_0, e4] at L
      rw [if_neg (nI_nlt (by omega) (by omega)), L, bd2_s]
  refine ⟨nI m, g3 (g2 g 2 c (va_cpy (g 2 a) (g 2 c) s d m)) 9 0 1 0, _, KH _ ?_, eM _ rfl, ?_⟩
  · rw [if_pos hl, p1, bd2_s, if_neg (by decide), p2, bd2_s, if_neg (by decide), bg_s ok, nI_clamp (by omega), nI_clamp (by omega), nI_clamp (by omega)]
    rfl
  · exact ⟨RR_copy h.1 ha hc (by omega) (by omega), h.2.1, h.2.2.1, rfl, h.2.2.2.2⟩
