/-! ===== ask ===== -/
def KS (g : GS) (n : Nat) (f : Nat → Int32) : GS := g2 (g2 g 7 0 (va_up (g 7 0) 0 (nI n))) 8 0 f
def MS (g : GS) (n : Nat) (f : Nat → Int32) : GS := g2 (g2 g 10 0 (va_up (g 10 0) 24 (nI n))) 11 23 f
def trA (t : Nat → Int32) : Nat → List Int32 → Nat → Int32
  | _, [] => t
  | n, a :: l => trA (va_up t n a) (n + 1) l
theorem trA_lo : ∀ (l : List Int32) (t : Nat → Int32) (n k : Nat), k < n → trA t n l k = t k := by
  intro l
  induction l with
  | nil => intro t n k _; rfl
  | cons a l ih =>
    intro t n k h
    rw [trA, ih _ _ _ (by omega), up_ne _ _ (by omega)]
theorem trA_eq : ∀ (l : List Int32) (t u : Nat → Int32) (n k : Nat), n ≤ k → k < n + l.length → trA t n l k = trA u n l k := by
  intro l
  induction l with
  | nil => intro t u n k h1 h2; simp at h2; omega
  | cons a l ih =>
    intro t u n k h1 h2
    rw [trA, trA]
    by_cases q : k = n
    · subst q
      rw [trA_lo _ _ _ _ (by omega), trA_lo _ _ _ _ (by omega), up_same, up_same]
    · exact ih _ _ _ _ (by omega) (by simp at h2; omega)
theorem KS0 (g : GS) : g3 g 7 0 0 0 = KS g 0 (g 8 0) := by
  unfold KS
  rw [g3_g2]
  exact (g2_self (g2 g 7 0 (va_up (g 7 0) 0 0)) 8 0).symm
theorem MS0 (g : GS) : g3 g 10 0 24 0 = MS g 0 (g 11 23) := by
  unfold MS
  rw [g3_g2]
  exact (g2_self (g2 g 10 0 (va_up (g 10 0) 24 0)) 11 23).symm
theorem X1_leave (N : Nat) (x : Int32) (g : GS) (n : Nat) (hn : n < 16) (f : Nat → Int32) : F_X1_leave N x (KS g n f) = some (KS g (n + 1) (va_up f n x)) := by
  unfold F_X1_leave
  have e : (KS g n f) 7 0 0 = nI n := rfl
  have e7 : (KS g n f) 7 0 = va_up (g 7 0) 0 (nI n) := rfl
  have e8 : (KS g n f) 8 0 = f := rfl
  rw [e, if_neg (show ¬ (16 : Int32) ≤ nI n from nI_ge (b := 16) hn (by decide)), ix_nI hn (by decide), bd1_s, nI_1, g3_g2, g3_g2, e8, g2_kind _ _ _ (by decide), e7, up_up]
  unfold KS
  rw [g2_g2, g2_comm _ _ _ (Or.inl (by decide)), g2_g2]
theorem X8_began (N : Nat) (x : Int32) (g : GS) (n : Nat) (hn : n < 16) (f : Nat → Int32) : F_X8_began N x (MS g n f) = some (MS g (n + 1) (va_up f n x)) := by
  unfold F_X8_began
  have e : (MS g n f) 10 0 24 = nI n := rfl
  have e7 : (MS g n f) 10 0 = va_up (g 10 0) 24 (nI n) := rfl
  have e8 : (MS g n f) 11 23 = f := rfl
  rw [e, if_neg (show ¬ (16 : Int32) ≤ nI n from nI_ge (b := 16) hn (by decide)), ix_nI hn (by decide), bd1_s, nI_1, g3_g2, g3_g2, e8, g2_kind _ _ _ (by decide), e7, up_up]
  unfold MS
  rw [g2_g2, g2_comm _ _ _ (Or.inl (by decide)), g2_g2]
theorem dp {k : Nat} (h : k ≤ 8) : nI k ≤ (8 : Int32) := nI_le (b := 8) h (by decide)
section
variable (N r i : Nat) (x : Int32) (g : GS)
theorem give10 (f k n : Nat) (hk : k ≤ 8) (hn : n < 16) (t : Nat → Int32) : F_X1_give N (f + 1) 10 r i x (nI k) (KS g n t) = some (g 13 r (7 * i + 2), KS g (n + 1) (trA t n [10])) := by
  rw [F_X1_give, if_pos (dp hk), X1_leave N 10 g n hn, bd1_s, if_pos rfl]
  rfl
theorem give20 (f k n : Nat) (hk : k ≤ 8) (hn : n < 16) (t : Nat → Int32) : F_X1_give N (f + 1) 20 r i x (nI k) (KS g n t) = some (x, KS g (n + 1) (trA t n [20])) := by
  rw [F_X1_give, if_pos (dp hk), X1_leave N 20 g n hn, bd1_s, if_neg (by decide), if_neg (by decide), if_neg (by decide), if_neg (by decide), if_neg (by decide), if_pos rfl]
  rfl
theorem give13 (f k n : Nat) (hk : k + 1 ≤ 8) (hn : n + 1 < 16) (t : Nat → Int32) : F_X1_give N (f + 2) 13 r i x (nI k) (KS g n t) = some (g 13 r (7 * i + 2) - 100, KS g (n + 2) (trA t n [13, 10])) := by
  rw [F_X1_give, if_pos (dp (by omega)), X1_leave N 13 g n (by omega), bd1_s, if_neg (by decide), if_neg (by decide), if_neg (by decide), if_pos rfl, nI_1, give10 N r i x g f (k + 1) (n + 1) hk hn, bd2_s]
  rfl
theorem give14 (f k n : Nat) (hk : k + 2 ≤ 8) (hn : n + 2 < 16) (t : Nat → Int32) : F_X1_give N (f + 3) 14 r i x (nI k) (KS g n t) = some (2 * (g 13 r (7 * i + 2) - 100), KS g (n + 3) (trA t n [14, 13, 10])) := by
  rw [F_X1_give, if_pos (dp (by omega)), X1_leave N 14 g n (by omega), bd1_s, if_neg (by decide), if_neg (by decide), if_neg (by decide), if_neg (by decide), if_pos rfl, nI_1, give13 N r i x g f (k + 1) (n + 1) hk hn, bd2_s]
  rfl
theorem give21 (f k n : Nat) (hk : k + 1 ≤ 8) (hn : n + 1 < 16) (t : Nat → Int32) : F_X1_give N (f + 2) 21 r i x (nI k) (KS g n t) = some (x + g 13 r (7 * i + 4), KS g (n + 2) (trA t n [21, 20])) := by
  rw [F_X1_give, if_pos (dp (by omega)), X1_leave N 21 g n (by omega), bd1_s, if_neg (by decide), if_neg (by decide), if_neg (by decide), if_neg (by decide), if_neg (by decide), if_neg (by decide), if_pos rfl, nI_1, give20 N r i x g f (k + 1) (n + 1) hk hn, bd2_s]
  rfl
theorem give22 (f k n : Nat) (hk : k + 2 ≤ 8) (hn : n + 2 < 16) (t : Nat → Int32) : F_X1_give N (f + 3) 22 r i x (nI k) (KS g n t) = some (x + g 13 r (7 * i + 4) - 1000, KS g (n + 3) (trA t n [22, 21, 20])) := by
  rw [F_X1_give, if_pos (dp (by omega)), X1_leave N 22 g n (by omega), bd1_s, if_neg (by decide), if_neg (by decide), if_neg (by decide), if_neg (by decide), if_neg (by decide), if_neg (by decide), if_neg (by decide), if_pos rfl, nI_1, give21 N r i x g f (k + 1) (n + 1) hk hn, bd2_s]
  rfl
theorem give24 (f k n : Nat) (hk : k + 2 ≤ 8) (hn : n + 2 < 16) (t : Nat → Int32) : F_X1_give N (f + 3) 24 r i x (nI k) (KS g n t) = some (2 * (x + g 13 r (7 * i + 4)), KS g (n + 3) (trA t n [24, 21, 20])) := by
  rw [F_X1_give, if_pos (dp (by omega)), X1_leave N 24 g n (by omega), bd1_s, if_neg (by decide), if_neg (by decide), if_neg (by decide), if_neg (by decide), if_neg (by decide), if_neg (by decide), if_neg (by decide), if_neg (by decide), if_pos rfl, nI_1, give21 N r i x g f (k + 1) (n + 1) hk hn, bd2_s]
  rfl
end
/-- what MARK, SIZE are, and through which bodies -/
def mkV (s : Nat) (x w h : Int32) : Int32 := if s = 1 then x + h else if s = 2 then 2 * (x + h) else if s = 3 then x + h - 1000 else if s = 4 then x - (w - 100) else x - 2 * (w - 100)
def mkT (s : Nat) : List Int32 := if s = 1 then [21, 20] else if s = 2 then [24, 21, 20] else if s = 3 then [22, 21, 20] else if s = 4 then [23, 20, 13, 10] else [23, 20, 14, 13, 10]
def szV (s : Nat) (x w h : Int32) : Int32 := if s = 1 then w + mkV 1 x w h else if s = 2 then -(w + mkV 2 x w h) else if s = 3 then w + mkV 3 x w h else if s = 4 then w - 100 else 2 * (w - 100)
def szT (s : Nat) : List Int32 := if s = 1 then 11 :: 10 :: mkT 1 else if s = 2 then 12 :: 11 :: 10 :: mkT 2 else if s = 3 then 11 :: 10 :: mkT 3 else if s = 4 then [13, 10] else [14, 13, 10]
def mkB (s : Nat) : Int32 := if s = 1 then 21 else if s = 2 then 24 else if s = 3 then 22 else 23
def szB (s : Nat) : Int32 := if s = 1 then 11 else if s = 2 then 12 else if s = 3 then 11 else if s = 4 then 13 else 14
theorem X3_markBody (N r i s : Nat) (h1 : 1 ≤ s) (h5 : s ≤ 5) (g : GS) (e : g 13 r (7 * i) = nI s) : F_X3_markBody N r i g = some (mkB s, g) := by
  unfold F_X3_markBody F_X3_isOf F_X3_kindAbove
  rw [e]
  rcases (show s = 1 ∨ s = 2 ∨ s = 3 ∨ s = 4 ∨ s = 5 by omega) with rfl | rfl | rfl | rfl | rfl <;> rfl
theorem X3_sizeBody (N r i s : Nat) (h1 : 1 ≤ s) (h5 : s ≤ 5) (g : GS) (e : g 13 r (7 * i) = nI s) : F_X3_sizeBody N r i g = some (szB s, g) := by
  unfold F_X3_sizeBody F_X3_isOf F_X3_kindAbove
  rw [e]
  rcases (show s = 1 ∨ s = 2 ∨ s = 3 ∨ s = 4 ∨ s = 5 by omega) with rfl | rfl | rfl | rfl | rfl <;> rfl
theorem give_mk (N r i s : Nat) (h1 : 1 ≤ s) (h5 : s ≤ 5) (x : Int32) (g : GS) (e : g 13 r (7 * i) = nI s) (f k n : Nat) (hk : k + 3 ≤ 8) (hn : n + 5 < 16) (t : Nat → Int32) : F_X1_give N (f + 4) (mkB s) r i x (nI k) (KS g n t) = some (mkV s x (g 13 r (7 * i + 2)) (g 13 r (7 * i + 4)), KS g (n + (mkT s).length) (trA t n (mkT s))) := by
  rcases (show s = 1 ∨ s = 2 ∨ s = 3 ∨ s = 4 ∨ s = 5 by omega) with rfl | rfl | rfl | rfl | rfl
  · exact give21 N r i x g (f + 2) k n (by omega) (by omega) t
  · exact give24 N r i x g (f + 1) k n (by omega) (by omega) t
  · exact give22 N r i x g (f + 1) k n (by omega) (by omega) t
  · show F_X1_give N (f + 4) 23 r i x (nI k) (KS g n t) = _
    rw [F_X1_give, if_pos (dp (by omega)), X1_leave N 23 g n (by omega), bd1_s, if_neg (by decide), if_neg (by decide), if_neg (by decide), if_neg (by decide), if_neg (by decide), if_neg (by decide), if_neg (by decide), if_neg (by decide), if_pos rfl, nI_1, give20 N r i x g (f + 2) (k + 1) (n + 1) (by omega) (by omega), bd2_s, X3_sizeBody N r i 4 (by decide) (by decide) (KS g (n + 1 + 1) (trA (va_up t n 23) (n + 1) [20])) e, bd2_s]
    rw [show F_X1_give N (f + 3) (szB 4) r i x (nI (k + 1)) (KS g (n + 1 + 1) (trA (va_up t n 23) (n + 1) [20])) = _ from give13 N r i x g (f + 1) (k + 1) (n + 1 + 1) (by omega) (by omega) _, bd2_s]
    rfl
  · show F_X1_give N (f + 4) 23 r i x (nI k) (KS g n t) = _
    rw [F_X1_give, if_pos (dp (by omega)), X1_leave N 23 g n (by omega), bd1_s, if_neg (by decide), if_neg (by decide), if_neg (by decide), if_neg (by decide), if_neg (by decide), if_neg (by decide), if_neg (by decide), if_neg (by decide), if_pos rfl, nI_1, give20 N r i x g (f + 2) (k + 1) (n + 1) (by omega) (by omega), bd2_s, X3_sizeBody N r i 5 (by decide) (by decide) (KS g (n + 1 + 1) (trA (va_up t n 23) (n + 1) [20])) e, bd2_s]
    rw [show F_X1_give N (f + 3) (szB 5) r i x (nI (k + 1)) (KS g (n + 1 + 1) (trA (va_up t n 23) (n + 1) [20])) = _ from give14 N r i x g f (k + 1) (n + 1 + 1) (by omega) (by omega) _, bd2_s]
    rfl
theorem give11 (N r i s : Nat) (h1 : 1 ≤ s) (h5 : s ≤ 5) (x : Int32) (g : GS) (e : g 13 r (7 * i) = nI s) (f k n : Nat) (hk : k + 4 ≤ 8) (hn : n + 7 < 16) (t : Nat → Int32) : F_X1_give N (f + 5) 11 r i x (nI k) (KS g n t) = some (g 13 r (7 * i + 2) + mkV s x (g 13 r (7 * i + 2)) (g 13 r (7 * i + 4)), KS g (n + 2 + (mkT s).length) (trA t n (11 :: 10 :: mkT s))) := by
  rw [F_X1_give, if_pos (dp (by omega)), X1_leave N 11 g n (by omega), bd1_s, if_neg (by decide), if_pos rfl, nI_1, give10 N r i x g (f + 3) (k + 1) (n + 1) (by omega) (by omega), bd2_s, X3_markBody N r i s h1 h5 (KS g (n + 1 + 1) (trA (va_up t n 11) (n + 1) [10])) e, bd2_s, give_mk N r i s h1 h5 x g e f (k + 1) (n + 1 + 1) (by omega) (by omega), bd2_s]
  rfl
theorem give_sz (N r i s : Nat) (h1 : 1 ≤ s) (h5 : s ≤ 5) (x : Int32) (g : GS) (e : g 13 r (7 * i) = nI s) (f : Nat) (t : Nat → Int32) : F_X1_give N (f + 6) (szB s) r i x (nI 0) (KS g 0 t) = some (szV s x (g 13 r (7 * i + 2)) (g 13 r (7 * i + 4)), KS g (szT s).length (trA t 0 (szT s))) := by
  rcases (show s = 1 ∨ s = 2 ∨ s = 3 ∨ s = 4 ∨ s = 5 by omega) with rfl | rfl | rfl | rfl | rfl
  · exact give11 N r i 1 (by decide) (by decide) x g e (f + 1) 0 0 (by decide) (by decide) t
  · show F_X1_give N (f + 6) 12 r i x (nI 0) (KS g 0 t) = _
    rw [F_X1_give, if_pos (dp (by omega)), X1_leave N 12 g 0 (by omega), bd1_s, if_neg (by decide), if_neg (by decide), if_pos rfl, nI_1, give11 N r i 2 (by decide) (by decide) x g e f (0 + 1) (0 + 1) (by decide) (by decide), bd2_s]
    rfl
  · exact give11 N r i 3 (by decide) (by decide) x g e (f + 1) 0 0 (by decide) (by decide) t
  · exact give13 N r i x g (f + 4) 0 0 (by decide) (by decide) t
  · exact give14 N r i x g (f + 3) 0 0 (by decide) (by decide) t
/-! the reference -/
theorem M_plain (N j : Nat) (hj : j < 6) (g : GS) (n : Nat) (hn : n < 16) (t : Nat → Int32) : F_X8_plainSize N (nI j) (MS g n t) = some (pf (g 11 5) j 2, MS g (n + 1) (trA t n [10])) := by
  unfold F_X8_plainSize
  rw [X8_began N 10 g n hn, bd1_s, X8_of2 N 5 j hj rfl, bd2_s]
  rfl
theorem M_leaf (N j s : Nat) (hj : j < 6) (hs : s = 4 ∨ s = 5) (g : GS) (e : pf (g 11 5) j 0 = nI s) (n : Nat) (hn : n + 2 < 16) (t : Nat → Int32) : F_X8_leafSize N (nI j) (MS g n t) = some (szV s 0 (pf (g 11 5) j 2) 0, MS g (n + (szT s).length) (trA t n (szT s))) := by
  unfold F_X8_leafSize
  have e' : pf ((MS g n t) 11 5) j 0 = nI s := e
  rw [X8_of0 N 5 j hj rfl, bd2_s, e']
  rcases hs with rfl | rfl
  · rw [if_neg (by decide), if_pos rfl, X8_began N 13 g n (by omega), bd1_s, M_plain N j hj g (n + 1) (by omega), bd2_s, if_pos rfl]
    rfl
  · rw [if_pos (by decide), if_neg (by decide), X8_began N 14 g n (by omega), bd1_s, X8_began N 13 g (n + 1) (by omega), bd1_s, M_plain N j hj g (n + 1 + 1) (by omega), bd2_s, if_neg (by decide)]
    rfl
theorem M_mark (N j s : Nat) (hj : j < 6) (h1 : 1 ≤ s) (h5 : s ≤ 5) (g : GS) (e : pf (g 11 5) j 0 = nI s) (n : Nat) (hn : n + 5 < 16) (t : Nat → Int32) : F_X8_markOf N (nI j) (MS g n t) = some (mkV s (nI j) (pf (g 11 5) j 2) (pf (g 11 5) j 4), MS g (n + (mkT s).length) (trA t n (mkT s))) := by
  unfold F_X8_markOf
  have e' : pf ((MS g n t) 11 5) j 0 = nI s := e
  rw [X8_of0 N 5 j hj rfl, bd2_s, e']
  rcases (show s = 1 ∨ s = 2 ∨ s = 3 ∨ s = 4 ∨ s = 5 by omega) with rfl | rfl | rfl | rfl | rfl
  · rw [if_pos (by decide), if_pos (by decide), X8_began N 21 g n (by omega), bd1_s, X8_began N 20 g (n + 1) (by omega), bd1_s, X8_of4 N 5 j hj rfl, bd2_s, if_pos (by decide)]
    rfl
  · rw [if_pos (by decide), if_neg (by decide), if_neg (by decide), X8_began N 24 g n (by omega), bd1_s, X8_began N 21 g (n + 1) (by omega), bd1_s, X8_began N 20 g (n + 1 + 1) (by omega), bd1_s, X8_of4 N 5 j hj rfl, bd2_s, if_neg (by decide), if_neg (by decide)]
    rfl
  · rw [if_pos (by decide), if_neg (by decide), if_pos (by decide), X8_began N 22 g n (by omega), bd1_s, X8_began N 21 g (n + 1) (by omega), bd1_s, X8_began N 20 g (n + 1 + 1) (by omega), bd1_s, X8_of4 N 5 j hj rfl, bd2_s, if_neg (by decide), if_pos (by decide)]
    rfl
  · rw [if_neg (by decide), X8_began N 23 g n (by omega), bd1_s, X8_began N 20 g (n + 1) (by omega), bd1_s, M_leaf N j 4 hj (Or.inl rfl) g e (n + 1 + 1) (by omega), bd2_s]
    rfl
  · rw [if_neg (by decide), X8_began N 23 g n (by omega), bd1_s, X8_began N 20 g (n + 1) (by omega), bd1_s, M_leaf N j 5 hj (Or.inr rfl) g e (n + 1 + 1) (by omega), bd2_s]
    rfl
theorem M_size (N j s : Nat) (hj : j < 6) (h1 : 1 ≤ s) (h5 : s ≤ 5) (g : GS) (e : pf (g 11 5) j 0 = nI s) (t : Nat → Int32) : F_X8_sizeOf N (nI j) (MS g 0 t) = some (szV s (nI j) (pf (g 11 5) j 2) (pf (g 11 5) j 4), MS g (szT s).length (trA t 0 (szT s))) := by
  unfold F_X8_sizeOf
  have e' : pf ((MS g 0 t) 11 5) j 0 = nI s := e
  rw [X8_of0 N 5 j hj rfl, bd2_s, e']
  rcases (show s = 1 ∨ s = 2 ∨ s = 3 ∨ s = 4 ∨ s = 5 by omega) with rfl | rfl | rfl | rfl | rfl
  · rw [if_pos (by decide), if_neg (by decide), X8_began N 11 g 0 (by omega), bd1_s, M_plain N j hj g (0 + 1) (by omega), bd2_s, M_mark N j 1 hj (by decide) (by decide) g e (0 + 1 + 1) (by omega), bd2_s, if_neg (by decide)]
    rfl
  · rw [if_pos (by decide), if_pos (by decide), X8_began N 12 g 0 (by omega), bd1_s, X8_began N 11 g (0 + 1) (by omega), bd1_s, M_plain N j hj g (0 + 1 + 1) (by omega), bd2_s, M_mark N j 2 hj (by decide) (by decide) g e (0 + 1 + 1 + 1) (by omega), bd2_s, if_pos (by decide)]
    rfl
  · rw [if_pos (by decide), if_neg (by decide), X8_began N 11 g 0 (by omega), bd1_s, M_plain N j hj g (0 + 1) (by omega), bd2_s, M_mark N j 3 hj (by decide) (by decide) g e (0 + 1 + 1) (by omega), bd2_s, if_neg (by decide)]
    rfl
  · rw [if_neg (by decide), M_leaf N j 4 hj (Or.inl rfl) g e 0 (by omega), bd2_s, Nat.zero_add, show ∀ x w h, szV 4 x w h = w - 100 from fun _ _ _ => rfl, show ∀ x w h, szV 4 x w h = w - 100 from fun _ _ _ => rfl]
  · rw [if_neg (by decide), M_leaf N j 5 hj (Or.inr rfl) g e 0 (by omega), bd2_s, Nat.zero_add, show ∀ x w h, szV 5 x w h = 2 * (w - 100) from fun _ _ _ => rfl, show ∀ x w h, szV 5 x w h = 2 * (w - 100) from fun _ _ _ => rfl]
theorem Sim.ask {K M : GS → Option (Int32 × GS)} {g : GS} (h : Rel g) (r : Int32) (l : List Int32) (hl : l.length ≤ 16) (h1 : K g = some (r, KS g l.length (trA (g 8 0) 0 l))) (h2 : M (KS g l.length (trA (g 8 0) 0 l)) = some (r, MS (g3 (KS g l.length (trA (g 8 0) 0 l)) 10 0 0 0) l.length (trA (g 11 23) 0 l))) : Sim K M g := by
  refine ⟨r, _, _, h1, h2, h.1, h.2.1, h.2.2.1, h.2.2.2.1, h.2.2.2.2.1, h.2.2.2.2.2.1, h.2.2.2.2.2.2.1, ?_, h.2.2.2.2.2.2.2.2⟩
  exact ⟨l.length, hl, rfl, rfl, fun k hk => trA_eq l _ _ 0 k (by omega) (by omega)⟩
theorem p_ask (N : Nat) (hN : 2000 ≤ N) (x y : Int32) (g : GS) (h : Rel g) : Sim (F_X7_ask N x y) (F_X8_ask N x y) g := by
  obtain ⟨hv, hk⟩ := h.2.2.2.2.1
  have hP := hv.2.1
  have h4 : g 0 0 4 = nI (nP (g 11 5)) := hk.1.trans hv.1
  have h0 : (g3 g 10 0 0 0) 11 5 0 = nI (nP (g 11 5)) := hv.1
  rcases hp_cases x (P := nP (g 11 5)) (by omega) with w | ⟨w, j, hj, rfl⟩
  · exact Sim.read h (-1000001) (by unfold F_X7_ask; rw [X4_hasPaper N 0 _ x g h4, bd2_s, w, if_pos rfl]) (by unfold F_X8_ask; rw [X8_isPaper N _ hP x _ h0, bd2_s, w, if_pos rfl])
  rcases wi_cases y 0 1 with ⟨u, -⟩ | ⟨u, u1, u2⟩
  · exact Sim.read h (-1000001) (by unfold F_X7_ask; rw [X4_hasPaper N 0 _ _ g h4, bd2_s, w, if_neg (by decide), X7_within, bd2_s, u, if_pos rfl]) (by unfold F_X8_ask; rw [X8_isPaper N _ hP _ _ h0, bd2_s, w, if_neg (by decide), X8_inL N y 0 1 (by decide) (by decide), bd2_s, u, if_pos rfl])
  obtain ⟨kd, hkd, rfl⟩ := wi_nI (n := 1) (by decide) u1 u2
  have hj6 : j < 6 := by omega
  obtain ⟨⟨s, hs1, hs2, es⟩, -⟩ := VA_paper hv hj
  have es : pf (g 11 5) j 0 = nI s := es
  have f0 : g 13 0 (7 * j) = nI s := (RK_f (f := 0) hk hj (by decide)).trans es
  have f2 : g 13 0 (7 * j + 2) = pf (g 11 5) j 2 := RK_f hk hj (by decide)
  have f4 : g 13 0 (7 * j + 4) = pf (g 11 5) j 4 := RK_f hk hj (by decide)
  rcases (show kd = 0 ∨ kd = 1 by omega) with rfl | rfl
  · refine Sim.ask h (szV s (nI j) (pf (g 11 5) j 2) (pf (g 11 5) j 4)) (szT s) (by rcases (show s = 1 ∨ s = 2 ∨ s = 3 ∨ s = 4 ∨ s = 5 by omega) with rfl | rfl | rfl | rfl | rfl <;> decide) ?_ ?_
    · unfold F_X7_ask F_X1_begin
      have e := give_sz N 0 j s hs1 hs2 (nI j) g f0 6 (g 8 0)
      rw [f2, f4] at e
      rw [X4_hasPaper N 0 _ _ g h4, bd2_s, w, if_neg (by decide), X7_within, bd2_s, u, if_neg (by decide), ix_nI hj6 (by decide), bd1_s, if_pos (by decide), X3_sizeBody N 0 j s hs1 hs2 g f0, bd2_s, KS0, show F_X1_give N 12 (szB s) 0 j (nI j) 0 (KS g 0 (g 8 0)) = _ from e, bd2_s, bd2_s]
    · unfold F_X8_ask
      rw [X8_isPaper N (nP (g 11 5)) hP _ (g3 (KS g (szT s).length (trA (g 8 0) 0 (szT s))) 10 0 0 0) hv.1, bd2_s, w, if_neg (by decide), X8_inL N _ 0 1 (by decide) (by decide), bd2_s, u, if_neg (by decide), if_pos (by decide), MS0, M_size N j s hj6 hs1 hs2 (g3 (KS g (szT s).length (trA (g 8 0) 0 (szT s))) 10 0 0 0) es, bd2_s]
      rfl
  · refine Sim.ask h (mkV s (nI j) (pf (g 11 5) j 2) (pf (g 11 5) j 4)) (mkT s) (by rcases (show s = 1 ∨ s = 2 ∨ s = 3 ∨ s = 4 ∨ s = 5 by omega) with rfl | rfl | rfl | rfl | rfl <;> decide) ?_ ?_
    · unfold F_X7_ask F_X1_begin
      have e := give_mk N 0 j s hs1 hs2 (nI j) g f0 8 0 0 (by decide) (by decide) (g 8 0)
      rw [f2, f4, Nat.zero_add] at e
      rw [X4_hasPaper N 0 _ _ g h4, bd2_s, w, if_neg (by decide), X7_within, bd2_s, u, if_neg (by decide), ix_nI hj6 (by decide), bd1_s, if_neg (by decide), X3_markBody N 0 j s hs1 hs2 g f0, bd2_s, KS0, show F_X1_give N 12 (mkB s) 0 j (nI j) 0 (KS g 0 (g 8 0)) = _ from e, bd2_s, bd2_s]
    · unfold F_X8_ask
      have e := M_mark N j s hj6 hs1 hs2 (g3 (KS g (mkT s).length (trA (g 8 0) 0 (mkT s))) 10 0 0 0) es 0 (by decide) ((g3 (KS g (mkT s).length (trA (g 8 0) 0 (mkT s))) 10 0 0 0) 11 23)
      rw [Nat.zero_add] at e
      rw [X8_isPaper N (nP (g 11 5)) hP _ (g3 (KS g (mkT s).length (trA (g 8 0) 0 (mkT s))) 10 0 0 0) hv.1, bd2_s, w, if_neg (by decide), X8_inL N _ 0 1 (by decide) (by decide), bd2_s, u, if_neg (by decide), if_neg (by decide), MS0, e, bd2_s]
      rfl
