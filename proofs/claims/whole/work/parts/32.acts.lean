/-! ===== ACTS ===== -/
def push (l : List (Nat → Int32)) (v : Nat → Int32) : List (Nat → Int32) := if l.length = 24 then l.tail ++ [v] else l ++ [v]
theorem push_len {l : List (Nat → Int32)} (h : l.length ≤ 24) (v : Nat → Int32) : (push l v).length = if l.length = 24 then 24 else l.length + 1 := by
  unfold push
  split
  · simp; omega
  · simp
theorem push_all {l : List (Nat → Int32)} {v : Nat → Int32} {Q : (Nat → Int32) → Prop} (h : ∀ u ∈ l, Q u) (hv : Q v) : ∀ u ∈ push l v, Q u := by
  intro u hu
  unfold push at hu
  split at hu
  · rcases List.mem_append.mp hu with q | q
    · exact h u (List.mem_of_mem_tail q)
    · rw [List.mem_singleton.mp q]; exact hv
  · rcases List.mem_append.mp hu with q | q
    · exact h u q
    · rw [List.mem_singleton.mp q]; exact hv
/-- the class's state behind keep(now) -/
def KP (g : GS) (n : Nat) (a sc fo pa : Nat → Int32) : GS := g2 (g2 (g2 (g2 g 0 (2 + n) sc) 12 (2 + n) fo) 13 (2 + n) pa) 6 0 a
theorem X0_keep (N : Nat) (hN : 2000 ≤ N) (g : GS) {B : Nat} {v : Nat → Int32} (hv : VA B v) (hk : RK (g 0 0) (g 12 0) (g 13 0) v) {l : List (Nat → Int32)} (hA : KA (g 6 0) (g 0) (g 12) (g 13) l) : ∃ n a sc fo pa, n < 24 ∧ F_X0_keep N 0 g = some (KP g n a sc fo pa) ∧ KA a (KP g n a sc fo pa 0) (KP g n a sc fo pa 12) (KP g n a sc fo pa 13) (push l v) := by
  obtain ⟨n, h1, h2, h3, h4, h5⟩ := hA
  unfold F_X0_keep
  rw [h2, ix_nI h1 (by decide), bd1_s]
  obtain ⟨sc, fo, pa, e, k⟩ := X4_become N (2 + n) 0 hN (by omega) g hv hk
  rw [e, bd1_s]
  have e60 : (g2 (g2 (g2 g 0 (2 + n) sc) 12 (2 + n) fo) 13 (2 + n) pa) 6 0 = g 6 0 := rfl
  rw [g3_g2, g3_g2, g2_same, g2_g2, e60, h2, h3, nI_1, nI_1, show (24 : Int32) = nI 24 from rfl, pk_rem (by omega) (by decide) (by decide)]
  have em : (if nI 24 < nI (l.length + 1) then nI 24 else nI (l.length + 1)) = nI (if l.length = 24 then 24 else l.length + 1) := by
    by_cases q : l.length = 24
    · rw [if_pos q, if_pos (nI_lt (by omega) (by omega))]
    · rw [if_neg q, if_neg (nI_nlt (by omega) (by omega))]
  rw [em]
  refine ⟨n, _, sc, fo, pa, h1, rfl, (n + 1) % 24, by omega, rfl, ?_, ?_, fun i u hi => ?_⟩
  · rw [push_len h4]; rfl
  · rw [push_len h4]; split <;> omega
  · have hl := push_len h4 v
    have key : ∀ j, (j ≠ 2 + n → RK (g 0 j) (g 12 j) (g 13 j) u) → (j = 2 + n → u = v) → RK (KP g n (va_up (va_up (g 6 0) 0 (nI ((n + 1) % 24))) 1 (nI (if l.length = 24 then 24 else l.length + 1))) sc fo pa 0 j) (KP g n (va_up (va_up (g 6 0) 0 (nI ((n + 1) % 24))) 1 (nI (if l.length = 24 then 24 else l.length + 1))) sc fo pa 12 j) (KP g n (va_up (va_up (g 6 0) 0 (nI ((n + 1) % 24))) 1 (nI (if l.length = 24 then 24 else l.length + 1))) sc fo pa 13 j) u := by
      intro j hne heq
      show RK (va_up (g 0) (2 + n) sc j) (va_up (g 12) (2 + n) fo j) (va_up (g 13) (2 + n) pa j) u
      by_cases q : j = 2 + n
      · rw [q, up_same, up_same, up_same, heq q]; exact k
      · rw [up_ne _ _ q, up_ne _ _ q, up_ne _ _ q]; exact hne q
    apply key
    · intro hne
      unfold push at hi
      by_cases q : l.length = 24
      · rw [if_pos q] at hi hl
        rw [hl] at hne ⊢
        have hlt : i < 24 := by have := (List.getElem?_eq_some_iff.mp hi).1; simp at this; omega
        by_cases q2 : i = 23
        · exfalso; apply hne; omega
        · rw [List.getElem?_append_left (by simp; omega), List.getElem?_tail] at hi
          have := h5 (i + 1) u hi
          rw [q] at this
          rw [show ((n + 1) % 24 + 24 - 24 + i) % 24 = (n + 24 - 24 + (i + 1)) % 24 by omega]
          exact this
      · rw [if_neg q] at hi hl
        rw [hl] at hne ⊢
        have hlt : i < l.length + 1 := by have := (List.getElem?_eq_some_iff.mp hi).1; simpa using this
        by_cases q2 : i = l.length
        · exfalso; apply hne; omega
        · rw [List.getElem?_append_left (by omega)] at hi
          have := h5 i u hi
          rw [show ((n + 1) % 24 + 24 - (l.length + 1) + i) % 24 = (n + 24 - l.length + i) % 24 by omega]
          exact this
    · intro heq
      unfold push at hi
      by_cases q : l.length = 24
      · rw [if_pos q] at hi hl
        rw [hl] at heq
        have hlt : i < 24 := by have := (List.getElem?_eq_some_iff.mp hi).1; simp at this; omega
        have q2 : i = 23 := by omega
        subst q2
        rw [List.getElem?_append_right (by simp; omega)] at hi
        simp [q] at hi
        exact hi.symm
      · rw [if_neg q] at hi hl
        rw [hl] at heq
        have hlt : i < l.length + 1 := by have := (List.getElem?_eq_some_iff.mp hi).1; simpa using this
        have q2 : i = l.length := by omega
        subst q2
        rw [List.getElem?_append_right (by omega)] at hi
        simp at hi
        exact hi.symm
/-! the reference's keep -/
def MK (g : GS) (w : Nat → Int32) (c : Int32) : GS := g2 (g2 g 11 9 w) 10 0 (va_up (g 10 0) 10 c)
theorem L_keep11 (N : Nat) : ∀ (n i : Nat) (g : GS), i ≤ 1219 → 1219 < i + n → L_X8_keep_11 N n (nI i) g = some (nI 1219, g2 g 11 9 (fun k => if i ≤ k ∧ k < 1219 then g 11 9 (k + 53) else g 11 9 k)) := by
  intro n
  induction n with
  | zero => intro i g h1 h2; omega
  | succ n ih =>
    intro i g h1 h2
    rw [L_X8_keep_11]
    by_cases h : i = 1219
    · subst h
      rw [if_pos (show (1219 : Int32) ≤ nI 1219 by decide)]
      congr 2
      rw [show (fun k => if 1219 ≤ k ∧ k < 1219 then g 11 9 (k + 53) else g 11 9 k) = g 11 9 from funext fun k => if_neg (by omega), g2_self]
    · rw [if_neg (show ¬ (1219 : Int32) ≤ nI i from nI_ge (b := 1219) (by omega) (by omega)), show (53 : Int32) = nI 53 from rfl, nI_add, ix_nI (by omega) (by omega), bd1_s, ix_nI (by omega) (by omega), bd1_s, nI_1, ih (i + 1) _ (by omega) (by omega)]
      congr 2
      rw [g3_g2, g2_g2, g2_same]
      congr 1
      funext k
      unfold va_up
      by_cases q : k = i
      · subst q; rw [if_neg (by omega), if_pos rfl, if_pos (by omega)]
      · by_cases q2 : i ≤ k ∧ k < 1219
        · rw [if_pos (by omega), if_pos q2, if_neg (by omega)]
        · rw [if_neg (by omega), if_neg q, if_neg q2]
theorem L_keep51 (N m : Nat) (hm : m < 24) : ∀ (n i : Nat) (g : GS), g 10 0 10 = nI m → i ≤ 53 → 53 < i + n → L_X8_keep_51 N n (nI i) g = some (nI 53, g2 g 11 9 (fun k => if 53 * m + i ≤ k ∧ k < 53 * m + 53 then g 11 5 (k - 53 * m) else g 11 9 k)) := by
  intro n
  induction n with
  | zero => intro i g h0 h1 h2; omega
  | succ n ih =>
    intro i g h0 h1 h2
    rw [L_X8_keep_51]
    by_cases h : i = 53
    · subst h
      rw [if_pos (show (53 : Int32) ≤ nI 53 by decide)]
      congr 2
      rw [show (fun k => if 53 * m + 53 ≤ k ∧ k < 53 * m + 53 then g 11 5 (k - 53 * m) else g 11 9 k) = g 11 9 from funext fun k => if_neg (by omega), g2_self]
    · rw [if_neg (show ¬ (53 : Int32) ≤ nI i from nI_ge (b := 53) (by omega) (by omega)), ix_nI (by omega) (by omega), bd1_s, h0, show (53 : Int32) = nI 53 from rfl, pk_mul, nI_add, ix_nI (by omega) (by omega), bd1_s, nI_1, ih (i + 1) (g3 g 11 9 (53 * m + i) (g 11 5 i)) h0 (by omega) (by omega)]
      congr 2
      rw [g3_g2, g2_g2, g2_same, g2_row _ _ _ (show 5 ≠ 9 by decide)]
      congr 1
      funext k
      unfold va_up
      by_cases q : k = 53 * m + i
      · subst q; rw [if_neg (by omega), if_pos rfl, if_pos (by omega), show 53 * m + i - 53 * m = i by omega]
      · by_cases q2 : 53 * m + i ≤ k ∧ k < 53 * m + 53
        · rw [if_pos (by omega), if_pos q2]
        · rw [if_neg (by omega), if_neg q, if_neg q2]
theorem X8_keep (N : Nat) (hN : 2000 ≤ N) (g : GS) {l : List (Nat → Int32)} (hl : l.length ≤ 24) (hA : MA (g 10 0 10) (g 11 9) l) : ∃ w c, F_X8_keep N g = some (MK g w c) ∧ MA c w (push l (g 11 5)) := by
  obtain ⟨h1, h2⟩ := hA
  unfold F_X8_keep
  have hpl := push_len hl (g 11 5)
  by_cases q : l.length = 24
  · rw [if_pos (by rw [h1, q]; rfl)]
    have a := L_keep11 N N 0 g (by omega) (by omega)
    rw [nI_0] at a
    rw [a, bd2_s]
    have e1 : (g2 g 11 9 (fun k => if 0 ≤ k ∧ k < 1219 then g 11 9 (k + 53) else g 11 9 k)) 10 0 10 = nI 24 := by rw [g2_kind _ _ _ (by decide), h1, q]
    rw [e1, show (nI 24 : Int32) - 1 = nI 23 from rfl]
    have b := L_keep51 N 23 (by decide) N 0 (g3 (g2 g 11 9 (fun k => if 0 ≤ k ∧ k < 1219 then g 11 9 (k + 53) else g 11 9 k)) 10 0 10 (nI 23)) rfl (by omega) (by omega)
    rw [nI_0] at b
    rw [b, bd2_s]
    refine ⟨fun k => if 53 * 23 + 0 ≤ k ∧ k < 53 * 23 + 53 then g 11 5 (k - 53 * 23) else if 0 ≤ k ∧ k < 1219 then g 11 9 (k + 53) else g 11 9 k, nI 24, ?_, ?_, ?_⟩
    · congr 1
      unfold MK
      rw [g3_g2, g3_g2]
      have c1 : ∀ (f h : Nat → Int32) (x : GS), g2 (g2 x 10 0 f) 11 9 h = g2 (g2 x 11 9 h) 10 0 f := fun f h x => g2_comm x f h (Or.inl (by decide))
      rw [c1, g2_g2, g2_g2, g2_same]
      have c2 : (g2 g 11 9 (fun k => if 0 ≤ k ∧ k < 1219 then g 11 9 (k + 53) else g 11 9 k)) 10 0 = g 10 0 := rfl
      rw [c2, up_up, up_same]
      congr 1
    · rw [hpl, if_pos q]
    · intro i v hi k hk
      unfold push at hi
      rw [if_pos q] at hi
      have hlt : i < 24 := by have := (List.getElem?_eq_some_iff.mp hi).1; simp at this; omega
      by_cases q2 : i = 23
      · subst q2
        rw [List.getElem?_append_right (by simp; omega)] at hi
        simp [q] at hi
        dsimp only
        rw [if_pos (by omega), show 53 * 23 + k - 53 * 23 = k by omega, hi]
      · rw [List.getElem?_append_left (by simp; omega), List.getElem?_tail] at hi
        dsimp only
        rw [if_neg (by omega), if_pos (by omega), show 53 * i + k + 53 = 53 * (i + 1) + k by omega]
        exact h2 (i + 1) v hi k hk
  · rw [if_neg (by rw [h1]; exact fun z => q ((nI_eq (b := 24) (by omega) (by decide)).mp z))]
    have b := L_keep51 N l.length (by omega) N 0 g h1 (by omega) (by omega)
    rw [nI_0] at b
    rw [b, bd2_s]
    refine ⟨fun k => if 53 * l.length + 0 ≤ k ∧ k < 53 * l.length + 53 then g 11 5 (k - 53 * l.length) else g 11 9 k, nI (l.length + 1), ?_, ?_, ?_⟩
    · congr 1
      unfold MK
      rw [g3_g2]
      have c2 : ∀ w, (g2 g 11 9 w) 10 0 = g 10 0 := fun w => rfl
      rw [c2, h1, nI_1]
    · rw [hpl, if_neg q]
    · intro i v hi k hk
      unfold push at hi
      rw [if_neg q] at hi
      have hlt : i < l.length + 1 := by have := (List.getElem?_eq_some_iff.mp hi).1; simpa using this
      by_cases q2 : i = l.length
      · subst q2
        rw [List.getElem?_append_right (by omega)] at hi
        simp at hi
        dsimp only
        rw [if_pos (by omega), show 53 * l.length + k - 53 * l.length = k by omega, hi]
      · rw [List.getElem?_append_left (by omega)] at hi
        dsimp only
        rw [if_neg (by omega)]
        exact h2 i v hi k hk
