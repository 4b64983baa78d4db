/-! ===== the reference's steps over tokens ===== -/
theorem MI.tr {z : Nat} {B : Nat → Int32} {c d : Nat} {r0 r r' : Nat → Int32} (h : MI z B c r0 r) (h2 : MI z B d r r') : MI z B d r0 r' := ⟨h2.1, h2.2.1, h2.2.2.1, h2.2.2.2.1, h2.2.2.2.2.1, fun i hi => (h2.2.2.2.2.2 i hi).trans (h.2.2.2.2.2 i hi)⟩
theorem FT.tr {z : Nat} {B : Nat → Int32} {c n d : Nat} {r0 r r' : Nat → Int32} (h : MI z B c r0 r) (h2 : FT n d r r') : FT n d r0 r' := ⟨h2.1, h2.2.1, h2.2.2.1, fun i hi => (h2.2.2.2 i hi).trans (h.2.2.2.2.2 i hi)⟩
theorem FT.ne {n c : Nat} {r0 r : Nat → Int32} (h : FT n c r0 r) : ¬ r 17 = 0 := by
  rw [h.2.1]
  rcases h.1 with q | q | q <;> rw [q] <;> decide
theorem M_must1 (N : Nat) (hN : 2000 ≤ N) (g : GS) (u : Nat → Int32) {z : Nat} (hz : okB z (g 11 11)) {c d : Nat} {r0 r : Nat → Int32} (h : MI z (BT z (g 11 11)) c r0 r) (h13 : r 13 = nI d) (hd : d ≤ z) : ∃ r', F_X8_must N 1 (MZ g u r) = some (MZ g u r') ∧ MI z (BT z (g 11 11)) d r0 r' := by
  obtain ⟨r', e, m⟩ := X8_next N hN g u hz d r h.2.1 h13 h.2.2.2.1 hd
  refine ⟨r', ?_, h.tr m⟩
  unfold F_X8_must
  rw [if_neg (by decide), MZ_10, if_pos h.2.2.2.1, e, bd1_s]
theorem M_bad (N : Nat) (g : GS) (u : Nat → Int32) {z : Nat} {B : Nat → Int32} {c : Nat} {r0 r : Nat → Int32} (h : MI z B c r0 r) {n : Nat} (hn : n = 1 ∨ n = 2 ∨ n = 3) : ∃ r', F_X8_bad N (nI n) (MZ g u r) = some (MZ g u r') ∧ FT n c r0 r' := by
  unfold F_X8_bad
  rw [MZ_10, if_pos h.2.2.2.1, MZ_g, MZ_g]
  refine ⟨_, rfl, hn, by simp [va_up], by simpa [va_up] using h.2.2.1, fun i hi => ?_⟩
  rw [up_ne _ _ (by omega), up_ne _ _ (by omega)]
  exact h.2.2.2.2.2 i hi
theorem Z_bad (N : Nat) (x : Int32) (g : GS) (u r : Nat → Int32) (h : ¬ r 17 = 0) : F_X8_bad N x (MZ g u r) = some (MZ g u r) := by
  unfold F_X8_bad
  rw [MZ_10, if_neg h]
theorem Z_must (N : Nat) (x : Int32) (g : GS) (u r : Nat → Int32) (h : ¬ r 17 = 0) : F_X8_must N x (MZ g u r) = some (MZ g u r) := by
  unfold F_X8_must
  rw [Z_bad N 1 g u r h, bd1_s, MZ_10, if_neg h]
  split <;> rfl
theorem Z_sign (N : Nat) (x : Int32) (g : GS) (u r : Nat → Int32) (h : ¬ r 17 = 0) : F_X8_mustSign N x (MZ g u r) = some (MZ g u r) := by
  unfold F_X8_mustSign
  rw [Z_must N 1 g u r h, Z_must N 0 g u r h, bd1_s]
  split
  · split <;> rfl
  · rfl
theorem Z_number (N : Nat) (x y : Int32) (g : GS) (u r : Nat → Int32) (h : ¬ r 17 = 0) : F_X8_number N x y (MZ g u r) = some (x, MZ g u r) := by
  unfold F_X8_number
  rw [MZ_10, if_neg h, if_neg h, if_neg h, Z_must N 1 g u r h, bd1_s]
theorem Z_letter (N : Nat) (x : Int32) (g : GS) (u r : Nat → Int32) (h : ¬ r 17 = 0) : F_X8_isLetter N x (MZ g u r) = some (0, MZ g u r) := by
  unfold F_X8_isLetter
  rw [MZ_10, if_neg h]
theorem Z_sort (N : Nat) (g : GS) (u r : Nat → Int32) (h : ¬ r 17 = 0) : F_X8_isSort N (MZ g u r) = some (0, MZ g u r) := by
  unfold F_X8_isSort
  rw [MZ_10, if_neg h]
theorem M_must0 (N : Nat) (g : GS) (u : Nat → Int32) {z : Nat} {B : Nat → Int32} {c : Nat} {r0 r : Nat → Int32} (h : MI z B c r0 r) : ∃ r', F_X8_must N 0 (MZ g u r) = some (MZ g u r') ∧ FT 1 c r0 r' := by
  obtain ⟨r', e, f⟩ := M_bad N g u h (n := 1) (Or.inl rfl)
  refine ⟨r', ?_, f⟩
  unfold F_X8_must
  rw [if_pos rfl, show F_X8_bad N 1 (MZ g u r) = _ from e, bd1_s, MZ_10, if_neg f.ne]
theorem M_sign (N : Nat) (hN : 2000 ≤ N) (g : GS) (u : Nat → Int32) {z : Nat} (hz : okB z (g 11 11)) {c : Nat} {r0 r : Nat → Int32} (h : MI z (BT z (g 11 11)) c r0 r) {x : Int32} (hx : x = 44 ∨ x = 59) : (BT z (g 11 11) c = x ∧ ∃ r', F_X8_mustSign N x (MZ g u r) = some (MZ g u r') ∧ MI z (BT z (g 11 11)) (c + 1) r0 r') ∨ (¬ BT z (g 11 11) c = x ∧ ∃ r', F_X8_mustSign N x (MZ g u r) = some (MZ g u r') ∧ FT 1 c r0 r') := by
  obtain ⟨-, -, -, t4, t4', -, -⟩ := h.2.2.2.2.1
  unfold F_X8_mustSign
  rw [MZ_10]
  by_cases q : BT z (g 11 11) c = x
  · have h4 : r 15 = 4 := t4.mpr (by rw [q]; exact hx)
    obtain ⟨e16, e13⟩ := t4' h4
    have hlt : c < z := BT_lt (c := x) (by rcases hx with e | e <;> rw [e] <;> decide) q
    obtain ⟨r', e, m⟩ := M_must1 N hN g u hz h e13 (by omega)
    refine Or.inl ⟨q, r', ?_, m⟩
    rw [if_pos h4, if_pos (by rw [e16]; exact q), e, bd1_s]
  · obtain ⟨r', e, f⟩ := M_must0 N g u h
    refine Or.inr ⟨q, r', ?_, f⟩
    by_cases h4 : r 15 = 4
    · rw [if_pos h4, if_neg (by rw [(t4' h4).1]; exact q), e, bd1_s]
    · rw [if_neg h4, e, bd1_s]
theorem M_letter (N : Nat) (g : GS) (u : Nat → Int32) {z : Nat} {B : Nat → Int32} {c : Nat} {r0 r : Nat → Int32} (h : MI z B c r0 r) {x : Int32} (hx : wi x 97 122 = 1) : F_X8_isLetter N x (MZ g u r) = some (b01 (decide (B c = x)), MZ g u r) := by
  obtain ⟨-, t2, t2', -⟩ := h.2.2.2.2.1
  unfold F_X8_isLetter
  rw [MZ_10, if_pos h.2.2.2.1]
  by_cases q : B c = x
  · have h2 : r 15 = 2 := t2.mpr (by rw [q]; exact hx)
    rw [if_pos h2, if_pos (by rw [(t2' h2).1]; exact q), decide_eq_true q]
    rfl
  · rw [decide_eq_false q]
    by_cases h2 : r 15 = 2
    · rw [if_pos h2, if_neg (by rw [(t2' h2).1]; exact q)]
      rfl
    · rw [if_neg h2]
      rfl
/-- behind a letter -/
theorem M_step (N : Nat) (hN : 2000 ≤ N) (g : GS) (u : Nat → Int32) {z : Nat} (hz : okB z (g 11 11)) {c : Nat} {r0 r : Nat → Int32} (h : MI z (BT z (g 11 11)) c r0 r) (hx : wi (BT z (g 11 11) c) 97 122 = 1) : ∃ r', F_X8_must N 1 (MZ g u r) = some (MZ g u r') ∧ MI z (BT z (g 11 11)) (c + 1) r0 r' := by
  obtain ⟨-, t2, t2', -⟩ := h.2.2.2.2.1
  have hlt : c < z := by
    by_cases d : c < z
    · exact d
    · exfalso
      unfold BT at hx
      rw [if_neg d] at hx
      exact absurd hx (by decide)
  exact M_must1 N hN g u hz h (t2' (t2.mpr hx)).2 (by omega)
theorem M_number (N : Nat) (hN : 2000 ≤ N) (g : GS) (u : Nat → Int32) {z : Nat} (hz : okB z (g 11 11)) {c : Nat} {r0 r : Nat → Int32} (h : MI z (BT z (g 11 11)) c r0 r) (lo hi : Int32) : (∃ v d r', aN (BT z (g 11 11)) lo hi c = .inr (v, d) ∧ F_X8_number N lo hi (MZ g u r) = some (v, MZ g u r') ∧ MI z (BT z (g 11 11)) d r0 r') ∨ (∃ n r', aN (BT z (g 11 11)) lo hi c = .inl (n, c) ∧ F_X8_number N lo hi (MZ g u r) = some (lo, MZ g u r') ∧ FT n c r0 r') := by
  obtain ⟨-, -, -, -, -, t3, t3'⟩ := h.2.2.2.2.1
  unfold F_X8_number aN
  rw [MZ_10, if_pos h.2.2.2.1]
  by_cases q : fig (BT z (g 11 11)) c = 1 ∨ fig (BT z (g 11 11)) c = 2
  · have h3 : r 15 = 3 := t3.mpr q
    obtain ⟨e16, e13⟩ := t3' h3
    rw [if_neg (show ¬ (fig (BT z (g 11 11)) c = 0 ∨ fig (BT z (g 11 11)) c = 3) by omega), if_pos h3, if_pos h.2.2.2.1, e16, X8_in, bd2_s]
    rcases wi_01 (nv (BT z (g 11 11)) c) lo hi with w | w
    · rw [if_pos w, w, if_pos rfl]
      obtain ⟨r', e, f⟩ := M_bad N g u h (n := 2) (Or.inr (Or.inl rfl))
      refine Or.inr ⟨2, r', rfl, ?_, f⟩
      rw [show F_X8_bad N 2 (MZ g u r) = _ from e, bd1_s, MZ_10, if_neg f.ne, Z_must N 1 g u r' f.ne, bd1_s]
    · rw [if_neg (by rw [w]; decide), w, if_neg (by decide), MZ_10, if_pos h.2.2.2.1]
      obtain ⟨r', e, m⟩ := M_must1 N hN g u hz h e13 (fig_le h.1)
      exact Or.inl ⟨_, _, r', rfl, by rw [e, bd1_s, e16], m⟩
  · have h3 : ¬ r 15 = 3 := fun t => q (t3.mp t)
    have hf : fig (BT z (g 11 11)) c = 0 ∨ fig (BT z (g 11 11)) c = 3 := by
      rcases fig_3 (BT z (g 11 11)) c with f | ⟨f, -⟩ | ⟨f, -⟩ | f <;> omega
    obtain ⟨r', e, f⟩ := M_bad N g u h (n := 1) (Or.inl rfl)
    rw [if_pos hf, if_neg h3, show F_X8_bad N 1 (MZ g u r) = _ from e, bd1_s, MZ_10, if_neg f.ne, if_neg f.ne, Z_must N 1 g u r' f.ne, bd1_s]
    exact Or.inr ⟨1, r', rfl, rfl, f⟩
def srt (x : Int32) : Int32 := if x = 98 then 1 else if x = 99 then 5 else if x = 102 then 2 else if x = 108 then 4 else if x = 116 then 3 else 0
theorem X6_sortOf (N : Nat) (x : Int32) (g : GS) : F_X6_sortOf N x g = some (srt x, g) := by
  unfold F_X6_sortOf srt
  repeat' split
  all_goals rfl
theorem srt_cases (x : Int32) : (srt x = 0 ∧ ¬ x = 98 ∧ ¬ x = 99 ∧ ¬ x = 102 ∧ ¬ x = 108 ∧ ¬ x = 116) ∨ (x = 98 ∨ x = 99 ∨ x = 102 ∨ x = 108 ∨ x = 116) := by
  by_cases a : x = 98
  · exact Or.inr (Or.inl a)
  by_cases b : x = 99
  · exact Or.inr (Or.inr (Or.inl b))
  by_cases c : x = 102
  · exact Or.inr (Or.inr (Or.inr (Or.inl c)))
  by_cases d : x = 108
  · exact Or.inr (Or.inr (Or.inr (Or.inr (Or.inl d))))
  by_cases e : x = 116
  · exact Or.inr (Or.inr (Or.inr (Or.inr (Or.inr e))))
  refine Or.inl ⟨?_, a, b, c, d, e⟩
  unfold srt
  rw [if_neg a, if_neg b, if_neg c, if_neg d, if_neg e]
theorem X8_kindBy (N : Nat) (x : Int32) (g : GS) : F_X8_kindBy N x g = some (if srt x = 0 then -1000000 else srt x, g) := by
  unfold F_X8_kindBy
  rcases srt_cases x with ⟨s, a, b, c, d, e⟩ | rfl | rfl | rfl | rfl | rfl
  · rw [if_neg a, if_neg c, if_neg e, if_neg d, if_neg b, s, if_pos rfl]
  · rfl
  · rfl
  · rfl
  · rfl
  · rfl
theorem srt_w {x : Int32} (h : ¬ srt x = 0) : wi x 97 122 = 1 ∧ (∃ n : Nat, 1 ≤ n ∧ n ≤ 5 ∧ srt x = nI n) ∧ ¬ x = 119 := by
  rcases srt_cases x with ⟨s, -⟩ | rfl | rfl | rfl | rfl | rfl
  · exact absurd s h
  · exact ⟨by decide, ⟨1, by decide, by decide, by decide⟩, by decide⟩
  · exact ⟨by decide, ⟨5, by decide, by decide, by decide⟩, by decide⟩
  · exact ⟨by decide, ⟨2, by decide, by decide, by decide⟩, by decide⟩
  · exact ⟨by decide, ⟨4, by decide, by decide, by decide⟩, by decide⟩
  · exact ⟨by decide, ⟨3, by decide, by decide, by decide⟩, by decide⟩
theorem M_sort (N : Nat) (g : GS) (u : Nat → Int32) {z : Nat} {B : Nat → Int32} {c : Nat} {r0 r : Nat → Int32} (h : MI z B c r0 r) : F_X8_isSort N (MZ g u r) = some (b01 (!decide (srt (B c) = 0)), MZ g u r) := by
  obtain ⟨-, t2, t2', -⟩ := h.2.2.2.2.1
  unfold F_X8_isSort
  rw [MZ_10, if_pos h.2.2.2.1]
  by_cases q : srt (B c) = 0
  · rw [decide_eq_true q]
    by_cases h2 : r 15 = 2
    · rw [if_pos h2, (t2' h2).1, X8_kindBy, bd2_s, if_pos q, if_pos rfl]
      rfl
    · rw [if_neg h2]
      rfl
  · obtain ⟨w, ⟨n, hn1, hn2, en⟩, -⟩ := srt_w q
    have h2 : r 15 = 2 := t2.mpr w
    rw [decide_eq_false q, if_pos h2, (t2' h2).1, X8_kindBy, bd2_s, if_neg q, if_neg]
    · rfl
    · rw [en]
      intro t
      have := congrArg Int32.toInt t
      rw [nI_toInt (by omega), show (-1000000 : Int32).toInt = -1000000 by decide] at this
      omega
