/-! ===== who, winds, tapes ===== -/
theorem VA_field0 {B : Nat} {v : Nat → Int32} (hv : VA B v) {j : Nat} (hj : j < nP v) {n : Nat} (h1 : 1 ≤ n) (h2 : n ≤ 5) : VA B (va_up v (11 + 7 * j + 0) (nI n)) := by
  refine VA_up hv hj (fun k hk => up_ne _ _ (by omega)) ?_
  obtain ⟨q0, q1, q2, q3, q4, q5⟩ := VA_paper hv hj
  exact ⟨⟨n, h1, h2, by simp [va_up]⟩, by simpa [va_up] using q1, by simpa [va_up] using q2, by simpa [va_up] using q3, by simpa [va_up] using q4, by simpa [va_up] using q5⟩
theorem VA_field1 {B : Nat} {v : Nat → Int32} (hv : VA B v) {j : Nat} (hj : j < nP v) {n : Nat} (h2 : n ≤ 9) : VA B (va_up v (11 + 7 * j + 1) (nI n)) := by
  refine VA_up hv hj (fun k hk => up_ne _ _ (by omega)) ?_
  obtain ⟨q0, q1, q2, q3, q4, q5⟩ := VA_paper hv hj
  exact ⟨by simpa [va_up] using q0, ⟨n, h2, by simp [va_up]⟩, by simpa [va_up] using q2, by simpa [va_up] using q3, by simpa [va_up] using q4, by simpa [va_up] using q5⟩
theorem VA_wind {B : Nat} {v : Nat → Int32} (hv : VA B v) {j : Nat} (hj : j < nW v) {n : Nat} (hn : n ≤ 9) : VA B (va_up v (5 + j) (nI n)) := by
  have hW := hv.2.2.2.1
  have lo : ∀ k, k ≠ 5 + j → va_up v (5 + j) (nI n) k = v k := fun k hk => up_ne _ _ hk
  have eP : nP (va_up v (5 + j) (nI n)) = nP v := nP_eq (lo 0 (by omega))
  have eW : nW (va_up v (5 + j) (nI n)) = nW v := nW_eq (lo 1 (by omega))
  have eH : nH (va_up v (5 + j) (nI n)) = nH v := nH_eq (lo 4 (by omega))
  obtain ⟨a0, a1, a2, a3, a4, a5, a6, a7, a8⟩ := hv
  refine ⟨by rw [lo 0 (by omega), eP]; exact a0, by rw [eP]; exact a1, by rw [lo 1 (by omega), eW]; exact a2, by rw [eW]; exact a3, by rw [lo 4 (by omega), eH]; exact a4, by rw [eH]; exact a5, by rw [eP, lo 2 (by omega), lo 3 (by omega)]; exact a6, ?_, ?_⟩
  · rw [eW]
    intro k hk
    by_cases q : k = j
    · subst q; rw [up_same]; exact ⟨n, hn, rfl⟩
    · rw [lo (5 + k) (by omega)]; exact a7 k hk
  · rw [eP]
    intro i hi
    exact VP_cong (a8 i hi) (fun f hf => lo _ (by omega))
theorem VA_strong {B : Nat} {v : Nat → Int32} (hv : VA B v) {n : Nat} (h1 : 1 ≤ n) (h2 : n ≤ 99) : VA B (va_up v 3 (nI n)) := by
  have lo : ∀ k, k ≠ 3 → va_up v 3 (nI n) k = v k := fun k hk => up_ne _ _ hk
  have eP : nP (va_up v 3 (nI n)) = nP v := nP_eq (lo 0 (by omega))
  have eW : nW (va_up v 3 (nI n)) = nW v := nW_eq (lo 1 (by omega))
  have eH : nH (va_up v 3 (nI n)) = nH v := nH_eq (lo 4 (by omega))
  obtain ⟨a0, a1, a2, a3, a4, a5, a6, a7, a8⟩ := hv
  refine ⟨by rw [lo 0 (by omega), eP]; exact a0, by rw [eP]; exact a1, by rw [lo 1 (by omega), eW]; exact a2, by rw [eW]; exact a3, by rw [lo 4 (by omega), eH]; exact a4, by rw [eH]; exact a5, ?_, ?_, ?_⟩
  · rw [eP, lo 2 (by omega), up_same]
    exact fun q => ⟨(a6 q).1, n, h1, h2, rfl⟩
  · rw [eW]
    intro k hk
    rw [lo (5 + k) (by omega)]; exact a7 k hk
  · rw [eP]
    intro i hi
    exact VP_cong (a8 i hi) (fun f hf => lo _ (by omega))
theorem RK_wind {sc fo pa v : Nat → Int32} (hk : RK sc fo pa v) (hP : nP v ≤ 6) {j : Nat} (hj : j < nW v) (hW : nW v ≤ 6) (x : Int32) : RK sc (va_up fo j x) pa (va_up v (5 + j) x) := by
  have lo : ∀ k, k ≠ 5 + j → va_up v (5 + j) x k = v k := fun k hk => up_ne _ _ hk
  have eP : nP (va_up v (5 + j) x) = nP v := nP_eq (lo 0 (by omega))
  have eW : nW (va_up v (5 + j) x) = nW v := nW_eq (lo 1 (by omega))
  obtain ⟨a, b, c, d, e, f⟩ := hk
  refine ⟨by rw [lo 0 (by omega)]; exact a, by rw [lo 1 (by omega)]; exact b, by rw [lo 4 (by omega)]; exact c, by rw [eP, lo 2 (by omega), lo 3 (by omega)]; exact d, ?_, ?_⟩
  · rw [eW]
    intro k hk
    by_cases q : k = j
    · subst q; rw [up_same, up_same]
    · rw [up_ne _ _ q, lo (5 + k) (by omega)]; exact e k hk
  · rw [eP]
    intro i hi
    obtain ⟨f1, f2⟩ := f i hi
    refine ⟨fun k hk => ?_, ?_⟩
    · rw [lo _ (by omega)]; exact f1 k hk
    · rw [lo _ (by omega), lo _ (by omega)]; exact f2
theorem RK_strong {sc fo pa v : Nat → Int32} (hk : RK sc fo pa v) (x : Int32) : RK (va_up sc 1 x) fo pa (va_up v 3 x) := by
  have lo : ∀ k, k ≠ 3 → va_up v 3 x k = v k := fun k hk => up_ne _ _ hk
  have eP : nP (va_up v 3 x) = nP v := nP_eq (lo 0 (by omega))
  have eW : nW (va_up v 3 x) = nW v := nW_eq (lo 1 (by omega))
  obtain ⟨a, b, c, d, e, f⟩ := hk
  refine ⟨by rw [lo 0 (by omega), up_ne _ _ (by decide)]; exact a, by rw [lo 1 (by omega), up_ne _ _ (by decide)]; exact b, by rw [lo 4 (by omega), up_ne _ _ (by decide)]; exact c, ?_, ?_, ?_⟩
  · rw [eP, lo 2 (by omega), up_same, up_same, up_ne _ _ (by decide)]
    exact fun q => ⟨(d q).1, rfl⟩
  · rw [eW]
    intro k hk
    rw [lo (5 + k) (by omega)]; exact e k hk
  · rw [eP]
    intro i hi
    obtain ⟨f1, f2⟩ := f i hi
    refine ⟨fun k hk => ?_, ?_⟩
    · rw [lo _ (by omega)]; exact f1 k hk
    · rw [lo _ (by omega), lo _ (by omega)]; exact f2
theorem D1_at0' (g : GS) (sc fo pa : Nat → Int32) (i : Nat) (x : Int32) : g3 (D1 g sc fo pa) 0 1 i x = D1 g (va_up sc i x) fo pa := by rw [g3_g2, D1_0, D1_s]
theorem D1_at12' (g : GS) (sc fo pa : Nat → Int32) (i : Nat) (x : Int32) : g3 (D1 g sc fo pa) 12 1 i x = D1 g sc (va_up fo i x) pa := by rw [g3_g2, D1_12, D1_f]
theorem D1_at13' (g : GS) (sc fo pa : Nat → Int32) (i : Nat) (x : Int32) : g3 (D1 g sc fo pa) 13 1 i x = D1 g sc fo (va_up pa i x) := by rw [g3_g2, D1_13, D1_p]
/-- the field that is tried -/
def fd (kd : Nat) : Nat := if kd = 0 then 0 else if kd = 1 then 1 else 2
theorem D_with (N : Nat) (hN : 2000 ≤ N) (g : GS) {v : Nat → Int32} (hv : VA 999 v) (hk : RK (g 0 0) (g 12 0) (g 13 0) v) {kd : Nat} (hkd : kd < 3) {p : Nat} (hp : p < nP v) (y : Int32) (f sc fo pa : Nat → Int32) : ∃ sc' fo' pa', F_X2_draftWith N (nI kd) (nI p) y (D1 (g2 g 5 0 f) sc fo pa) = some (D1 (g2 g 5 0 f) sc' fo' pa') ∧ RK sc' fo' pa' (va_up v (11 + 7 * p + fd kd) y) := by
  have hP := hv.2.1
  unfold F_X2_draftWith
  obtain ⟨sc1, fo1, pa1, e1, k1⟩ := draft_lay N hN (g2 g 5 0 f) hv hk sc fo pa
  rw [e1, bd1_s]
  rcases (show kd = 0 ∨ kd = 1 ∨ kd = 2 by omega) with rfl | rfl | rfl
  · rw [if_pos (by decide), ix_nI (by omega) (by decide), bd1_s, D1_at13']
    exact ⟨_, _, _, rfl, RK_field k1 hv.2.2.2.1 hp (f := 0) (by decide) (by decide) y⟩
  · rw [if_neg (by decide), if_pos (by decide), ix_nI (by omega) (by decide), bd1_s, D1_at13']
    exact ⟨_, _, _, rfl, RK_field k1 hv.2.2.2.1 hp (f := 1) (by decide) (by decide) y⟩
  · rw [if_neg (by decide), if_neg (by decide), if_pos (by decide), ix_nI (by omega) (by decide), bd1_s, D1_at13']
    exact ⟨_, _, _, rfl, RK_field k1 hv.2.2.2.1 hp (f := 2) (by decide) (by decide) y⟩
theorem D_wind (N : Nat) (hN : 2000 ≤ N) (g : GS) {v : Nat → Int32} (hv : VA 999 v) (hk : RK (g 0 0) (g 12 0) (g 13 0) v) {w : Nat} (hw : w < nW v) (y : Int32) (f sc fo pa : Nat → Int32) : ∃ sc' fo' pa', F_X2_draftWith N 3 (nI w) y (D1 (g2 g 5 0 f) sc fo pa) = some (D1 (g2 g 5 0 f) sc' fo' pa') ∧ RK sc' fo' pa' (va_up v (5 + w) y) := by
  have hW := hv.2.2.2.1
  unfold F_X2_draftWith
  obtain ⟨sc1, fo1, pa1, e1, k1⟩ := draft_lay N hN (g2 g 5 0 f) hv hk sc fo pa
  rw [e1, bd1_s, if_neg (by decide), if_neg (by decide), if_neg (by decide), if_pos (by decide), ix_nI (by omega) (by decide), bd1_s, D1_at12']
  exact ⟨_, _, _, rfl, RK_wind k1 hv.2.1 hw hW y⟩
theorem D_strong (N : Nat) (hN : 2000 ≤ N) (g : GS) {v : Nat → Int32} (hv : VA 999 v) (hk : RK (g 0 0) (g 12 0) (g 13 0) v) (z y : Int32) (f sc fo pa : Nat → Int32) : ∃ sc' fo' pa', F_X2_draftWith N 4 z y (D1 (g2 g 5 0 f) sc fo pa) = some (D1 (g2 g 5 0 f) sc' fo' pa') ∧ RK sc' fo' pa' (va_up v 3 y) := by
  unfold F_X2_draftWith
  obtain ⟨sc1, fo1, pa1, e1, k1⟩ := draft_lay N hN (g2 g 5 0 f) hv hk sc fo pa
  rw [e1, bd1_s, if_neg (by decide), if_neg (by decide), if_neg (by decide), if_neg (by decide), D1_at0']
  exact ⟨_, _, _, rfl, RK_strong k1 y⟩
theorem Sim.watch {K M : GS → Option (Int32 × GS)} {g : GS} (h : Rel g) (r : Int32) (f sc fo pa ris u : Nat → Int32) (h1 : K g = some (r, g3 (D1 (g2 g 5 0 f) sc fo pa) 9 0 1 0)) (h2 : M (g3 (D1 (g2 g 5 0 f) sc fo pa) 9 0 1 0) = some (r, T7 (g3 (g3 (g3 (D1 (g2 g 5 0 f) sc fo pa) 9 0 1 0) 10 0 0 0) 10 0 1 0) ris u)) : Sim K M g := by
  refine ⟨r, _, _, h1, h2, Rel_T7 ?_ ris u⟩
  have hD : Rel (D1 (g2 g 5 0 f) sc fo pa) := Rel_D1 (g := g2 g 5 0 f) h sc fo pa
  exact ⟨hD.1, hD.2.1, hD.2.2.1, rfl, hD.2.2.2.2⟩
theorem Sim.found {K M : GS → Option (Int32 × GS)} {g : GS} (h : Rel g) (r c : Int32) (h1 : K g = some (r, g3 g 9 0 1 c)) (h2 : M (g3 g 9 0 1 c) = some (r, g3 (g3 (g3 g 9 0 1 c) 10 0 0 0) 10 0 1 c)) : Sim K M g :=
  ⟨r, _, _, h1, h2, h.1, h.2.1, h.2.2.1, rfl, h.2.2.2.2⟩
/-- the row that is watched -/
def wf (f : Nat → Int32) (p j i m : Nat) : Nat → Int32 := va_up (va_up (va_up (va_up f 0 (nI p)) 1 (nI (j + 1))) 2 (nI i)) 3 (nI m)
theorem X7_watch1 (N p j m : Nat) (hj : j < 8) (x : Int32) (g : GS) (l : g 1 j 0 = -1) : F_X7_watchRow N (nI p) (nI j) x (nI m) g = some (1, g) := by
  unfold F_X7_watchRow
  rw [ix_nI hj (by decide), bd1_s, X5_isMissing, if_pos l, bd2_s, if_neg (by decide)]
theorem X7_watch2 (N p j m z : Nat) (hj : j < 8) (hm : m < 2 ^ 29) (x : Int32) (g : GS) (l : ¬ g 1 j 0 = -1) (e : g 1 j 1 = nI z) (q : hpN x m z = 0) : F_X7_watchRow N (nI p) (nI j) x (nI m) g = some (2, g) := by
  unfold F_X7_watchRow
  rw [ix_nI hj (by decide), bd1_s, X5_isMissing, if_neg l, bd2_s, if_pos rfl, X5_places N j m z hm x g e, bd2_s, q, if_pos rfl]
theorem X7_watch3 (N p j i m z : Nat) (hj : j < 8) (hm : m < 2 ^ 29) (g : GS) (l : ¬ g 1 j 0 = -1) (e : g 1 j 1 = nI z) (q : hpN (nI i) m z = 1) : F_X7_watchRow N (nI p) (nI j) (nI i) (nI m) g = some (0, g2 g 5 0 (wf (g 5 0) p j i m)) := by
  unfold F_X7_watchRow F_X2_watch
  rw [ix_nI hj (by decide), bd1_s, X5_isMissing, if_neg l, bd2_s, if_pos rfl, X5_places N j m z hm (nI i) g e, bd2_s, q, if_neg (by decide), bd1_s, g3_g2 g, g3_5, g3_5, g3_5]
  rfl
theorem X8_row1 (N j m : Nat) (hj : j < 8) (x : Int32) (g : GS) (l : g 11 2 j < 0) : F_X8_rowFound N (nI j) x (nI m) g = some ((-1000010 : Int32) - 1, g3 g 10 0 1 1) := by
  unfold F_X8_rowFound F_X8_finding
  rw [ix_nI hj (by decide), bd1_s, if_neg (by rw [← i_nlt0]; exact fun q => q l), bd2_s]
theorem M_who (N : Nat) (hN : 2000 ≤ N) (g : GS) {v : Nat → Int32} (e5 : g 11 5 = v) (hv : VA 999 v) {kd : Nat} (hkd : kd < 5) {lo hi : Nat} (hhi : hi ≤ 99) {p j i m : Nat} (hp : p < nP v) (hj : j < 8) (him : i + m ≤ 40) (it : Nat → Int32) (hit : ∀ k, k < m → g 11 4 (40 * j + i + k) = it k) (z6 : Int32) (hU : ∀ y, lo ≤ y → y ≤ hi → VA 999 (va_up v (11 + 7 * p + fd kd) (nI y))) : ∀ (n y : Nat) (B : Int32) (ris u : Nat → Int32), (kd < 2 → B = bitsF (fitC (fun y => va_up v (11 + 7 * p + fd kd) (nI y)) it p m lo) y) → lo ≤ y → y ≤ hi + 1 → hi + 1 < y + n → ∃ B' ris' u', L_X8_who_104 N (nI p) (nI kd) (nI j) (nI i) (nI m) z6 (nI hi) n B (nI (cntF (fitC (fun y => va_up v (11 + 7 * p + fd kd) (nI y)) it p m lo) y)) (ans (fstF (fitC (fun y => va_up v (11 + 7 * p + fd kd) (nI y)) it p m lo) y)) (ans (lstF (fitC (fun y => va_up v (11 + 7 * p + fd kd) (nI y)) it p m lo) y)) (nI y) (T7 g ris u) = some (B', nI (cntF (fitC (fun y => va_up v (11 + 7 * p + fd kd) (nI y)) it p m lo) (hi + 1)), ans (fstF (fitC (fun y => va_up v (11 + 7 * p + fd kd) (nI y)) it p m lo) (hi + 1)), ans (lstF (fitC (fun y => va_up v (11 + 7 * p + fd kd) (nI y)) it p m lo) (hi + 1)), nI (hi + 1), T7 g ris' u') ∧ (kd < 2 → B' = bitsF (fitC (fun y => va_up v (11 + 7 * p + fd kd) (nI y)) it p m lo) (hi + 1)) := by
  have hP := hv.2.1
  have hp6 : p < 6 := by omega
  generalize hc : fitC (fun y => va_up v (11 + 7 * p + fd kd) (nI y)) it p m lo = c
  intro n
  induction n with
  | zero => intro y B ris u _ _ h1 h2; omega
  | succ n ih =>
    intro y B ris u hB hl h1 h2
    rw [L_X8_who_104]
    by_cases h : y = hi + 1
    · subst h
      rw [if_pos (nI_lt (by omega) (by omega))]
      exact ⟨B, ris, u, rfl, hB⟩
    · rw [if_neg (nI_nlt (by omega) (by omega)), nI_1 y]
      obtain ⟨r1, u1, e1, k1⟩ := then_lay N hN g ris u
      rw [e5] at k1
      have hV := hU y hl (by omega)
      have eP : nP (va_up v (11 + 7 * p + fd kd) (nI y)) = nP v := nP_eq (up_ne _ _ (by omega))
      obtain ⟨r2, u2, e2⟩ := X8_isSo N hN g hV (p := p) (by rw [eP]; exact hp) (40 * j + i) m it (by omega) (by omega) hit r1 (va_up u1 (11 + 7 * p + fd kd) (nI y)) (e53_up k1 _ rfl)
      have ec : c y = aF (va_up v (11 + 7 * p + fd kd) (nI y)) it p m := by rw [← hc]; unfold fitC; rw [decide_eq_true hl, Bool.true_and]
      rw [← ec] at e2
      have ea : (40 : Int32) * nI j + nI i = nI (40 * j + i) := by rw [show (40 : Int32) = nI 40 from rfl, pk_mul, nI_add]
      have hcl := cntF_le c y
      rw [e1, bd1_s, ea]
      have key : ∀ B2 A1 A2 A3, (kd < 2 → B2 = bitsF c (y + 1)) → A1 = nI (cntF c (y + 1)) → A2 = ans (fstF c (y + 1)) → A3 = ans (lstF c (y + 1)) → ∃ B' ris' u', L_X8_who_104 N (nI p) (nI kd) (nI j) (nI i) (nI m) z6 (nI hi) n B2 A1 A2 A3 (nI (y + 1)) (T7 g r2 u2) = some (B', nI (cntF c (hi + 1)), ans (fstF c (hi + 1)), ans (lstF c (hi + 1)), nI (hi + 1), T7 g ris' u') ∧ (kd < 2 → B' = bitsF c (hi + 1)) := by
        rintro B2 A1 A2 A3 hb rfl rfl rfl
        exact ih (y + 1) B2 r2 u2 hb (by omega) (by omega) (by omega)
      have no : c y = false → ∃ B' ris' u', L_X8_who_104 N (nI p) (nI kd) (nI j) (nI i) (nI m) z6 (nI hi) n B (nI (cntF c y)) (ans (fstF c y)) (ans (lstF c y)) (nI (y + 1)) (T7 g r2 u2) = some (B', nI (cntF c (hi + 1)), ans (fstF c (hi + 1)), ans (lstF c (hi + 1)), nI (hi + 1), T7 g ris' u') ∧ (kd < 2 → B' = bitsF c (hi + 1)) := fun q => by
        have q' : ¬ c y = true := by rw [q]; decide
        refine key _ _ _ _ (fun z => by rw [bitsF, if_neg q']; exact hB z) (by rw [cntF, if_neg q']) ?_ (by rw [lstF, if_neg q'])
        rw [fstF, if_neg q']
        cases fstF c y <;> rfl
      have yes : c y = true → ∀ B2, (kd < 2 → B2 = B ||| ((1 : Int32) <<< (nI y &&& 31))) → ∃ B' ris' u', (if nI (cntF c y) = 0 then L_X8_who_104 N (nI p) (nI kd) (nI j) (nI i) (nI m) z6 (nI hi) n B2 (nI (cntF c y) + 1) (nI y) (nI y) (nI (y + 1)) (T7 g r2 u2) else L_X8_who_104 N (nI p) (nI kd) (nI j) (nI i) (nI m) z6 (nI hi) n B2 (nI (cntF c y) + 1) (ans (fstF c y)) (nI y) (nI (y + 1)) (T7 g r2 u2)) = some (B', nI (cntF c (hi + 1)), ans (fstF c (hi + 1)), ans (lstF c (hi + 1)), nI (hi + 1), T7 g ris' u') ∧ (kd < 2 → B' = bitsF c (hi + 1)) := fun q B2 hb => by
        have hb' : kd < 2 → B2 = bitsF c (y + 1) := fun z => by rw [bitsF, if_pos q, hb z, hB z]
        have h1 : nI (cntF c y) + 1 = nI (cntF c (y + 1)) := by rw [cntF, if_pos q, nI_1]
        have h3 : nI y = ans (lstF c (y + 1)) := by rw [lstF, if_pos q]; rfl
        by_cases z : cntF c y = 0
        · rw [if_pos (by rw [z]; rfl)]
          refine key _ _ _ _ hb' h1 ?_ h3
          rw [fstF, (cnt_fst c y).mp z]
          dsimp only
          rw [if_pos q]
          rfl
        · rw [if_neg (nI_ne0 (by omega) (by omega))]
          refine key _ _ _ _ hb' h1 ?_ h3
          rw [fstF]
          cases ef : fstF c y with
          | none => exact absurd ((cnt_fst c y).mpr ef) z
          | some k => rfl
      rcases (show kd = 0 ∨ kd = 1 ∨ 2 ≤ kd by omega) with rfl | rfl | h2k
      · rw [if_pos (show nI 0 = 0 from rfl), X8_be0 N 7 p hp6 rfl, bd1_s, g3_g2, T7_7, T7_u]
        rw [show F_X8_isSo N (nI p) (nI (40 * j + i)) (nI m) (T7 g r1 (va_up u1 (11 + 7 * p + 0) (nI y))) = _ from e2, bd2_s]
        by_cases q : c y = true
        · rw [q, b01_t, if_neg (by decide), if_neg (show ¬ (2 : Int32) ≤ nI 0 by decide)]
          exact yes q _ (fun _ => rfl)
        · have q := Bool.eq_false_iff.mpr q
          rw [q, b01_f, if_pos rfl]
          exact no q
      · rw [if_neg (show ¬ nI 1 = 0 by decide), if_pos (show nI 1 = 1 from rfl), X8_be1 N 7 p hp6 rfl, bd1_s, g3_g2, T7_7, T7_u]
        rw [show F_X8_isSo N (nI p) (nI (40 * j + i)) (nI m) (T7 g r1 (va_up u1 (11 + 7 * p + 1) (nI y))) = _ from e2, bd2_s]
        by_cases q : c y = true
        · rw [q, b01_t, if_neg (by decide), if_neg (show ¬ (2 : Int32) ≤ nI 1 by decide)]
          exact yes q _ (fun _ => rfl)
        · have q := Bool.eq_false_iff.mpr q
          rw [q, b01_f, if_pos rfl]
          exact no q
      · have efd : fd kd = 2 := by unfold fd; rw [if_neg (by omega), if_neg (by omega)]
        rw [efd] at e2
        rw [if_neg (nI_ne0 (by omega) (by omega)), if_neg (show ¬ nI kd = 1 from fun q => by have := (nI_eq (b := 1) (by omega) (by decide)).mp q; omega), X8_be2 N 7 p hp6 rfl, bd1_s, g3_g2, T7_7, T7_u, e2, bd2_s]
        by_cases q : c y = true
        · rw [q, b01_t, if_neg (by decide), if_pos (show (2 : Int32) ≤ nI kd from nI_le (a := 2) h2k (by omega))]
          exact yes q _ (fun z => by omega)
        · have q := Bool.eq_false_iff.mpr q
          rw [q, b01_f, if_pos rfl]
          exact no q
theorem M_winds (N : Nat) (hN : 2000 ≤ N) (g : GS) {v : Nat → Int32} (e5 : g 11 5 = v) (hv : VA 999 v) {w : Nat} (hw : w < nW v) {p j i m : Nat} (hp : p < nP v) (hj : j < 8) (him : i + m ≤ 40) (it : Nat → Int32) (hit : ∀ k, k < m → g 11 4 (40 * j + i + k) = it k) (z6 : Int32) : ∀ (n y : Nat) (ris u : Nat → Int32), y ≤ 10 → 10 < y + n → ∃ ris' u', L_X8_winds_68 N (nI p) (nI w) (nI j) (nI i) (nI m) z6 n (bitsF (fitC (fun y => va_up v (5 + w) (nI y)) it p m 0) y) (nI y) (T7 g ris u) = some (bitsF (fitC (fun y => va_up v (5 + w) (nI y)) it p m 0) 10, nI 10, T7 g ris' u') := by
  have hP := hv.2.1
  have hW := hv.2.2.2.1
  have hp6 : p < 6 := by omega
  generalize hc : fitC (fun y => va_up v (5 + w) (nI y)) it p m 0 = c
  intro n
  induction n with
  | zero => intro y ris u h1 h2; omega
  | succ n ih =>
    intro y ris u h1 h2
    rw [L_X8_winds_68]
    by_cases h : y = 10
    · subst h
      rw [if_pos (by decide)]
      exact ⟨ris, u, rfl⟩
    · rw [if_neg (show ¬ (10 : Int32) ≤ nI y from nI_ge (b := 10) (by omega) (by omega)), nI_1 y]
      obtain ⟨r1, u1, e1, k1⟩ := then_lay N hN g ris u
      rw [e5] at k1
      have hV := VA_wind hv hw (n := y) (by omega)
      have eP : nP (va_up v (5 + w) (nI y)) = nP v := nP_eq (up_ne _ _ (by omega))
      obtain ⟨r2, u2, e2⟩ := X8_isSo N hN g hV (p := p) (by rw [eP]; exact hp) (40 * j + i) m it (by omega) (by omega) hit r1 (va_up u1 (5 + w) (nI y)) (e53_up k1 _ rfl)
      have ec : c y = aF (va_up v (5 + w) (nI y)) it p m := by rw [← hc]; unfold fitC; rw [decide_eq_true (Nat.zero_le y), Bool.true_and]
      rw [← ec] at e2
      have ea : (40 : Int32) * nI j + nI i = nI (40 * j + i) := by rw [show (40 : Int32) = nI 40 from rfl, pk_mul, nI_add]
      have ew : (5 : Int32) + nI w = nI (5 + w) := by rw [show (5 : Int32) = nI 5 from rfl, nI_add]
      rw [e1, bd1_s, ea, ew, ix_nI (by omega) (by decide), bd1_s, g3_g2, T7_7, T7_u, e2, bd2_s]
      have ih' := ih (y + 1) r2 u2 (by omega) (by omega)
      by_cases q : c y = true
      · rw [q, b01_t, if_neg (by decide)]
        rw [bitsF, if_pos q] at ih'
        exact ih'
      · rw [bitsF, if_neg q] at ih'
        have q := Bool.eq_false_iff.mpr q
        rw [q, b01_f, if_pos rfl, or0]
        exact ih'
def orA (o : Option Nat) (b : Int32) : Int32 := match o with
  | some k => nI k
  | none => b
/-- the reference tries from the strongest down -/
theorem M_tapes (N : Nat) (hN : 2000 ≤ N) (g : GS) {v : Nat → Int32} (e5 : g 11 5 = v) (hv : VA 999 v) {p j i m : Nat} (hp : p < nP v) (hj : j < 8) (him : i + m ≤ 40) (it : Nat → Int32) (hit : ∀ k, k < m → g 11 4 (40 * j + i + k) = it k) (z2 z6 : Int32) : ∀ (n y a : Nat) (b : Int32) (ris u : Nat → Int32), y ≤ 99 → y < n → ∃ ris' u', L_X8_tapes_65 N (nI p) z2 (nI j) (nI i) (nI m) z6 n (nI a) b (nI y) (T7 g ris u) = some (nI (a + cntF (fitC (fun y => va_up v 3 (nI y)) it p m 1) (y + 1)), orA (fstF (fitC (fun y => va_up v 3 (nI y)) it p m 1) (y + 1)) b, nI 0, T7 g ris' u') := by
  have hP := hv.2.1
  have hp6 : p < 6 := by omega
  have c0 : fitC (fun y => va_up v 3 (nI y)) it p m 1 0 = false := by unfold fitC; rfl
  have hcc : ∀ y, 1 ≤ y → fitC (fun y => va_up v 3 (nI y)) it p m 1 y = aF (va_up v 3 (nI y)) it p m := fun y hy => by unfold fitC; rw [decide_eq_true hy, Bool.true_and]
  generalize fitC (fun y => va_up v 3 (nI y)) it p m 1 = c at c0 hcc
  intro n
  induction n with
  | zero => intro y a b ris u h1 h2; omega
  | succ n ih =>
    intro y a b ris u h1 h2
    rw [L_X8_tapes_65]
    match y, h1, h2 with
    | 0, _, _ =>
      rw [if_pos (by decide)]
      refine ⟨ris, u, ?_⟩
      have q' : ¬ c 0 = true := by rw [c0]; decide
      rw [cntF, if_neg q', fstF, if_neg q']
      rfl
    | y + 1, h1, h2 =>
      rw [if_neg (nI_nle (by omega) (by omega))]
      obtain ⟨r1, u1, e1, k1⟩ := then_lay N hN g ris u
      rw [e5] at k1
      have hV := VA_strong hv (n := y + 1) (by omega) (by omega)
      have eP : nP (va_up v 3 (nI (y + 1))) = nP v := nP_eq (up_ne _ _ (by omega))
      obtain ⟨r2, u2, e2⟩ := X8_isSo N hN g hV (p := p) (by rw [eP]; exact hp) (40 * j + i) m it (by omega) (by omega) hit r1 (va_up u1 3 (nI (y + 1))) (e53_up k1 _ rfl)
      rw [← hcc (y + 1) (by omega)] at e2
      have ea : (40 : Int32) * nI j + nI i = nI (40 * j + i) := by rw [show (40 : Int32) = nI 40 from rfl, pk_mul, nI_add]
      rw [e1, bd1_s, ea, show ix (3 : Int32) 53 = some 3 from by decide, bd1_s, g3_g2, T7_7, T7_u, e2, bd2_s, pk_m1, nI_1]
      by_cases q : c (y + 1) = true
      · rw [q, b01_t, if_neg (by decide)]
        obtain ⟨r3, u3, e3⟩ := ih y (a + 1) (nI (y + 1)) r2 u2 (by omega) (by omega)
        refine ⟨r3, u3, e3.trans ?_⟩
        rw [cntF.eq_2 c (y + 1), if_pos q, fstF.eq_2 c (y + 1), if_pos q, show a + 1 + cntF c (y + 1) = a + (cntF c (y + 1) + 1) by omega]
        cases fstF c (y + 1) <;> rfl
      · have q := Bool.eq_false_iff.mpr q
        have q' : ¬ c (y + 1) = true := by rw [q]; decide
        rw [q, b01_f, if_pos rfl]
        obtain ⟨r3, u3, e3⟩ := ih y a b r2 u2 (by omega) (by omega)
        refine ⟨r3, u3, e3.trans ?_⟩
        rw [cntF.eq_2 c (y + 1), if_neg q', fstF.eq_2 c (y + 1), if_neg q']
        cases fstF c (y + 1) <;> rfl
