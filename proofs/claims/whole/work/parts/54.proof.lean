/-! ===== roof ===== -/
def finM (N : Nat) (g : GS) : Option (Int32 × GS) := bd2 (F_X8_failed N g) (fun rv66 gv65 => if rv66 = 0 then bd2 (L_X8_roof_142 N N (0 : Int32) (g3 gv65 10 0 10 (0 : Int32))) (fun xv68 gv69 => bd1 (ix (0 : Int32) 53) (fun jv71 => some ((gv69 11 5 jv71), gv69))) else some (((-1000100 : Int32) - (gv65 10 0 18)), gv65))
def papM (N : Nat) (x : Int32) (g : GS) : Option (Int32 × GS) := bd2 (F_X8_isSort N g) (fun rv38 gv37 => if rv38 = 0 then bd1 (F_X8_bad N (1 : Int32) gv37) (fun gv61 => bd1 (L_X8_roof_106 N x N gv61) (finM N)) else bd1 (L_X8_roof_106 N x N gv37) (finM N))
def tailM (N : Nat) (x : Int32) (g : GS) : Option (Int32 × GS) := bd1 (L_X8_roof_78 N x N g) (papM N x)
theorem roof_is (N : Nat) (g : GS) : F_X8_roof N g = bd1 (F_X8_begin N (g3 g 10 0 0 0)) (fun gv2 => bd2 (L_X8_roof_11 N N 0 gv2) (fun x gv7 => lawC N gv7 (tailM N x))) := rfl
theorem fin_ft (N : Nat) (h : GS) (u : Nat → Int32) {n q : Nat} {r0 r : Nat → Int32} (f : FT n q r0 r) : finM N (MZ h u r) = some ((-1000100 : Int32) - nI q, MZ h u (va_up (va_up r 12 0) 19 (nI n))) := by
  have hp : ¬ r 17 ≤ 0 := by
    rw [f.2.1]
    rcases f.1 with e | e | e <;> rw [e] <;> decide
  unfold finM F_X8_failed
  rw [MZ_10, if_neg f.ne, if_neg hp, if_neg hp, bd2_s, if_neg (by decide), MZ_g, MZ_g, MZ_10, up_ne _ _ (by decide), up_ne _ _ (by decide), f.2.2.1, f.2.1]
theorem fin_mi (N : Nat) (hN : 2000 ≤ N) (h : GS) (u : Nat → Int32) {z : Nat} {B : Nat → Int32} {q : Nat} {r0 r : Nat → Int32} (i : MI z B q r0 r) : (z ≤ q → finM N (MZ h u r) = some (u 0, g2 (MZ h u (va_up (va_up (va_up r 12 0) 19 (r 19)) 10 0)) 11 5 (fun k => if 0 ≤ k ∧ k < 53 then u k else h 11 5 k))) ∧ (¬ z ≤ q → ∃ r', finM N (MZ h u r) = some ((-1000100 : Int32) - nI q, MZ h u (va_up (va_up r' 12 0) 19 (nI 1))) ∧ FT 1 q r0 r') := by
  obtain ⟨t1, -⟩ := i.2.2.2.2.1
  have h17 := i.2.2.2.1
  constructor
  · intro hz
    have b := L_roof142 N N 0 (MZ h u (va_up (va_up (va_up r 12 0) 19 (r 19)) 10 0)) (by omega) (by omega)
    rw [nI_0] at b
    unfold finM F_X8_failed
    rw [MZ_10, if_pos h17, if_pos (t1.mpr hz), if_pos (by rw [h17]; decide), if_pos (by rw [h17]; decide), bd2_s, if_pos rfl, MZ_g, MZ_g, MZ_g, b, bd2_s, show ix (0 : Int32) 53 = some 0 from by decide, bd1_s]
    rfl
  · intro hz
    obtain ⟨r', e, f⟩ := M_bad N h u i (n := 1) (Or.inl rfl)
    have hp : ¬ r' 17 ≤ 0 := by rw [f.2.1]; decide
    refine ⟨r', ?_, f⟩
    unfold finM F_X8_failed
    rw [MZ_10, if_pos h17, if_neg (fun t => hz (t1.mp t)), show F_X8_bad N 1 (MZ h u r) = _ from e, bd1_s, MZ_10, if_neg hp, if_neg hp, bd2_s, if_neg (by decide), MZ_g, MZ_g, MZ_10, up_ne _ _ (by decide), up_ne _ _ (by decide), f.2.2.1, f.2.1]
theorem pap_ft (N : Nat) (hN : 2000 ≤ N) (x : Int32) (h : GS) (u : Nat → Int32) {n q : Nat} {r0 r : Nat → Int32} (f : FT n q r0 r) : papM N x (MZ h u r) = finM N (MZ h u r) := by
  obtain ⟨m, rfl⟩ : ∃ m, N = m + 1 := ⟨N - 1, by omega⟩
  unfold papM
  rw [Z_sort (m + 1) h u r f.ne, bd2_s, if_pos rfl, Z_bad (m + 1) 1 h u r f.ne, bd1_s, Z_papers (m + 1) x m h u r f.ne, bd1_s]
theorem tail_ft (N : Nat) (hN : 2000 ≤ N) (x : Int32) (h : GS) (u : Nat → Int32) {n q : Nat} {r0 r : Nat → Int32} (f : FT n q r0 r) : tailM N x (MZ h u r) = finM N (MZ h u r) := by
  have e := pap_ft N hN x h u f
  obtain ⟨m, rfl⟩ : ∃ m, N = m + 1 := ⟨N - 1, by omega⟩
  unfold tailM
  rw [Z_wind (m + 1) x m h u r f.ne, bd1_s, e]
def row0 (g : GS) : Nat → Int32 := fun k => if 0 ≤ k ∧ k < 53 then 0 else g 11 6 k
def R0 (h : GS) : Nat → Int32 := va_up (va_up (va_up (h 10 0) 0 0) 13 0) 17 0
/-- what the reference does at first -/
theorem M_begin (N : Nat) (hN : 2000 ≤ N) (g h : GS) {z : Nat} {B : Nat → Int32} (hM : MB h z B) (e12 : h 10 0 12 = nI z) (e6 : h 11 6 = g 11 6) : ∃ r, MI z B 0 (R0 h) r ∧ F_X8_roof N h = lawC N (MZ h (row0 g) r) (tailM N (nI 53)) := by
  obtain ⟨h1, rfl⟩ := hM
  obtain ⟨r, e, i⟩ := X8_next N hN h (h 11 6) h1 0 (R0 h) (by simpa [R0, va_up] using e12) (by simp [R0, va_up]; rfl) (by simp [R0, va_up]) (by omega)
  refine ⟨r, i, ?_⟩
  have b := L_roof11 N h r N 0 (h 11 6) (by omega) (by omega)
  rw [nI_0] at b
  rw [roof_is]
  unfold F_X8_begin
  rw [MZ_self h 0 0, MZ_g, MZ_g, show F_X8_nextToken N (MZ h (h 11 6) (va_up (va_up (va_up (h 10 0) 0 0) 13 0) 17 0)) = _ from e, bd1_s, bd1_s, b, bd2_s, e6]
  rfl
theorem K_start (g : GS) : g3 (g3 (g3 (g3 (g3 g 3 0 1 (0 : Int32)) 3 0 2 (0 : Int32)) 0 1 2 (0 : Int32)) 0 1 3 (0 : Int32)) 0 1 4 (0 : Int32) = D1 (tp g 0 0) (va_up (va_up (va_up (g 0 1) 2 0) 3 0) 4 0) (g 12 1) (g 13 1) := by
  have e : g3 (g3 g 3 0 1 (0 : Int32)) 3 0 2 (0 : Int32) = tp g 0 0 := by
    unfold tp
    rw [g3_g2, g3_g2, g2_same, g2_g2]
    rfl
  rw [e]
  have s : D1 (tp g 0 0) (g 0 1) (g 12 1) (g 13 1) = tp g 0 0 := D1_self (tp g 0 0)
  rw [← s, D1_at0', D1_at0', D1_at0']
  rw [s]
theorem both_roof (N : Nat) (hN : 2000 ≤ N) (g : GS) {z : Nat} {B : Nat → Int32} (hK : KB g z B) :
    (∃ n q sc fo pa, F_X6_readInto N 1 g = some (0, D1 (tp g q (nI n)) sc fo pa) ∧ ∀ h : GS, MB h z B → h 10 0 12 = nI z → h 11 6 = g 11 6 → ∃ u r, F_X8_roof N h = some ((-1000100 : Int32) - nI q, MZ h u (va_up (va_up r 12 0) 19 (nI n))) ∧ FT n q (R0 h) r)
    ∨ (∃ j w q u sc fo pa, 1 ≤ j ∧ IV j w u ∧ KV j w sc fo pa u ∧ F_X6_readInto N 1 g = some (1, D1 (tp g q 0) sc fo pa) ∧ ∀ h : GS, MB h z B → h 10 0 12 = nI z → h 11 6 = g 11 6 → ∃ r, F_X8_roof N h = some (u 0, g2 (MZ h u (va_up (va_up (va_up r 12 0) 19 (r 19)) 10 0)) 11 5 (fun k => if 0 ≤ k ∧ k < 53 then u k else h 11 5 k)) ∧ ∀ i, i < 13 ∨ 18 < i → r i = R0 h i) := by
  have hend : ∀ q, B q = -1 ↔ z ≤ q := fun q => by
    obtain ⟨h1, -, rfl⟩ := hK
    exact BT_end h1 q
  have enx : ∀ q sc fo pa, q ≤ z → F_X6_next N (D1 (tp g q 0) sc fo pa) = some (B q, D1 (tp g q 0) sc fo pa) := fun q sc fo pa hq => by
    obtain ⟨h1, h2, rfl⟩ := hK
    exact K_next N g h1 h2 q (by have := h1.1; omega) 0 sc fo pa
  unfold F_X6_readInto
  rw [K_start]
  generalize hsc : va_up (va_up (va_up (g 0 1) 2 0) 3 0) 4 0 = sc0
  have s2 : sc0 2 = 0 := by rw [← hsc]; simp [va_up]
  have s3 : sc0 3 = 0 := by rw [← hsc]; simp [va_up]
  have s4 : sc0 4 = 0 := by rw [← hsc]; simp [va_up]
  rcases both_law N hN g hK sc0 (g 12 1) (g 13 1) with ⟨n, q, sc1, e1, m1⟩ | ⟨a, c, q, ha, hc, hq, e1, m1⟩
  · rw [e1, bd2_s, if_pos rfl]
    refine Or.inl ⟨n, q, sc1, _, _, rfl, fun h hM e12 e6 => ?_⟩
    obtain ⟨r, i, e⟩ := M_begin N hN g h hM e12 e6
    obtain ⟨u', r', k, f⟩ := m1 h (row0 g) (R0 h) r hM i
    exact ⟨u', r', by rw [e, k, tail_ft N hN _ h u' f, fin_ft N h u' f], f⟩
  rw [e1, bd2_s, if_neg (by decide)]
  have z0 : ∀ k, k < 53 → row0 g k = 0 := fun k hk => if_pos ⟨Nat.zero_le k, hk⟩
  have hI1 : IV 0 0 (va_up (va_up (row0 g) 2 a) 3 c) := by
    refine ⟨?_, by omega, ?_, by omega, ?_, ?_, ?_, fun k hk => by omega, fun k hk => by omega, fun k h1 h2 => ?_⟩
    · rw [up_ne _ _ (by omega), up_ne _ _ (by omega)]; exact z0 0 (by omega)
    · rw [up_ne _ _ (by omega), up_ne _ _ (by omega)]; exact z0 1 (by omega)
    · rw [up_ne _ _ (by omega), up_ne _ _ (by omega)]; exact z0 4 (by omega)
    · rw [up_ne _ _ (by omega), up_same]; exact ha
    · rw [up_same]; exact hc
    · rw [up_ne _ _ (by omega), up_ne _ _ (by omega)]; exact z0 k h2
  have hV1 : KV 0 0 (va_up (va_up sc0 0 a) 1 c) (g 12 1) (g 13 1) (va_up (va_up (row0 g) 2 a) 3 c) := by
    refine ⟨?_, ?_, ?_, ?_, ?_, fun k hk => by omega, fun k hk => by omega⟩
    · rw [up_ne _ _ (by omega), up_ne _ _ (by omega), up_ne _ _ (by omega), up_ne _ _ (by omega), z0 0 (by omega)]; exact s4
    · rw [up_ne _ _ (by omega), up_ne _ _ (by omega), up_ne _ _ (by omega), up_ne _ _ (by omega), z0 1 (by omega)]; exact s3
    · rw [up_ne _ _ (by omega), up_ne _ _ (by omega), up_ne _ _ (by omega), up_ne _ _ (by omega), z0 4 (by omega)]; exact s2
    · rw [up_ne _ _ (by omega), up_same, up_ne _ _ (by omega), up_same]
    · rw [up_same, up_same]
  unfold F_X6_readWinds
  rcases both_winds N hN g hK (g 13 1) (nI 53) 6 0 q N N _ _ _ (by omega) (by omega) (by omega) hq hI1 hV1 with ⟨n, q', sc2, fo2, e2, m2⟩ | ⟨w, q', x, u2, sc2, fo2, hq2, hI2, hV2, e2, m2⟩
  · rw [nI_0] at e2
    rw [e2, bs2_l, bd2_s, if_pos rfl]
    refine Or.inl ⟨n, q', sc2, _, _, rfl, fun h hM e12 e6 => ?_⟩
    obtain ⟨r, i, e⟩ := M_begin N hN g h hM e12 e6
    obtain ⟨r1, k1, i1⟩ := m1 h (row0 g) (R0 h) r hM i
    obtain ⟨u', r', k, f⟩ := m2 h (R0 h) r1 hM i1
    refine ⟨u', r', ?_, f⟩
    rw [e, k1]
    unfold tailM
    rw [k, bd1_s, pap_ft N hN _ h u' f, fin_ft N h u' f]
  rw [nI_0] at e2
  rw [e2, bs2_r, bd2_s, if_neg (by decide)]
  unfold F_X6_readPapers
  have M2 : ∀ h : GS, MB h z B → h 10 0 12 = nI z → h 11 6 = g 11 6 → ∃ r, MI z B q' (R0 h) r ∧ F_X8_roof N h = papM N (nI 53) (MZ h u2 r) := fun h hM e12 e6 => by
    obtain ⟨r, i, e⟩ := M_begin N hN g h hM e12 e6
    obtain ⟨r1, k1, i1⟩ := m1 h (row0 g) (R0 h) r hM i
    obtain ⟨r2, k2, i2⟩ := m2 h (R0 h) r1 hM i1
    refine ⟨r2, i2, ?_⟩
    rw [e, k1]
    unfold tailM
    rw [k2, bd1_s]
  by_cases b : srt (B q') = 0
  · have eL : L_X6_readPapers_2 N 1 N 0 (D1 (tp g q' 0) sc2 fo2 (g 13 1)) = some (.inr (0, D1 (tp g q' 0) sc2 fo2 (g 13 1))) := by
      obtain ⟨m, hm⟩ : ∃ m, N = m + 1 := ⟨N - 1, by omega⟩
      have : ∀ T, L_X6_readPapers_2 N 1 (m + 1) 0 (D1 (tp g q' 0) sc2 fo2 (g 13 1)) = T → L_X6_readPapers_2 N 1 N 0 (D1 (tp g q' 0) sc2 fo2 (g 13 1)) = T := fun T hT => by rw [← hT, ← hm]
      apply this
      rw [L_X6_readPapers_2, if_neg (by decide), enx q' _ _ _ hq2, bd2_s, X6_sortOf, bd2_s, if_pos b]
    have e4 : (D1 (tp g q' 0) sc2 fo2 (g 13 1)) 0 1 4 = 0 := hV2.1.trans hI2.1
    unfold F_X6_hasFault
    rw [eL, bs2_r, e4, if_neg (by decide), bd2_s, if_pos rfl, bd2_s, if_pos rfl, Dt_2]
    refine Or.inl ⟨1, q', sc2, _, _, rfl, fun h hM e12 e6 => ?_⟩
    obtain ⟨r, i, e⟩ := M2 h hM e12 e6
    obtain ⟨r', k, f⟩ := M_bad N h u2 i (n := 1) (Or.inl rfl)
    refine ⟨u2, r', ?_, f⟩
    rw [e]
    unfold papM
    rw [M_sort N h u2 i, bd2_s, decide_eq_true b, show b01 (!true) = 0 from rfl, if_pos rfl, show F_X8_bad N 1 (MZ h u2 r) = _ from k, bd1_s]
    obtain ⟨m, hm⟩ : ∃ m, N = m + 1 := ⟨N - 1, by omega⟩
    rw [show L_X8_roof_106 N (nI 53) N (MZ h u2 r') = some (MZ h u2 r') from by
      have := Z_papers N (nI 53) m h u2 r' f.ne
      rw [← hm] at this
      exact this, bd1_s, fin_ft N h u2 f]
  rcases both_papers N hN g hK fo2 w (nI 53) 6 0 q' N N u2 sc2 (g 13 1) (by omega) (by omega) (by omega) hq2 hI2 hV2 with ⟨n, q3, sc3, pa3, e3, m3⟩ | ⟨j, q3, x3, u3, sc3, pa3, hq3, -, hj, hI3, hV3, e3, m3⟩
  · rw [nI_0] at e3
    rw [e3, bs2_l, bd2_s, if_pos rfl]
    refine Or.inl ⟨n, q3, sc3, _, _, rfl, fun h hM e12 e6 => ?_⟩
    obtain ⟨r, i, e⟩ := M2 h hM e12 e6
    obtain ⟨u', r', k, f⟩ := m3 h (R0 h) r hM i
    refine ⟨u', r', ?_, f⟩
    rw [e]
    unfold papM
    rw [M_sort N h u2 i, bd2_s, decide_eq_false b, show b01 (!false) = 1 from rfl, if_neg (by decide), k, bd1_s, fin_ft N h u' f]
  have hj := hj b
  have e4 : (D1 (tp g q3 0) sc3 fo2 pa3) 0 1 4 = nI j := hV3.1.trans hI3.1
  have hj6 := hI3.2.1
  have M3 : ∀ h : GS, MB h z B → h 10 0 12 = nI z → h 11 6 = g 11 6 → ∃ r, MI z B q3 (R0 h) r ∧ F_X8_roof N h = finM N (MZ h u3 r) := fun h hM e12 e6 => by
    obtain ⟨r, i, e⟩ := M2 h hM e12 e6
    obtain ⟨r', k, i'⟩ := m3 h (R0 h) r hM i
    refine ⟨r', i', ?_⟩
    rw [e]
    unfold papM
    rw [M_sort N h u2 i, bd2_s, decide_eq_false b, show b01 (!false) = 1 from rfl, if_neg (by decide), k, bd1_s]
  rw [nI_0] at e3
  unfold F_X6_takeEnd
  rw [e3, bs2_r, e4, if_pos (show (0 : Int32) < nI j from nI_lt (a := 0) (by omega) (by omega)), bd2_s, if_neg (by decide), enx q3 _ _ _ hq3, bd2_s]
  by_cases t : z ≤ q3
  · rw [if_pos ((hend q3).mpr t), bd2_s, if_neg (by decide)]
    refine Or.inr ⟨j, w, q3, u3, sc3, fo2, pa3, by omega, hI3, hV3, rfl, fun h hM e12 e6 => ?_⟩
    obtain ⟨r, i, e⟩ := M3 h hM e12 e6
    exact ⟨r, by rw [e]; exact (fin_mi N hN h u3 i).1 t, i.2.2.2.2.2⟩
  · unfold F_X6_hasFault
    rw [if_neg (fun y => t ((hend q3).mp y)), bd2_s, if_pos rfl, bd2_s, if_pos rfl, Dt_2]
    refine Or.inl ⟨1, q3, sc3, _, _, rfl, fun h hM e12 e6 => ?_⟩
    obtain ⟨r, i, e⟩ := M3 h hM e12 e6
    obtain ⟨r', k, f⟩ := (fin_mi N hN h u3 i).2 t
    exact ⟨u3, r', by rw [e]; exact k, f⟩
theorem R0_i (h : GS) {i : Nat} (h0 : i ≠ 0) (hi : i < 13 ∨ 18 < i) : R0 h i = h 10 0 i := by
  unfold R0
  rw [up_ne _ _ (by omega), up_ne _ _ (by omega), up_ne _ _ h0]
theorem p_roof (N : Nat) (hN : 2000 ≤ N) (g : GS) (h : Rel g) : Sim (F_X7_roof N) (F_X8_roof N) g := by
  obtain ⟨z, hz, t0, t1, t2⟩ := h.2.1
  have ok4 : okB z (g 4 0) := ⟨hz, fun k hk => (t2 k hk).2⟩
  have ok11 : okB z (g 11 11) := ⟨hz, fun k hk => by rw [(t2 k hk).1]; exact (t2 k hk).2⟩
  have eB : BT z (g 11 11) = BT z (g 4 0) := by
    funext k
    unfold BT
    by_cases q : k < z
    · rw [if_pos q, if_pos q]; exact (t2 k (by omega)).1
    · rw [if_neg q, if_neg q]
  rcases both_roof N hN g (z := z) (B := BT z (g 4 0)) ⟨ok4, t0, rfl⟩ with ⟨n, q, sc, fo, pa, eK, eM⟩ | ⟨j, w, q, u, sc, fo, pa, hj, hI, hV, eK, eM⟩
  · obtain ⟨u, r, e, f⟩ := eM (g3 (g3 (D1 (tp g q (nI n)) sc fo pa) 3 0 0 0) 9 0 0 (nI n)) ⟨ok11, eB⟩ t1 rfl
    refine Sim.of ((-1000100 : Int32) - nI q) (g3 (g3 (D1 (tp g q (nI n)) sc fo pa) 3 0 0 0) 9 0 0 (nI n)) _ ?_ e ?_
    · unfold F_X7_roof
      rw [eK, bd2_s, if_pos rfl]
      rfl
    · have hD := Rel_D1 h sc fo pa
      have rr : ∀ i, i ≠ 0 → i ≠ 12 → i ≠ 19 → (i < 13 ∨ 18 < i) → va_up (va_up r 12 0) 19 (nI n) i = g 10 0 i := fun i a b c d => by
        rw [up_ne _ _ c, up_ne _ _ b, f.2.2.2 i d, R0_i _ a d]
        rfl
      refine ⟨hD.1, ⟨0, by omega, rfl, ?_, hD.2.1.choose_spec.2.2.2⟩, ?_, ?_, hD.2.2.2.2.1, ?_, hD.2.2.2.2.2.2.1, ?_, hD.2.2.2.2.2.2.2.2⟩
      · rfl
      · rfl
      · exact (rr 1 (by decide) (by decide) (by decide) (by decide)).trans h.2.2.2.1
      · show RA _ _ _ _ (va_up (va_up r 12 0) 19 (nI n) 10) _
        rw [rr 10 (by decide) (by decide) (by decide) (by decide)]
        exact hD.2.2.2.2.2.1
      · show RC _ _ (va_up (va_up r 12 0) 19 (nI n) 24) _
        rw [rr 24 (by decide) (by decide) (by decide) (by decide)]
        exact hD.2.2.2.2.2.2.2.1
  · obtain ⟨hVA, hP, hW⟩ := IV_VA hI
    have hRK := KV_RK hI hV
    obtain ⟨sc', fo', pa', eb, kb⟩ := X4_become N 0 1 hN (by decide) (g3 (D1 (tp g q 0) sc fo pa) 3 0 0 0) hVA hRK
    obtain ⟨r, e, f⟩ := eM (g3 (g2 (g2 (g2 (g3 (D1 (tp g q 0) sc fo pa) 3 0 0 0) 0 0 sc') 12 0 fo') 13 0 pa') 6 0 1 0) ⟨ok11, eB⟩ t1 rfl
    refine Sim.of (u 0) (g3 (g2 (g2 (g2 (g3 (D1 (tp g q 0) sc fo pa) 3 0 0 0) 0 0 sc') 12 0 fo') 13 0 pa') 6 0 1 0) _ ?_ e ?_
    · unfold F_X7_roof F_X0_forget
      rw [eK, bd2_s, if_neg (by decide), eb, bd1_s, bd1_s]
      exact congrArg (fun t => some (t, _)) kb.1
    · have hD := Rel_D1 h sc fo pa
      have rr : ∀ i, i ≠ 0 → (i < 13 ∨ 18 < i) → r i = g 10 0 i := fun i a d => by
        rw [f i d, R0_i _ a d]
        rfl
      have eq : ∀ k, k < 53 → (fun k => if 0 ≤ k ∧ k < 53 then u k else g 11 5 k) k = u k := fun k hk => if_pos ⟨Nat.zero_le k, hk⟩
      obtain ⟨l, ⟨n, hn, a0, -⟩, -⟩ := hD.2.2.2.2.2.1
      refine ⟨hD.1, ⟨0, by omega, rfl, rfl, hD.2.1.choose_spec.2.2.2⟩, ?_, ?_, ⟨VA_cong hVA eq, RK_cong kb hVA.2.1 hVA.2.2.2.1 eq⟩, ?_, ?_, ?_, hD.2.2.2.2.2.2.2.2.1, ?_⟩
      · exact (rr 19 (by decide) (by decide)).trans h.2.2.1
      · exact (rr 1 (by decide) (by decide)).trans h.2.2.2.1
      · exact ⟨[], ⟨n, hn, a0, rfl, by decide, fun i v hi => by simp at hi⟩, ⟨rfl, fun i v hi => by simp at hi⟩, fun v hv => by cases hv⟩
      · exact RI_cong hD.2.2.2.2.2.2.1 (fun i hi => up_ne _ _ (by omega)) (fun i hi => up_ne _ _ (by omega)) (fun i hi => up_ne _ _ (by omega))
      · show RC _ _ (r 24) _
        rw [rr 24 (by decide) (by decide)]
        exact hD.2.2.2.2.2.2.2.1
      · intro t
        have : nP (fun k => if 0 ≤ k ∧ k < 53 then u k else g 11 5 k) = 0 := t
        rw [nP_eq (v := u) (u := fun k => if 0 ≤ k ∧ k < 53 then u k else g 11 5 k) (eq 0 (by decide)), hP] at this
        omega
