/-! ===== what is done ===== -/
/-- the class has changed nothing but ROOFS (no image) and its ring -/
def KF (g k : GS) : Prop := (∀ c, c ≠ 0 → c ≠ 6 → c ≠ 12 → c ≠ 13 → k c = g c) ∧ ∀ j, 26 ≤ j → k 0 j = g 0 j ∧ k 12 j = g 12 j ∧ k 13 j = g 13 j
/-- the reference has changed nothing but its ROOF, what lies beside, and its stack -/
def MF (g k : GS) : Prop := (∀ c, c ≠ 10 → c ≠ 11 → k c = g c) ∧ (∀ b, b ≠ 5 → b ≠ 7 → b ≠ 8 → b ≠ 9 → k 11 b = g 11 b) ∧ ∀ i, i ≠ 0 → i ≠ 10 → k 10 0 i = g 10 0 i
theorem KF.rf (g : GS) : KF g g := ⟨fun _ _ _ _ _ => rfl, fun _ _ => ⟨rfl, rfl, rfl⟩⟩
theorem KF.tr {a b c : GS} (h : KF a b) (h2 : KF b c) : KF a c := ⟨fun x h0 h6 h12 h13 => (h2.1 x h0 h6 h12 h13).trans (h.1 x h0 h6 h12 h13), fun j hj => ⟨(h2.2 j hj).1.trans (h.2 j hj).1, (h2.2 j hj).2.1.trans (h.2 j hj).2.1, (h2.2 j hj).2.2.trans (h.2 j hj).2.2⟩⟩
theorem KF.ro (g : GS) {c : Nat} (hc : c = 0 ∨ c = 12 ∨ c = 13) {j : Nat} (hj : j < 26) (f : Nat → Int32) : KF g (g2 g c j f) := by
  refine ⟨fun x h0 h6 h12 h13 => g2_kind _ _ _ (by omega), fun i hi => ?_⟩
  have hne : i ≠ j := by omega
  rcases hc with rfl | rfl | rfl
  · exact ⟨g2_row _ _ _ hne, by rw [g2_kind _ _ _ (by decide)], by rw [g2_kind _ _ _ (by decide)]⟩
  · exact ⟨by rw [g2_kind _ _ _ (by decide)], g2_row _ _ _ hne, by rw [g2_kind _ _ _ (by decide)]⟩
  · exact ⟨by rw [g2_kind _ _ _ (by decide)], by rw [g2_kind _ _ _ (by decide)], g2_row _ _ _ hne⟩
theorem KF.ac (g : GS) (j : Nat) (f : Nat → Int32) : KF g (g2 g 6 j f) := by
  refine ⟨fun x h0 h6 h12 h13 => g2_kind _ _ _ h6, fun i hi => ⟨by rw [g2_kind _ _ _ (by decide)], by rw [g2_kind _ _ _ (by decide)], by rw [g2_kind _ _ _ (by decide)]⟩⟩
theorem KF.kp (g : GS) {n : Nat} (hn : n < 24) (a sc fo pa : Nat → Int32) : KF g (KP g n a sc fo pa) :=
  (((KF.ro g (Or.inl rfl) (by omega) sc).tr (KF.ro _ (Or.inr (Or.inl rfl)) (by omega) fo)).tr (KF.ro _ (Or.inr (Or.inr rfl)) (by omega) pa)).tr (KF.ac _ 0 a)
theorem MF.rf (g : GS) : MF g g := ⟨fun _ _ _ => rfl, fun _ _ _ _ _ => rfl, fun _ _ _ => rfl⟩
theorem MF.tr {a b c : GS} (h : MF a b) (h2 : MF b c) : MF a c := ⟨fun x p q => (h2.1 x p q).trans (h.1 x p q), fun x p q r s => (h2.2.1 x p q r s).trans (h.2.1 x p q r s), fun i p q => (h2.2.2 i p q).trans (h.2.2 i p q)⟩
theorem MF.ar (g : GS) {b : Nat} (hb : b = 5 ∨ b = 7 ∨ b = 8 ∨ b = 9) (f : Nat → Int32) : MF g (g2 g 11 b f) :=
  ⟨fun x _ q => g2_kind _ _ _ q, fun x p q r s => g2_row _ _ _ (by omega), fun i _ _ => by rw [g2_kind _ _ _ (by decide)]⟩
theorem MF.sc (g : GS) {i : Nat} (hi : i = 0 ∨ i = 10) (v : Int32) : MF g (g3 g 10 0 i v) := by
  refine ⟨fun x p _ => g2_kind _ _ _ p, fun x _ _ _ _ => by rw [g3_g2, g2_kind _ _ _ (by decide)], fun j p q => ?_⟩
  rw [g3_g2, g2_same, up_ne _ _ (by omega)]
theorem MF.mk (g : GS) (w : Nat → Int32) (c : Int32) : MF g (MK g w c) := (MF.ar g (Or.inr (Or.inr (Or.inr rfl))) w).tr (MF.sc (g2 g 11 9 w) (Or.inr rfl) c)
theorem Rel_act {g k m : GS} (h : Rel g) (hK : KF g k) (hM : MF k m) (hV : RV 999 (m 0 0) (m 12 0) (m 13 0) (m 11 5)) (hA : RA (m 6 0) (m 0) (m 12) (m 13) (m 10 0 10) (m 11 9)) : Rel m := by
  obtain ⟨a, b, c, d, -, -, i, j, y⟩ := h
  have kk : ∀ c, c ≠ 0 → c ≠ 6 → c ≠ 12 → c ≠ 13 → c ≠ 10 → c ≠ 11 → m c = g c := fun c p q r s t u => (hM.1 c t u).trans (hK.1 c p q r s)
  have mm : ∀ b, b ≠ 5 → b ≠ 7 → b ≠ 8 → b ≠ 9 → m 11 b = g 11 b := fun b p q r s => by rw [hM.2.1 b p q r s, hK.1 11 (by decide) (by decide) (by decide) (by decide)]
  have m0 : ∀ i, i ≠ 0 → i ≠ 10 → m 10 0 i = g 10 0 i := fun i p q => by rw [hM.2.2 i p q, hK.1 10 (by decide) (by decide) (by decide) (by decide)]
  refine ⟨?_, ?_, ?_, ?_, hV, hA, ?_, ?_, ?_⟩
  · rw [kk 1 (by decide) (by decide) (by decide) (by decide) (by decide) (by decide), kk 2 (by decide) (by decide) (by decide) (by decide) (by decide) (by decide), mm 2 (by decide) (by decide) (by decide) (by decide), mm 3 (by decide) (by decide) (by decide) (by decide), mm 4 (by decide) (by decide) (by decide) (by decide)]; exact a
  · rw [kk 3 (by decide) (by decide) (by decide) (by decide) (by decide) (by decide), kk 4 (by decide) (by decide) (by decide) (by decide) (by decide) (by decide), m0 12 (by decide) (by decide), mm 11 (by decide) (by decide) (by decide) (by decide)]; exact b
  · rw [m0 19 (by decide) (by decide), kk 9 (by decide) (by decide) (by decide) (by decide) (by decide) (by decide)]; exact c
  · rw [m0 1 (by decide) (by decide), kk 9 (by decide) (by decide) (by decide) (by decide) (by decide) (by decide)]; exact d
  · rw [mm 21 (by decide) (by decide) (by decide) (by decide), mm 22 (by decide) (by decide) (by decide) (by decide)]
    refine RI_cong i (fun j hj => ?_) (fun j hj => ?_) (fun j hj => ?_)
    · rw [hM.1 0 (by decide) (by decide)]; exact (hK.2 j hj).1
    · rw [hM.1 12 (by decide) (by decide)]; exact (hK.2 j hj).2.1
    · rw [hM.1 13 (by decide) (by decide)]; exact (hK.2 j hj).2.2
  · rw [kk 7 (by decide) (by decide) (by decide) (by decide) (by decide) (by decide), kk 8 (by decide) (by decide) (by decide) (by decide) (by decide) (by decide), m0 24 (by decide) (by decide), mm 23 (by decide) (by decide) (by decide) (by decide)]; exact j
  · rw [mm 20 (by decide) (by decide) (by decide) (by decide)]; exact y
/-- an ACT: what the class and the reference then tell is the same row v', the same rows l -/
theorem Sim.act {K M : GS → Option (Int32 × GS)} {g : GS} (h : Rel g) (r : Int32) (v' : Nat → Int32) (l : List (Nat → Int32)) (hv : VA 999 v') (hl : ∀ u ∈ l, VA 999 u ∧ 0 < nP u)
    (h1 : ∃ k, K g = some (r, k) ∧ KF g k ∧ RK (k 0 0) (k 12 0) (k 13 0) v' ∧ KA (k 6 0) (k 0) (k 12) (k 13) l)
    (h2 : ∀ k : GS, k 11 = g 11 → k 10 = g 10 → ∃ m, M k = some (r, m) ∧ MF k m ∧ m 11 5 = v' ∧ MA (m 10 0 10) (m 11 9) l) : Sim K M g := by
  obtain ⟨k, e1, hK, k1, k2⟩ := h1
  obtain ⟨m, e2, hM, m1, m2⟩ := h2 k (hK.1 11 (by decide) (by decide) (by decide) (by decide)) (hK.1 10 (by decide) (by decide) (by decide) (by decide))
  refine ⟨r, k, m, e1, e2, Rel_act h hK hM ?_ ?_⟩
  · rw [hM.1 0 (by decide) (by decide), hM.1 12 (by decide) (by decide), hM.1 13 (by decide) (by decide), m1]
    exact ⟨hv, k1⟩
  · rw [hM.1 0 (by decide) (by decide), hM.1 12 (by decide) (by decide), hM.1 13 (by decide) (by decide), hM.1 6 (by decide) (by decide)]
    exact ⟨l, k2, m2, hl⟩
theorem KA_cong {a : Nat → Int32} {k0 k12 k13 l0 l12 l13 : Nat → Nat → Int32} {l : List (Nat → Int32)} (h : KA a k0 k12 k13 l) (e0 : ∀ j, 2 ≤ j → l0 j = k0 j) (e12 : ∀ j, 2 ≤ j → l12 j = k12 j) (e13 : ∀ j, 2 ≤ j → l13 j = k13 j) : KA a l0 l12 l13 l := by
  obtain ⟨n, h1, h2, h3, h4, h5⟩ := h
  refine ⟨n, h1, h2, h3, h4, fun i v hi => ?_⟩
  rw [e0 _ (by omega), e12 _ (by omega), e13 _ (by omega)]
  exact h5 i v hi
/-- the class keeps its ROOF: it stays what it is, the rows have one more -/
theorem K_keep (N : Nat) (hN : 2000 ≤ N) (g : GS) {B : Nat} {v : Nat → Int32} (hv : VA B v) (hk : RK (g 0 0) (g 12 0) (g 13 0) v) {l : List (Nat → Int32)} (hA : KA (g 6 0) (g 0) (g 12) (g 13) l) : ∃ k, F_X0_keep N 0 g = some k ∧ KF g k ∧ k 0 0 = g 0 0 ∧ k 12 0 = g 12 0 ∧ k 13 0 = g 13 0 ∧ KA (k 6 0) (k 0) (k 12) (k 13) (push l v) := by
  obtain ⟨n, a, sc, fo, pa, hn, e, hA'⟩ := X0_keep N hN g hv hk hA
  have h0 : (0 : Nat) ≠ 2 + n := by omega
  exact ⟨_, e, KF.kp g hn a sc fo pa, up_ne _ _ h0, up_ne _ _ h0, up_ne _ _ h0, hA'⟩
theorem M_keep (N : Nat) (hN : 2000 ≤ N) (g : GS) {l : List (Nat → Int32)} (hl : l.length ≤ 24) (hA : MA (g 10 0 10) (g 11 9) l) : ∃ m, F_X8_keep N g = some m ∧ MF g m ∧ m 11 5 = g 11 5 ∧ MA (m 10 0 10) (m 11 9) (push l (g 11 5)) := by
  obtain ⟨w, c, e, hA'⟩ := X8_keep N hN g hl hA
  exact ⟨_, e, MF.mk g w c, rfl, hA'⟩
/-- one field of a PAPER of the class is another -/
theorem K_field {g : GS} {v : Nat → Int32} (hk : RK (g 0 0) (g 12 0) (g 13 0) v) (hW : nW v ≤ 6) {j f : Nat} (hj : j < nP v) (hf : f < 6) (h3 : f ≠ 3) (x : Int32) : RK ((g3 g 13 0 (7 * j + f) x) 0 0) ((g3 g 13 0 (7 * j + f) x) 12 0) ((g3 g 13 0 (7 * j + f) x) 13 0) (va_up v (11 + 7 * j + f) x) := by
  show RK (g 0 0) (g 12 0) (va_up (g 13 0) (7 * j + f) x) (va_up v (11 + 7 * j + f) x)
  refine RK_up hk hW (i := j) (fun k hk => ?_) (fun k hk => ?_) (fun k h11 hk => ?_) (fun f2 hf2 => ?_) ?_
  · rw [up_ne _ _ (by omega)]
  · rw [up_ne _ _ (by omega)]
  · rw [up_ne _ _ (by omega)]
  · by_cases q : f2 = f
    · subst q; rw [up_same, up_same]
    · rw [up_ne _ _ (by omega), up_ne _ _ (by omega)]; exact RK_f hk hj hf2
  · rw [up_ne _ _ (by omega), up_ne _ _ (by omega), up_ne _ _ (by omega)]; exact (hk.2.2.2.2.2 j hj).2
theorem KA_p13 {g : GS} {l : List (Nat → Int32)} (h : KA (g 6 0) (g 0) (g 12) (g 13) l) (k : Nat) (x : Int32) : KA ((g3 g 13 0 k x) 6 0) ((g3 g 13 0 k x) 0) ((g3 g 13 0 k x) 12) ((g3 g 13 0 k x) 13) l :=
  KA_cong h (fun _ _ => rfl) (fun _ _ => rfl) (fun j hj => by show va_up (g 13) 0 _ j = _; rw [up_ne _ _ (by omega)])
theorem KF_p13 (g : GS) (k : Nat) (x : Int32) : KF g (g3 g 13 0 k x) := KF.ro g (Or.inr (Or.inr rfl)) (by decide) _
theorem VA_up {B : Nat} {v : Nat → Int32} (h : VA B v) {j : Nat} (hj : j < nP v) {u : Nat → Int32} (lo : ∀ k, k < 11 + 7 * j ∨ 11 + 7 * j + 7 ≤ k → u k = v k) (hp : VP (fun f => u (11 + 7 * j + f))) : VA B u := by
  refine VA_papers h (fun k hk => lo k (by omega)) (fun i hi => ?_)
  by_cases q : i = j
  · subst q; exact hp
  · exact VP_cong (VA_paper h hi) (fun f hf => lo _ (by omega))
theorem p_weigh (N : Nat) (hN : 2000 ≤ N) (x y : Int32) (g : GS) (h : Rel g) : Sim (F_X7_weigh N x y) (F_X8_weigh N x y) g := by
  obtain ⟨hv, hk⟩ := h.2.2.2.2.1
  have hP := hv.2.1
  have h4 : g 0 0 4 = nI (nP (g 11 5)) := hk.1.trans hv.1
  have h0 : (g3 g 10 0 0 0) 11 5 0 = nI (nP (g 11 5)) := hv.1
  rcases hp_cases x (P := nP (g 11 5)) (by omega) with w | ⟨w, j, hj, rfl⟩
  · exact Sim.read h (-1000001) (by unfold F_X7_weigh; rw [X4_hasPaper N 0 _ x g h4, bd2_s, w, if_pos rfl]) (by unfold F_X8_weigh; rw [X8_isPaper N _ hP x _ h0, bd2_s, w, if_pos rfl])
  have hj6 : j < 6 := by omega
  rcases wi_cases y 1 60 with ⟨u, -⟩ | ⟨u, u1, u2⟩
  · exact Sim.read h (-1000001) (by unfold F_X7_weigh; rw [X4_hasPaper N 0 _ _ g h4, bd2_s, w, if_neg (by decide), X7_within, bd2_s, u, if_pos rfl]) (by unfold F_X8_weigh; rw [X8_isPaper N _ hP _ _ h0, bd2_s, w, if_neg (by decide), X8_inL N y 1 60 (by decide) (by decide), bd2_s, u, if_pos rfl])
  obtain ⟨l, hKA, hMA, hVl⟩ := h.2.2.2.2.2.1
  have hll : l.length ≤ 24 := by obtain ⟨_, _, _, _, q, _⟩ := hKA; exact q
  have hy : ∃ n : Nat, 1 ≤ n ∧ n ≤ 60 ∧ y = nI n := by
    rw [i_lt] at u1 u2
    have a : (1 : Int32).toInt = 1 := by decide
    have b : (60 : Int32).toInt = 60 := by decide
    exact ⟨y.toInt.toNat, by omega, by omega, nI_ofI (by omega)⟩
  refine Sim.act h (pf (g 11 5) j 2) (va_up (g 11 5) (11 + 7 * j + 2) y) (push l (g 11 5)) ?_ (push_all hVl ⟨hv, by omega⟩) ?_ ?_
  · refine VA_up hv hj (fun k hk => up_ne _ _ (by omega)) ?_
    obtain ⟨q0, q1, q2, q3, q4, q5⟩ := VA_paper hv hj
    exact ⟨by simpa [va_up] using q0, by simpa [va_up] using q1, by simpa [va_up] using hy, by simpa [va_up] using q3, by simpa [va_up] using q4, by simpa [va_up] using q5⟩
  · obtain ⟨k, e, kf, k0, k12, k13, ka⟩ := K_keep N hN g hv hk hKA
    have hk' : RK (k 0 0) (k 12 0) (k 13 0) (g 11 5) := by rw [k0, k12, k13]; exact hk
    refine ⟨g3 k 13 0 (7 * j + 2) y, ?_, kf.tr (KF_p13 k _ y), K_field hk' hv.2.2.2.1 hj (by decide) (by decide) y, KA_p13 ka _ y⟩
    unfold F_X7_weigh
    rw [X4_hasPaper N 0 _ _ g h4, bd2_s, w, if_neg (by decide), X7_within, bd2_s, u, if_neg (by decide), e, bd1_s, ix_nI hj6 (by decide), bd1_s, RK_f hk' hj (by decide)]
  · intro k e11 e10
    obtain ⟨m, e, mf, m5, ma⟩ := M_keep N hN (g3 k 10 0 0 0) hll (l := l) (by show MA (k 10 0 10) (k 11 9) l; rw [e10, e11]; exact hMA)
    have m5 : m 11 5 = g 11 5 := by rw [m5]; show k 11 5 = _; rw [e11]
    have e5 : (g3 k 10 0 0 0) 11 5 = g 11 5 := by show k 11 5 = _; rw [e11]
    refine ⟨g3 m 11 5 (11 + 7 * j + 2) y, ?_, ((MF.sc k (Or.inl rfl) 0).tr mf).tr (MF.ar m (Or.inl rfl) _), ?_, ?_⟩
    · unfold F_X8_weigh
      rw [X8_isPaper N _ hP _ (g3 k 10 0 0 0) (by rw [e5]; exact hv.1), bd2_s, w, if_neg (by decide), X8_inL N _ 1 60 (by decide) (by decide), bd2_s, u, if_neg (by decide), e, bd1_s, X8_of2 N 5 j hj6 rfl, bd2_s, X8_be2 N 5 j hj6 rfl, bd1_s, m5]
    · show va_up (m 11 5) _ y = _
      rw [m5]
    · rw [e5] at ma; exact ma

theorem X4_hasWind (N r W : Nat) (x : Int32) (g : GS) (h0 : g 0 r 3 = nI W) : F_X4_hasWind N r x g = some (hp x W, g) := by
  unfold F_X4_hasWind hp
  rw [h0]
  split
  · rfl
  · split <;> rfl

