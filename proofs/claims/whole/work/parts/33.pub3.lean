/-! ===== what is done ===== -/
/-- the class has changed nothing but ROOFS (no image) and its ring -/
def KF (g k : GS) : Prop := (∀ c, c ≠ 0 → c ≠ 6 → c ≠ 12 → c ≠ 13 → k c = g c) ∧ ∀ j, 26 ≤ j → k 0 j = g 0 j ∧ k 12 j = g 12 j ∧ k 13 j = g 13 j
/-- the reference has changed nothing but its ROOF, what lies beside, and its stack -/
def MF (g k : GS) : Prop := (∀ c, c ≠ 10 → c ≠ 11 → k c = g c) ∧ (∀ b, b ≠ 5 → b ≠ 7 → b ≠ 8 → b ≠ 9 → k 11 b = g 11 b) ∧ ∀ i, i ≠ 0 → i ≠ 10 → k 10 0 i = g 10 0 i
theorem KF.rf (g : GS) : KF g g := ⟨fun _ _ _ _ _ => rfl, fun _ _ => ⟨rfl, rfl, rfl⟩⟩
theorem KF.tr {a b c : GS} (h : KF a b) (h2 : KF b c) : KF a c := ⟨fun x h0 h6 h12 h13 => (h2.1 x h0 h6 h12 h13).trans (h.1 x h0 h6 h12 h13), fun j hj => ⟨(h2.2 j hj).1.trans (h.2 j hj).1, (h2.2 j hj).2.1.trans (h.2 j hj).2.1, (h2.2 j hj).2.2.trans (h.2 j hj).2.2⟩⟩
theorem KF.ro (g : GS) {c : Nat} (hc : c = 0 ∨ c = 12 ∨ c = 13) {j : Nat} (hj : j < 26) (f : Nat → Int32) : KF g (g2 g c j f) := by
  refine ⟨fun x h0 h6 h12 h13 => g2_kind _ _ _ (by omega), fun i hi => ?_⟩
  have hne : i ≠ j := by omega
  rcases hc with rfl | rfl | rfl
  · exact ⟨g2_row _ _ _ hne, by rw [g2_kind _ _ _ (by decide)], by rw [g2_kind _ _ _ (by decide)]⟩
  · exact ⟨by rw [g2_kind _ _ _ (by decide)], g2_row _ _ _ hne, by rw [g2_kind _ _ _ (by decide)]⟩
  · exact ⟨by rw [g2_kind _ _ _ (by decide)], by rw [g2_kind _ _ _ (by decide)], g2_row _ _ _ hne⟩
theorem KF.ac (g : GS) (j : Nat) (f : Nat → Int32) : KF g (g2 g 6 j f) := by
  refine ⟨fun x h0 h6 h12 h13 => g2_kind _ _ _ h6, fun i hi => ⟨by rw [g2_kind _ _ _ (by decide)], by rw [g2_kind _ _ _ (by decide)], by rw [g2_kind _ _ _ (by decide)]⟩⟩
theorem KF.kp (g : GS) {n : Nat} (hn : n < 24) (a sc fo pa : Nat → Int32) : KF g (KP g n a sc fo pa) :=
  (((KF.ro g (Or.inl rfl) (by omega) sc).tr (KF.ro _ (Or.inr (Or.inl rfl)) (by omega) fo)).tr (KF.ro _ (Or.inr (Or.inr rfl)) (by omega) pa)).tr (KF.ac _ 0 a)
theorem MF.rf (g : GS) : MF g g := ⟨fun _ _ _ => rfl, fun _ _ _ _ _ => rfl, fun _ _ _ => rfl⟩
theorem MF.tr {a b c : GS} (h : MF a b) (h2 : MF b c) : MF a c := ⟨fun x p q => (h2.1 x p q).trans (h.1 x p q), fun x p q r s => (h2.2.1 x p q r s).trans (h.2.1 x p q r s), fun i p q => (h2.2.2 i p q).trans (h.2.2 i p q)⟩
theorem MF.ar (g : GS) {b : Nat} (hb : b = 5 ∨ b = 7 ∨ b = 8 ∨ b = 9) (f : Nat → Int32) : MF g (g2 g 11 b f) :=
  ⟨fun x _ q => g2_kind _ _ _ q, fun x p q r s => g2_row _ _ _ (by omega), fun i _ _ => by rw [g2_kind _ _ _ (by decide)]⟩
theorem MF.sc (g : GS) {i : Nat} (hi : i = 0 ∨ i = 10) (v : Int32) : MF g (g3 g 10 0 i v) := by
  refine ⟨fun x p _ => g2_kind _ _ _ p, fun x _ _ _ _ => by rw [g3_g2, g2_kind _ _ _ (by decide)], fun j p q => ?_⟩
  rw [g3_g2, g2_same, up_ne _ _ (by omega)]
theorem MF.mk (g : GS) (w : Nat → Int32) (c : Int32) : MF g (MK g w c) := (MF.ar g (Or.inr (Or.inr (Or.inr rfl))) w).tr (MF.sc (g2 g 11 9 w) (Or.inr rfl) c)
theorem Rel_act {g k m : GS} (h : Rel g) (hK : KF g k) (hM : MF k m) (hV : RV 999 (m 0 0) (m 12 0) (m 13 0) (m 11 5)) (hA : RA (m 6 0) (m 0) (m 12) (m 13) (m 10 0 10) (m 11 9)) (hW : nP (m 11 5) = 0 → nW (m 11 5) = 0) : Rel m := by
  obtain ⟨a, b, c, d, -, -, i, j, y, -⟩ := h
  have kk : ∀ c, c ≠ 0 → c ≠ 6 → c ≠ 12 → c ≠ 13 → c ≠ 10 → c ≠ 11 → m c = g c := fun c p q r s t u => (hM.1 c t u).trans (hK.1 c p q r s)
  have mm : ∀ b, b ≠ 5 → b ≠ 7 → b ≠ 8 → b ≠ 9 → m 11 b = g 11 b := fun b p q r s => by rw [hM.2.1 b p q r s, hK.1 11 (by decide) (by decide) (by decide) (by decide)]
  have m0 : ∀ i, i ≠ 0 → i ≠ 10 → m 10 0 i = g 10 0 i := fun i p q => by rw [hM.2.2 i p q, hK.1 10 (by decide) (by decide) (by decide) (by decide)]
  refine ⟨?_, ?_, ?_, ?_, hV, hA, ?_, ?_, ?_, hW⟩
  · rw [kk 1 (by decide) (by decide) (by decide) (by decide) (by decide) (by decide), kk 2 (by decide) (by decide) (by decide) (by decide) (by decide) (by decide), mm 2 (by decide) (by decide) (by decide) (by decide), mm 3 (by decide) (by decide) (by decide) (by decide), mm 4 (by decide) (by decide) (by decide) (by decide)]; exact a
  · rw [kk 3 (by decide) (by decide) (by decide) (by decide) (by decide) (by decide), kk 4 (by decide) (by decide) (by decide) (by decide) (by decide) (by decide), m0 12 (by decide) (by decide), mm 11 (by decide) (by decide) (by decide) (by decide)]; exact b
  · rw [m0 19 (by decide) (by decide), kk 9 (by decide) (by decide) (by decide) (by decide) (by decide) (by decide)]; exact c
  · rw [m0 1 (by decide) (by decide), kk 9 (by decide) (by decide) (by decide) (by decide) (by decide) (by decide)]; exact d
  · rw [mm 21 (by decide) (by decide) (by decide) (by decide), mm 22 (by decide) (by decide) (by decide) (by decide)]
    refine RI_cong i (fun j hj => ?_) (fun j hj => ?_) (fun j hj => ?_)
    · rw [hM.1 0 (by decide) (by decide)]; exact (hK.2 j hj).1
    · rw [hM.1 12 (by decide) (by decide)]; exact (hK.2 j hj).2.1
    · rw [hM.1 13 (by decide) (by decide)]; exact (hK.2 j hj).2.2
  · rw [kk 7 (by decide) (by decide) (by decide) (by decide) (by decide) (by decide), kk 8 (by decide) (by decide) (by decide) (by decide) (by decide) (by decide), m0 24 (by decide) (by decide), mm 23 (by decide) (by decide) (by decide) (by decide)]; exact j
  · rw [mm 20 (by decide) (by decide) (by decide) (by decide)]; exact y
/-- an ACT: what the class and the reference then tell is the same row v', the same rows l -/
theorem Sim.act {K M : GS → Option (Int32 × GS)} {g : GS} (h : Rel g) (r : Int32) (v' : Nat → Int32) (l : List (Nat → Int32)) (hv : VA 999 v') (hp0 : 0 < nP v') (hl : ∀ u ∈ l, VA 999 u ∧ 0 < nP u)
    (h1 : ∃ k, K g = some (r, k) ∧ KF g k ∧ RK (k 0 0) (k 12 0) (k 13 0) v' ∧ KA (k 6 0) (k 0) (k 12) (k 13) l)
    (h2 : ∀ k : GS, k 11 = g 11 → k 10 = g 10 → ∃ m, M k = some (r, m) ∧ MF k m ∧ m 11 5 = v' ∧ MA (m 10 0 10) (m 11 9) l) : Sim K M g := by
  obtain ⟨k, e1, hK, k1, k2⟩ := h1
  obtain ⟨m, e2, hM, m1, m2⟩ := h2 k (hK.1 11 (by decide) (by decide) (by decide) (by decide)) (hK.1 10 (by decide) (by decide) (by decide) (by decide))
  refine ⟨r, k, m, e1, e2, Rel_act h hK hM ?_ ?_ (by rw [m1]; omega)⟩
  · rw [hM.1 0 (by decide) (by decide), hM.1 12 (by decide) (by decide), hM.1 13 (by decide) (by decide), m1]
    exact ⟨hv, k1⟩
  · rw [hM.1 0 (by decide) (by decide), hM.1 12 (by decide) (by decide), hM.1 13 (by decide) (by decide), hM.1 6 (by decide) (by decide)]
    exact ⟨l, k2, m2, hl⟩
theorem KA_cong {a : Nat → Int32} {k0 k12 k13 l0 l12 l13 : Nat → Nat → Int32} {l : List (Nat → Int32)} (h : KA a k0 k12 k13 l) (e0 : ∀ j, 2 ≤ j → l0 j = k0 j) (e12 : ∀ j, 2 ≤ j → l12 j = k12 j) (e13 : ∀ j, 2 ≤ j → l13 j = k13 j) : KA a l0 l12 l13 l := by
  obtain ⟨n, h1, h2, h3, h4, h5⟩ := h
  refine ⟨n, h1, h2, h3, h4, fun i v hi => ?_⟩
  rw [e0 _ (by omega), e12 _ (by omega), e13 _ (by omega)]
  exact h5 i v hi
/-- the class keeps its ROOF: it stays what it is, the rows have one more -/
theorem K_keep (N : Nat) (hN : 2000 ≤ N) (g : GS) {B : Nat} {v : Nat → Int32} (hv : VA B v) (hk : RK (g 0 0) (g 12 0) (g 13 0) v) {l : List (Nat → Int32)} (hA : KA (g 6 0) (g 0) (g 12) (g 13) l) : ∃ k, F_X0_keep N 0 g = some k ∧ KF g k ∧ k 0 0 = g 0 0 ∧ k 12 0 = g 12 0 ∧ k 13 0 = g 13 0 ∧ KA (k 6 0) (k 0) (k 12) (k 13) (push l v) := by
  obtain ⟨n, a, sc, fo, pa, hn, e, hA'⟩ := X0_keep N hN g hv hk hA
  have h0 : (0 : Nat) ≠ 2 + n := by omega
  exact ⟨_, e, KF.kp g hn a sc fo pa, up_ne _ _ h0, up_ne _ _ h0, up_ne _ _ h0, hA'⟩
theorem M_keep (N : Nat) (hN : 2000 ≤ N) (g : GS) {l : List (Nat → Int32)} (hl : l.length ≤ 24) (hA : MA (g 10 0 10) (g 11 9) l) : ∃ m, F_X8_keep N g = some m ∧ MF g m ∧ m 11 5 = g 11 5 ∧ MA (m 10 0 10) (m 11 9) (push l (g 11 5)) := by
  obtain ⟨w, c, e, hA'⟩ := X8_keep N hN g hl hA
  exact ⟨_, e, MF.mk g w c, rfl, hA'⟩
/-- one field of a PAPER of the class is another -/
theorem K_field {g : GS} {v : Nat → Int32} (hk : RK (g 0 0) (g 12 0) (g 13 0) v) (hW : nW v ≤ 6) {j f : Nat} (hj : j < nP v) (hf : f < 6) (h3 : f ≠ 3) (x : Int32) : RK ((g3 g 13 0 (7 * j + f) x) 0 0) ((g3 g 13 0 (7 * j + f) x) 12 0) ((g3 g 13 0 (7 * j + f) x) 13 0) (va_up v (11 + 7 * j + f) x) := by
  show RK (g 0 0) (g 12 0) (va_up (g 13 0) (7 * j + f) x) (va_up v (11 + 7 * j + f) x)
  refine RK_up hk hW (i := j) (fun k hk => ?_) (fun k hk => ?_) (fun k h11 hk => ?_) (fun f2 hf2 => ?_) ?_
  · rw [up_ne _ _ (by omega)]
  · rw [up_ne _ _ (by omega)]
  · rw [up_ne _ _ (by omega)]
  · by_cases q : f2 = f
    · subst q; rw [up_same, up_same]
    · rw [up_ne _ _ (by omega), up_ne _ _ (by omega)]; exact RK_f hk hj hf2
  · rw [up_ne _ _ (by omega), up_ne _ _ (by omega), up_ne _ _ (by omega)]; exact (hk.2.2.2.2.2 j hj).2
theorem KA_p13 {g : GS} {l : List (Nat → Int32)} (h : KA (g 6 0) (g 0) (g 12) (g 13) l) (k : Nat) (x : Int32) : KA ((g3 g 13 0 k x) 6 0) ((g3 g 13 0 k x) 0) ((g3 g 13 0 k x) 12) ((g3 g 13 0 k x) 13) l :=
  KA_cong h (fun _ _ => rfl) (fun _ _ => rfl) (fun j hj => by show va_up (g 13) 0 _ j = _; rw [up_ne _ _ (by omega)])
theorem KF_p13 (g : GS) (k : Nat) (x : Int32) : KF g (g3 g 13 0 k x) := KF.ro g (Or.inr (Or.inr rfl)) (by decide) _
theorem VA_up {B : Nat} {v : Nat → Int32} (h : VA B v) {j : Nat} (hj : j < nP v) {u : Nat → Int32} (lo : ∀ k, k < 11 + 7 * j ∨ 11 + 7 * j + 7 ≤ k → u k = v k) (hp : VP (fun f => u (11 + 7 * j + f))) : VA B u := by
  refine VA_papers h (fun k hk => lo k (by omega)) (fun i hi => ?_)
  by_cases q : i = j
  · subst q; exact hp
  · exact VP_cong (VA_paper h hi) (fun f hf => lo _ (by omega))
theorem p_weigh (N : Nat) (hN : 2000 ≤ N) (x y : Int32) (g : GS) (h : Rel g) : Sim (F_X7_weigh N x y) (F_X8_weigh N x y) g := by
  obtain ⟨hv, hk⟩ := h.2.2.2.2.1
  have hP := hv.2.1
  have h4 : g 0 0 4 = nI (nP (g 11 5)) := hk.1.trans hv.1
  have h0 : (g3 g 10 0 0 0) 11 5 0 = nI (nP (g 11 5)) := hv.1
  rcases hp_cases x (P := nP (g 11 5)) (by omega) with w | ⟨w, j, hj, rfl⟩
  · exact Sim.read h (-1000001) (by unfold F_X7_weigh; rw [X4_hasPaper N 0 _ x g h4, bd2_s, w, if_pos rfl]) (by unfold F_X8_weigh; rw [X8_isPaper N _ hP x _ h0, bd2_s, w, if_pos rfl])
  have hj6 : j < 6 := by omega
  rcases wi_cases y 1 60 with ⟨u, -⟩ | ⟨u, u1, u2⟩
  · exact Sim.read h (-1000001) (by unfold F_X7_weigh; rw [X4_hasPaper N 0 _ _ g h4, bd2_s, w, if_neg (by decide), X7_within, bd2_s, u, if_pos rfl]) (by unfold F_X8_weigh; rw [X8_isPaper N _ hP _ _ h0, bd2_s, w, if_neg (by decide), X8_inL N y 1 60 (by decide) (by decide), bd2_s, u, if_pos rfl])
  obtain ⟨l, hKA, hMA, hVl⟩ := h.2.2.2.2.2.1
  have hll : l.length ≤ 24 := by obtain ⟨_, _, _, _, q, _⟩ := hKA; exact q
  have hy : ∃ n : Nat, 1 ≤ n ∧ n ≤ 60 ∧ y = nI n := by
    rw [i_lt] at u1 u2
    have a : (1 : Int32).toInt = 1 := by decide
    have b : (60 : Int32).toInt = 60 := by decide
    exact ⟨y.toInt.toNat, by omega, by omega, nI_ofI (by omega)⟩
  refine Sim.act h (pf (g 11 5) j 2) (va_up (g 11 5) (11 + 7 * j + 2) y) (push l (g 11 5)) ?_ (by rw [nP_eq (up_ne _ _ (by omega))]; omega) (push_all hVl ⟨hv, by omega⟩) ?_ ?_
  · refine VA_up hv hj (fun k hk => up_ne _ _ (by omega)) ?_
    obtain ⟨q0, q1, q2, q3, q4, q5⟩ := VA_paper hv hj
    exact ⟨by simpa [va_up] using q0, by simpa [va_up] using q1, by simpa [va_up] using hy, by simpa [va_up] using q3, by simpa [va_up] using q4, by simpa [va_up] using q5⟩
  · obtain ⟨k, e, kf, k0, k12, k13, ka⟩ := K_keep N hN g hv hk hKA
    have hk' : RK (k 0 0) (k 12 0) (k 13 0) (g 11 5) := by rw [k0, k12, k13]; exact hk
    refine ⟨g3 k 13 0 (7 * j + 2) y, ?_, kf.tr (KF_p13 k _ y), K_field hk' hv.2.2.2.1 hj (by decide) (by decide) y, KA_p13 ka _ y⟩
    unfold F_X7_weigh
    rw [X4_hasPaper N 0 _ _ g h4, bd2_s, w, if_neg (by decide), X7_within, bd2_s, u, if_neg (by decide), e, bd1_s, ix_nI hj6 (by decide), bd1_s, RK_f hk' hj (by decide)]
  · intro k e11 e10
    obtain ⟨m, e, mf, m5, ma⟩ := M_keep N hN (g3 k 10 0 0 0) hll (l := l) (by show MA (k 10 0 10) (k 11 9) l; rw [e10, e11]; exact hMA)
    have m5 : m 11 5 = g 11 5 := by rw [m5]; show k 11 5 = _; rw [e11]
    have e5 : (g3 k 10 0 0 0) 11 5 = g 11 5 := by show k 11 5 = _; rw [e11]
    refine ⟨g3 m 11 5 (11 + 7 * j + 2) y, ?_, ((MF.sc k (Or.inl rfl) 0).tr mf).tr (MF.ar m (Or.inl rfl) _), ?_, ?_⟩
    · unfold F_X8_weigh
      rw [X8_isPaper N _ hP _ (g3 k 10 0 0 0) (by rw [e5]; exact hv.1), bd2_s, w, if_neg (by decide), X8_inL N _ 1 60 (by decide) (by decide), bd2_s, u, if_neg (by decide), e, bd1_s, X8_of2 N 5 j hj6 rfl, bd2_s, X8_be2 N 5 j hj6 rfl, bd1_s, m5]
    · show va_up (m 11 5) _ y = _
      rw [m5]
    · rw [e5] at ma; exact ma

theorem X4_hasWind (N r W : Nat) (x : Int32) (g : GS) (h0 : g 0 r 3 = nI W) : F_X4_hasWind N r x g = some (hp x W, g) := by
  unfold F_X4_hasWind hp
  rw [h0]
  split
  · rfl
  · split <;> rfl

theorem p_blow (N : Nat) (hN : 2000 ≤ N) (x y : Int32) (g : GS) (h : Rel g) : Sim (F_X7_blow N x y) (F_X8_blow N x y) g := by
  obtain ⟨hv, hk⟩ := h.2.2.2.2.1
  have hP := hv.2.1
  have h4 : g 0 0 4 = nI (nP (g 11 5)) := hk.1.trans hv.1
  have h0 : (g3 g 10 0 0 0) 11 5 0 = nI (nP (g 11 5)) := hv.1
  have hW := hv.2.2.2.1
  have h3 : g 0 0 3 = nI (nW (g 11 5)) := hk.2.1.trans hv.2.2.1
  have h1 : ∀ k : GS, k 11 = g 11 → k 11 5 1 = nI (nW (g 11 5)) := fun k e => by rw [e]; exact hv.2.2.1
  rcases hp_cases x (P := nW (g 11 5)) (by omega) with w | ⟨w, j, hj, rfl⟩
  · exact Sim.read h (-1000001) (by unfold F_X7_blow; rw [X4_hasWind N 0 _ x g h3, bd2_s, w, if_pos rfl]) (by unfold F_X8_blow; rw [show ix (1 : Int32) 53 = some 1 from by decide, bd1_s, h1 g rfl, X8_inL N x 0 (nI (nW (g 11 5)) - 1) (by decide) rfl, bd2_s, wi_pred x (by omega), w, if_pos rfl])
  rcases wi_cases y 0 9 with ⟨u, -⟩ | ⟨u, u1, u2⟩
  · exact Sim.read h (-1000001) (by unfold F_X7_blow; rw [X4_hasWind N 0 _ _ g h3, bd2_s, w, if_neg (by decide), X7_within, bd2_s, u, if_pos rfl]) (by unfold F_X8_blow; rw [show ix (1 : Int32) 53 = some 1 from by decide, bd1_s, h1 g rfl, X8_inL N _ 0 (nI (nW (g 11 5)) - 1) (by decide) rfl, bd2_s, wi_pred _ (by omega), w, if_neg (by decide), X8_inL N y 0 9 (by decide) (by decide), bd2_s, u, if_pos rfl])
  obtain ⟨n, hn, rfl⟩ := wi_nI (n := 9) (by decide) u1 u2
  have hj6 : j < 6 := by omega
  obtain ⟨l, hKA, hMA, hVl⟩ := h.2.2.2.2.2.1
  have hll : l.length ≤ 24 := by obtain ⟨_, _, _, _, q, _⟩ := hKA; exact q
  have hp0 : 0 < nP (g 11 5) := by
    rcases Nat.eq_zero_or_pos (nP (g 11 5)) with z | z
    · have := h.2.2.2.2.2.2.2.2.2 z; omega
    · exact z
  have lo : ∀ k, k ≠ 5 + j → va_up (g 11 5) (5 + j) (nI n) k = g 11 5 k := fun k hk => up_ne _ _ hk
  have eP : nP (va_up (g 11 5) (5 + j) (nI n)) = nP (g 11 5) := nP_eq (lo 0 (by omega))
  have eW : nW (va_up (g 11 5) (5 + j) (nI n)) = nW (g 11 5) := nW_eq (lo 1 (by omega))
  have eH : nH (va_up (g 11 5) (5 + j) (nI n)) = nH (g 11 5) := nH_eq (lo 4 (by omega))
  refine Sim.act h (g 11 5 (5 + j)) (va_up (g 11 5) (5 + j) (nI n)) (push l (g 11 5)) ?_ (by rw [eP]; exact hp0) (push_all hVl ⟨hv, hp0⟩) ?_ ?_
  · obtain ⟨a0, a1, a2, a3, a4, a5, a6, a7, a8⟩ := hv
    refine ⟨by rw [lo 0 (by omega), eP]; exact a0, by rw [eP]; exact a1, by rw [lo 1 (by omega), eW]; exact a2, by rw [eW]; exact a3, by rw [lo 4 (by omega), eH]; exact a4, by rw [eH]; exact a5, by rw [eP, lo 2 (by omega), lo 3 (by omega)]; exact a6, ?_, ?_⟩
    · rw [eW]
      intro k hk
      by_cases q : k = j
      · subst q; rw [up_same]; exact ⟨n, by omega, rfl⟩
      · rw [lo _ (by omega)]; exact a7 k hk
    · rw [eP]
      intro i hi
      exact VP_cong (a8 i hi) (fun f hf => lo _ (by omega))
  · obtain ⟨k, e, kf, k0, k12, k13, ka⟩ := K_keep N hN g hv hk hKA
    refine ⟨g3 k 12 0 j (nI n), ?_, kf.tr (KF.ro k (Or.inr (Or.inl rfl)) (by decide) _), ?_, ?_⟩
    · unfold F_X7_blow
      rw [X4_hasWind N 0 _ _ g h3, bd2_s, w, if_neg (by decide), X7_within, bd2_s, u, if_neg (by decide), e, bd1_s, ix_nI hj6 (by decide), bd1_s, k12, hk.2.2.2.2.1 j hj]
    · show RK (k 0 0) (va_up (k 12 0) j (nI n)) (k 13 0) _
      rw [k0, k12, k13]
      obtain ⟨b0, b1, b2, b3, b4, b5⟩ := hk
      refine ⟨by rw [lo 0 (by omega)]; exact b0, by rw [lo 1 (by omega)]; exact b1, by rw [lo 4 (by omega)]; exact b2, by rw [eP, lo 2 (by omega), lo 3 (by omega)]; exact b3, ?_, ?_⟩
      · rw [eW]
        intro i hi
        by_cases q : i = j
        · subst q; rw [up_same, up_same]
        · rw [up_ne _ _ q, lo _ (by omega)]; exact b4 i hi
      · rw [eP]
        intro i hi
        obtain ⟨c1, c2⟩ := b5 i hi
        exact ⟨fun f hf => by rw [lo _ (by omega)]; exact c1 f hf, by rw [lo _ (by omega), lo _ (by omega)]; exact c2⟩
    · exact KA_cong ka (fun _ _ => rfl) (fun i hi => by show va_up (k 12) 0 _ i = _; rw [up_ne _ _ (by omega)]) (fun _ _ => rfl)
  · intro k e11 e10
    obtain ⟨m, e, mf, m5, ma⟩ := M_keep N hN (g3 k 10 0 0 0) hll (l := l) (by show MA (k 10 0 10) (k 11 9) l; rw [e10, e11]; exact hMA)
    have e5 : (g3 k 10 0 0 0) 11 5 = g 11 5 := by show k 11 5 = _; rw [e11]
    rw [e5] at m5 ma
    refine ⟨g3 m 11 5 (5 + j) (nI n), ?_, ((MF.sc k (Or.inl rfl) 0).tr mf).tr (MF.ar m (Or.inl rfl) _), ?_, ma⟩
    · unfold F_X8_blow
      rw [show ix (1 : Int32) 53 = some 1 from by decide, bd1_s, h1 k e11, X8_inL N _ 0 (nI (nW (g 11 5)) - 1) (by decide) rfl, bd2_s, wi_pred _ (by omega), w, if_neg (by decide), X8_inL N _ 0 9 (by decide) (by decide), bd2_s, u, if_neg (by decide), e, bd1_s, show (5 : Int32) = nI 5 from rfl, nI_add, ix_nI (by omega) (by decide), bd1_s, m5]
    · show va_up (m 11 5) _ _ = _
      rw [m5]

/-- sent up with m OUT -/
def aSend (v : Nat → Int32) (j : Nat) (m : Int32) : Nat → Int32 := va_up (va_up (va_up v (11 + 7 * j + 3) 1) (11 + 7 * j + 4) 0) (11 + 7 * j + 5) m
theorem aSend_lo (v : Nat → Int32) (j : Nat) (m : Int32) {k : Nat} (h : k < 11 + 7 * j ∨ 11 + 7 * j + 7 ≤ k) : aSend v j m k = v k := by
  unfold aSend
  rw [up_ne _ _ (by omega), up_ne _ _ (by omega), up_ne _ _ (by omega)]
theorem VA_send {B : Nat} {v : Nat → Int32} (h : VA B v) {j : Nat} (hj : j < nP v) {n : Nat} (h1 : 1 ≤ n) (h2 : n ≤ 40) : VA B (aSend v j (nI n)) := by
  refine VA_up h hj (fun k hk => aSend_lo v j _ hk) ?_
  obtain ⟨q0, q1, q2, -, -, -⟩ := VA_paper h hj
  unfold aSend
  refine ⟨by simpa [va_up] using q0, by simpa [va_up] using q1, by simpa [va_up] using q2, by simp [va_up], ?_, by simp [va_up]⟩
  exact ⟨n, 0, by omega, h2, by simp [va_up]; rfl, by simp [va_up], fun _ => h1, fun z => absurd (by simp [va_up]) z⟩
theorem X3_rise (N r j : Nat) (x : Int32) (g : GS) (pa : Nat → Int32) : F_X3_rise N r j x (g2 g 13 r pa) = some (g2 g 13 r (va_up (va_up (va_up (va_up pa (7 * j + 3) 1) (7 * j + 4) 0) (7 * j + 5) x) (7 * j + 6) (-1000000))) := by
  unfold F_X3_rise
  rw [g3_13, g3_13, g3_13, g3_13]
theorem RK_send {sc fo pa v : Nat → Int32} (hk : RK sc fo pa v) (hW : nW v ≤ 6) {j : Nat} (hj : j < nP v) (x : Int32) : RK sc fo (va_up (va_up (va_up (va_up pa (7 * j + 3) 1) (7 * j + 4) 0) (7 * j + 5) x) (7 * j + 6) (-1000000)) (aSend v j x) := by
  refine RK_up hk hW (i := j) (fun k hk => aSend_lo v j x (by omega)) (fun k hk => ?_) (fun k h11 hk => aSend_lo v j x hk) (fun f hf => ?_) ?_
  · rw [up_ne _ _ (by omega), up_ne _ _ (by omega), up_ne _ _ (by omega), up_ne _ _ (by omega)]
  · unfold aSend
    rcases (show f = 0 ∨ f = 1 ∨ f = 2 ∨ f = 3 ∨ f = 4 ∨ f = 5 by omega) with rfl | rfl | rfl | rfl | rfl | rfl
    · simpa [va_up, pf] using RK_f (f := 0) hk hj (by decide)
    · simpa [va_up] using RK_f (f := 1) hk hj (by decide)
    · simpa [va_up] using RK_f (f := 2) hk hj (by decide)
    · simp [va_up]
    · simp [va_up]
    · simp [va_up]
  · unfold aSend
    simp [va_up]
theorem X8_goesUp (N b j : Nat) (hb : lenM b = 53) (hj : j < 6) (x : Int32) (g : GS) (u : Nat → Int32) : F_X8_goesUp N b (nI j) x (g2 g 11 b u) = some (g2 g 11 b (aSend u j x)) := by
  unfold F_X8_goesUp
  rw [X8_be3 N b j hj hb, bd1_s, X8_be4 N b j hj hb, bd1_s, X8_be5 N b j hj hb, bd1_s, g3_11, g3_11, g3_11]
  rfl

theorem p_send (N : Nat) (hN : 2000 ≤ N) (x y : Int32) (g : GS) (h : Rel g) : Sim (F_X7_send N x y) (F_X8_send N x y) g := by
  obtain ⟨hv, hk⟩ := h.2.2.2.2.1
  have hP := hv.2.1
  have h4 : g 0 0 4 = nI (nP (g 11 5)) := hk.1.trans hv.1
  have h0 : (g3 g 10 0 0 0) 11 5 0 = nI (nP (g 11 5)) := hv.1
  rcases hp_cases x (P := nP (g 11 5)) (by omega) with w | ⟨w, j, hj, rfl⟩
  · exact Sim.read h (-1000001) (by unfold F_X7_send; rw [X4_hasPaper N 0 _ x g h4, bd2_s, w, if_pos rfl]) (by unfold F_X8_send; rw [X8_isPaper N _ hP x _ h0, bd2_s, w, if_pos rfl])
  have hj6 : j < 6 := by omega
  rcases wi_cases y 1 40 with ⟨u, -⟩ | ⟨u, u1, u2⟩
  · exact Sim.read h (-1000001) (by unfold F_X7_send; rw [X4_hasPaper N 0 _ _ g h4, bd2_s, w, if_neg (by decide), X7_within, bd2_s, u, if_pos rfl]) (by unfold F_X8_send; rw [X8_isPaper N _ hP _ _ h0, bd2_s, w, if_neg (by decide), X8_inL N y 1 40 (by decide) (by decide), bd2_s, u, if_pos rfl])
  obtain ⟨n, hn1, hn2, rfl⟩ : ∃ n : Nat, 1 ≤ n ∧ n ≤ 40 ∧ y = nI n := by
    rw [i_lt] at u1 u2
    have a : (1 : Int32).toInt = 1 := by decide
    have b : (40 : Int32).toInt = 40 := by decide
    exact ⟨y.toInt.toNat, by omega, by omega, nI_ofI (by omega)⟩
  have f3 : g 13 0 (7 * j + 3) = pf (g 11 5) j 3 := RK_f hk hj (by decide)
  by_cases ht : pf (g 11 5) j 3 = 0
  case neg =>
    exact Sim.read h (-1000002) (by unfold F_X7_send; rw [X4_hasPaper N 0 _ _ g h4, bd2_s, w, if_neg (by decide), X7_within, bd2_s, u, if_neg (by decide), ix_nI hj6 (by decide), bd1_s, f3, if_neg ht]) (by unfold F_X8_send; rw [X8_isPaper N _ hP _ _ h0, bd2_s, w, if_neg (by decide), X8_inL N _ 1 40 (by decide) (by decide), bd2_s, u, if_neg (by decide), X8_of3 N 5 j hj6 rfl, bd2_s, if_neg (show ¬ pf ((g3 g 10 0 0 0) 11 5) j 3 = 0 from ht)])
  obtain ⟨l, hKA, hMA, hVl⟩ := h.2.2.2.2.2.1
  have hll : l.length ≤ 24 := by obtain ⟨_, _, _, _, q, _⟩ := hKA; exact q
  have hV := VA_send hv hj hn1 hn2
  have eP : nP (aSend (g 11 5) j (nI n)) = nP (g 11 5) := nP_eq (aSend_lo _ _ _ (by omega))
  refine Sim.act h (bitsF (fun p => decide (pf (aSend (g 11 5) j (nI n)) p 3 = 1)) (nP (aSend (g 11 5) j (nI n)))) (aSend (g 11 5) j (nI n)) (push l (g 11 5)) hV (by rw [eP]; omega) (push_all hVl ⟨hv, by omega⟩) ?_ ?_
  · obtain ⟨k, e, kf, k0, k12, k13, ka⟩ := K_keep N hN g hv hk hKA
    have hk' : RK (k 0 0) (k 12 0) (k 13 0) (g 11 5) := by rw [k0, k12, k13]; exact hk
    have er := X3_rise N 0 j (nI n) k (k 13 0)
    rw [g2_self] at er
    obtain ⟨pa', er, kr⟩ : ∃ pa', F_X3_rise N 0 j (nI n) k = some (g2 k 13 0 pa') ∧ RK (k 0 0) (k 12 0) pa' (aSend (g 11 5) j (nI n)) := ⟨_, er, RK_send hk' hv.2.2.2.1 hj (nI n)⟩
    refine ⟨g2 k 13 0 pa', ?_, kf.tr (KF.ro k (Or.inr (Or.inr rfl)) (by decide) _), kr, KA_cong ka (fun _ _ => rfl) (fun _ _ => rfl) (fun i hi => g2_row k 13 pa' (by omega))⟩
    unfold F_X7_send
    rw [X4_hasPaper N 0 _ _ g h4, bd2_s, w, if_neg (by decide), X7_within, bd2_s, u, if_neg (by decide), ix_nI hj6 (by decide), bd1_s, f3, if_pos ht, e, bd1_s, er, bd1_s, X4_bitsOf N 0 hN 1 (g2 k 13 0 pa') hV kr, bd2_s]
  · intro k e11 e10
    obtain ⟨m, e, mf, m5, ma⟩ := M_keep N hN (g3 k 10 0 0 0) hll (l := l) (by show MA (k 10 0 10) (k 11 9) l; rw [e10, e11]; exact hMA)
    have e5 : (g3 k 10 0 0 0) 11 5 = g 11 5 := by show k 11 5 = _; rw [e11]
    rw [e5] at m5 ma
    have eu := X8_goesUp N 5 j rfl hj6 (nI n) m (m 11 5)
    rw [g2_self, m5] at eu
    refine ⟨_, ?_, ((MF.sc k (Or.inl rfl) 0).tr mf).tr (MF.ar m (Or.inl rfl) _), g2_same _ _ _ _, ma⟩
    unfold F_X8_send
    rw [X8_isPaper N _ hP _ (g3 k 10 0 0 0) (by rw [e5]; exact hv.1), bd2_s, w, if_neg (by decide), X8_inL N _ 1 40 (by decide) (by decide), bd2_s, u, if_neg (by decide), X8_of3 N 5 j hj6 rfl, bd2_s, e5, if_pos ht, e, bd1_s, eu, bd1_s, X8_those N 5 (nP (aSend (g 11 5) j (nI n))) hN 1 rfl hV.2.1 _ (by rw [g2_same]; exact hV.1), bd2_s, g2_same]

