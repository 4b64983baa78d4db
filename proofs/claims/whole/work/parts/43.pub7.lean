def loW (kd : Nat) : Nat := if kd = 1 then 0 else 1
def hiW (kd : Nat) : Nat := if kd = 0 then 5 else if kd = 1 then 9 else 60
def cW (v : Nat → Int32) (it : Nat → Int32) (p m kd : Nat) : Nat → Bool := fitC (fun y => va_up v (11 + 7 * p + fd kd) (nI y)) it p m (loW kd)
def resW (c : Nat → Bool) (kd : Nat) : Int32 := if kd < 2 then bitsF c (hiW kd + 1) else if kd = 2 then nI (cntF c (hiW kd + 1)) else if kd = 3 then ans (fstF c (hiW kd + 1)) else ans (lstF c (hiW kd + 1))
theorem VA_who {v : Nat → Int32} (hv : VA 999 v) {p kd : Nat} (hp : p < nP v) : ∀ y, loW kd ≤ y → y ≤ hiW kd → VA 999 (va_up v (11 + 7 * p + fd kd) (nI y)) := by
  intro y h1 h2
  unfold loW at h1
  unfold hiW at h2
  unfold fd
  by_cases q0 : kd = 0
  · rw [if_neg (by omega)] at h1
    rw [if_pos q0] at h2 ⊢
    exact VA_field0 hv hp h1 h2
  · rw [if_neg q0] at h2 ⊢
    by_cases q1 : kd = 1
    · rw [if_pos q1] at h2 ⊢
      exact VA_field1 hv hp h2
    · rw [if_neg q1] at h1 h2 ⊢
      exact VA_field2 hv hp h1 h2
theorem K_who (N : Nat) (hN : 2000 ≤ N) (g : GS) {v : Nat → Int32} (hv : VA 999 v) (hk : RK (g 0 0) (g 12 0) (g 13 0) v) {kd : Nat} (hkd : kd < 5) {p j i m z : Nat} (hp : p < nP v) (hj : j < 8) (hz : z ≤ 40) (ez : g 1 j 1 = nI z) (him : i + m ≤ z) (f : Nat → Int32) (f0 : f 0 = nI p) (f1 : f 1 = nI (j + 1)) (f2 : f 2 = nI i) (f3 : f 3 = nI m) : ∃ f' sc' fo' pa', F_X2_fittingPapers N (nI kd) (g2 g 5 0 f) = some (resW (cW v (fun k => g 2 j (i + k)) p m kd) kd, D1 (g2 g 5 0 f') sc' fo' pa') := by
  have hU : ∀ kd y, loW kd ≤ y → y ≤ hiW kd → VA 999 (va_up v (11 + 7 * p + fd kd) (nI y)) ∧ nP (va_up v (11 + 7 * p + fd kd) (nI y)) = nP v := fun kd y a b => ⟨VA_who hv hp y a b, nP_eq (up_ne _ _ (by omega))⟩
  have e50 : (g2 g 5 0 f) 5 0 0 = nI p := f0
  unfold F_X2_fittingPapers resW cW
  rcases (show kd = 0 ∨ kd = 1 ∨ 2 ≤ kd by omega) with rfl | rfl | h2
  · obtain ⟨f', sc', fo', pa', e, hn⟩ := X2_search N hN g v (fun y => va_up v (11 + 7 * p + fd 0) (nI y)) 0 (nI p) (lo := 1) (hi := 5) (by decide) (by decide) (by decide) hp hj hz ez him (hU 0) (fun y _ _ f sc fo pa => D_with N hN g hv hk (kd := 0) (by decide) hp (nI y) f sc fo pa) f f0 f1 f2 f3
    rw [if_pos (show nI 0 = 0 from rfl), e50, show F_X2_search N 0 (nI p) 1 5 (g2 g 5 0 f) = _ from e, bd1_s, if_pos (by decide)]
    exact ⟨f', sc', fo', pa', congrArg (fun t => some (t, _)) (hn.1 (by decide))⟩
  · obtain ⟨f', sc', fo', pa', e, hn⟩ := X2_search N hN g v (fun y => va_up v (11 + 7 * p + fd 1) (nI y)) 1 (nI p) (lo := 0) (hi := 9) (by decide) (by decide) (by decide) hp hj hz ez him (hU 1) (fun y _ _ f sc fo pa => D_with N hN g hv hk (kd := 1) (by decide) hp (nI y) f sc fo pa) f f0 f1 f2 f3
    rw [if_neg (show ¬ nI 1 = 0 by decide), if_pos (show nI 1 = 1 from rfl), e50, show F_X2_search N 1 (nI p) 0 9 (g2 g 5 0 f) = _ from e, bd1_s, if_pos (by decide)]
    exact ⟨f', sc', fo', pa', congrArg (fun t => some (t, _)) (hn.1 (by decide))⟩
  · obtain ⟨f', sc', fo', pa', e, hn⟩ := X2_search N hN g v (fun y => va_up v (11 + 7 * p + fd 2) (nI y)) 2 (nI p) (lo := 1) (hi := 60) (by decide) (by decide) (by decide) hp hj hz ez him (hU 2) (fun y _ _ f sc fo pa => D_with N hN g hv hk (kd := 2) (by decide) hp (nI y) f sc fo pa) f f0 f1 f2 f3
    rw [if_neg (nI_ne0 (by omega) (by omega)), if_neg (show ¬ nI kd = 1 from fun q => by have := (nI_eq (b := 1) (by omega) (by decide)).mp q; omega), e50, show F_X2_search N 2 (nI p) 1 60 (g2 g 5 0 f) = _ from e, bd1_s]
    refine ⟨f', sc', fo', pa', ?_⟩
    rcases (show kd = 2 ∨ kd = 3 ∨ kd = 4 by omega) with rfl | rfl | rfl
    · rw [if_pos (by decide), if_neg (by decide), if_pos rfl]
      exact congrArg (fun t => some (t, _)) hn.2.1
    · rw [if_neg (by decide), if_pos (by decide), if_neg (by decide), if_neg (by decide), if_pos rfl]
      exact congrArg (fun t => some (t, _)) hn.2.2.1
    · rw [if_neg (by decide), if_neg (by decide), if_neg (by decide), if_neg (by decide), if_neg (by decide)]
      exact congrArg (fun t => some (t, _)) hn.2.2.2

theorem p_who (N : Nat) (hN : 2000 ≤ N) (x y r x4 n : Int32) (g : GS) (h : Rel g) : Sim (F_X7_who N x y r x4 n) (F_X8_who N x y r x4 n) g := by
  obtain ⟨hv, hk⟩ := h.2.2.2.2.1
  have hP := hv.2.1
  have hW := hv.2.2.2.1
  have h4 : g 0 0 4 = nI (nP (g 11 5)) := hk.1.trans hv.1
  have h3 : g 0 0 3 = nI (nW (g 11 5)) := hk.2.1.trans hv.2.2.1
  have h0 : (g3 g 10 0 0 0) 11 5 0 = nI (nP (g 11 5)) := hv.1
  have h1 : ∀ k : GS, k 11 = g 11 → k 11 5 1 = nI (nW (g 11 5)) := fun k e => by rw [e]; exact hv.2.2.1
  rcases hp_cases x (P := nP (g 11 5)) (by omega) with w | ⟨w, p, hp, rfl⟩
  · exact Sim.read h (-1000001) (by unfold F_X7_who; rw [X4_hasPaper N 0 _ x g h4, bd2_s, w, if_pos rfl]) (by unfold F_X8_who; rw [X8_isPaper N _ hP x _ h0, bd2_s, w, if_pos rfl])
  rcases wi_cases y 0 4 with ⟨u, -⟩ | ⟨u, u1, u2⟩
  · exact Sim.read h (-1000001) (by unfold F_X7_who; rw [X4_hasPaper N 0 _ _ g h4, bd2_s, w, if_neg (by decide), X7_within, bd2_s, u, if_pos rfl]) (by unfold F_X8_who; rw [X8_isPaper N _ hP _ _ h0, bd2_s, w, if_neg (by decide), X8_inL N _ 0 4 (by decide) (by decide), bd2_s, u, if_pos rfl])
  obtain ⟨kd, hkd, rfl⟩ := wi_nI (n := 4) (by decide) u1 u2
  have hkd : kd < 5 := by omega
  rcases wi_cases r 0 7 with ⟨a, -⟩ | ⟨a, a1, a2⟩
  · exact Sim.read h (-1000001) (by unfold F_X7_who; rw [X4_hasPaper N 0 _ _ g h4, bd2_s, w, if_neg (by decide), X7_within, bd2_s, u, if_neg (by decide), X7_isRow, bd2_s, a, if_pos rfl]) (by unfold F_X8_who; rw [X8_isPaper N _ hP _ _ h0, bd2_s, w, if_neg (by decide), X8_inL N _ 0 4 (by decide) (by decide), bd2_s, u, if_neg (by decide), X8_isMany, bd2_s, show (if wi r 0 7 = 0 then (0 : Int32) else wi n 1 12) = 0 by rw [if_pos a], if_pos rfl])
  obtain ⟨j, hj, rfl⟩ := wi_nI (n := 7) (by decide) a1 a2
  have hj : j < 8 := by omega
  rcases wi_cases n 1 12 with ⟨b, -⟩ | ⟨b, b1, b2⟩
  · exact Sim.read h (-1000001) (by unfold F_X7_who; rw [X4_hasPaper N 0 _ _ g h4, bd2_s, w, if_neg (by decide), X7_within, bd2_s, u, if_neg (by decide), X7_isRow, bd2_s, a, if_neg (by decide), X7_within, bd2_s, b, if_pos rfl]) (by unfold F_X8_who; rw [X8_isPaper N _ hP _ _ h0, bd2_s, w, if_neg (by decide), X8_inL N _ 0 4 (by decide) (by decide), bd2_s, u, if_neg (by decide), X8_isMany, bd2_s, show (if wi (nI j) 0 7 = 0 then (0 : Int32) else wi n 1 12) = 0 by rw [if_neg (by rw [a]; decide), b], if_pos rfl])
  obtain ⟨m, hm1, hm2, rfl⟩ : ∃ k : Nat, 1 ≤ k ∧ k ≤ 12 ∧ n = nI k := by
    rw [i_lt] at b1 b2
    have a : (1 : Int32).toInt = 1 := by decide
    have b : (12 : Int32).toInt = 12 := by decide
    exact ⟨n.toInt.toNat, by omega, by omega, nI_ofI (by omega)⟩
  have iM : (if wi (nI j) 0 7 = 0 then (0 : Int32) else wi (nI m) 1 12) = 1 := by rw [if_neg (by rw [a]; decide), b]
  have KH : ∀ (T : Option (Int32 × GS)), (bd2 (F_X7_watchRow N (nI p) (nI j) x4 (nI m) g) (fun rv19 gv18 => if rv19 = 0 then bd2 (F_X2_fittingPapers N (nI kd) gv18) (fun rv23 gv22 => bd2 (F_X7_unfound N rv23 gv22) (fun rv26 gv25 => some (rv26, gv25))) else bd2 (F_X7_found N rv19 gv18) (fun rv29 gv28 => some (rv29, gv28)))) = T → F_X7_who N (nI p) (nI kd) (nI j) x4 (nI m) g = T := by
    rintro T rfl
    unfold F_X7_who
    rw [X4_hasPaper N 0 _ _ g h4, bd2_s, w, if_neg (by decide), X7_within, bd2_s, u, if_neg (by decide), X7_isRow, bd2_s, a, if_neg (by decide), X7_within, bd2_s, b, if_neg (by decide)]
  rcases RR_lane h.1 hj with ⟨l1, l2⟩ | ⟨l1, l2, l3, l4⟩
  · refine Sim.found h ((-1000010 : Int32) - 1) 1 (KH _ ?_) ?_
    · rw [X7_watch1 N p j m hj x4 g l1, bd2_s, if_neg (by decide)]
      rfl
    · unfold F_X8_who
      rw [X8_isPaper N (nP (g 11 5)) hP _ (g3 (g3 g 9 0 1 1) 10 0 0 0) hv.1, bd2_s, w, if_neg (by decide), X8_inL N _ 0 4 (by decide) (by decide), bd2_s, u, if_neg (by decide), X8_isMany, bd2_s, iM, if_neg (by decide), X8_row1 N j m hj x4 (g3 (g3 g 9 0 1 1) 10 0 0 0) l2, bd2_s, if_neg (by decide)]
  obtain ⟨z, hz, ez⟩ := (h.1 j hj).2.2.2.1
  have hn : (0 : Int32) ≤ g 11 2 j := by rw [← i_nlt0]; exact l2
  have ez3 : g 11 3 j = nI z := l4.trans ez
  rcases hpN_cases x4 (m := m) (z := z) (by omega) (by omega) with q | ⟨q, i, him, rfl⟩
  · refine Sim.found h ((-1000010 : Int32) - 2) 2 (KH _ ?_) ?_
    · rw [X7_watch2 N p j m z hj (by omega) x4 g l1 ez q, bd2_s, if_neg (by decide)]
      rfl
    · unfold F_X8_who
      rw [X8_isPaper N (nP (g 11 5)) hP _ (g3 (g3 g 9 0 1 2) 10 0 0 0) hv.1, bd2_s, w, if_neg (by decide), X8_inL N _ 0 4 (by decide) (by decide), bd2_s, u, if_neg (by decide), X8_isMany, bd2_s, iM, if_neg (by decide), X8_rowFound N j m z hj (by omega) (by omega) x4 (g3 (g3 g 9 0 1 2) 10 0 0 0) hn ez3, if_pos q, bd2_s, if_neg (by decide)]
  have hit : ∀ k, k < m → g 11 4 (40 * j + i + k) = g 2 j (i + k) := fun k hk => by
    rw [show 40 * j + i + k = 40 * j + (i + k) by omega]
    exact (h.1 j hj).2.2.2.2 (i + k) (by omega)
  obtain ⟨f', sc, fo, pa, eK⟩ := K_who N hN g hv hk hkd hp hj hz ez him (wf (g 5 0) p j i m) rfl rfl rfl rfl
  have hMw := fun (lo hi : Nat) (hhi : hi ≤ 99) (hU : ∀ y, lo ≤ y → y ≤ hi → VA 999 (va_up (g 11 5) (11 + 7 * p + fd kd) (nI y))) (hi0 : cntF (fitC (fun y => va_up (g 11 5) (11 + 7 * p + fd kd) (nI y)) (fun k => g 2 j (i + k)) p m lo) lo = 0) (hb0 : bitsF (fitC (fun y => va_up (g 11 5) (11 + 7 * p + fd kd) (nI y)) (fun k => g 2 j (i + k)) p m lo) lo = 0) (hl0 : lstF (fitC (fun y => va_up (g 11 5) (11 + 7 * p + fd kd) (nI y)) (fun k => g 2 j (i + k)) p m lo) lo = none) (hlo : lo ≤ hi) => M_who N hN (g3 (g3 (g3 (D1 (g2 g 5 0 f') sc fo pa) 9 0 1 0) 10 0 0 0) 10 0 1 0) (v := g 11 5) rfl hv hkd (lo := lo) (hi := hi) hhi hp hj (show i + m ≤ 40 by omega) (fun k => g 2 j (i + k)) hit 0 hU N lo 0 (g 11 8) (g 11 7) (fun _ => hb0.symm) (Nat.le_refl lo) (by omega) (by omega)
  have f10 : ∀ (U : Nat → Nat → Int32), fitC U (fun k => g 2 j (i + k)) p m 1 0 = false := fun U => by unfold fitC; rfl
  have MW : ∃ B ris u', L_X8_who_104 N (nI p) (nI kd) (nI j) (nI i) (nI m) 0 (nI (hiW kd)) N 0 0 (-1000000) (-1000000) (nI (loW kd)) (g3 (g3 (g3 (D1 (g2 g 5 0 f') sc fo pa) 9 0 1 0) 10 0 0 0) 10 0 1 0) = some (B, nI (cntF (cW (g 11 5) (fun k => g 2 j (i + k)) p m kd) (hiW kd + 1)), ans (fstF (cW (g 11 5) (fun k => g 2 j (i + k)) p m kd) (hiW kd + 1)), ans (lstF (cW (g 11 5) (fun k => g 2 j (i + k)) p m kd) (hiW kd + 1)), nI (hiW kd + 1), T7 (g3 (g3 (g3 (D1 (g2 g 5 0 f') sc fo pa) 9 0 1 0) 10 0 0 0) 10 0 1 0) ris u') ∧ (kd < 2 → B = bitsF (cW (g 11 5) (fun k => g 2 j (i + k)) p m kd) (hiW kd + 1)) := by
    have hlo : loW kd = 0 ∨ loW kd = 1 := by unfold loW; split; exact Or.inl rfl; exact Or.inr rfl
    have hhi : hiW kd ≤ 99 ∧ 1 ≤ hiW kd := by unfold hiW; split; decide; split; decide; decide
    have hc : cntF (cW (g 11 5) (fun k => g 2 j (i + k)) p m kd) (loW kd) = 0 ∧ bitsF (cW (g 11 5) (fun k => g 2 j (i + k)) p m kd) (loW kd) = 0 ∧ lstF (cW (g 11 5) (fun k => g 2 j (i + k)) p m kd) (loW kd) = none := by
      unfold cW
      rcases hlo with e | e
      · rw [e]; exact ⟨rfl, rfl, rfl⟩
      · rw [e]
        have q' : ¬ fitC (fun y => va_up (g 11 5) (11 + 7 * p + fd kd) (nI y)) (fun k => g 2 j (i + k)) p m 1 0 = true := by rw [f10]; decide
        rw [cntF, if_neg q', bitsF, if_neg q', lstF, if_neg q']
        exact ⟨rfl, rfl, rfl⟩
    obtain ⟨B, ris, u', e, eB⟩ := hMw (loW kd) (hiW kd) hhi.1 (VA_who hv hp) hc.1 hc.2.1 hc.2.2 (by omega)
    have hc1 : cntF (fitC (fun y => va_up (g 11 5) (11 + 7 * p + fd kd) (nI y)) (fun k => g 2 j (i + k)) p m (loW kd)) (loW kd) = 0 := hc.1
    have hc3 : lstF (fitC (fun y => va_up (g 11 5) (11 + 7 * p + fd kd) (nI y)) (fun k => g 2 j (i + k)) p m (loW kd)) (loW kd) = none := hc.2.2
    rw [hc1, hc3, (cnt_fst _ _).mp hc1, nI_0, show T7 (g3 (g3 (g3 (D1 (g2 g 5 0 f') sc fo pa) 9 0 1 0) 10 0 0 0) 10 0 1 0) (g 11 8) (g 11 7) = _ from T7_self _] at e
    exact ⟨B, ris, u', e, eB⟩
  obtain ⟨B, ris, u', eM, eB⟩ := MW
  refine Sim.watch h (resW (cW (g 11 5) (fun k => g 2 j (i + k)) p m kd) kd) f' sc fo pa ris u' (KH _ ?_) ?_
  · rw [X7_watch3 N p j i m z hj (by omega) g l1 ez q, bd2_s, if_pos rfl, eK, bd2_s]
    rfl
  · unfold F_X8_who
    rw [X8_isPaper N (nP (g 11 5)) hP _ (g3 (g3 (D1 (g2 g 5 0 f') sc fo pa) 9 0 1 0) 10 0 0 0) hv.1, bd2_s, w, if_neg (by decide), X8_inL N _ 0 4 (by decide) (by decide), bd2_s, u, if_neg (by decide), X8_isMany, bd2_s, iM, if_neg (by decide), X8_rowFound N j m z hj (by omega) (by omega) (nI i) (g3 (g3 (D1 (g2 g 5 0 f') sc fo pa) 9 0 1 0) 10 0 0 0) hn ez3, if_neg (by rw [q]; decide), bd2_s, if_pos rfl]
    rcases (show kd = 0 ∨ kd = 1 ∨ kd = 2 ∨ kd = 3 ∨ kd = 4 by omega) with rfl | rfl | rfl | rfl | rfl
    · rw [if_pos (by decide), if_neg (by decide), show L_X8_who_104 N (nI p) (nI 0) (nI j) (nI i) (nI m) 0 5 N 0 0 (-1000000) (-1000000) 1 _ = _ from eM, bd6_s, if_neg (by decide), eB (by decide)]
      rfl
    · rw [if_neg (by decide), if_pos (by decide), if_pos (by decide), show L_X8_who_104 N (nI p) (nI 1) (nI j) (nI i) (nI m) 0 9 N 0 0 (-1000000) (-1000000) 0 _ = _ from eM, bd6_s, if_neg (by decide), eB (by decide)]
      rfl
    · rw [if_neg (by decide), if_neg (by decide), if_neg (by decide), show L_X8_who_104 N (nI p) (nI 2) (nI j) (nI i) (nI m) 0 60 N 0 0 (-1000000) (-1000000) 1 _ = _ from eM, bd6_s, if_pos (by decide), if_pos (by decide)]
      rfl
    · rw [if_neg (by decide), if_neg (by decide), if_neg (by decide), show L_X8_who_104 N (nI p) (nI 3) (nI j) (nI i) (nI m) 0 60 N 0 0 (-1000000) (-1000000) 1 _ = _ from eM, bd6_s, if_pos (by decide), if_neg (by decide), if_pos (by decide)]
      rfl
    · rw [if_neg (by decide), if_neg (by decide), if_neg (by decide), show L_X8_who_104 N (nI p) (nI 4) (nI j) (nI i) (nI m) 0 60 N 0 0 (-1000000) (-1000000) 1 _ = _ from eM, bd6_s, if_pos (by decide), if_neg (by decide), if_neg (by decide)]
      rfl

theorem p_winds (N : Nat) (hN : 2000 ≤ N) (x y r x4 n : Int32) (g : GS) (h : Rel g) : Sim (F_X7_winds N x y r x4 n) (F_X8_winds N x y r x4 n) g := by
  obtain ⟨hv, hk⟩ := h.2.2.2.2.1
  have hP := hv.2.1
  have hW := hv.2.2.2.1
  have h4 : g 0 0 4 = nI (nP (g 11 5)) := hk.1.trans hv.1
  have h3 : g 0 0 3 = nI (nW (g 11 5)) := hk.2.1.trans hv.2.2.1
  have h0 : (g3 g 10 0 0 0) 11 5 0 = nI (nP (g 11 5)) := hv.1
  have h1 : ∀ k : GS, k 11 = g 11 → k 11 5 1 = nI (nW (g 11 5)) := fun k e => by rw [e]; exact hv.2.2.1
  rcases hp_cases x (P := nP (g 11 5)) (by omega) with w | ⟨w, p, hp, rfl⟩
  · exact Sim.read h (-1000001) (by unfold F_X7_winds; rw [X4_hasPaper N 0 _ x g h4, bd2_s, w, if_pos rfl]) (by unfold F_X8_winds; rw [X8_isPaper N _ hP x _ h0, bd2_s, w, if_pos rfl])
  rcases hp_cases y (P := nW (g 11 5)) (by omega) with u | ⟨u, wn, hwn, rfl⟩
  · exact Sim.read h (-1000001) (by unfold F_X7_winds; rw [X4_hasPaper N 0 _ _ g h4, bd2_s, w, if_neg (by decide), X4_hasWind N 0 _ _ g h3, bd2_s, u, if_pos rfl]) (by unfold F_X8_winds; rw [X8_isPaper N _ hP _ _ h0, bd2_s, w, if_neg (by decide), show ix (1 : Int32) 53 = some 1 from by decide, bd1_s, h1 (g3 g 10 0 0 0) rfl, X8_inL N _ 0 (nI (nW (g 11 5)) - 1) (by decide) rfl, bd2_s, wi_pred _ (by omega), u, if_pos rfl])
  
  rcases wi_cases r 0 7 with ⟨a, -⟩ | ⟨a, a1, a2⟩
  · exact Sim.read h (-1000001) (by unfold F_X7_winds; rw [X4_hasPaper N 0 _ _ g h4, bd2_s, w, if_neg (by decide), X4_hasWind N 0 _ _ g h3, bd2_s, u, if_neg (by decide), X7_isRow, bd2_s, a, if_pos rfl]) (by unfold F_X8_winds; rw [X8_isPaper N _ hP _ _ h0, bd2_s, w, if_neg (by decide), show ix (1 : Int32) 53 = some 1 from by decide, bd1_s, h1 (g3 g 10 0 0 0) rfl, X8_inL N _ 0 (nI (nW (g 11 5)) - 1) (by decide) rfl, bd2_s, wi_pred _ (by omega), u, if_neg (by decide), X8_isMany, bd2_s, show (if wi r 0 7 = 0 then (0 : Int32) else wi n 1 12) = 0 by rw [if_pos a], if_pos rfl])
  obtain ⟨j, hj, rfl⟩ := wi_nI (n := 7) (by decide) a1 a2
  have hj : j < 8 := by omega
  rcases wi_cases n 1 12 with ⟨b, -⟩ | ⟨b, b1, b2⟩
  · exact Sim.read h (-1000001) (by unfold F_X7_winds; rw [X4_hasPaper N 0 _ _ g h4, bd2_s, w, if_neg (by decide), X4_hasWind N 0 _ _ g h3, bd2_s, u, if_neg (by decide), X7_isRow, bd2_s, a, if_neg (by decide), X7_within, bd2_s, b, if_pos rfl]) (by unfold F_X8_winds; rw [X8_isPaper N _ hP _ _ h0, bd2_s, w, if_neg (by decide), show ix (1 : Int32) 53 = some 1 from by decide, bd1_s, h1 (g3 g 10 0 0 0) rfl, X8_inL N _ 0 (nI (nW (g 11 5)) - 1) (by decide) rfl, bd2_s, wi_pred _ (by omega), u, if_neg (by decide), X8_isMany, bd2_s, show (if wi (nI j) 0 7 = 0 then (0 : Int32) else wi n 1 12) = 0 by rw [if_neg (by rw [a]; decide), b], if_pos rfl])
  obtain ⟨m, hm1, hm2, rfl⟩ : ∃ k : Nat, 1 ≤ k ∧ k ≤ 12 ∧ n = nI k := by
    rw [i_lt] at b1 b2
    have a : (1 : Int32).toInt = 1 := by decide
    have b : (12 : Int32).toInt = 12 := by decide
    exact ⟨n.toInt.toNat, by omega, by omega, nI_ofI (by omega)⟩
  have iM : (if wi (nI j) 0 7 = 0 then (0 : Int32) else wi (nI m) 1 12) = 1 := by rw [if_neg (by rw [a]; decide), b]
  have KH : ∀ (T : Option (Int32 × GS)), (bd2 (F_X7_watchRow N (nI p) (nI j) x4 (nI m) g) (fun rv19 gv18 => if rv19 = 0 then bd2 (F_X2_fittingForces N (nI wn) gv18) (fun rv23 gv22 => bd2 (F_X7_unfound N rv23 gv22) (fun rv26 gv25 => some (rv26, gv25))) else bd2 (F_X7_found N rv19 gv18) (fun rv29 gv28 => some (rv29, gv28)))) = T → F_X7_winds N (nI p) (nI wn) (nI j) x4 (nI m) g = T := by
    rintro T rfl
    unfold F_X7_winds
    rw [X4_hasPaper N 0 _ _ g h4, bd2_s, w, if_neg (by decide), X4_hasWind N 0 _ _ g h3, bd2_s, u, if_neg (by decide), X7_isRow, bd2_s, a, if_neg (by decide), X7_within, bd2_s, b, if_neg (by decide)]
  rcases RR_lane h.1 hj with ⟨l1, l2⟩ | ⟨l1, l2, l3, l4⟩
  · refine Sim.found h ((-1000010 : Int32) - 1) 1 (KH _ ?_) ?_
    · rw [X7_watch1 N p j m hj x4 g l1, bd2_s, if_neg (by decide)]
      rfl
    · unfold F_X8_winds
      rw [X8_isPaper N (nP (g 11 5)) hP _ (g3 (g3 g 9 0 1 1) 10 0 0 0) hv.1, bd2_s, w, if_neg (by decide), show ix (1 : Int32) 53 = some 1 from by decide, bd1_s, h1 (g3 (g3 g 9 0 1 1) 10 0 0 0) rfl, X8_inL N _ 0 (nI (nW (g 11 5)) - 1) (by decide) rfl, bd2_s, wi_pred _ (by omega), u, if_neg (by decide), X8_isMany, bd2_s, iM, if_neg (by decide), X8_row1 N j m hj x4 (g3 (g3 g 9 0 1 1) 10 0 0 0) l2, bd2_s, if_neg (by decide)]
  obtain ⟨z, hz, ez⟩ := (h.1 j hj).2.2.2.1
  have hn : (0 : Int32) ≤ g 11 2 j := by rw [← i_nlt0]; exact l2
  have ez3 : g 11 3 j = nI z := l4.trans ez
  rcases hpN_cases x4 (m := m) (z := z) (by omega) (by omega) with q | ⟨q, i, him, rfl⟩
  · refine Sim.found h ((-1000010 : Int32) - 2) 2 (KH _ ?_) ?_
    · rw [X7_watch2 N p j m z hj (by omega) x4 g l1 ez q, bd2_s, if_neg (by decide)]
      rfl
    · unfold F_X8_winds
      rw [X8_isPaper N (nP (g 11 5)) hP _ (g3 (g3 g 9 0 1 2) 10 0 0 0) hv.1, bd2_s, w, if_neg (by decide), show ix (1 : Int32) 53 = some 1 from by decide, bd1_s, h1 (g3 (g3 g 9 0 1 2) 10 0 0 0) rfl, X8_inL N _ 0 (nI (nW (g 11 5)) - 1) (by decide) rfl, bd2_s, wi_pred _ (by omega), u, if_neg (by decide), X8_isMany, bd2_s, iM, if_neg (by decide), X8_rowFound N j m z hj (by omega) (by omega) x4 (g3 (g3 g 9 0 1 2) 10 0 0 0) hn ez3, if_pos q, bd2_s, if_neg (by decide)]
  have hit : ∀ k, k < m → g 11 4 (40 * j + i + k) = g 2 j (i + k) := fun k hk => by
    rw [show 40 * j + i + k = 40 * j + (i + k) by omega]
    exact (h.1 j hj).2.2.2.2 (i + k) (by omega)
  obtain ⟨f', sc, fo, pa, eK, hn4⟩ := X2_search N hN g (g 11 5) (fun y => va_up (g 11 5) (5 + wn) (nI y)) 3 (nI wn) (lo := 0) (hi := 9) (by decide) (by decide) (by decide) hp hj hz ez him (fun y _ hy => ⟨VA_wind hv hwn hy, nP_eq (up_ne _ _ (by omega))⟩) (fun y _ _ f sc fo pa => D_wind N hN g hv hk hwn (nI y) f sc fo pa) (wf (g 5 0) p j i m) rfl rfl rfl rfl
  obtain ⟨ris, u', eM⟩ := M_winds N hN (g3 (g3 (g3 (D1 (g2 g 5 0 f') sc fo pa) 9 0 1 0) 10 0 0 0) 10 0 1 0) (v := g 11 5) rfl hv hwn hp hj (show i + m ≤ 40 by omega) (fun k => g 2 j (i + k)) hit 0 N 0 (g 11 8) (g 11 7) (by omega) (by omega)
  rw [bitsF, nI_0, show T7 (g3 (g3 (g3 (D1 (g2 g 5 0 f') sc fo pa) 9 0 1 0) 10 0 0 0) 10 0 1 0) (g 11 8) (g 11 7) = _ from T7_self _] at eM
  refine Sim.watch h (bitsF (fitC (fun y => va_up (g 11 5) (5 + wn) (nI y)) (fun k => g 2 j (i + k)) p m 0) 10) f' sc fo pa ris u' (KH _ ?_) ?_
  · unfold F_X2_fittingForces
    rw [X7_watch3 N p j i m z hj (by omega) g l1 ez q, bd2_s, if_pos rfl, show F_X2_search N 3 (nI wn) 0 9 _ = _ from eK, bd1_s, show (D1 (g2 g 5 0 f') sc fo pa) 5 0 4 = _ from hn4.1 (by decide), bd2_s]
    rfl
  · unfold F_X8_winds
    rw [X8_isPaper N (nP (g 11 5)) hP _ (g3 (g3 (D1 (g2 g 5 0 f') sc fo pa) 9 0 1 0) 10 0 0 0) hv.1, bd2_s, w, if_neg (by decide), show ix (1 : Int32) 53 = some 1 from by decide, bd1_s, h1 (g3 (g3 (D1 (g2 g 5 0 f') sc fo pa) 9 0 1 0) 10 0 0 0) rfl, X8_inL N _ 0 (nI (nW (g 11 5)) - 1) (by decide) rfl, bd2_s, wi_pred _ (by omega), u, if_neg (by decide), X8_isMany, bd2_s, iM, if_neg (by decide), X8_rowFound N j m z hj (by omega) (by omega) (nI i) (g3 (g3 (D1 (g2 g 5 0 f') sc fo pa) 9 0 1 0) 10 0 0 0) hn ez3, if_neg (by rw [q]; decide), bd2_s, if_pos rfl, eM, bd3_s]

theorem p_tapes (N : Nat) (hN : 2000 ≤ N) (x y r x4 n : Int32) (g : GS) (h : Rel g) : Sim (F_X7_tapes N x y r x4 n) (F_X8_tapes N x y r x4 n) g := by
  obtain ⟨hv, hk⟩ := h.2.2.2.2.1
  have hP := hv.2.1
  have hW := hv.2.2.2.1
  have h4 : g 0 0 4 = nI (nP (g 11 5)) := hk.1.trans hv.1
  have h3 : g 0 0 3 = nI (nW (g 11 5)) := hk.2.1.trans hv.2.2.1
  have h0 : (g3 g 10 0 0 0) 11 5 0 = nI (nP (g 11 5)) := hv.1
  have h1 : ∀ k : GS, k 11 = g 11 → k 11 5 1 = nI (nW (g 11 5)) := fun k e => by rw [e]; exact hv.2.2.1
  rcases hp_cases x (P := nP (g 11 5)) (by omega) with w | ⟨w, p, hp, rfl⟩
  · exact Sim.read h (-1000001) (by unfold F_X7_tapes; rw [X4_hasPaper N 0 _ x g h4, bd2_s, w, if_pos rfl]) (by unfold F_X8_tapes; rw [X8_isPaper N _ hP x _ h0, bd2_s, w, if_pos rfl])
  rcases wi_cases y 0 1 with ⟨u, -⟩ | ⟨u, u1, u2⟩
  · exact Sim.read h (-1000001) (by unfold F_X7_tapes; rw [X4_hasPaper N 0 _ _ g h4, bd2_s, w, if_neg (by decide), X7_within, bd2_s, u, if_pos rfl]) (by unfold F_X8_tapes; rw [X8_isPaper N _ hP _ _ h0, bd2_s, w, if_neg (by decide), X8_inL N _ 0 1 (by decide) (by decide), bd2_s, u, if_pos rfl])
  obtain ⟨kd, hkd, rfl⟩ := wi_nI (n := 1) (by decide) u1 u2
  rcases wi_cases r 0 7 with ⟨a, -⟩ | ⟨a, a1, a2⟩
  · exact Sim.read h (-1000001) (by unfold F_X7_tapes; rw [X4_hasPaper N 0 _ _ g h4, bd2_s, w, if_neg (by decide), X7_within, bd2_s, u, if_neg (by decide), X7_isRow, bd2_s, a, if_pos rfl]) (by unfold F_X8_tapes; rw [X8_isPaper N _ hP _ _ h0, bd2_s, w, if_neg (by decide), X8_inL N _ 0 1 (by decide) (by decide), bd2_s, u, if_neg (by decide), X8_isMany, bd2_s, show (if wi r 0 7 = 0 then (0 : Int32) else wi n 1 12) = 0 by rw [if_pos a], if_pos rfl])
  obtain ⟨j, hj, rfl⟩ := wi_nI (n := 7) (by decide) a1 a2
  have hj : j < 8 := by omega
  rcases wi_cases n 1 12 with ⟨b, -⟩ | ⟨b, b1, b2⟩
  · exact Sim.read h (-1000001) (by unfold F_X7_tapes; rw [X4_hasPaper N 0 _ _ g h4, bd2_s, w, if_neg (by decide), X7_within, bd2_s, u, if_neg (by decide), X7_isRow, bd2_s, a, if_neg (by decide), X7_within, bd2_s, b, if_pos rfl]) (by unfold F_X8_tapes; rw [X8_isPaper N _ hP _ _ h0, bd2_s, w, if_neg (by decide), X8_inL N _ 0 1 (by decide) (by decide), bd2_s, u, if_neg (by decide), X8_isMany, bd2_s, show (if wi (nI j) 0 7 = 0 then (0 : Int32) else wi n 1 12) = 0 by rw [if_neg (by rw [a]; decide), b], if_pos rfl])
  obtain ⟨m, hm1, hm2, rfl⟩ : ∃ k : Nat, 1 ≤ k ∧ k ≤ 12 ∧ n = nI k := by
    rw [i_lt] at b1 b2
    have a : (1 : Int32).toInt = 1 := by decide
    have b : (12 : Int32).toInt = 12 := by decide
    exact ⟨n.toInt.toNat, by omega, by omega, nI_ofI (by omega)⟩
  have iM : (if wi (nI j) 0 7 = 0 then (0 : Int32) else wi (nI m) 1 12) = 1 := by rw [if_neg (by rw [a]; decide), b]
  have KH : ∀ (T : Option (Int32 × GS)), (bd2 (F_X7_watchRow N (nI p) (nI j) x4 (nI m) g) (fun rv19 gv18 => if rv19 = 0 then bd2 (F_X2_fittingTapes N (nI kd) gv18) (fun rv23 gv22 => bd2 (F_X7_unfound N rv23 gv22) (fun rv26 gv25 => some (rv26, gv25))) else bd2 (F_X7_found N rv19 gv18) (fun rv29 gv28 => some (rv29, gv28)))) = T → F_X7_tapes N (nI p) (nI kd) (nI j) x4 (nI m) g = T := by
    rintro T rfl
    unfold F_X7_tapes
    rw [X4_hasPaper N 0 _ _ g h4, bd2_s, w, if_neg (by decide), X7_within, bd2_s, u, if_neg (by decide), X7_isRow, bd2_s, a, if_neg (by decide), X7_within, bd2_s, b, if_neg (by decide)]
  rcases RR_lane h.1 hj with ⟨l1, l2⟩ | ⟨l1, l2, l3, l4⟩
  · refine Sim.found h ((-1000010 : Int32) - 1) 1 (KH _ ?_) ?_
    · rw [X7_watch1 N p j m hj x4 g l1, bd2_s, if_neg (by decide)]
      rfl
    · unfold F_X8_tapes
      rw [X8_isPaper N (nP (g 11 5)) hP _ (g3 (g3 g 9 0 1 1) 10 0 0 0) hv.1, bd2_s, w, if_neg (by decide), X8_inL N _ 0 1 (by decide) (by decide), bd2_s, u, if_neg (by decide), X8_isMany, bd2_s, iM, if_neg (by decide), X8_row1 N j m hj x4 (g3 (g3 g 9 0 1 1) 10 0 0 0) l2, bd2_s, if_neg (by decide)]
  obtain ⟨z, hz, ez⟩ := (h.1 j hj).2.2.2.1
  have hn : (0 : Int32) ≤ g 11 2 j := by rw [← i_nlt0]; exact l2
  have ez3 : g 11 3 j = nI z := l4.trans ez
  rcases hpN_cases x4 (m := m) (z := z) (by omega) (by omega) with q | ⟨q, i, him, rfl⟩
  · refine Sim.found h ((-1000010 : Int32) - 2) 2 (KH _ ?_) ?_
    · rw [X7_watch2 N p j m z hj (by omega) x4 g l1 ez q, bd2_s, if_neg (by decide)]
      rfl
    · unfold F_X8_tapes
      rw [X8_isPaper N (nP (g 11 5)) hP _ (g3 (g3 g 9 0 1 2) 10 0 0 0) hv.1, bd2_s, w, if_neg (by decide), X8_inL N _ 0 1 (by decide) (by decide), bd2_s, u, if_neg (by decide), X8_isMany, bd2_s, iM, if_neg (by decide), X8_rowFound N j m z hj (by omega) (by omega) x4 (g3 (g3 g 9 0 1 2) 10 0 0 0) hn ez3, if_pos q, bd2_s, if_neg (by decide)]
  have hit : ∀ k, k < m → g 11 4 (40 * j + i + k) = g 2 j (i + k) := fun k hk => by
    rw [show 40 * j + i + k = 40 * j + (i + k) by omega]
    exact (h.1 j hj).2.2.2.2 (i + k) (by omega)
  obtain ⟨f', sc, fo, pa, eK, hn4⟩ := X2_search N hN g (g 11 5) (fun y => va_up (g 11 5) 3 (nI y)) 4 0 (lo := 1) (hi := 99) (by decide) (by decide) (by decide) hp hj hz ez him (fun y h1 hy => ⟨VA_strong hv h1 hy, nP_eq (up_ne _ _ (by omega))⟩) (fun y _ _ f sc fo pa => D_strong N hN g hv hk 0 (nI y) f sc fo pa) (wf (g 5 0) p j i m) rfl rfl rfl rfl
  obtain ⟨ris, u', eM⟩ := M_tapes N hN (g3 (g3 (g3 (D1 (g2 g 5 0 f') sc fo pa) 9 0 1 0) 10 0 0 0) 10 0 1 0) (v := g 11 5) rfl hv hp hj (show i + m ≤ 40 by omega) (fun k => g 2 j (i + k)) hit (nI kd) 0 N 99 0 (-1000000) (g 11 8) (g 11 7) (by omega) (by omega)
  rw [nI_0, Nat.zero_add, show T7 (g3 (g3 (g3 (D1 (g2 g 5 0 f') sc fo pa) 9 0 1 0) 10 0 0 0) 10 0 1 0) (g 11 8) (g 11 7) = _ from T7_self _] at eM
  have ea : ∀ o : Option Nat, orA o (-1000000 : Int32) = ans o := fun o => by cases o <;> rfl
  rw [ea] at eM
  generalize hcc : fitC (fun y => va_up (g 11 5) 3 (nI y)) (fun k => g 2 j (i + k)) p m 1 = c at hn4 eM
  refine Sim.watch h (if kd = 0 then nI (cntF c (99 + 1)) else ans (fstF c (99 + 1))) f' sc fo pa ris u' (KH _ ?_) ?_
  · unfold F_X2_fittingTapes
    rw [X7_watch3 N p j i m z hj (by omega) g l1 ez q, bd2_s, if_pos rfl, show F_X2_search N 4 0 1 99 _ = _ from eK, bd1_s, show (D1 (g2 g 5 0 f') sc fo pa) 5 0 5 = _ from hn4.2.1, show (D1 (g2 g 5 0 f') sc fo pa) 5 0 6 = _ from hn4.2.2.1]
    rcases (show kd = 0 ∨ kd = 1 by omega) with rfl | rfl
    · rfl
    · rfl
  · unfold F_X8_tapes
    rw [X8_isPaper N (nP (g 11 5)) hP _ (g3 (g3 (D1 (g2 g 5 0 f') sc fo pa) 9 0 1 0) 10 0 0 0) hv.1, bd2_s, w, if_neg (by decide), X8_inL N _ 0 1 (by decide) (by decide), bd2_s, u, if_neg (by decide), X8_isMany, bd2_s, iM, if_neg (by decide), X8_rowFound N j m z hj (by omega) (by omega) (nI i) (g3 (g3 (D1 (g2 g 5 0 f') sc fo pa) 9 0 1 0) 10 0 0 0) hn ez3, if_neg (by rw [q]; decide), bd2_s, if_pos rfl, show L_X8_tapes_65 N (nI p) (nI kd) (nI j) (nI i) (nI m) 0 N 0 (-1000000) 99 _ = _ from eM, bd4_s]
    rcases (show kd = 0 ∨ kd = 1 by omega) with rfl | rfl
    · rfl
    · rfl
