section SU2
variable {p : Program} {l : Launch} {e : Env} {R : Room} {s : State} {m : MethodId} {args : Array Value} {below : List Frame} {meth : Method} {c : Code} {own : String} {cc : ByteArray} {nL : Nat} {ret : Option FieldType} {D : va_G} {ad : Ky → Nat} {cy : Nat → ClassId} {Q : State → Prop} {pc : Nat} {lc : List (Option Value)} {st : List Value} {g : GS}
theorem asZ (X : Cx p R s m args meth c own cc nL ret D ad cy) {x v : Int32} (j : Nat) (hi : x = nI j) (hj : j < 2) (hv : vp_nar .boolean v = v) (hd : decode cc pc = .ok (.bastore, 1)) (k : Vy p l e R s m args below meth c nL D ad cy Q (pc + 1) lc st (g3 g 11 21 j v)) : Vy p l e R s m args below meth c nL D ad cy Q pc lc (.int v :: .int x :: .ref (ad (10, 11, 21)) :: st) g := by
  intro H locs ls h1 h2 h3
  obtain ⟨q0, hq1, hq⟩ := Wd_at ad cy g (k := (10, 11, 21)) (by decide +kernel)
  subst hi
  refine va_zast (D := D) (n := 2) (f := g 11 21) X.1 X.2.1 X.2.2.2.2.2.2.2.1 h1 (Wd_D X.2.2.2.2.2.2.2.2.1 cy g s.heap.size) h2 q0 1 hq rfl (vp_in_nI hj (by decide)) hd (fun H1 locs1 hP _ hS => ?_)
  rw [nI_clamp (by omega), hv] at hP
  have he' : cellW ad cy (g3 g 11 21 j v) (10, 11, 21) = .inl (cy 1, 2, .inl (upd (g 11 21) j v)) := by simp [cellW, g3, va_up]; rfl
  rw [Wd_set hq1 he' (swZ g _)] at hP
  exact k H1 locs1 ls hP hS h3
/-- System.arraycopy among the items of two rows -/
def okcpy (i j n : Int32) : Bool := decide (¬ i < 0) && (decide (¬ j < 0) && (decide (¬ n < 0) && (decide (i.toNatClampNeg + n.toNatClampNeg ≤ 40) && decide (j.toNatClampNeg + n.toNatClampNeg ≤ 40))))
set_option maxRecDepth 100000 in
theorem wd_copy : Cond.methodLink RX7 106 arraycopyName ∈ lwg ∧ Cond.native arraycopyName ∈ lwg ∧ Cond.static arraycopyName ∈ lwg ∧ Cond.initialized "java/lang/System" ∈ lwg := by decide +kernel
theorem v_acopy {d : Nat} (X : Cx p (rmd (d + 1)) s m args meth c RX7 cc nL ret D ad cy) {a b : Nat} {i j n : Int32} (ha : a < 8) (hb : b < 8) (ho : okcpy i j n = true) (hr : (st.map fun v => v.category).sum ≤ 8 := by exact Nat.le_of_ble_eq_true rfl) (hd : decode cc pc = .ok (.invokestatic 106, 3)) (k : Vy p l e (rmd (d + 1)) s m args below meth c nL D ad cy Q (pc + 3) lc st (g2 g 2 b (va_cpy (g 2 a) (g 2 b) i.toNatClampNeg j.toNatClampNeg n.toNatClampNeg))) : Vy p l e (rmd (d + 1)) s m args below meth c nL D ad cy Q pc lc (.int n :: .int j :: .ref (ad (9, 2, b)) :: .int i :: .ref (ad (9, 2, a)) :: st) g := by
  intro H locs ls h1 h2 h3
  have hml : c.maxLocals = ls.size := X.2.2.1.trans h3.1.symm
  obtain ⟨q0, -, hq⟩ := Wd_at ad cy g (k_items ha)
  obtain ⟨q1, hq2, hq1⟩ := Wd_at ad cy g (k_items hb)
  simp only [okcpy, Bool.and_eq_true, decide_eq_true_eq] at ho
  have hw := X.2.2.2.2.2.2.1
  refine va_copyi (D := D) (ty := .int) (f := g 2 a) (g := g 2 b) X.1 X.2.1 hml X.2.2.2.2.2.1 (hw _ wd_copy.1) (hw _ wd_copy.2.1) (hw _ wd_copy.2.2.1) (hw _ wd_copy.2.2.2) X.2.2.2.2.2.2.2.1 h1 (Wd_D X.2.2.2.2.2.2.2.2.1 cy g s.heap.size) h2 q0 q1 0 0 hq hq1 rfl rfl rfl ho.1 ho.2.1 ho.2.2.1 ho.2.2.2.1 ho.2.2.2.2 (fun _ _ => rfl) (show 1 ≤ d + 1 by omega) ?_ hd (fun H1 locs1 hP _ hS => ?_)
  · have e : nativeFrameWords "java/lang/System" "arraycopy" 5 + 11 ≤ 52 := by decide +kernel
    show _ ≤ 60 * (d + 1)
    omega
  · have he' : cellW ad cy (g2 g 2 b (va_cpy (g 2 a) (g 2 b) i.toNatClampNeg j.toNatClampNeg n.toNatClampNeg)) (9, 2, b) = .inl (cy 0, 40, .inl (va_cpy (g 2 a) (g 2 b) i.toNatClampNeg j.toNatClampNeg n.toNatClampNeg)) := by simp [cellW, arrI, g2, va_up]
    have hP : va_P D vwCl ((Wd ad cy g).set q1 (ad (9, 2, b), .inl (cy 0, 40, .inl (va_cpy (g 2 a) (g 2 b) i.toNatClampNeg j.toNatClampNeg n.toNatClampNeg)))) H1 := hP
    rw [Wd_set hq2 he' (swI g b _)] at hP
    exact k H1 locs1 ls hP hS h3
theorem v_power {d d' : Nat} (X : Cx p (rmd d) s m args meth c RX2 cc nL ret D ad cy) {x : Int64} {n : Int32} {r : Int64} {g' : GS} {rest : List Value} (hM : CtL l D ad cy yX7_power cX7_power 6 d' [.long x, .int n] g r g') (hd' : d' < d) (hr : (rest.map fun v => v.category).sum ≤ 8) (hd : decode cc pc = .ok (.invokestatic 158, 3)) (k : Vy p l e (rmd d) s m args below meth c nL D ad cy Q (pc + 3) lc (.long r :: rest) g') : Vy p l e (rmd d) s m args below meth c nL D ad cy Q pc lc (.int n :: .long x :: rest) g := by
  intro H locs ls h1 h2 h3
  obtain ⟨hx, hb, hml, -, -, hown, hts, hK, hI, hNw⟩ := X
  refine va_calll (va_runSN (As := [.long x, .int n]) (rest := rest) ⟨hx, hb, hml, hown, hts⟩ (hM H.size) ⟨⟨⟨rfl, rfl, (rm_ok hd' mw_X7_power.2.2.2.2).1, (rm_ok hd' mw_X7_power.2.2.2.2).2, pay_in hts mw_X7_power.good, List.mem_cons_self⟩, hts _ mw_X7_power.1, hts _ mw_X7_power.2.2.1, ⟨mw_X7_power.2.2.2.1.1, mw_X7_power.2.2.2.1.2.1⟩, fun sig h => ?_, va_Nw.use rfl hNw⟩, hts _ mw_X7_power.2.1, trivial⟩ ⟨PG_blind D ad cy g H.size _, fun U hU hW => ⟨rfl, by rw [hU], by rw [hU]; exact h1, va_K.moved hW.alike hK, va_Nw.warmM hW hNw⟩⟩ rfl rfl h3.1 rfl (lv_room hr) hd ⟨Nat.le_refl _, Nat.le_refl _⟩) h2 (fun q _ h => AA_mono h2 q h) (AA_mono h2) (fun r1 u t H1 locs1 ht hvm hw hB hz1 hk1 hS => ?_)
  · have h2 := mw_X7_power.2.2.2.1.2.2
    rw [h] at h2
    exact (Option.some.inj h2).symm
  · obtain ⟨rfl, rfl⟩ := hw
    exact k H1 locs1 ls (ht ▸ hB.1) hS h3
end SU2
theorem v_vali {p : Program} {l : Launch} {e : Env} {R : Room} {s : State} {m : MethodId} {args : Array Value} {below : List Frame} {meth : Method} {c : Code} {nL : Nat} {D : va_G} {ad : Ky → Nat} {cy : Nat → ClassId} {Q : State → Prop} {pc : Nat} {lc : List (Option Value)} {st : List Value} {g : GS} {v v2 : Int32} (h : v = v2) (k : Vy p l e R s m args below meth c nL D ad cy Q pc lc (.int v2 :: st) g) : Vy p l e R s m args below meth c nL D ad cy Q pc lc (.int v :: st) g := h ▸ k
