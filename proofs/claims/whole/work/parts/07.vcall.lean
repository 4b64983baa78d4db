/-! ===== contracts of the system's methods over the whole world; calls and returns ===== -/
abbrev rmd (d : Nat) : Room := { frames := d, cells := 0, slots := 0, locals := 60 * d }
/-- y answers r (an int), the state is g' then -/
def CtI (l : Launch) (D : va_G) (ad : Ky → Nat) (cy : Nat → ClassId) (y : MethodName) (bytes : ByteArray) (maxL : Nat) (ret : Option FieldType) (d : Nat) (av : List Value) (g : GS) (r : Int32) (g' : GS) : Prop :=
  ∀ sz : Nat, Met l y (Cond.code y bytes maxL ret :: lwg) (rmd d) (va_Pc av (PG D ad cy g sz)) (va_Qi (fun r' u => r' = r ∧ u = g') (BG D ad cy) (AA ad sz)) 0 0 (AA ad sz)
def CtL (l : Launch) (D : va_G) (ad : Ky → Nat) (cy : Nat → ClassId) (y : MethodName) (bytes : ByteArray) (maxL : Nat) (d : Nat) (av : List Value) (g : GS) (r : Int64) (g' : GS) : Prop :=
  ∀ sz : Nat, Met l y (Cond.code y bytes maxL (some .long) :: lwg) (rmd d) (va_Pc av (PG D ad cy g sz)) (va_Ql (fun r' u => r' = r ∧ u = g') (BG D ad cy) (AA ad sz)) 0 0 (AA ad sz)
def CtV (l : Launch) (D : va_G) (ad : Ky → Nat) (cy : Nat → ClassId) (y : MethodName) (bytes : ByteArray) (maxL : Nat) (d : Nat) (av : List Value) (g : GS) (g' : GS) : Prop :=
  ∀ sz : Nat, Met l y (Cond.code y bytes maxL none :: lwg) (rmd d) (va_Pc av (PG D ad cy g sz)) (va_Qv (fun u => u = g') (BG D ad cy) (AA ad sz)) 0 0 (AA ad sz)
def QI (D : va_G) (ad : Ky → Nat) (cy : Nat → ClassId) (below : List Frame) (args : Array Value) (s : State) (r : Int32) (g' : GS) : State → Prop := MQ below (va_Qi (fun r' u => r' = r ∧ u = g') (BG D ad cy) (AA ad s.heap.size)) args s 0 0 (AA ad s.heap.size)
def QL (D : va_G) (ad : Ky → Nat) (cy : Nat → ClassId) (below : List Frame) (args : Array Value) (s : State) (r : Int64) (g' : GS) : State → Prop := MQ below (va_Ql (fun r' u => r' = r ∧ u = g') (BG D ad cy) (AA ad s.heap.size)) args s 0 0 (AA ad s.heap.size)
def QV (D : va_G) (ad : Ky → Nat) (cy : Nat → ClassId) (below : List Frame) (args : Array Value) (s : State) (g' : GS) : State → Prop := MQ below (va_Qv (fun u => u = g') (BG D ad cy) (AA ad s.heap.size)) args s 0 0 (AA ad s.heap.size)
theorem PG_blind (D : va_G) (ad : Ky → Nat) (cy : Nat → ClassId) (g : GS) (sz : Nat) (av : List Value) : FrameBlind (va_Pc av (PG D ad cy g sz)) :=
  fun a U fr mk q => by obtain ⟨q0, q1, qP, qK, qN⟩ := q; exact ⟨q0, q1, qP, va_K.moved (u := U) (U := U.calling fr mk a) (Vm.Alike.refl U.vm) qK, va_Nw.same rfl (u := U) (U := U.calling fr mk a) rfl qN⟩
section VC
variable {p : Program} {l : Launch} {e : Env} {s : State} {m : MethodId} {args : Array Value} {below : List Frame} {meth : Method} {c : Code} {own : String} {cc : ByteArray} {nL d : Nat} {ret : Option FieldType} {D : va_G} {ad : Ky → Nat} {cy : Nat → ClassId} {pc : Nat} {lc : List (Option Value)} {st : List Value} {g : GS}
/-- a contract out of its way -/
theorem CtI.of {y : MethodName} {av : List Value} {r : Int32} {g' : GS} (k : Nat) (hI : Inj ad) (hy : plainName y.cls = true) (hown : y.cls = own) (hn : (lg_sl av).length ≤ nL)
    (body : ∀ (p : Program) (e : Env) (s : State) (m : MethodId) (args : Array Value) (below : List Frame) (meth : Method) (c : Code), Cx p (rmd d) s m args meth c own cc nL ret D ad cy → Vy p l e (rmd d) s m args below meth c nL D ad cy (QI D ad cy below args s r g') 0 (entl av ++ List.replicate k none) [] g) : CtI l D ad cy y cc nL ret d av g r g' := by
  intro sz
  refine Met.ofW (cc := cc) (maxL := nL) (ret := ret) hy rfl ?_
  intro p e s m args below meth c s₁ B hml hv
  obtain ⟨rfl, hsz, hP, hK, hN⟩ := hv
  have hts := atoms_spec (ws := Cond.code y cc nL ret :: lwg) B.pre
  have ho : s.vm.findClass own = some m.cls := hown ▸ findClass_of_methodNamed B.named
  subst hsz
  have hl := lv_entry av (n := nL) hn
  rw [lg_entry_eq]
  exact body p e s m _ below meth c ⟨B.exec, B.bytes, hml, B.returns, B.notSynchronized, ho, fun w h => hts w (List.mem_cons_of_mem _ h), hK, hI, hN⟩ s.heap [] _ hP va_S.rf (Lc.entry hl)
theorem CtL.of {y : MethodName} {av : List Value} {r : Int64} {g' : GS} (k : Nat) (hI : Inj ad) (hy : plainName y.cls = true) (hown : y.cls = own) (hn : (lg_sl av).length ≤ nL)
    (body : ∀ (p : Program) (e : Env) (s : State) (m : MethodId) (args : Array Value) (below : List Frame) (meth : Method) (c : Code), Cx p (rmd d) s m args meth c own cc nL (some .long) D ad cy → Vy p l e (rmd d) s m args below meth c nL D ad cy (QL D ad cy below args s r g') 0 (entl av ++ List.replicate k none) [] g) : CtL l D ad cy y cc nL d av g r g' := by
  intro sz
  refine Met.ofW (cc := cc) (maxL := nL) (ret := some .long) hy rfl ?_
  intro p e s m args below meth c s₁ B hml hv
  obtain ⟨rfl, hsz, hP, hK, hN⟩ := hv
  have hts := atoms_spec (ws := Cond.code y cc nL (some .long) :: lwg) B.pre
  have ho : s.vm.findClass own = some m.cls := hown ▸ findClass_of_methodNamed B.named
  subst hsz
  have hl := lv_entry av (n := nL) hn
  rw [lg_entry_eq]
  exact body p e s m _ below meth c ⟨B.exec, B.bytes, hml, B.returns, B.notSynchronized, ho, fun w h => hts w (List.mem_cons_of_mem _ h), hK, hI, hN⟩ s.heap [] _ hP va_S.rf (Lc.entry hl)
theorem CtV.of {y : MethodName} {av : List Value} {g' : GS} (k : Nat) (hI : Inj ad) (hy : plainName y.cls = true) (hown : y.cls = own) (hn : (lg_sl av).length ≤ nL)
    (body : ∀ (p : Program) (e : Env) (s : State) (m : MethodId) (args : Array Value) (below : List Frame) (meth : Method) (c : Code), Cx p (rmd d) s m args meth c own cc nL none D ad cy → Vy p l e (rmd d) s m args below meth c nL D ad cy (QV D ad cy below args s g') 0 (entl av ++ List.replicate k none) [] g) : CtV l D ad cy y cc nL d av g g' := by
  intro sz
  refine Met.ofW (cc := cc) (maxL := nL) (ret := none) hy rfl ?_
  intro p e s m args below meth c s₁ B hml hv
  obtain ⟨rfl, hsz, hP, hK, hN⟩ := hv
  have hts := atoms_spec (ws := Cond.code y cc nL none :: lwg) B.pre
  have ho : s.vm.findClass own = some m.cls := hown ▸ findClass_of_methodNamed B.named
  subst hsz
  have hl := lv_entry av (n := nL) hn
  rw [lg_entry_eq]
  exact body p e s m _ below meth c ⟨B.exec, B.bytes, hml, B.returns, B.notSynchronized, ho, fun w h => hts w (List.mem_cons_of_mem _ h), hK, hI, hN⟩ s.heap [] _ hP va_S.rf (Lc.entry hl)
/-- returns -/
theorem v_iret {R : Room} (X : Cx p R s m args meth c own cc nL (some .int) D ad cy) {v r : Int32} {g' : GS} (hd : decode cc pc = .ok (.ireturn, 1)) (hv : v = r) (hg : g = g') : Vy p l e R s m args below meth c nL D ad cy (QI D ad cy below args s r g') pc lc [.int v] g := by
  intro H locs ls h1 h2 h3
  have hlocks : meth.locks = false := X.2.2.2.2.1
  exact W.iret (v := v) X.1 X.2.1 X.2.2.2.1 (fun t ht hW => ⟨⟨v, g, rfl, ⟨hv, hg⟩, by rw [ht]; exact h1, va_K.moved hW.alike X.2.2.2.2.2.2.2.1⟩, h2.F ht⟩) h2.2.2 hd hlocks
theorem v_zret {R : Room} (X : Cx p R s m args meth c own cc nL (some .boolean) D ad cy) {v r : Int32} {g' : GS} (hd : decode cc pc = .ok (.ireturn, 1)) (hn : narrow .boolean (.int v) = .int v) (hv : v = r) (hg : g = g') : Vy p l e R s m args below meth c nL D ad cy (QI D ad cy below args s r g') pc lc [.int v] g := by
  intro H locs ls h1 h2 h3
  have hlocks : meth.locks = false := X.2.2.2.2.1
  exact W.zret (v := v) X.1 X.2.1 X.2.2.2.1 hn (fun t ht hW => ⟨⟨v, g, rfl, ⟨hv, hg⟩, by rw [ht]; exact h1, va_K.moved hW.alike X.2.2.2.2.2.2.2.1⟩, h2.F ht⟩) h2.2.2 hd hlocks
theorem v_lret {R : Room} (X : Cx p R s m args meth c own cc nL (some .long) D ad cy) {v r : Int64} {g' : GS} (hd : decode cc pc = .ok (.lreturn, 1)) (hv : v = r) (hg : g = g') : Vy p l e R s m args below meth c nL D ad cy (QL D ad cy below args s r g') pc lc [.long v] g := by
  intro H locs ls h1 h2 h3
  have hlocks : meth.locks = false := X.2.2.2.2.1
  exact W.lret (v := v) X.1 X.2.1 X.2.2.2.1 (fun t ht hW => ⟨⟨v, g, rfl, ⟨hv, hg⟩, by rw [ht]; exact h1, va_K.moved hW.alike X.2.2.2.2.2.2.2.1⟩, h2.F ht⟩) h2.2.2 hd hlocks
theorem v_vret {R : Room} (X : Cx p R s m args meth c own cc nL none D ad cy) {g' : GS} (hd : decode cc pc = .ok (.return_, 1)) (hg : g = g') : Vy p l e R s m args below meth c nL D ad cy (QV D ad cy below args s g') pc lc [] g := by
  intro H locs ls h1 h2 h3
  have hlocks : meth.locks = false := X.2.2.2.2.1
  exact W.vret X.1 X.2.1 X.2.2.2.1 (fun t ht hW => ⟨⟨g, rfl, hg, by rw [ht]; exact h1, va_K.moved hW.alike X.2.2.2.2.2.2.2.1⟩, h2.F ht⟩) h2.2.2 hd hlocks
/-- what a call of an instance method y needs of the tables -/
def MwV (y : MethodName) (bytes : ByteArray) (maxL : Nat) (ret : Option FieldType) (n : Nat) : Prop :=
  Cond.code y bytes maxL ret ∈ lwg ∧ Cond.instanceMethod y ∈ lwg ∧ Cond.selects y.cls y y ∈ lwg ∧ Cond.initialized y.cls ∈ lwg ∧ (y.cls ≠ "java/lang/invoke/MethodHandle" ∧ y.cls ≠ "java/lang/invoke/VarHandle" ∧ (parseMethodDescriptor y.desc).map (fun d => d.parameters.length) = some n) ∧ maxL ≤ 40
def MwS (y : MethodName) (bytes : ByteArray) (maxL : Nat) (ret : Option FieldType) (n : Nat) : Prop :=
  Cond.code y bytes maxL ret ∈ lwg ∧ Cond.static y ∈ lwg ∧ Cond.initialized y.cls ∈ lwg ∧ (y.cls ≠ "java/lang/invoke/MethodHandle" ∧ y.cls ≠ "java/lang/invoke/VarHandle" ∧ (parseMethodDescriptor y.desc).map (fun d => d.parameters.length) = some n) ∧ maxL ≤ 40
theorem MwV.good {y : MethodName} {bytes : ByteArray} {maxL n index : Nat} {ret : Option FieldType} (h : MwV y bytes maxL ret n) (hl : Cond.methodLink own index y ∈ lwg) : GoodIn lwg (wsV own index y.cls y (Cond.code y bytes maxL ret :: lwg)) := by
  intro w hw
  have : w ∈ lwg := by
    simp only [wsV, List.mem_append, List.mem_cons, List.not_mem_nil, or_false] at hw
    rcases hw with (rfl | rfl | rfl | rfl) | rfl | hw
    · exact hl
    · exact h.2.1
    · exact h.2.2.1
    · exact h.2.2.2.1
    · exact h.1
    · exact hw
  exact ⟨this, lwg_good this⟩
theorem MwS.good {y : MethodName} {bytes : ByteArray} {maxL n : Nat} {ret : Option FieldType} (h : MwS y bytes maxL ret n) : GoodIn lwg (Cond.code y bytes maxL ret :: lwg) := by
  intro w hw
  have : w ∈ lwg := by
    rcases List.mem_cons.mp hw with rfl | hw
    · exact h.1
    · exact hw
  exact ⟨this, lwg_good this⟩
theorem rm_ok {d d' maxL : Nat} (h : d' < d) (hm : maxL ≤ 40) : (rmd d').frames + 1 ≤ (rmd d).frames ∧ 8 + (maxL + 11) + (rmd d').locals ≤ (rmd d).locals := by
  show d' + 1 ≤ d ∧ 8 + (maxL + 11) + 60 * d' ≤ 60 * d
  omega
theorem AA_mono {s : State} {H : Heap} {locs : List Loc} (h2 : va_S (AA ad s.heap.size) s.heap H locs) : ∀ q, AA ad H.size q → AA ad s.heap.size q := by
  intro q h
  rcases h with h | h
  · exact Or.inl h
  · exact Or.inr (Nat.le_trans h2.1 h)
theorem v_callVI (X : Cx p (rmd d) s m args meth c own cc nL ret D ad cy) {Q : State → Prop} {y : MethodName} {bytes : ByteArray} {maxL n index d' : Nat} {retc : Option FieldType} {C : String} {T : u_T} {N a b i : Nat} {As rest : List Value} {r : Int32} {g' : GS}
    (hM : CtI l D ad cy y bytes maxL retc d' (.ref (ad (a, b, i)) :: As) g r g') (mw : MwV y bytes maxL retc n) (ml : Cond.methodLink own index y ∈ lwg) (hd' : d' < d) (hk : ((a, b, i) : Ky) ∈ keys) (h9 : a < 9) (hC : vwCl[a]? = some (C, T, N)) (hCy : C = y.cls) (hn : As.length = n) (hst : st = As.reverse ++ .ref (ad (a, b, i)) :: rest) (hr : (rest.map fun v => v.category).sum ≤ 8) (hd : decode cc pc = .ok (.invokevirtual index, 3))
    (k : Vy p l e (rmd d) s m args below meth c nL D ad cy Q (pc + 3) lc (.int r :: rest) g') : Vy p l e (rmd d) s m args below meth c nL D ad cy Q pc lc st g := by
  intro H locs ls h1 h2 h3
  obtain ⟨hx, hb, hml, -, -, hown, hts, hK, hI, hNw⟩ := X
  obtain ⟨q0, -, hq⟩ := Wd_at ad cy g hk
  have he : cellW ad cy g (a, b, i) = .inr (a, cellO ad g a b i) := by simp [cellW, h9]
  rw [he] at hq
  subst hst
  subst hCy
  refine va_calli (va_runV (As := As) (rest := rest) ⟨hx, hb, hml, hown, hts⟩ (hM H.size) (cwV n hts (mw.good ml) rfl rfl rfl ⟨rfl, mw.2.2.2.2.1⟩ (rm_ok hd' mw.2.2.2.2.2)) ⟨PG_blind D ad cy g H.size _, va_recv hK h1 hC hq, fun U hU hW => ⟨rfl, by rw [hU], by rw [hU]; exact h1, va_K.moved hW.alike hK, va_Nw.warmM hW hNw⟩⟩ rfl hn h3.1 rfl (lv_room hr) hd ⟨Nat.le_refl _, Nat.le_refl _⟩) h2 (fun q _ h => AA_mono h2 q h) (AA_mono h2) (fun r1 u t H1 locs1 ht hvm hw hB hz1 hk1 hS => ?_)
  obtain ⟨rfl, rfl⟩ := hw
  exact k H1 locs1 ls (ht ▸ hB.1) hS h3
theorem v_callVL (X : Cx p (rmd d) s m args meth c own cc nL ret D ad cy) {Q : State → Prop} {y : MethodName} {bytes : ByteArray} {maxL n index d' : Nat} {C : String} {T : u_T} {N a b i : Nat} {As rest : List Value} {r : Int64} {g' : GS}
    (hM : CtL l D ad cy y bytes maxL d' (.ref (ad (a, b, i)) :: As) g r g') (mw : MwV y bytes maxL (some .long) n) (ml : Cond.methodLink own index y ∈ lwg) (hd' : d' < d) (hk : ((a, b, i) : Ky) ∈ keys) (h9 : a < 9) (hC : vwCl[a]? = some (C, T, N)) (hCy : C = y.cls) (hn : As.length = n) (hst : st = As.reverse ++ .ref (ad (a, b, i)) :: rest) (hr : (rest.map fun v => v.category).sum ≤ 8) (hd : decode cc pc = .ok (.invokevirtual index, 3))
    (k : Vy p l e (rmd d) s m args below meth c nL D ad cy Q (pc + 3) lc (.long r :: rest) g') : Vy p l e (rmd d) s m args below meth c nL D ad cy Q pc lc st g := by
  intro H locs ls h1 h2 h3
  obtain ⟨hx, hb, hml, -, -, hown, hts, hK, hI, hNw⟩ := X
  obtain ⟨q0, -, hq⟩ := Wd_at ad cy g hk
  have he : cellW ad cy g (a, b, i) = .inr (a, cellO ad g a b i) := by simp [cellW, h9]
  rw [he] at hq
  subst hst
  subst hCy
  refine va_calll (va_runV (As := As) (rest := rest) ⟨hx, hb, hml, hown, hts⟩ (hM H.size) (cwV n hts (mw.good ml) rfl rfl rfl ⟨rfl, mw.2.2.2.2.1⟩ (rm_ok hd' mw.2.2.2.2.2)) ⟨PG_blind D ad cy g H.size _, va_recv hK h1 hC hq, fun U hU hW => ⟨rfl, by rw [hU], by rw [hU]; exact h1, va_K.moved hW.alike hK, va_Nw.warmM hW hNw⟩⟩ rfl hn h3.1 rfl (lv_room hr) hd ⟨Nat.le_refl _, Nat.le_refl _⟩) h2 (fun q _ h => AA_mono h2 q h) (AA_mono h2) (fun r1 u t H1 locs1 ht hvm hw hB hz1 hk1 hS => ?_)
  obtain ⟨rfl, rfl⟩ := hw
  exact k H1 locs1 ls (ht ▸ hB.1) hS h3
theorem v_callVV (X : Cx p (rmd d) s m args meth c own cc nL ret D ad cy) {Q : State → Prop} {y : MethodName} {bytes : ByteArray} {maxL n index d' : Nat} {C : String} {T : u_T} {N a b i : Nat} {As rest : List Value} {g' : GS}
    (hM : CtV l D ad cy y bytes maxL d' (.ref (ad (a, b, i)) :: As) g g') (mw : MwV y bytes maxL none n) (ml : Cond.methodLink own index y ∈ lwg) (hd' : d' < d) (hk : ((a, b, i) : Ky) ∈ keys) (h9 : a < 9) (hC : vwCl[a]? = some (C, T, N)) (hCy : C = y.cls) (hn : As.length = n) (hst : st = As.reverse ++ .ref (ad (a, b, i)) :: rest) (hr : (rest.map fun v => v.category).sum ≤ 8) (hd : decode cc pc = .ok (.invokevirtual index, 3))
    (k : Vy p l e (rmd d) s m args below meth c nL D ad cy Q (pc + 3) lc rest g') : Vy p l e (rmd d) s m args below meth c nL D ad cy Q pc lc st g := by
  intro H locs ls h1 h2 h3
  obtain ⟨hx, hb, hml, -, -, hown, hts, hK, hI, hNw⟩ := X
  obtain ⟨q0, -, hq⟩ := Wd_at ad cy g hk
  have he : cellW ad cy g (a, b, i) = .inr (a, cellO ad g a b i) := by simp [cellW, h9]
  rw [he] at hq
  subst hst
  subst hCy
  refine va_callv (va_runV (As := As) (rest := rest) ⟨hx, hb, hml, hown, hts⟩ (hM H.size) (cwV n hts (mw.good ml) rfl rfl rfl ⟨rfl, mw.2.2.2.2.1⟩ (rm_ok hd' mw.2.2.2.2.2)) ⟨PG_blind D ad cy g H.size _, va_recv hK h1 hC hq, fun U hU hW => ⟨rfl, by rw [hU], by rw [hU]; exact h1, va_K.moved hW.alike hK, va_Nw.warmM hW hNw⟩⟩ rfl hn h3.1 rfl (lv_room hr) hd ⟨Nat.le_refl _, Nat.le_refl _⟩) h2 (fun q _ h => AA_mono h2 q h) (AA_mono h2) (fun u t H1 locs1 ht hvm hw hB hz1 hk1 hS => ?_)
  subst hw
  exact k H1 locs1 ls (ht ▸ hB.1) hS h3
theorem v_callSI (X : Cx p (rmd d) s m args meth c own cc nL ret D ad cy) {Q : State → Prop} {y : MethodName} {bytes : ByteArray} {maxL n index d' : Nat} {retc : Option FieldType} {As rest : List Value} {r : Int32} {g' : GS}
    (hM : CtI l D ad cy y bytes maxL retc d' As g r g') (mw : MwS y bytes maxL retc n) (ml : Cond.methodLink own index y ∈ lwg) (hd' : d' < d) (hn : As.length = n) (hst : st = As.reverse ++ rest) (hr : (rest.map fun v => v.category).sum ≤ 8) (hd : decode cc pc = .ok (.invokestatic index, 3))
    (k : Vy p l e (rmd d) s m args below meth c nL D ad cy Q (pc + 3) lc (.int r :: rest) g') : Vy p l e (rmd d) s m args below meth c nL D ad cy Q pc lc st g := by
  intro H locs ls h1 h2 h3
  obtain ⟨hx, hb, hml, -, -, hown, hts, hK, hI, hNw⟩ := X
  subst hst
  refine va_calli (va_runS (As := As) (rest := rest) ⟨hx, hb, hml, hown, hts⟩ (hM H.size) ⟨callB_of n hts mw.good rfl rfl rfl (hts _ mw.2.2.1) (hts _ ml) mw.2.2.2.1 (rm_ok hd' mw.2.2.2.2), hts _ mw.2.1⟩ ⟨PG_blind D ad cy g H.size _, fun U hU hW => ⟨rfl, by rw [hU], by rw [hU]; exact h1, va_K.moved hW.alike hK, va_Nw.warmM hW hNw⟩⟩ rfl hn h3.1 rfl (lv_room hr) hd ⟨Nat.le_refl _, Nat.le_refl _⟩) h2 (fun q _ h => AA_mono h2 q h) (AA_mono h2) (fun r1 u t H1 locs1 ht hvm hw hB hz1 hk1 hS => ?_)
  obtain ⟨rfl, rfl⟩ := hw
  exact k H1 locs1 ls (ht ▸ hB.1) hS h3
theorem v_callSL (X : Cx p (rmd d) s m args meth c own cc nL ret D ad cy) {Q : State → Prop} {y : MethodName} {bytes : ByteArray} {maxL n index d' : Nat} {As rest : List Value} {r : Int64} {g' : GS}
    (hM : CtL l D ad cy y bytes maxL d' As g r g') (mw : MwS y bytes maxL (some .long) n) (ml : Cond.methodLink own index y ∈ lwg) (hd' : d' < d) (hn : As.length = n) (hst : st = As.reverse ++ rest) (hr : (rest.map fun v => v.category).sum ≤ 8) (hd : decode cc pc = .ok (.invokestatic index, 3))
    (k : Vy p l e (rmd d) s m args below meth c nL D ad cy Q (pc + 3) lc (.long r :: rest) g') : Vy p l e (rmd d) s m args below meth c nL D ad cy Q pc lc st g := by
  intro H locs ls h1 h2 h3
  obtain ⟨hx, hb, hml, -, -, hown, hts, hK, hI, hNw⟩ := X
  subst hst
  refine va_calll (va_runS (As := As) (rest := rest) ⟨hx, hb, hml, hown, hts⟩ (hM H.size) ⟨callB_of n hts mw.good rfl rfl rfl (hts _ mw.2.2.1) (hts _ ml) mw.2.2.2.1 (rm_ok hd' mw.2.2.2.2), hts _ mw.2.1⟩ ⟨PG_blind D ad cy g H.size _, fun U hU hW => ⟨rfl, by rw [hU], by rw [hU]; exact h1, va_K.moved hW.alike hK, va_Nw.warmM hW hNw⟩⟩ rfl hn h3.1 rfl (lv_room hr) hd ⟨Nat.le_refl _, Nat.le_refl _⟩) h2 (fun q _ h => AA_mono h2 q h) (AA_mono h2) (fun r1 u t H1 locs1 ht hvm hw hB hz1 hk1 hS => ?_)
  obtain ⟨rfl, rfl⟩ := hw
  exact k H1 locs1 ls (ht ▸ hB.1) hS h3
theorem v_callSV (X : Cx p (rmd d) s m args meth c own cc nL ret D ad cy) {Q : State → Prop} {y : MethodName} {bytes : ByteArray} {maxL n index d' : Nat} {As rest : List Value} {g' : GS}
    (hM : CtV l D ad cy y bytes maxL d' As g g') (mw : MwS y bytes maxL none n) (ml : Cond.methodLink own index y ∈ lwg) (hd' : d' < d) (hn : As.length = n) (hst : st = As.reverse ++ rest) (hr : (rest.map fun v => v.category).sum ≤ 8) (hd : decode cc pc = .ok (.invokestatic index, 3))
    (k : Vy p l e (rmd d) s m args below meth c nL D ad cy Q (pc + 3) lc rest g') : Vy p l e (rmd d) s m args below meth c nL D ad cy Q pc lc st g := by
  intro H locs ls h1 h2 h3
  obtain ⟨hx, hb, hml, -, -, hown, hts, hK, hI, hNw⟩ := X
  subst hst
  refine va_callv (va_runS (As := As) (rest := rest) ⟨hx, hb, hml, hown, hts⟩ (hM H.size) ⟨callB_of n hts mw.good rfl rfl rfl (hts _ mw.2.2.1) (hts _ ml) mw.2.2.2.1 (rm_ok hd' mw.2.2.2.2), hts _ mw.2.1⟩ ⟨PG_blind D ad cy g H.size _, fun U hU hW => ⟨rfl, by rw [hU], by rw [hU]; exact h1, va_K.moved hW.alike hK, va_Nw.warmM hW hNw⟩⟩ rfl hn h3.1 rfl (lv_room hr) hd ⟨Nat.le_refl _, Nat.le_refl _⟩) h2 (fun q _ h => AA_mono h2 q h) (AA_mono h2) (fun u t H1 locs1 ht hvm hw hB hz1 hk1 hS => ?_)
  subst hw
  exact k H1 locs1 ls (ht ▸ hB.1) hS h3
/-- Math.max, Math.min -/
theorem v_mmax (X : Cx p (rmd (d + 1)) s m args meth c own cc nL ret D ad cy) {Q : State → Prop} {index : Nat} {x y : Int32} (w1 : Cond.methodLink own index Lib.Math.max.name ∈ lwg) (w2 : Cond.static Lib.Math.max.name ∈ lwg) (w3 : Cond.initialized "java/lang/Math" ∈ lwg) (w4 : Cond.code Lib.Math.max.name Lib.Math.max.code 2 (some .int) ∈ lwg) (hr : (st.map fun v => v.category).sum ≤ 40) (hd : decode cc pc = .ok (.invokestatic index, 3)) (k : Vy p l e (rmd (d + 1)) s m args below meth c nL D ad cy Q (pc + 3) lc (.int (if x < y then y else x) :: st) g) : Vy p l e (rmd (d + 1)) s m args below meth c nL D ad cy Q pc lc (.int y :: .int x :: st) g := by
  intro H locs ls h1 h2 h3
  have hml : c.maxLocals = ls.size := X.2.2.1.trans h3.1.symm
  exact va_mmax X.1 X.2.1 hml X.2.2.2.2.2.1 (X.2.2.2.2.2.2.1 _ w1) (X.2.2.2.2.2.2.1 _ w2) (X.2.2.2.2.2.2.1 _ w3) (X.2.2.2.2.2.2.1 _ w4) (show 1 ≤ d + 1 by omega) (show _ + 13 ≤ 60 * (d + 1) by omega) (Nat.le_refl _) (Nat.le_refl _) hd (k H locs ls h1 h2 h3)
theorem v_mmin (X : Cx p (rmd (d + 1)) s m args meth c own cc nL ret D ad cy) {Q : State → Prop} {index : Nat} {x y : Int32} (w1 : Cond.methodLink own index Lib.Math.min.name ∈ lwg) (w2 : Cond.static Lib.Math.min.name ∈ lwg) (w3 : Cond.initialized "java/lang/Math" ∈ lwg) (w4 : Cond.code Lib.Math.min.name Lib.Math.min.code 2 (some .int) ∈ lwg) (hr : (st.map fun v => v.category).sum ≤ 40) (hd : decode cc pc = .ok (.invokestatic index, 3)) (k : Vy p l e (rmd (d + 1)) s m args below meth c nL D ad cy Q (pc + 3) lc (.int (if y < x then y else x) :: st) g) : Vy p l e (rmd (d + 1)) s m args below meth c nL D ad cy Q pc lc (.int y :: .int x :: st) g := by
  intro H locs ls h1 h2 h3
  have hml : c.maxLocals = ls.size := X.2.2.1.trans h3.1.symm
  exact va_mmin X.1 X.2.1 hml X.2.2.2.2.2.1 (X.2.2.2.2.2.2.1 _ w1) (X.2.2.2.2.2.2.1 _ w2) (X.2.2.2.2.2.2.1 _ w3) (X.2.2.2.2.2.2.1 _ w4) (show 1 ≤ d + 1 by omega) (show _ + 13 ≤ 60 * (d + 1) by omega) (Nat.le_refl _) (Nat.le_refl _) hd (k H locs ls h1 h2 h3)
end VC
