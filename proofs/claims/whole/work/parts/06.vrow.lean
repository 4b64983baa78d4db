/-! ===== a method's stretch of the way, over the whole system's world ===== -/
/-- the locals: those that are known -/
def Lc (ls : Array Slot) (nL : Nat) (lc : List (Option Value)) : Prop := ls.size = nL ∧ lv_wf ls ∧ ∀ (i : Nat) (v : Value), lc[i]? = some (some v) → ls[i]? = some (.val v)
def lcl : Nat → List (Option Value) → List (Nat × Value)
  | _, [] => []
  | n, none :: t => lcl (n + 1) t
  | n, some v :: t => (n, v) :: lcl (n + 1) t
theorem lcl_mem {lc : List (Option Value)} : ∀ {n i : Nat} {v : Value}, lc[i]? = some (some v) → (n + i, v) ∈ lcl n lc := by
  induction lc with
  | nil => intro n i v h; simp at h
  | cons a t ih =>
    intro n i v h
    cases i with
    | zero =>
      simp at h
      subst h
      simp [lcl]
    | succ i =>
      have h2 := ih (n := n + 1) (i := i) (by simpa using h)
      rw [show n + 1 + i = n + (i + 1) by omega] at h2
      cases a with
      | none => exact h2
      | some w => exact List.mem_cons_of_mem _ h2
theorem lcl_inv {lc : List (Option Value)} : ∀ {n : Nat} {q : Nat × Value}, q ∈ lcl n lc → ∃ i, q.1 = n + i ∧ lc[i]? = some (some q.2) := by
  induction lc with
  | nil => intro n q h; simp [lcl] at h
  | cons a t ih =>
    intro n q h
    cases a with
    | none =>
      obtain ⟨i, h1, h2⟩ := ih (n := n + 1) (q := q) h
      exact ⟨i + 1, by omega, by simpa using h2⟩
    | some w =>
      rcases List.mem_cons.mp h with rfl | h
      · exact ⟨0, rfl, rfl⟩
      · obtain ⟨i, h1, h2⟩ := ih (n := n + 1) (q := q) h
        exact ⟨i + 1, by omega, by simpa using h2⟩
theorem Lc.has {ls : Array Slot} {nL : Nat} {lc : List (Option Value)} (h : Lc ls nL lc) : lv_has ls nL (lcl 0 lc) := by
  refine ⟨h.1, h.2.1, fun q hq => ?_⟩
  obtain ⟨i, h1, h2⟩ := lcl_inv hq
  rw [h1, Nat.zero_add]
  exact h.2.2 i q.2 h2
theorem Lc.at {ls : Array Slot} {nL : Nat} {lc : List (Option Value)} (h : Lc ls nL lc) {i : Nat} {v : Value} (hv : lc[i]? = some (some v)) : ls[i]? = some (.val v) := h.2.2 i v hv
/-- no long stands just before -/
def okst (lc : List (Option Value)) (i : Nat) : Bool := match i with
  | 0 => true
  | j + 1 => match lc[j]? with
    | some (some w) => !(w.category == 2)
    | _ => true
theorem Lc.of1 {ls' : Array Slot} {nL : Nat} {lc : List (Option Value)} {i : Nat} {v : Value} (ho : okst lc i = true) (h : lv_has ls' nL ((i, v) :: (lcl 0 lc).filter (fun q => !(q.1 == i) && !(q.1 + 1 == i && q.2.category == 2)))) : Lc ls' nL (lc.set i (some v)) := by
  refine ⟨h.1, h.2.1, fun j w hj => ?_⟩
  rw [List.getElem?_set] at hj
  by_cases e : i = j
  · subst e
    rw [if_pos rfl] at hj
    split at hj
    · cases hj
      exact h.2.2 (i, v) List.mem_cons_self
    · cases hj
  · rw [if_neg e] at hj
    have hm := lcl_mem (n := 0) hj
    rw [Nat.zero_add] at hm
    refine h.2.2 (j, w) (List.mem_cons_of_mem _ (List.mem_filter.mpr ⟨hm, ?_⟩))
    have h1 : (j == i) = false := by simpa using fun q => e q.symm
    have h2 : (j + 1 == i && w.category == 2) = false := by
      by_cases q : j + 1 = i
      · subst q
        simp only [okst, hj] at ho
        simpa using ho
      · simp [q]
    simp only [h1, h2, Bool.not_false, Bool.and_self]
theorem Lc.of2 {ls' : Array Slot} {nL : Nat} {lc : List (Option Value)} {i : Nat} {v : Value} (ho : okst lc i = true) (h : lv_has ls' nL ((i, v) :: (lcl 0 lc).filter (fun q => !(q.1 == i) && (!(q.1 == i + 1) && !(q.1 + 1 == i && q.2.category == 2))))) : Lc ls' nL ((lc.set i (some v)).set (i + 1) none) := by
  refine ⟨h.1, h.2.1, fun j w hj => ?_⟩
  rw [List.getElem?_set] at hj
  by_cases e : i + 1 = j
  · subst e
    rw [if_pos rfl] at hj
    split at hj <;> cases hj
  · rw [if_neg e, List.getElem?_set] at hj
    by_cases e2 : i = j
    · subst e2
      rw [if_pos rfl] at hj
      split at hj
      · cases hj
        exact h.2.2 (i, v) List.mem_cons_self
      · cases hj
    · rw [if_neg e2] at hj
      have hm := lcl_mem (n := 0) hj
      rw [Nat.zero_add] at hm
      refine h.2.2 (j, w) (List.mem_cons_of_mem _ (List.mem_filter.mpr ⟨hm, ?_⟩))
      have h1 : (j == i) = false := by simpa using fun q => e2 q.symm
      have h3 : (j == i + 1) = false := by simpa using fun q => e q.symm
      have h2 : (j + 1 == i && w.category == 2) = false := by
        by_cases q : j + 1 = i
        · subst q
          simp only [okst, hj] at ho
          simpa using ho
        · simp [q]
      simp only [h1, h2, h3, Bool.not_false, Bool.and_self]
/-- the locals at a method's entry -/
def entl : List Value → List (Option Value)
  | [] => []
  | v :: vs => if v.category = 2 then some v :: none :: entl vs else some v :: entl vs
theorem entl_mem : ∀ (vs : List Value) (n i : Nat) (v : Value), (entl vs)[i]? = some (some v) → (n + i, v) ∈ lv_args n vs := by
  intro vs
  induction vs with
  | nil => intro n i v h; simp [entl] at h
  | cons a t ih =>
    intro n i v h
    by_cases hc : a.category = 2
    · simp only [entl, hc, if_true] at h
      simp only [lv_args, hc, if_true]
      match i, h with
      | 0, h => simp at h; subst h; exact List.mem_cons_self
      | 1, h => simp at h
      | i + 2, h =>
        have h2 := ih (n + 2) i v (by simpa using h)
        rw [show n + 2 + i = n + (i + 2) by omega] at h2
        exact List.mem_cons_of_mem _ h2
    · simp only [entl, hc, if_false] at h
      simp only [lv_args, hc, if_false]
      match i, h with
      | 0, h => simp at h; subst h; exact List.mem_cons_self
      | i + 1, h =>
        have h2 := ih (n + 1) i v (by simpa using h)
        rw [show n + 1 + i = n + (i + 1) by omega] at h2
        exact List.mem_cons_of_mem _ h2
theorem Lc.entry {ls : Array Slot} {nL k : Nat} {vs : List Value} (h : lv_has ls nL (lv_args 0 vs)) : Lc ls nL (entl vs ++ List.replicate k none) := by
  refine ⟨h.1, h.2.1, fun i v hi => ?_⟩
  by_cases hl : i < (entl vs).length
  · rw [List.getElem?_append_left hl] at hi
    have := entl_mem vs 0 i v hi
    rw [Nat.zero_add] at this
    exact h.2.2 _ this
  · rw [List.getElem?_append_right (by omega)] at hi
    have := List.eq_of_mem_replicate (List.mem_of_getElem? hi)
    cases this
/-- the one word that is carried as a fact of the start: a nest mate's static method -/
abbrev NST : Cond := .methodLinkNest RX2 158 yX7_power RX7
def PG (D : va_G) (ad : Ky → Nat) (cy : Nat → ClassId) (g : GS) (sz : Nat) (U : State) : Prop := U.heap.size = sz ∧ va_P D vwCl (Wd ad cy g) U.heap ∧ va_K D vwCl (tysA cy) U ∧ va_Nw NST U
def BG (D : va_G) (ad : Ky → Nat) (cy : Nat → ClassId) (u : GS) (t : State) : Prop := va_P D vwCl (Wd ad cy u) t.heap ∧ va_K D vwCl (tysA cy) t
/-- what a method's way stands on -/
def Cx (p : Program) (R : Room) (s : State) (m : MethodId) (args : Array Value) (meth : Method) (c : Code) (own : String) (cc : ByteArray) (nL : Nat) (ret : Option FieldType) (D : va_G) (ad : Ky → Nat) (cy : Nat → ClassId) : Prop :=
  p.tables.exec = Jvm.exec ∧ c.code = cc ∧ c.maxLocals = nL ∧ meth.sig.returnType = ret ∧ meth.locks = false ∧ s.vm.findClass own = some m.cls ∧ (∀ w ∈ lwg, w.before args s = true) ∧ va_K D vwCl (tysA cy) s ∧ Inj ad ∧ va_Nw NST s
/-- from pc on, with these locals and this stack, in this state of the system -/
def Vy (p : Program) (l : Launch) (e : Env) (R : Room) (s : State) (m : MethodId) (args : Array Value) (below : List Frame) (meth : Method) (c : Code) (nL : Nat) (D : va_G) (ad : Ky → Nat) (cy : Nat → ClassId) (Q : State → Prop) (pc : Nat) (lc : List (Option Value)) (st : List Value) (g : GS) : Prop :=
  ∀ (H : Heap) (locs : List Loc) (ls : Array Slot), va_P D vwCl (Wd ad cy g) H → va_S (AA ad s.heap.size) s.heap H locs → Lc ls nL lc → W p l e R s m args below meth c H locs 0 0 Q (F0 m pc ls st)
section VY
variable {p : Program} {l : Launch} {e : Env} {R : Room} {s : State} {m : MethodId} {args : Array Value} {below : List Frame} {meth : Method} {c : Code} {own : String} {cc : ByteArray} {nL : Nat} {ret : Option FieldType} {D : va_G} {ad : Ky → Nat} {cy : Nat → ClassId} {Q : State → Prop} {pc : Nat} {lc : List (Option Value)} {st : List Value} {g : GS}
theorem v_iconst (X : Cx p R s m args meth c own cc nL ret D ad cy) {n : Int} {v : Int32} (hd : decode cc pc = .ok (.iconst n, 1)) (hv : Int32.ofInt n = v) (k : Vy p l e R s m args below meth c nL D ad cy Q (pc + 1) lc (.int v :: st) g) : Vy p l e R s m args below meth c nL D ad cy Q pc lc st g :=
  fun H locs ls h1 h2 h3 => lv_iconst X.1 X.2.1 hd hv (k H locs ls h1 h2 h3)
theorem v_bipush (X : Cx p R s m args meth c own cc nL ret D ad cy) {n : Int} {v : Int32} (hd : decode cc pc = .ok (.bipush n, 2)) (hv : (Int8.ofInt n).toInt32 = v) (k : Vy p l e R s m args below meth c nL D ad cy Q (pc + 2) lc (.int v :: st) g) : Vy p l e R s m args below meth c nL D ad cy Q pc lc st g :=
  fun H locs ls h1 h2 h3 => lv_bipush X.1 X.2.1 hd hv (k H locs ls h1 h2 h3)
theorem v_sipush (X : Cx p R s m args meth c own cc nL ret D ad cy) {n : Int} {v : Int32} (hd : decode cc pc = .ok (.sipush n, 3)) (hv : (Int16.ofInt n).toInt32 = v) (k : Vy p l e R s m args below meth c nL D ad cy Q (pc + 3) lc (.int v :: st) g) : Vy p l e R s m args below meth c nL D ad cy Q pc lc st g :=
  fun H locs ls h1 h2 h3 => lv_sipush X.1 X.2.1 hd hv (k H locs ls h1 h2 h3)
theorem v_lconst (X : Cx p R s m args meth c own cc nL ret D ad cy) {n : Fin 2} {v : Int64} (hd : decode cc pc = .ok (.lconst n, 1)) (hv : Int64.ofNat (n : Nat) = v) (k : Vy p l e R s m args below meth c nL D ad cy Q (pc + 1) lc (.long v :: st) g) : Vy p l e R s m args below meth c nL D ad cy Q pc lc st g :=
  fun H locs ls h1 h2 h3 => lv_lconst X.1 X.2.1 hd hv (k H locs ls h1 h2 h3)
theorem v_ldc (X : Cx p R s m args meth c own cc nL ret D ad cy) {index : Nat} {v : Int32} (hw : Cond.constant own index v ∈ lwg) (hd : decode cc pc = .ok (.ldc index, 2)) (k : Vy p l e R s m args below meth c nL D ad cy Q (pc + 2) lc (.int v :: st) g) : Vy p l e R s m args below meth c nL D ad cy Q pc lc st g :=
  fun H locs ls h1 h2 h3 => lv_ldc X.1 X.2.1 X.2.2.2.2.2.1 (X.2.2.2.2.2.2.1 _ hw) hd (k H locs ls h1 h2 h3)
theorem v_ldcw (X : Cx p R s m args meth c own cc nL ret D ad cy) {index : Nat} {v : Int32} (hw : Cond.constant own index v ∈ lwg) (hd : decode cc pc = .ok (.ldc_w index, 3)) (k : Vy p l e R s m args below meth c nL D ad cy Q (pc + 3) lc (.int v :: st) g) : Vy p l e R s m args below meth c nL D ad cy Q pc lc st g :=
  fun H locs ls h1 h2 h3 => lv_ldcw X.1 X.2.1 X.2.2.2.2.2.1 (X.2.2.2.2.2.2.1 _ hw) hd (k H locs ls h1 h2 h3)
theorem v_ldc2 (X : Cx p R s m args meth c own cc nL ret D ad cy) {index : Nat} {v : Int64} (hw : Cond.constantLong own index v ∈ lwg) (hd : decode cc pc = .ok (.ldc2_w index, 3)) (k : Vy p l e R s m args below meth c nL D ad cy Q (pc + 3) lc (.long v :: st) g) : Vy p l e R s m args below meth c nL D ad cy Q pc lc st g :=
  fun H locs ls h1 h2 h3 => lv_ldc2 X.1 X.2.1 X.2.2.2.2.2.1 (X.2.2.2.2.2.2.1 _ hw) hd (k H locs ls h1 h2 h3)
theorem v_iloadn (X : Cx p R s m args meth c own cc nL ret D ad cy) {k4 : Fin 4} {i : Nat} {x : Int32} (hd : decode cc pc = .ok (.iload_n k4, 1)) (hi : (k4 : Nat) = i) (hl : lc[i]? = some (some (.int x))) (k : Vy p l e R s m args below meth c nL D ad cy Q (pc + 1) lc (.int x :: st) g) : Vy p l e R s m args below meth c nL D ad cy Q pc lc st g :=
  fun H locs ls h1 h2 h3 => lv_iload_n X.1 X.2.1 hd hi (h3.at hl) (k H locs ls h1 h2 h3)
theorem v_iload (X : Cx p R s m args meth c own cc nL ret D ad cy) {i : Nat} {x : Int32} (hd : decode cc pc = .ok (.iload i, 2)) (hl : lc[i]? = some (some (.int x))) (k : Vy p l e R s m args below meth c nL D ad cy Q (pc + 2) lc (.int x :: st) g) : Vy p l e R s m args below meth c nL D ad cy Q pc lc st g :=
  fun H locs ls h1 h2 h3 => lv_iload X.1 X.2.1 hd (h3.at hl) (k H locs ls h1 h2 h3)
theorem v_lloadn (X : Cx p R s m args meth c own cc nL ret D ad cy) {k4 : Fin 4} {i : Nat} {x : Int64} (hd : decode cc pc = .ok (.lload_n k4, 1)) (hi : (k4 : Nat) = i) (hl : lc[i]? = some (some (.long x))) (k : Vy p l e R s m args below meth c nL D ad cy Q (pc + 1) lc (.long x :: st) g) : Vy p l e R s m args below meth c nL D ad cy Q pc lc st g :=
  fun H locs ls h1 h2 h3 => lv_lload_n X.1 X.2.1 hd hi (h3.at hl) (k H locs ls h1 h2 h3)
theorem v_lload (X : Cx p R s m args meth c own cc nL ret D ad cy) {i : Nat} {x : Int64} (hd : decode cc pc = .ok (.lload i, 2)) (hl : lc[i]? = some (some (.long x))) (k : Vy p l e R s m args below meth c nL D ad cy Q (pc + 2) lc (.long x :: st) g) : Vy p l e R s m args below meth c nL D ad cy Q pc lc st g :=
  fun H locs ls h1 h2 h3 => lv_lload X.1 X.2.1 hd (h3.at hl) (k H locs ls h1 h2 h3)
theorem v_aloadn (X : Cx p R s m args meth c own cc nL ret D ad cy) {k4 : Fin 4} {i : Nat} {x : Nat} (hd : decode cc pc = .ok (.aload_n k4, 1)) (hi : (k4 : Nat) = i) (hl : lc[i]? = some (some (.ref x))) (k : Vy p l e R s m args below meth c nL D ad cy Q (pc + 1) lc (.ref x :: st) g) : Vy p l e R s m args below meth c nL D ad cy Q pc lc st g :=
  fun H locs ls h1 h2 h3 => lv_aload_n X.1 X.2.1 hd hi (h3.at hl) (k H locs ls h1 h2 h3)
theorem v_aload (X : Cx p R s m args meth c own cc nL ret D ad cy) {i : Nat} {x : Nat} (hd : decode cc pc = .ok (.aload i, 2)) (hl : lc[i]? = some (some (.ref x))) (k : Vy p l e R s m args below meth c nL D ad cy Q (pc + 2) lc (.ref x :: st) g) : Vy p l e R s m args below meth c nL D ad cy Q pc lc st g :=
  fun H locs ls h1 h2 h3 => lv_aload X.1 X.2.1 hd (h3.at hl) (k H locs ls h1 h2 h3)
theorem v_istoren (X : Cx p R s m args meth c own cc nL ret D ad cy) {k4 : Fin 4} {i : Nat} {x : Int32} {lc' : List (Option Value)} (hd : decode cc pc = .ok (.istore_n k4, 1)) (hi : (k4 : Nat) = i) (hn : i < nL) (ho : okst lc i = true) (hl : lc.set i (some (.int x)) = lc') (k : Vy p l e R s m args below meth c nL D ad cy Q (pc + 1) lc' st g) : Vy p l e R s m args below meth c nL D ad cy Q pc lc (.int x :: st) g :=
  fun H locs ls h1 h2 h3 => lv_istore_n X.1 X.2.1 hd hi h3.has hn rfl (fun ls' h => k H locs ls' h1 h2 (hl ▸ Lc.of1 ho h))
theorem v_istore (X : Cx p R s m args meth c own cc nL ret D ad cy) {i : Nat} {x : Int32} {lc' : List (Option Value)} (hd : decode cc pc = .ok (.istore i, 2)) (hn : i < nL) (ho : okst lc i = true) (hl : lc.set i (some (.int x)) = lc') (k : Vy p l e R s m args below meth c nL D ad cy Q (pc + 2) lc' st g) : Vy p l e R s m args below meth c nL D ad cy Q pc lc (.int x :: st) g :=
  fun H locs ls h1 h2 h3 => lv_istore X.1 X.2.1 hd h3.has hn rfl (fun ls' h => k H locs ls' h1 h2 (hl ▸ Lc.of1 ho h))
theorem v_astoren (X : Cx p R s m args meth c own cc nL ret D ad cy) {k4 : Fin 4} {i : Nat} {x : Nat} {lc' : List (Option Value)} (hd : decode cc pc = .ok (.astore_n k4, 1)) (hi : (k4 : Nat) = i) (hn : i < nL) (ho : okst lc i = true) (hl : lc.set i (some (.ref x)) = lc') (k : Vy p l e R s m args below meth c nL D ad cy Q (pc + 1) lc' st g) : Vy p l e R s m args below meth c nL D ad cy Q pc lc (.ref x :: st) g :=
  fun H locs ls h1 h2 h3 => lv_astore_n X.1 X.2.1 hd hi h3.has hn rfl (fun ls' h => k H locs ls' h1 h2 (hl ▸ Lc.of1 ho h))
theorem v_astore (X : Cx p R s m args meth c own cc nL ret D ad cy) {i : Nat} {x : Nat} {lc' : List (Option Value)} (hd : decode cc pc = .ok (.astore i, 2)) (hn : i < nL) (ho : okst lc i = true) (hl : lc.set i (some (.ref x)) = lc') (k : Vy p l e R s m args below meth c nL D ad cy Q (pc + 2) lc' st g) : Vy p l e R s m args below meth c nL D ad cy Q pc lc (.ref x :: st) g :=
  fun H locs ls h1 h2 h3 => lv_astore X.1 X.2.1 hd h3.has hn rfl (fun ls' h => k H locs ls' h1 h2 (hl ▸ Lc.of1 ho h))
theorem v_lstoren (X : Cx p R s m args meth c own cc nL ret D ad cy) {k4 : Fin 4} {i : Nat} {x : Int64} {lc' : List (Option Value)} (hd : decode cc pc = .ok (.lstore_n k4, 1)) (hi : (k4 : Nat) = i) (hn : i + 1 < nL) (ho : okst lc i = true) (hl : (lc.set i (some (.long x))).set (i + 1) none = lc') (k : Vy p l e R s m args below meth c nL D ad cy Q (pc + 1) lc' st g) : Vy p l e R s m args below meth c nL D ad cy Q pc lc (.long x :: st) g :=
  fun H locs ls h1 h2 h3 => lv_lstore_n X.1 X.2.1 hd hi h3.has hn rfl (fun ls' h => k H locs ls' h1 h2 (hl ▸ Lc.of2 ho h))
theorem v_lstore (X : Cx p R s m args meth c own cc nL ret D ad cy) {i : Nat} {x : Int64} {lc' : List (Option Value)} (hd : decode cc pc = .ok (.lstore i, 2)) (hn : i + 1 < nL) (ho : okst lc i = true) (hl : (lc.set i (some (.long x))).set (i + 1) none = lc') (k : Vy p l e R s m args below meth c nL D ad cy Q (pc + 2) lc' st g) : Vy p l e R s m args below meth c nL D ad cy Q pc lc (.long x :: st) g :=
  fun H locs ls h1 h2 h3 => lv_lstore X.1 X.2.1 hd h3.has hn rfl (fun ls' h => k H locs ls' h1 h2 (hl ▸ Lc.of2 ho h))
theorem v_iinc (X : Cx p R s m args meth c own cc nL ret D ad cy) {i : Nat} {n : Int} {x v : Int32} {lc' : List (Option Value)} (hd : decode cc pc = .ok (.iinc i n, 3)) (hx : lc[i]? = some (some (.int x))) (hv : x + Int32.ofInt n = v) (hn : i < nL) (ho : okst lc i = true) (hl : lc.set i (some (.int v)) = lc') (k : Vy p l e R s m args below meth c nL D ad cy Q (pc + 3) lc' st g) : Vy p l e R s m args below meth c nL D ad cy Q pc lc st g := by
  intro H locs ls h1 h2 h3
  have hm := lcl_mem (n := 0) hx
  rw [Nat.zero_add] at hm
  obtain ⟨k0, hk0⟩ := List.getElem?_of_mem hm
  exact lv_iinc X.1 X.2.1 hd h3.has hk0 hv hn rfl (fun ls' h => k H locs ls' h1 h2 (hl ▸ Lc.of1 ho h))
theorem v_goto (X : Cx p R s m args meth c own cc nL ret D ad cy) {off : Int} (tgt : Nat) (hd : decode cc pc = .ok (.goto off, 3)) (ht : (pc : Int) + off = (tgt : Int)) (k : Vy p l e R s m args below meth c nL D ad cy Q tgt lc st g) : Vy p l e R s m args below meth c nL D ad cy Q pc lc st g :=
  fun H locs ls h1 h2 h3 => lv_goto X.1 X.2.1 hd ht (k H locs ls h1 h2 h3)
theorem v_dup (X : Cx p R s m args meth c own cc nL ret D ad cy) {va : Value} (hd : decode cc pc = .ok (.dup, 1)) (hc : va.category = 1) (k : Vy p l e R s m args below meth c nL D ad cy Q (pc + 1) lc (va :: va :: st) g) : Vy p l e R s m args below meth c nL D ad cy Q pc lc (va :: st) g :=
  fun H locs ls h1 h2 h3 => lv_dup X.1 X.2.1 hd hc (k H locs ls h1 h2 h3)
theorem v_pop (X : Cx p R s m args meth c own cc nL ret D ad cy) {va : Value} (hd : decode cc pc = .ok (.pop, 1)) (hc : va.category = 1) (k : Vy p l e R s m args below meth c nL D ad cy Q (pc + 1) lc st g) : Vy p l e R s m args below meth c nL D ad cy Q pc lc (va :: st) g :=
  fun H locs ls h1 h2 h3 => lv_pop X.1 X.2.1 hd hc (k H locs ls h1 h2 h3)
theorem v_dup_x1 (X : Cx p R s m args meth c own cc nL ret D ad cy) {va vb : Value} (hd : decode cc pc = .ok (.dup_x1, 1)) (hc : va.category = 1) (hc2 : vb.category = 1) (k : Vy p l e R s m args below meth c nL D ad cy Q (pc + 1) lc (va :: vb :: va :: st) g) : Vy p l e R s m args below meth c nL D ad cy Q pc lc (va :: vb :: st) g :=
  fun H locs ls h1 h2 h3 => lv_dup_x1 X.1 X.2.1 hd hc hc2 (k H locs ls h1 h2 h3)
theorem v_dup_x2 (X : Cx p R s m args meth c own cc nL ret D ad cy) {va vb vd : Value} (hd : decode cc pc = .ok (.dup_x2, 1)) (hc : va.category = 1) (hc2 : vb.category = 1) (hc3 : vd.category = 1) (k : Vy p l e R s m args below meth c nL D ad cy Q (pc + 1) lc (va :: vb :: vd :: va :: st) g) : Vy p l e R s m args below meth c nL D ad cy Q pc lc (va :: vb :: vd :: st) g :=
  fun H locs ls h1 h2 h3 => lv_dup_x2 X.1 X.2.1 hd hc hc2 hc3 (k H locs ls h1 h2 h3)
theorem v_dup2 (X : Cx p R s m args meth c own cc nL ret D ad cy) {va vb : Value} (hd : decode cc pc = .ok (.dup2, 1)) (hc : va.category = 1) (hc2 : vb.category = 1) (k : Vy p l e R s m args below meth c nL D ad cy Q (pc + 1) lc (va :: vb :: va :: vb :: st) g) : Vy p l e R s m args below meth c nL D ad cy Q pc lc (va :: vb :: st) g :=
  fun H locs ls h1 h2 h3 => lv_dup2_11 X.1 X.2.1 hd hc hc2 (k H locs ls h1 h2 h3)
theorem v_iadd (X : Cx p R s m args meth c own cc nL ret D ad cy) {x y : Int32} (hd : decode cc pc = .ok (.iadd, 1)) (k : Vy p l e R s m args below meth c nL D ad cy Q (pc + 1) lc (.int (x + y) :: st) g) : Vy p l e R s m args below meth c nL D ad cy Q pc lc (.int y :: .int x :: st) g :=
  fun H locs ls h1 h2 h3 => lv_iadd X.1 X.2.1 hd (k H locs ls h1 h2 h3)
theorem v_isub (X : Cx p R s m args meth c own cc nL ret D ad cy) {x y : Int32} (hd : decode cc pc = .ok (.isub, 1)) (k : Vy p l e R s m args below meth c nL D ad cy Q (pc + 1) lc (.int (x - y) :: st) g) : Vy p l e R s m args below meth c nL D ad cy Q pc lc (.int y :: .int x :: st) g :=
  fun H locs ls h1 h2 h3 => lv_isub X.1 X.2.1 hd (k H locs ls h1 h2 h3)
theorem v_imul (X : Cx p R s m args meth c own cc nL ret D ad cy) {x y : Int32} (hd : decode cc pc = .ok (.imul, 1)) (k : Vy p l e R s m args below meth c nL D ad cy Q (pc + 1) lc (.int (x * y) :: st) g) : Vy p l e R s m args below meth c nL D ad cy Q pc lc (.int y :: .int x :: st) g :=
  fun H locs ls h1 h2 h3 => lv_imul X.1 X.2.1 hd (k H locs ls h1 h2 h3)
theorem v_iand (X : Cx p R s m args meth c own cc nL ret D ad cy) {x y : Int32} (hd : decode cc pc = .ok (.iand, 1)) (k : Vy p l e R s m args below meth c nL D ad cy Q (pc + 1) lc (.int (x &&& y) :: st) g) : Vy p l e R s m args below meth c nL D ad cy Q pc lc (.int y :: .int x :: st) g :=
  fun H locs ls h1 h2 h3 => lv_iand X.1 X.2.1 hd (k H locs ls h1 h2 h3)
theorem v_ior (X : Cx p R s m args meth c own cc nL ret D ad cy) {x y : Int32} (hd : decode cc pc = .ok (.ior, 1)) (k : Vy p l e R s m args below meth c nL D ad cy Q (pc + 1) lc (.int (x ||| y) :: st) g) : Vy p l e R s m args below meth c nL D ad cy Q pc lc (.int y :: .int x :: st) g :=
  fun H locs ls h1 h2 h3 => lv_ior X.1 X.2.1 hd (k H locs ls h1 h2 h3)
theorem v_ixor (X : Cx p R s m args meth c own cc nL ret D ad cy) {x y : Int32} (hd : decode cc pc = .ok (.ixor, 1)) (k : Vy p l e R s m args below meth c nL D ad cy Q (pc + 1) lc (.int (x ^^^ y) :: st) g) : Vy p l e R s m args below meth c nL D ad cy Q pc lc (.int y :: .int x :: st) g :=
  fun H locs ls h1 h2 h3 => lv_ixor X.1 X.2.1 hd (k H locs ls h1 h2 h3)
theorem v_ishl (X : Cx p R s m args meth c own cc nL ret D ad cy) {x y : Int32} (hd : decode cc pc = .ok (.ishl, 1)) (k : Vy p l e R s m args below meth c nL D ad cy Q (pc + 1) lc (.int (x <<< (y &&& 31)) :: st) g) : Vy p l e R s m args below meth c nL D ad cy Q pc lc (.int y :: .int x :: st) g :=
  fun H locs ls h1 h2 h3 => lv_ishl X.1 X.2.1 hd (k H locs ls h1 h2 h3)
theorem v_ishr (X : Cx p R s m args meth c own cc nL ret D ad cy) {x y : Int32} (hd : decode cc pc = .ok (.ishr, 1)) (k : Vy p l e R s m args below meth c nL D ad cy Q (pc + 1) lc (.int (x >>> (y &&& 31)) :: st) g) : Vy p l e R s m args below meth c nL D ad cy Q pc lc (.int y :: .int x :: st) g :=
  fun H locs ls h1 h2 h3 => lv_ishr X.1 X.2.1 hd (k H locs ls h1 h2 h3)
theorem v_idiv (X : Cx p R s m args meth c own cc nL ret D ad cy) {x y : Int32} (hd : decode cc pc = .ok (.idiv, 1)) (hy : ¬ y = 0) (k : Vy p l e R s m args below meth c nL D ad cy Q (pc + 1) lc (.int (x / y) :: st) g) : Vy p l e R s m args below meth c nL D ad cy Q pc lc (.int y :: .int x :: st) g :=
  fun H locs ls h1 h2 h3 => lv_idiv X.1 X.2.1 hd hy (k H locs ls h1 h2 h3)
theorem v_irem (X : Cx p R s m args meth c own cc nL ret D ad cy) {x y : Int32} (hd : decode cc pc = .ok (.irem, 1)) (hy : ¬ y = 0) (k : Vy p l e R s m args below meth c nL D ad cy Q (pc + 1) lc (.int (x - x / y * y) :: st) g) : Vy p l e R s m args below meth c nL D ad cy Q pc lc (.int y :: .int x :: st) g :=
  fun H locs ls h1 h2 h3 => lv_irem X.1 X.2.1 hd hy (k H locs ls h1 h2 h3)
theorem v_iushr (X : Cx p R s m args meth c own cc nL ret D ad cy) {x y : Int32} (hd : decode cc pc = .ok (.iushr, 1)) (k : Vy p l e R s m args below meth c nL D ad cy Q (pc + 1) lc (.int ((x.toUInt32 >>> (y.toUInt32 &&& Int32.toUInt32 31)).toInt32) :: st) g) : Vy p l e R s m args below meth c nL D ad cy Q pc lc (.int y :: .int x :: st) g :=
  fun H locs ls h1 h2 h3 => lv_iushr X.1 X.2.1 hd rfl (k H locs ls h1 h2 h3)
theorem v_ineg (X : Cx p R s m args meth c own cc nL ret D ad cy) {x : Int32} (hd : decode cc pc = .ok (.ineg, 1)) (k : Vy p l e R s m args below meth c nL D ad cy Q (pc + 1) lc (.int (-x) :: st) g) : Vy p l e R s m args below meth c nL D ad cy Q pc lc (.int x :: st) g :=
  fun H locs ls h1 h2 h3 => lv_ineg X.1 X.2.1 hd (k H locs ls h1 h2 h3)
theorem v_ladd (X : Cx p R s m args meth c own cc nL ret D ad cy) {x y : Int64} (hd : decode cc pc = .ok (.ladd, 1)) (k : Vy p l e R s m args below meth c nL D ad cy Q (pc + 1) lc (.long (x + y) :: st) g) : Vy p l e R s m args below meth c nL D ad cy Q pc lc (.long y :: .long x :: st) g :=
  fun H locs ls h1 h2 h3 => lv_ladd X.1 X.2.1 hd (k H locs ls h1 h2 h3)
theorem v_lsub (X : Cx p R s m args meth c own cc nL ret D ad cy) {x y : Int64} (hd : decode cc pc = .ok (.lsub, 1)) (k : Vy p l e R s m args below meth c nL D ad cy Q (pc + 1) lc (.long (x - y) :: st) g) : Vy p l e R s m args below meth c nL D ad cy Q pc lc (.long y :: .long x :: st) g :=
  fun H locs ls h1 h2 h3 => lv_lsub X.1 X.2.1 hd (k H locs ls h1 h2 h3)
theorem v_lmul (X : Cx p R s m args meth c own cc nL ret D ad cy) {x y : Int64} (hd : decode cc pc = .ok (.lmul, 1)) (k : Vy p l e R s m args below meth c nL D ad cy Q (pc + 1) lc (.long (x * y) :: st) g) : Vy p l e R s m args below meth c nL D ad cy Q pc lc (.long y :: .long x :: st) g :=
  fun H locs ls h1 h2 h3 => lv_lmul X.1 X.2.1 hd (k H locs ls h1 h2 h3)
theorem v_ldiv (X : Cx p R s m args meth c own cc nL ret D ad cy) {x y : Int64} (hd : decode cc pc = .ok (.ldiv, 1)) (hy : ¬ y = 0) (k : Vy p l e R s m args below meth c nL D ad cy Q (pc + 1) lc (.long (x / y) :: st) g) : Vy p l e R s m args below meth c nL D ad cy Q pc lc (.long y :: .long x :: st) g :=
  fun H locs ls h1 h2 h3 => lv_ldiv X.1 X.2.1 hd hy (k H locs ls h1 h2 h3)
theorem v_lrem (X : Cx p R s m args meth c own cc nL ret D ad cy) {x y : Int64} (hd : decode cc pc = .ok (.lrem, 1)) (hy : ¬ y = 0) (k : Vy p l e R s m args below meth c nL D ad cy Q (pc + 1) lc (.long (x - x / y * y) :: st) g) : Vy p l e R s m args below meth c nL D ad cy Q pc lc (.long y :: .long x :: st) g :=
  fun H locs ls h1 h2 h3 => lv_lrem X.1 X.2.1 hd hy (k H locs ls h1 h2 h3)
theorem v_i2l (X : Cx p R s m args meth c own cc nL ret D ad cy) {x : Int32} (hd : decode cc pc = .ok (.i2l, 1)) (k : Vy p l e R s m args below meth c nL D ad cy Q (pc + 1) lc (.long (x.toInt64) :: st) g) : Vy p l e R s m args below meth c nL D ad cy Q pc lc (.int x :: st) g :=
  fun H locs ls h1 h2 h3 => lv_i2l X.1 X.2.1 hd rfl (k H locs ls h1 h2 h3)
theorem v_l2i (X : Cx p R s m args meth c own cc nL ret D ad cy) {x : Int64} (hd : decode cc pc = .ok (.l2i, 1)) (k : Vy p l e R s m args below meth c nL D ad cy Q (pc + 1) lc (.int (x.toInt32) :: st) g) : Vy p l e R s m args below meth c nL D ad cy Q pc lc (.long x :: st) g :=
  fun H locs ls h1 h2 h3 => lv_l2i X.1 X.2.1 hd rfl (k H locs ls h1 h2 h3)
theorem v_i2b (X : Cx p R s m args meth c own cc nL ret D ad cy) {x : Int32} (hd : decode cc pc = .ok (.i2b, 1)) (k : Vy p l e R s m args below meth c nL D ad cy Q (pc + 1) lc (.int (x.toInt8.toInt32) :: st) g) : Vy p l e R s m args below meth c nL D ad cy Q pc lc (.int x :: st) g :=
  fun H locs ls h1 h2 h3 => lv_i2b X.1 X.2.1 hd rfl (k H locs ls h1 h2 h3)
theorem v_i2s (X : Cx p R s m args meth c own cc nL ret D ad cy) {x : Int32} (hd : decode cc pc = .ok (.i2s, 1)) (k : Vy p l e R s m args below meth c nL D ad cy Q (pc + 1) lc (.int (x.toInt16.toInt32) :: st) g) : Vy p l e R s m args below meth c nL D ad cy Q pc lc (.int x :: st) g :=
  fun H locs ls h1 h2 h3 => lv_i2s X.1 X.2.1 hd rfl (k H locs ls h1 h2 h3)
theorem v_lcmp (X : Cx p R s m args meth c own cc nL ret D ad cy) {x y : Int64} (hd : decode cc pc = .ok (.lcmp, 1)) (k : Vy p l e R s m args below meth c nL D ad cy Q (pc + 1) lc (.int (lg_cmp x y) :: st) g) : Vy p l e R s m args below meth c nL D ad cy Q pc lc (.long y :: .long x :: st) g :=
  fun H locs ls h1 h2 h3 => W.lcmp X.1 X.2.1 hd (k H locs ls h1 h2 h3)
theorem v_if_eq (X : Cx p R s m args meth c own cc nL ret D ad cy) {x : Int32} {off : Int} (tgt : Nat) (hd : decode cc pc = .ok (.ifCond .eq off, 3)) (ht : (pc : Int) + off = (tgt : Int)) (kt : x = 0 → Vy p l e R s m args below meth c nL D ad cy Q tgt lc st g) (kf : ¬ x = 0 → Vy p l e R s m args below meth c nL D ad cy Q (pc + 3) lc st g) : Vy p l e R s m args below meth c nL D ad cy Q pc lc (.int x :: st) g :=
  fun H locs ls h1 h2 h3 => lv_if_eq X.1 X.2.1 hd ht (fun q => kt q H locs ls h1 h2 h3) (fun q => kf q H locs ls h1 h2 h3)
theorem v_icmp_eq (X : Cx p R s m args meth c own cc nL ret D ad cy) {x y : Int32} {off : Int} (tgt : Nat) (hd : decode cc pc = .ok (.if_icmp .eq off, 3)) (ht : (pc : Int) + off = (tgt : Int)) (kt : x = y → Vy p l e R s m args below meth c nL D ad cy Q tgt lc st g) (kf : ¬ x = y → Vy p l e R s m args below meth c nL D ad cy Q (pc + 3) lc st g) : Vy p l e R s m args below meth c nL D ad cy Q pc lc (.int y :: .int x :: st) g :=
  fun H locs ls h1 h2 h3 => lv_icmp_eq X.1 X.2.1 hd ht (fun q => kt q H locs ls h1 h2 h3) (fun q => kf q H locs ls h1 h2 h3)
theorem v_if_ne (X : Cx p R s m args meth c own cc nL ret D ad cy) {x : Int32} {off : Int} (tgt : Nat) (hd : decode cc pc = .ok (.ifCond .ne off, 3)) (ht : (pc : Int) + off = (tgt : Int)) (kt : ¬ x = 0 → Vy p l e R s m args below meth c nL D ad cy Q tgt lc st g) (kf : x = 0 → Vy p l e R s m args below meth c nL D ad cy Q (pc + 3) lc st g) : Vy p l e R s m args below meth c nL D ad cy Q pc lc (.int x :: st) g :=
  fun H locs ls h1 h2 h3 => lv_if_ne X.1 X.2.1 hd ht (fun q => kt q H locs ls h1 h2 h3) (fun q => kf q H locs ls h1 h2 h3)
theorem v_icmp_ne (X : Cx p R s m args meth c own cc nL ret D ad cy) {x y : Int32} {off : Int} (tgt : Nat) (hd : decode cc pc = .ok (.if_icmp .ne off, 3)) (ht : (pc : Int) + off = (tgt : Int)) (kt : ¬ x = y → Vy p l e R s m args below meth c nL D ad cy Q tgt lc st g) (kf : x = y → Vy p l e R s m args below meth c nL D ad cy Q (pc + 3) lc st g) : Vy p l e R s m args below meth c nL D ad cy Q pc lc (.int y :: .int x :: st) g :=
  fun H locs ls h1 h2 h3 => lv_icmp_ne X.1 X.2.1 hd ht (fun q => kt q H locs ls h1 h2 h3) (fun q => kf q H locs ls h1 h2 h3)
theorem v_if_lt (X : Cx p R s m args meth c own cc nL ret D ad cy) {x : Int32} {off : Int} (tgt : Nat) (hd : decode cc pc = .ok (.ifCond .lt off, 3)) (ht : (pc : Int) + off = (tgt : Int)) (kt : x < 0 → Vy p l e R s m args below meth c nL D ad cy Q tgt lc st g) (kf : ¬ x < 0 → Vy p l e R s m args below meth c nL D ad cy Q (pc + 3) lc st g) : Vy p l e R s m args below meth c nL D ad cy Q pc lc (.int x :: st) g :=
  fun H locs ls h1 h2 h3 => lv_if_lt X.1 X.2.1 hd ht (fun q => kt q H locs ls h1 h2 h3) (fun q => kf q H locs ls h1 h2 h3)
theorem v_icmp_lt (X : Cx p R s m args meth c own cc nL ret D ad cy) {x y : Int32} {off : Int} (tgt : Nat) (hd : decode cc pc = .ok (.if_icmp .lt off, 3)) (ht : (pc : Int) + off = (tgt : Int)) (kt : x < y → Vy p l e R s m args below meth c nL D ad cy Q tgt lc st g) (kf : ¬ x < y → Vy p l e R s m args below meth c nL D ad cy Q (pc + 3) lc st g) : Vy p l e R s m args below meth c nL D ad cy Q pc lc (.int y :: .int x :: st) g :=
  fun H locs ls h1 h2 h3 => lv_icmp_lt X.1 X.2.1 hd ht (fun q => kt q H locs ls h1 h2 h3) (fun q => kf q H locs ls h1 h2 h3)
theorem v_if_ge (X : Cx p R s m args meth c own cc nL ret D ad cy) {x : Int32} {off : Int} (tgt : Nat) (hd : decode cc pc = .ok (.ifCond .ge off, 3)) (ht : (pc : Int) + off = (tgt : Int)) (kt : 0 ≤ x → Vy p l e R s m args below meth c nL D ad cy Q tgt lc st g) (kf : ¬ 0 ≤ x → Vy p l e R s m args below meth c nL D ad cy Q (pc + 3) lc st g) : Vy p l e R s m args below meth c nL D ad cy Q pc lc (.int x :: st) g :=
  fun H locs ls h1 h2 h3 => lv_if_ge X.1 X.2.1 hd ht (fun q => kt q H locs ls h1 h2 h3) (fun q => kf q H locs ls h1 h2 h3)
theorem v_icmp_ge (X : Cx p R s m args meth c own cc nL ret D ad cy) {x y : Int32} {off : Int} (tgt : Nat) (hd : decode cc pc = .ok (.if_icmp .ge off, 3)) (ht : (pc : Int) + off = (tgt : Int)) (kt : y ≤ x → Vy p l e R s m args below meth c nL D ad cy Q tgt lc st g) (kf : ¬ y ≤ x → Vy p l e R s m args below meth c nL D ad cy Q (pc + 3) lc st g) : Vy p l e R s m args below meth c nL D ad cy Q pc lc (.int y :: .int x :: st) g :=
  fun H locs ls h1 h2 h3 => lv_icmp_ge X.1 X.2.1 hd ht (fun q => kt q H locs ls h1 h2 h3) (fun q => kf q H locs ls h1 h2 h3)
theorem v_if_gt (X : Cx p R s m args meth c own cc nL ret D ad cy) {x : Int32} {off : Int} (tgt : Nat) (hd : decode cc pc = .ok (.ifCond .gt off, 3)) (ht : (pc : Int) + off = (tgt : Int)) (kt : 0 < x → Vy p l e R s m args below meth c nL D ad cy Q tgt lc st g) (kf : ¬ 0 < x → Vy p l e R s m args below meth c nL D ad cy Q (pc + 3) lc st g) : Vy p l e R s m args below meth c nL D ad cy Q pc lc (.int x :: st) g :=
  fun H locs ls h1 h2 h3 => lv_if_gt X.1 X.2.1 hd ht (fun q => kt q H locs ls h1 h2 h3) (fun q => kf q H locs ls h1 h2 h3)
theorem v_icmp_gt (X : Cx p R s m args meth c own cc nL ret D ad cy) {x y : Int32} {off : Int} (tgt : Nat) (hd : decode cc pc = .ok (.if_icmp .gt off, 3)) (ht : (pc : Int) + off = (tgt : Int)) (kt : y < x → Vy p l e R s m args below meth c nL D ad cy Q tgt lc st g) (kf : ¬ y < x → Vy p l e R s m args below meth c nL D ad cy Q (pc + 3) lc st g) : Vy p l e R s m args below meth c nL D ad cy Q pc lc (.int y :: .int x :: st) g :=
  fun H locs ls h1 h2 h3 => lv_icmp_gt X.1 X.2.1 hd ht (fun q => kt q H locs ls h1 h2 h3) (fun q => kf q H locs ls h1 h2 h3)
theorem v_if_le (X : Cx p R s m args meth c own cc nL ret D ad cy) {x : Int32} {off : Int} (tgt : Nat) (hd : decode cc pc = .ok (.ifCond .le off, 3)) (ht : (pc : Int) + off = (tgt : Int)) (kt : x ≤ 0 → Vy p l e R s m args below meth c nL D ad cy Q tgt lc st g) (kf : ¬ x ≤ 0 → Vy p l e R s m args below meth c nL D ad cy Q (pc + 3) lc st g) : Vy p l e R s m args below meth c nL D ad cy Q pc lc (.int x :: st) g :=
  fun H locs ls h1 h2 h3 => lv_if_le X.1 X.2.1 hd ht (fun q => kt q H locs ls h1 h2 h3) (fun q => kf q H locs ls h1 h2 h3)
theorem v_icmp_le (X : Cx p R s m args meth c own cc nL ret D ad cy) {x y : Int32} {off : Int} (tgt : Nat) (hd : decode cc pc = .ok (.if_icmp .le off, 3)) (ht : (pc : Int) + off = (tgt : Int)) (kt : x ≤ y → Vy p l e R s m args below meth c nL D ad cy Q tgt lc st g) (kf : ¬ x ≤ y → Vy p l e R s m args below meth c nL D ad cy Q (pc + 3) lc st g) : Vy p l e R s m args below meth c nL D ad cy Q pc lc (.int y :: .int x :: st) g :=
  fun H locs ls h1 h2 h3 => lv_icmp_le X.1 X.2.1 hd ht (fun q => kt q H locs ls h1 h2 h3) (fun q => kf q H locs ls h1 h2 h3)
theorem v_tableOut (X : Cx p R s m args meth c own cc nL ret D ad cy) {dflt lo hi : Int} {offs : Array Int} {len : Nat} {x : Int32} (tgt : Nat) (hd : decode cc pc = .ok (.tableswitch dflt lo hi offs, len)) (h : x.toInt < lo ∨ hi < x.toInt) (ht : (pc : Int) + dflt = (tgt : Int)) (k : Vy p l e R s m args below meth c nL D ad cy Q tgt lc st g) : Vy p l e R s m args below meth c nL D ad cy Q pc lc (.int x :: st) g :=
  fun H locs ls h1 h2 h3 => lv_tableOut X.1 X.2.1 hd h ht (k H locs ls h1 h2 h3)
theorem v_tableIn (X : Cx p R s m args meth c own cc nL ret D ad cy) {dflt lo hi : Int} {offs : Array Int} {len : Nat} {x : Int32} {off : Int} (tgt : Nat) (hd : decode cc pc = .ok (.tableswitch dflt lo hi offs, len)) (q1 : ¬ x.toInt < lo) (q2 : ¬ hi < x.toInt) (ho : offs[(x.toInt - lo).toNat]? = some off) (ht : (pc : Int) + off = (tgt : Int)) (k : Vy p l e R s m args below meth c nL D ad cy Q tgt lc st g) : Vy p l e R s m args below meth c nL D ad cy Q pc lc (.int x :: st) g :=
  fun H locs ls h1 h2 h3 => lv_tableIn X.1 X.2.1 hd q1 q2 ho ht (k H locs ls h1 h2 h3)
theorem v_lookup (X : Cx p R s m args meth c own cc nL ret D ad cy) {dflt : Int} {ps : Array (Int × Int)} {len : Nat} {x : Int32} {off : Int} (tgt : Nat) (hd : decode cc pc = .ok (.lookupswitch dflt ps, len)) (hp : (ps.toList.zip (ps.toList.drop 1)).all (fun (a, next) => a.1 < next.1) = true) (ho : Op.lookupswitch.offset ps.toList dflt x.toInt = off) (ht : (pc : Int) + off = (tgt : Int)) (k : Vy p l e R s m args below meth c nL D ad cy Q tgt lc st g) : Vy p l e R s m args below meth c nL D ad cy Q pc lc (.int x :: st) g :=
  fun H locs ls h1 h2 h3 => lv_lookup X.1 X.2.1 hd hp ho ht (k H locs ls h1 h2 h3)
theorem v_get (X : Cx p R s m args meth c own cc nL ret D ad cy) {a b d index fi N : Nat} {C : String} {T : u_T} {v : Value} (hk : ((a, b, d) : Ky) ∈ keys) (h9 : a < 9) (hC : vwCl[a]? = some (C, T, N)) (hin : ∀ w ∈ u_ws C T N, w ∈ lwg) (hfi : fi < N) (hl : Cond.fieldLink own index (T fi).1 (T fi).2.1 (T fi).2.2.1 ∈ lwg) (hv : (cellO ad g a b d)[fi]? = some v) (hd : decode cc pc = .ok (.getfield index, 3)) (k : Vy p l e R s m args below meth c nL D ad cy Q (pc + 3) lc (v :: st) g) : Vy p l e R s m args below meth c nL D ad cy Q pc lc (.ref (ad (a, b, d)) :: st) g := by
  intro H locs ls h1 h2 h3
  obtain ⟨q0, -, hq⟩ := Wd_at ad cy g hk
  have he : cellW ad cy g (a, b, d) = .inr (a, cellO ad g a b d) := by simp [cellW, h9]
  rw [he] at hq
  exact va_get (D := D) X.1 X.2.1 X.2.2.2.2.2.2.1 hin X.2.2.2.2.2.1 X.2.2.2.2.2.2.2.1 h1 q0 hq hC fi hfi (X.2.2.2.2.2.2.1 _ hl) (fun _ h => h) hv hd (k H locs ls h1 h2 h3)
theorem v_put (X : Cx p R s m args meth c own cc nL ret D ad cy) {a b d index fi N : Nat} {C : String} {T : u_T} {ty : FieldType} {v : Value} (g' : GS) (hk : ((a, b, d) : Ky) ∈ keys) (h9 : a < 9) (hC : vwCl[a]? = some (C, T, N)) (hin : ∀ w ∈ u_ws C T N, w ∈ lwg) (ty0 : Nat → FieldType) (hty : ∀ k, k < N → parseFieldDescriptor (T k).2.2.1 = some (ty0 k)) (hnm : ∀ a, a < N → ∀ b, b < N → a ≠ b → (T a).2.1 ≠ (T b).2.1) (hfi : fi < N) (hl : Cond.fieldLink own index (T fi).1 (T fi).2.1 (T fi).2.2.1 ∈ lwg) (hfin : (T fi).2.2.2 = false) (hpd : parseFieldDescriptor (T fi).2.2.1 = some ty) (hnar : narrow ty v = v) (hfit : fits ty v = true) (hlen : fi < (cellO ad g a b d).length) (hg1 : cellO ad g' a b d = (cellO ad g a b d).set fi v) (hg2 : ∀ k' ∈ keys, k' ≠ (a, b, d) → cellW ad cy g' k' = cellW ad cy g k') (hd : decode cc pc = .ok (.putfield index, 3)) (k : Vy p l e R s m args below meth c nL D ad cy Q (pc + 3) lc st g') : Vy p l e R s m args below meth c nL D ad cy Q pc lc (v :: .ref (ad (a, b, d)) :: st) g := by
  intro H locs ls h1 h2 h3
  obtain ⟨q0, hq1, hq⟩ := Wd_at ad cy g hk
  have he : cellW ad cy g (a, b, d) = .inr (a, cellO ad g a b d) := by simp [cellW, h9]
  rw [he] at hq
  refine va_put (D := D) X.1 X.2.1 X.2.2.2.2.2.2.1 hin ty0 hty hnm X.2.2.2.2.2.1 X.2.2.2.2.2.2.2.1 h1 (Wd_D X.2.2.2.2.2.2.2.2.1 cy g s.heap.size) h2 q0 hq hC fi hfi (X.2.2.2.2.2.2.1 _ hl) (fun _ h => h) hfin hpd hnar hfit hlen hd (fun H1 locs1 hP _ hS => ?_)
  have he' : cellW ad cy g' (a, b, d) = .inr (a, (cellO ad g a b d).set fi v) := by simp [cellW, h9, hg1]
  rw [Wd_set hq1 he' hg2] at hP
  exact k H1 locs1 ls hP hS h3
theorem v_iald (X : Cx p R s m args meth c own cc nL ret D ad cy) {b d n : Nat} {f : Nat → Int32} {i : Int32} (j : Nat) (hk : ((9, b, d) : Ky) ∈ keys) (ha : arrI g b d = (n, f)) (hi : i = nI j) (hj : j < n) (hn : n < 2 ^ 31) (hd : decode cc pc = .ok (.iaload, 1)) (k : Vy p l e R s m args below meth c nL D ad cy Q (pc + 1) lc (.int (f j) :: st) g) : Vy p l e R s m args below meth c nL D ad cy Q pc lc (.int i :: .ref (ad (9, b, d)) :: st) g := by
  intro H locs ls h1 h2 h3
  obtain ⟨q0, -, hq⟩ := Wd_at ad cy g hk
  have he : cellW ad cy g (9, b, d) = .inl (cy 0, n, .inl f) := by simp [cellW, ha]
  rw [he] at hq
  subst hi
  refine va_iald (D := D) X.1 X.2.1 X.2.2.2.2.2.2.2.1 h1 q0 0 hq rfl (vp_in_nI hj hn) hd ?_
  rw [nI_clamp (by omega)]
  exact k H locs ls h1 h2 h3
theorem v_iast (X : Cx p R s m args meth c own cc nL ret D ad cy) {b d n : Nat} {f : Nat → Int32} {i x : Int32} (j : Nat) (g' : GS) (hk : ((9, b, d) : Ky) ∈ keys) (ha : arrI g b d = (n, f)) (hi : i = nI j) (hj : j < n) (hn : n < 2 ^ 31) (hg1 : arrI g' b d = (n, va_up f j x)) (hg2 : ∀ k' ∈ keys, k' ≠ (9, b, d) → cellW ad cy g' k' = cellW ad cy g k') (hd : decode cc pc = .ok (.iastore, 1)) (k : Vy p l e R s m args below meth c nL D ad cy Q (pc + 1) lc st g') : Vy p l e R s m args below meth c nL D ad cy Q pc lc (.int x :: .int i :: .ref (ad (9, b, d)) :: st) g := by
  intro H locs ls h1 h2 h3
  obtain ⟨q0, hq1, hq⟩ := Wd_at ad cy g hk
  have he : cellW ad cy g (9, b, d) = .inl (cy 0, n, .inl f) := by simp [cellW, ha]
  rw [he] at hq
  subst hi
  refine va_iast (D := D) X.1 X.2.1 X.2.2.2.2.2.2.2.1 h1 (Wd_D X.2.2.2.2.2.2.2.2.1 cy g s.heap.size) h2 q0 0 hq rfl (vp_in_nI hj hn) hd (fun H1 locs1 hP _ hS => ?_)
  rw [nI_clamp (by omega)] at hP
  have he' : cellW ad cy g' (9, b, d) = .inl (cy 0, n, .inl (upd f j x)) := by simp only [cellW, hg1]; rfl
  rw [Wd_set hq1 he' hg2] at hP
  exact k H1 locs1 ls hP hS h3
theorem v_aald (X : Cx p R s m args meth c own cc nL ret D ad cy) {a b d n t0 : Nat} {f : Nat → Option Nat} {C : String} {i : Int32} {y : Nat} (j : Nat) (hk : ((a, b, d) : Ky) ∈ keys) (h9 : 10 < a) (ha : arrR ad a b d = (n, f)) (ht : (tysA cy)[t0]? = some (cy (a - 9), .object C)) (hi : i = nI j) (hj : j < n) (hn : n < 2 ^ 31) (hy : f j = some y) (hd : decode cc pc = .ok (.aaload, 1)) (k : Vy p l e R s m args below meth c nL D ad cy Q (pc + 1) lc (.ref y :: st) g) : Vy p l e R s m args below meth c nL D ad cy Q pc lc (.int i :: .ref (ad (a, b, d)) :: st) g := by
  intro H locs ls h1 h2 h3
  obtain ⟨q0, -, hq⟩ := Wd_at ad cy g hk
  have he : cellW ad cy g (a, b, d) = .inl (cy (a - 9), n, .inr (.inr (.inr (.inr f)))) := by
    have e1 : ¬ a < 9 := by omega
    have e2 : ¬ a = 9 := by omega
    have e3 : ¬ a = 10 := by omega
    simp [cellW, ha, e1, e2, e3]
  rw [he] at hq
  subst hi
  refine va_aldq (D := D) X.1 X.2.1 X.2.2.2.2.2.2.2.1 h1 q0 t0 hq ht (vp_in_nI hj hn) hd ?_
  rw [nI_clamp (by omega), hy]
  exact k H locs ls h1 h2 h3
end VY
