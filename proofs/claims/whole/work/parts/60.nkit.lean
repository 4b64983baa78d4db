/-! ===== constructors: cells come to be, at known places ===== -/
def ro (r : Nat) : Nat := if r = 0 then 5 else if r = 1 then 14 else if r < 26 then 9 * r + 7 else 9 * r + 26
def offM (b : Nat) : Nat := match b with
  | 2 => 279 | 3 => 280 | 4 => 281 | 5 => 282 | 6 => 283 | 7 => 284 | 8 => 285 | 9 => 286 | 11 => 287 | 20 => 288 | 22 => 290 | _ => 291
def off : Ky → Nat
  | (0, _, _) => 23
  | (1, _, _) => 242
  | (2, _, _) => 4
  | (3, r, i) => ro r + 3 + i
  | (4, r, _) => ro r
  | (5, j, _) => 244 + 2 * j
  | (6, _, _) => 2
  | (7, _, _) => 0
  | (8, _, _) => 278
  | (9, 0, r) => ro r + 1
  | (9, 2, j) => 245 + 2 * j
  | (9, 4, _) => 3
  | (9, 8, _) => 243
  | (9, _, b) => offM b
  | (10, _, _) => 289
  | (11, r, _) => ro r + 2
  | (12, 0, _) => 24
  | (12, _, _) => 241
  | _ => 1
/-- the keys in the order of their cells -/
def kyOf (n : Nat) : Ky := ((keys.find? fun k => off k == n).getD (0, 0, 0))
set_option maxRecDepth 100000 in
theorem kyOf_off : ∀ k ∈ keys, kyOf (off k) = k := by decide +kernel
def adB (B : Nat) (k : Ky) : Nat := B + off k
theorem adB_inj (B : Nat) : Inj (adB B) := by
  intro k hk k' hk' h
  have h2 : off k = off k' := by unfold adB at h; omega
  rw [← kyOf_off k hk, ← kyOf_off k' hk', h2]
/-- the state at the start -/
def g0 : GS := fun c => match c with
  | 0 => fun _ i => match i with
    | 0 => 1
    | 1 => 1
    | _ => 0
  | 1 => fun _ i => match i with
    | 0 => -1
    | _ => 0
  | 5 => fun _ i => match i with
    | 6 => -1000000
    | 7 => -1000000
    | _ => 0
  | 11 => fun b => match b with
    | 2 => fun _ => -1
    | 20 => fun k => match k with
      | 1 => 5
      | 2 => 10
      | 3 => -5
      | _ => 0
    | _ => fun _ => 0
  | 13 => fun _ x => if x % 7 = 0 then 1 else if x % 7 = 2 then 1 else if x % 7 = 6 then -1000000 else 0
  | _ => fun _ _ => 0
abbrev MM : Type := Ky → Option va_E
def mu (M : MM) (k : Ky) (e : va_E) : MM := fun k' => if k' = k then some e else M k'
theorem mu_self {M : MM} {k : Ky} {e : va_E} : mu M k e k = some e := if_pos rfl
theorem mu_ne {M : MM} {k k' : Ky} {e : va_E} (h : k' ≠ k) : mu M k e k' = M k' := if_neg h
def m0 : MM := fun _ => none
/-- the cells that a call has made ready -/
def mU (B : Nat) (cy : Nat → ClassId) (M : MM) (w : List Ky) : MM := fun k => if k ∈ w then some (cellW (adB B) cy g0 k) else M k
theorem mU_in {B : Nat} {cy : Nat → ClassId} {M : MM} {w : List Ky} {k : Ky} (h : k ∈ w) : mU B cy M w k = some (cellW (adB B) cy g0 k) := if_pos h
theorem mU_out {B : Nat} {cy : Nat → ClassId} {M : MM} {w : List Ky} {k : Ky} (h : ¬ k ∈ w) : mU B cy M w k = M k := if_neg h
def PM (D : va_G) (B : Nat) (M : MM) (H : Heap) : Prop := ∀ k ∈ keys, ∀ e : va_E, M k = some e → va_at D vwCl (adB B k, e) H
def AN (a sz : Nat) : Nat → Prop := fun q => q = a ∨ sz ≤ q
theorem P1 {D : va_G} {cl : List vw_C} {q : Nat × va_E} {H : Heap} (h : va_at D cl q H) : va_P D cl [q] H := by
  intro k x hx
  have hz : k < 1 := (List.getElem?_eq_some_iff.mp hx).1
  rw [show k = 0 by omega] at hx
  cases hx
  exact h
theorem PM.put {D : va_G} {B : Nat} {M : MM} {H H1 : Heap} (h : PM D B M H) {k : Ky} (hk : k ∈ keys) {e : va_E} (he : va_at D vwCl (adB B k, e) H1) (oq : ∀ q : Nat, q ≠ adB B k → H1[q]? = H[q]?) : PM D B (mu M k e) H1 := by
  intro k' hk' e' h'
  by_cases hq : k' = k
  · subst hq
    rw [mu_self] at h'
    cases h'
    exact he
  · rw [mu_ne hq] at h'
    exact (h k' hk' e' h').kept (oq _ (fun q => hq (adB_inj B k' hk' k hk q)))
theorem PM.new {D : va_G} {B : Nat} {M : MM} {H H1 : Heap} (h : PM D B M H) {k : Ky} {e : va_E} (he : va_at D vwCl (adB B k, e) H1) (oq : ∀ q : Nat, q < H.size → H1[q]? = H[q]?) : PM D B (mu M k e) H1 := by
  intro k' hk' e' h'
  by_cases hq : k' = k
  · subst hq
    rw [mu_self] at h'
    cases h'
    exact he
  · rw [mu_ne hq] at h'
    exact (h k' hk' e' h').kept (oq _ (h k' hk' e' h').lt)
/-- what a constructor's way stands on -/
def Cn (p : Program) (R : Room) (s : State) (m : MethodId) (args : Array Value) (meth : Method) (c : Code) (own : String) (cc : ByteArray) (nL : Nat) (ret : Option FieldType) (D : va_G) (B : Nat) (cy : Nat → ClassId) (n0 : Nat) : Prop :=
  Cx p R s m args meth c own cc nL ret D (adB B) cy ∧ s.heap.size = B + n0 ∧ va_AO RX3 s ∧ va_AO RX4 s ∧ va_AO RX5 s
def Vn (p : Program) (l : Launch) (e : Env) (R : Room) (s : State) (m : MethodId) (args : Array Value) (below : List Frame) (meth : Method) (c : Code) (nL : Nat) (D : va_G) (B : Nat) (k0 : Ky) (n0 : Nat) (Q : State → Prop) (nn : Nat) (pc : Nat) (lc : List (Option Value)) (st : List Value) (M : MM) : Prop :=
  ∀ (H : Heap) (locs : List Loc) (ls : Array Slot), PM D B M H ∧ H.size = B + n0 + nn → va_S (AN (adB B k0) (B + n0)) s.heap H locs → Lc ls nL lc → W p l e R s m args below meth c H locs nn (1300 * nn) Q (F0 m pc ls st)
/-- the same cell said otherwise -/
def Eqv (e e' : va_E) : Prop := ∀ (D : va_G) (q : Nat) (H : Heap), va_at D vwCl (q, e) H → va_at D vwCl (q, e') H
theorem Eqv.rf {e : va_E} : Eqv e e := fun _ _ _ h => h
theorem Eqv.of {e e' : va_E} (h : e = e') : Eqv e e' := h ▸ Eqv.rf
theorem Eqv.arrI {cA : ClassId} {n : Nat} {f f' : Nat → Int32} (h : ∀ k, k < n → f k = f' k) : Eqv (.inl (cA, n, .inl f)) (.inl (cA, n, .inl f')) := by
  intro D q H hq
  have e : vp_cell cA (n, .inl f) = vp_cell cA (n, .inl f') := by
    rw [vp_cell_i, vp_cell_i]
    unfold arrV
    congr 2
    funext j
    show Value.int (f j.val) = Value.int (f' j.val)
    rw [h j.val j.isLt]
  show H[q]? = some (vp_cell cA (n, .inl f'))
  rw [← e]
  exact hq
theorem Eqv.arrR {cA : ClassId} {n : Nat} {f f' : Nat → Option Nat} (h : ∀ k, k < n → f k = f' k) : Eqv (.inl (cA, n, .inr (.inr (.inr (.inr f))))) (.inl (cA, n, .inr (.inr (.inr (.inr f'))))) := by
  intro D q H hq
  have e : vp_cell cA (n, .inr (.inr (.inr (.inr f)))) = vp_cell cA (n, .inr (.inr (.inr (.inr f')))) := by
    rw [vp_cell_q, vp_cell_q]
    unfold arrV
    congr 2
    funext j
    show va_rf (f j.val) = va_rf (f' j.val)
    rw [h j.val j.isLt]
  show H[q]? = some (vp_cell cA (n, .inr (.inr (.inr (.inr f')))))
  rw [← e]
  exact hq
abbrev rmn (d mc : Nat) : Room := { frames := d, cells := mc, slots := 1300 * mc, locals := 60 * d }
def PN (D : va_G) (B : Nat) (cy : Nat → ClassId) (n0 : Nat) (k0 : Ky) (e0 : va_E) (U : State) : Prop := U.heap.size = B + n0 ∧ va_at D vwCl (adB B k0, e0) U.heap ∧ va_K D vwCl (tysA cy) U ∧ va_Nw NST U ∧ va_AO RX3 U ∧ va_AO RX4 U ∧ va_AO RX5 U
def BN (D : va_G) (B : Nat) (cy : Nat → ClassId) (n1 : Nat) (w : List Ky) (t : State) : Prop := t.heap.size = B + n1 ∧ ∀ k ∈ w, va_at D vwCl (adB B k, cellW (adB B) cy g0 k) t.heap
def CtN (l : Launch) (D : va_G) (B : Nat) (cy : Nat → ClassId) (y : MethodName) (bytes : ByteArray) (maxL d mc n0 : Nat) (k0 : Ky) (e0 : va_E) (w : List Ky) : Prop :=
  Met l y (Cond.code y bytes maxL none :: lwg) (rmn d mc) (va_Pc [.ref (adB B k0)] (PN D B cy n0 k0 e0)) (va_Qv (fun _ : Unit => True) (fun _ => BN D B cy (n0 + mc) w) (AN (adB B k0) (B + n0))) mc (1300 * mc) (AN (adB B k0) (B + n0))
def QN (D : va_G) (B : Nat) (cy : Nat → ClassId) (below : List Frame) (args : Array Value) (s : State) (n0 : Nat) (k0 : Ky) (mc : Nat) (w : List Ky) : State → Prop := MQ below (va_Qv (fun _ : Unit => True) (fun _ => BN D B cy (n0 + mc) w) (AN (adB B k0) (B + n0))) args s mc (1300 * mc) (AN (adB B k0) (B + n0))
theorem PN_blind (D : va_G) (B : Nat) (cy : Nat → ClassId) (n0 : Nat) (k0 : Ky) (e0 : va_E) (av : List Value) : FrameBlind (va_Pc av (PN D B cy n0 k0 e0)) :=
  fun a U fr mk q => by
    obtain ⟨q0, q1, qP, qK, qN, a3, a4, a5⟩ := q
    have hv : U.vm.Alike (U.calling fr mk a).vm := Vm.Alike.refl U.vm
    exact ⟨q0, q1, qP, va_K.moved hv qK, va_Nw.same rfl (u := U) (U := U.calling fr mk a) rfl qN, va_AO.moved hv a3, va_AO.moved hv a4, va_AO.moved hv a5⟩
section VN
variable {p : Program} {l : Launch} {e : Env} {R : Room} {s : State} {m : MethodId} {args : Array Value} {below : List Frame} {meth : Method} {c : Code} {own : String} {cc : ByteArray} {nL : Nat} {ret : Option FieldType} {D : va_G} {B : Nat} {cy : Nat → ClassId} {k0 : Ky} {n0 nn : Nat} {Q : State → Prop} {pc : Nat} {lc : List (Option Value)} {st : List Value} {M : MM}
theorem Vn.mono (M' : MM) (h : ∀ k ∈ keys, ∀ e' : va_E, M' k = some e' → ∃ e : va_E, M k = some e ∧ Eqv e e') (k : Vn p l e R s m args below meth c nL D B k0 n0 Q nn pc lc st M') : Vn p l e R s m args below meth c nL D B k0 n0 Q nn pc lc st M := by
  intro H locs ls h1 h2 h3
  refine k H locs ls ⟨fun k' hk' e' h' => ?_, h1.2⟩ h2 h3
  obtain ⟨e1, q1, q2⟩ := h k' hk' e' h'
  exact q2 D _ H (h1.1 k' hk' e1 q1)
theorem n_iconst (X : Cn p R s m args meth c own cc nL ret D B cy n0) {n : Int} {v : Int32} (hd : decode cc pc = .ok (.iconst n, 1)) (hv : Int32.ofInt n = v) (k : Vn p l e R s m args below meth c nL D B k0 n0 Q nn (pc + 1) lc (.int v :: st) M) : Vn p l e R s m args below meth c nL D B k0 n0 Q nn pc lc st M :=
  fun H locs ls h1 h2 h3 => lv_iconst X.1.1 X.1.2.1 hd hv (k H locs ls h1 h2 h3)
theorem n_bipush (X : Cn p R s m args meth c own cc nL ret D B cy n0) {n : Int} {v : Int32} (hd : decode cc pc = .ok (.bipush n, 2)) (hv : (Int8.ofInt n).toInt32 = v) (k : Vn p l e R s m args below meth c nL D B k0 n0 Q nn (pc + 2) lc (.int v :: st) M) : Vn p l e R s m args below meth c nL D B k0 n0 Q nn pc lc st M :=
  fun H locs ls h1 h2 h3 => lv_bipush X.1.1 X.1.2.1 hd hv (k H locs ls h1 h2 h3)
theorem n_sipush (X : Cn p R s m args meth c own cc nL ret D B cy n0) {n : Int} {v : Int32} (hd : decode cc pc = .ok (.sipush n, 3)) (hv : (Int16.ofInt n).toInt32 = v) (k : Vn p l e R s m args below meth c nL D B k0 n0 Q nn (pc + 3) lc (.int v :: st) M) : Vn p l e R s m args below meth c nL D B k0 n0 Q nn pc lc st M :=
  fun H locs ls h1 h2 h3 => lv_sipush X.1.1 X.1.2.1 hd hv (k H locs ls h1 h2 h3)
theorem n_ldc (X : Cn p R s m args meth c own cc nL ret D B cy n0) {index : Nat} {v : Int32} (hw : Cond.constant own index v ∈ lwg) (hd : decode cc pc = .ok (.ldc index, 2)) (k : Vn p l e R s m args below meth c nL D B k0 n0 Q nn (pc + 2) lc (.int v :: st) M) : Vn p l e R s m args below meth c nL D B k0 n0 Q nn pc lc st M :=
  fun H locs ls h1 h2 h3 => lv_ldc X.1.1 X.1.2.1 X.1.2.2.2.2.2.1 (X.1.2.2.2.2.2.2.1 _ hw) hd (k H locs ls h1 h2 h3)
theorem n_iloadn (X : Cn p R s m args meth c own cc nL ret D B cy n0) {k4 : Fin 4} {i : Nat} {x : Int32} (hd : decode cc pc = .ok (.iload_n k4, 1)) (hi : (k4 : Nat) = i) (hl : lc[i]? = some (some (.int x))) (k : Vn p l e R s m args below meth c nL D B k0 n0 Q nn (pc + 1) lc (.int x :: st) M) : Vn p l e R s m args below meth c nL D B k0 n0 Q nn pc lc st M :=
  fun H locs ls h1 h2 h3 => lv_iload_n X.1.1 X.1.2.1 hd hi (h3.at hl) (k H locs ls h1 h2 h3)
theorem n_aloadn (X : Cn p R s m args meth c own cc nL ret D B cy n0) {k4 : Fin 4} {i : Nat} {x : Nat} (hd : decode cc pc = .ok (.aload_n k4, 1)) (hi : (k4 : Nat) = i) (hl : lc[i]? = some (some (.ref x))) (k : Vn p l e R s m args below meth c nL D B k0 n0 Q nn (pc + 1) lc (.ref x :: st) M) : Vn p l e R s m args below meth c nL D B k0 n0 Q nn pc lc st M :=
  fun H locs ls h1 h2 h3 => lv_aload_n X.1.1 X.1.2.1 hd hi (h3.at hl) (k H locs ls h1 h2 h3)
theorem n_istoren (X : Cn p R s m args meth c own cc nL ret D B cy n0) {k4 : Fin 4} {i : Nat} {x : Int32} {lc' : List (Option Value)} (hd : decode cc pc = .ok (.istore_n k4, 1)) (hi : (k4 : Nat) = i) (hn : i < nL) (ho : okst lc i = true) (hl : lc.set i (some (.int x)) = lc') (k : Vn p l e R s m args below meth c nL D B k0 n0 Q nn (pc + 1) lc' st M) : Vn p l e R s m args below meth c nL D B k0 n0 Q nn pc lc (.int x :: st) M :=
  fun H locs ls h1 h2 h3 => lv_istore_n X.1.1 X.1.2.1 hd hi h3.has hn rfl (fun ls' h => k H locs ls' h1 h2 (hl ▸ Lc.of1 ho h))
theorem n_astoren (X : Cn p R s m args meth c own cc nL ret D B cy n0) {k4 : Fin 4} {i : Nat} {x : Nat} {lc' : List (Option Value)} (hd : decode cc pc = .ok (.astore_n k4, 1)) (hi : (k4 : Nat) = i) (hn : i < nL) (ho : okst lc i = true) (hl : lc.set i (some (.ref x)) = lc') (k : Vn p l e R s m args below meth c nL D B k0 n0 Q nn (pc + 1) lc' st M) : Vn p l e R s m args below meth c nL D B k0 n0 Q nn pc lc (.ref x :: st) M :=
  fun H locs ls h1 h2 h3 => lv_astore_n X.1.1 X.1.2.1 hd hi h3.has hn rfl (fun ls' h => k H locs ls' h1 h2 (hl ▸ Lc.of1 ho h))
theorem n_iinc (X : Cn p R s m args meth c own cc nL ret D B cy n0) {i : Nat} {n : Int} {x v : Int32} {lc' : List (Option Value)} (hd : decode cc pc = .ok (.iinc i n, 3)) (hx : lc[i]? = some (some (.int x))) (hv : x + Int32.ofInt n = v) (hn : i < nL) (ho : okst lc i = true) (hl : lc.set i (some (.int v)) = lc') (k : Vn p l e R s m args below meth c nL D B k0 n0 Q nn (pc + 3) lc' st M) : Vn p l e R s m args below meth c nL D B k0 n0 Q nn pc lc st M := by
  intro H locs ls h1 h2 h3
  have hm := lcl_mem (n := 0) hx
  rw [Nat.zero_add] at hm
  obtain ⟨k0, hk0⟩ := List.getElem?_of_mem hm
  exact lv_iinc X.1.1 X.1.2.1 hd h3.has hk0 hv hn rfl (fun ls' h => k H locs ls' h1 h2 (hl ▸ Lc.of1 ho h))
theorem n_goto (X : Cn p R s m args meth c own cc nL ret D B cy n0) {off : Int} (tgt : Nat) (hd : decode cc pc = .ok (.goto off, 3)) (ht : (pc : Int) + off = (tgt : Int)) (k : Vn p l e R s m args below meth c nL D B k0 n0 Q nn tgt lc st M) : Vn p l e R s m args below meth c nL D B k0 n0 Q nn pc lc st M :=
  fun H locs ls h1 h2 h3 => lv_goto X.1.1 X.1.2.1 hd ht (k H locs ls h1 h2 h3)
theorem n_dup (X : Cn p R s m args meth c own cc nL ret D B cy n0) {va : Value} (hd : decode cc pc = .ok (.dup, 1)) (hc : va.category = 1) (k : Vn p l e R s m args below meth c nL D B k0 n0 Q nn (pc + 1) lc (va :: va :: st) M) : Vn p l e R s m args below meth c nL D B k0 n0 Q nn pc lc (va :: st) M :=
  fun H locs ls h1 h2 h3 => lv_dup X.1.1 X.1.2.1 hd hc (k H locs ls h1 h2 h3)
theorem n_icmp_ge (X : Cn p R s m args meth c own cc nL ret D B cy n0) {x y : Int32} {off : Int} (tgt : Nat) (hd : decode cc pc = .ok (.if_icmp .ge off, 3)) (ht : (pc : Int) + off = (tgt : Int)) (kt : y ≤ x → Vn p l e R s m args below meth c nL D B k0 n0 Q nn tgt lc st M) (kf : ¬ y ≤ x → Vn p l e R s m args below meth c nL D B k0 n0 Q nn (pc + 3) lc st M) : Vn p l e R s m args below meth c nL D B k0 n0 Q nn pc lc (.int y :: .int x :: st) M :=
  fun H locs ls h1 h2 h3 => lv_icmp_ge X.1.1 X.1.2.1 hd ht (fun q => kt q H locs ls h1 h2 h3) (fun q => kf q H locs ls h1 h2 h3)
theorem n_null (X : Cn p R s m args meth c own cc nL ret D B cy n0) (hd : decode cc pc = .ok (.aconst_null, 1)) (k : Vn p l e R s m args below meth c nL D B k0 n0 Q nn (pc + 1) lc (.null :: st) M) : Vn p l e R s m args below meth c nL D B k0 n0 Q nn pc lc st M :=
  fun H locs ls h1 h2 h3 => lv_null X.1.1 X.1.2.1 hd (k H locs ls h1 h2 h3)
theorem n_get (X : Cn p R s m args meth c own cc nL ret D B cy n0) {k1 : Ky} {ci index fi N : Nat} {C : String} {T : u_T} {fs : List Value} {v : Value} (hk : k1 ∈ keys) (hM : M k1 = some (.inr (ci, fs))) (hC : vwCl[ci]? = some (C, T, N)) (hin : ∀ w ∈ u_ws C T N, w ∈ lwg) (hfi : fi < N) (hl : Cond.fieldLink own index (T fi).1 (T fi).2.1 (T fi).2.2.1 ∈ lwg) (hv : fs[fi]? = some v) (hd : decode cc pc = .ok (.getfield index, 3)) (k : Vn p l e R s m args below meth c nL D B k0 n0 Q nn (pc + 3) lc (v :: st) M) : Vn p l e R s m args below meth c nL D B k0 n0 Q nn pc lc (.ref (adB B k1) :: st) M := by
  intro H locs ls h1 h2 h3
  exact va_get (D := D) X.1.1 X.1.2.1 X.1.2.2.2.2.2.2.1 hin X.1.2.2.2.2.2.1 X.1.2.2.2.2.2.2.2.1 (P1 (h1.1 k1 hk _ hM)) 0 rfl hC fi hfi (X.1.2.2.2.2.2.2.1 _ hl) (fun _ h => h) hv hd (k H locs ls h1 h2 h3)
theorem n_put (X : Cn p R s m args meth c own cc nL ret D B cy n0) {ci index fi N : Nat} {C : String} {T : u_T} {ty : FieldType} {fs : List Value} {v : Value} (hk : k0 ∈ keys) (hM : M k0 = some (.inr (ci, fs))) (hC : vwCl[ci]? = some (C, T, N)) (hin : ∀ w ∈ u_ws C T N, w ∈ lwg) (ty0 : Nat → FieldType) (hty : ∀ k, k < N → parseFieldDescriptor (T k).2.2.1 = some (ty0 k)) (hnm : ∀ a, a < N → ∀ b, b < N → a ≠ b → (T a).2.1 ≠ (T b).2.1) (hfi : fi < N) (hl : Cond.fieldLink own index (T fi).1 (T fi).2.1 (T fi).2.2.1 ∈ lwg) (hfin : (T fi).2.2.2 = false) (hpd : parseFieldDescriptor (T fi).2.2.1 = some ty) (hnar : narrow ty v = v) (hfit : fits ty v = true) (hlen : fi < fs.length) (hd : decode cc pc = .ok (.putfield index, 3)) (k : Vn p l e R s m args below meth c nL D B k0 n0 Q nn (pc + 3) lc st (mu M k0 (.inr (ci, fs.set fi v)))) : Vn p l e R s m args below meth c nL D B k0 n0 Q nn pc lc (v :: .ref (adB B k0) :: st) M := by
  intro H locs ls h1 h2 h3
  obtain ⟨⟨hx, hb, hml, -, -, hown, hts, hK, hI, hNw⟩, -⟩ := X
  have hap := va_apart (own := own) hts hin ty0 hty hnm hK hC
  obtain ⟨r, h1', cell, q1, q2, q3, q4⟩ := h1.1 k0 hk _ hM
  have hr : r = (C, T, N) := Option.some.inj (h1'.symm.trans hC)
  subst hr
  obtain ⟨hS, hfc, kC, hkC, hkind⟩ := hK.1 ci _ hC
  obtain ⟨cf, kf, fi', f, hi, hsl⟩ := hS fi hfi
  have hlay := hts _ (hin _ (u_in_lay hfi))
  unfold u_lay at hlay
  rw [if_neg (by rw [hfin]; decide)] at hlay
  have hst := (u_facts hfc hkC (u_lays hts hin hfi) hi).1
  have h6 := u_store hfc hkC hkind hlay hi hpd hnar hfit
  refine W.putK hx hb (f := f) ⟨hown, hts _ hl, ⟨_, _, _, hi⟩, hst⟩ (by rw [q2]; exact h6) q1 q3 (by rw [hsl]; exact k2_hasslot (q4 fi hfi)) rfl rfl hd fun H' e1 e2 e3 => ?_
  rw [hsl] at e1 ⊢
  exact k H' _ ls ⟨h1.1.put hk ⟨_, hC, t_OB.to (V := updV (vp_V fs) fi v) ⟨_, e1, q2, q3, t_set q4 hap hfi v⟩ (fun j _ => vp_updV_set hlen v j)⟩ e3, by rw [e2]; exact h1.2⟩ (h2.put e2 e3 (Or.inl rfl)) h3
theorem n_putF (X : Cn p R s m args meth c own cc nL ret D B cy n0) (hin2 : meth.name = "<init>") {ci index fi N : Nat} {C : String} {T : u_T} {ty : FieldType} {fs : List Value} {v : Value} (hk : k0 ∈ keys) (hM : M k0 = some (.inr (ci, fs))) (hC : vwCl[ci]? = some (C, T, N)) (hin : ∀ w ∈ u_ws C T N, w ∈ lwg) (ty0 : Nat → FieldType) (hty : ∀ k, k < N → parseFieldDescriptor (T k).2.2.1 = some (ty0 k)) (hnm : ∀ a, a < N → ∀ b, b < N → a ≠ b → (T a).2.1 ≠ (T b).2.1) (hfi : fi < N) (hl : Cond.fieldLink own index (T fi).1 (T fi).2.1 (T fi).2.2.1 ∈ lwg) (hfin : (T fi).2.2.2 = true) (hdecl : (T fi).1 = own) (hpd : parseFieldDescriptor (T fi).2.2.1 = some ty) (hnar : narrow ty v = v) (hfit : fits ty v = true) (hlen : fi < fs.length) (hd : decode cc pc = .ok (.putfield index, 3)) (k : Vn p l e R s m args below meth c nL D B k0 n0 Q nn (pc + 3) lc st (mu M k0 (.inr (ci, fs.set fi v)))) : Vn p l e R s m args below meth c nL D B k0 n0 Q nn pc lc (v :: .ref (adB B k0) :: st) M := by
  intro H locs ls h1 h2 h3
  obtain ⟨⟨hx, hb, hml, -, -, hown, hts, hK, hI, hNw⟩, -⟩ := X
  have hap := va_apart (own := own) hts hin ty0 hty hnm hK hC
  obtain ⟨r, h1', cell, q1, q2, q3, q4⟩ := h1.1 k0 hk _ hM
  have hr : r = (C, T, N) := Option.some.inj (h1'.symm.trans hC)
  subst hr
  obtain ⟨hS, hfc, kC, hkC, hkind⟩ := hK.1 ci _ hC
  obtain ⟨cf, kf, fi', f, hi, hsl⟩ := hS fi hfi
  have hlay := hts _ (hin _ (u_in_lay hfi))
  unfold u_lay at hlay
  rw [if_pos hfin] at hlay
  have hst := (u_facts hfc hkC (u_lays hts hin hfi) hi).1
  have hcf : m.cls = cf := by
    obtain ⟨_, _, c', _, _, _, -, -, hf', -, -, -, hown2, -⟩ := Cond.laysFinal_spec hlay
    have e1 : c' = cf := by have := hi.symm.trans hf'; simp at this; exact this.1.symm
    rw [hdecl] at hown2
    rw [← e1]; exact Option.some.inj (hown.symm.trans hown2)
  have h6 := u_fits hfc hkC hkind (Or.inr hlay) hi hpd hnar hfit
  refine W.putFinK hx hb hown (hts _ hl) hi hst hcf hin2 (by rw [q2]; exact h6) q1 q3 (by rw [hsl]; exact k2_hasslot (q4 fi hfi)) rfl rfl hd fun H' e1 e2 e3 => ?_
  rw [hsl] at e1 ⊢
  exact k H' _ ls ⟨h1.1.put hk ⟨_, hC, t_OB.to (V := updV (vp_V fs) fi v) ⟨_, e1, q2, q3, t_set q4 hap hfi v⟩ (fun j _ => vp_updV_set hlen v j)⟩ e3, by rw [e2]; exact h1.2⟩ (h2.put e2 e3 (Or.inl rfl)) h3
theorem n_grow {H H1 : Heap} {locs : List Loc} (h2 : va_S (AN (adB B k0) (B + n0)) s.heap H locs) (z1 : H1.size = H.size + 1) (o1 : ∀ q : Nat, q < H.size → H1[q]? = H[q]?) : va_S (AN (adB B k0) (B + n0)) s.heap H1 locs :=
  ⟨Nat.le_trans h2.1 (by omega), fun x q1 q2 => (o1 x (Nat.lt_of_lt_of_le q1 h2.1)).trans (h2.2.1 x q1 q2), h2.2.2⟩
theorem n_new (X : Cn p R s m args meth c own cc nL ret D B cy n0) (k1 : Ky) {ci index N : Nat} {C : String} {T : u_T} {fs : List Value} (hoff : off k1 = n0 + nn) (hC : vwCl[ci]? = some (C, T, N)) (hin : ∀ w ∈ u_ws C T N, w ∈ lwg) (ty : Nat → FieldType) (hty : ∀ k, k < N → parseFieldDescriptor (T k).2.2.1 = some (ty k)) (hcl : Cond.classLink own index C ∈ lwg) (hinst : Cond.instantiable C N ∈ lwg) (hini : Cond.initialized C ∈ lwg) (hfs : ∀ j, j < N → defaultValue (ty j) = vp_V fs j) (hN : N ≤ 1300) (hcells : nn + 1 ≤ R.cells) (hslots : 1300 * (nn + 1) ≤ R.slots) (hd : decode cc pc = .ok (.new index, 3)) (k : Vn p l e R s m args below meth c nL D B k0 n0 Q (nn + 1) (pc + 3) lc (.ref (adB B k1) :: st) (mu M k1 (.inr (ci, fs)))) : Vn p l e R s m args below meth c nL D B k0 n0 Q nn pc lc st M := by
  intro H locs ls h1 h2 h3
  obtain ⟨⟨hx, hb, hml, -, -, hown, hts, hK, hI, hNw⟩, -⟩ := X
  have hKn := hK.1 ci _ hC
  have hh : H.size = adB B k1 := by rw [h1.2]; unfold adB; omega
  refine W.newcK hx hb hown (hts _ hcl) (hts _ hinst) (hts _ hini) rfl hd hcells (by omega) hKn.2.1 hh fun H1 kC hkC e1 z1 o1 => ?_
  rw [← hh] at z1 o1
  refine W.widen (k := nn + 1) (n := 1300 * (nn + 1)) (Nat.le_refl _) (by omega) ?_
  exact k H1 locs ls ⟨h1.1.new ⟨_, hC, (u_born ty hts hin hKn hkC e1 hty).to hfs⟩ o1, by rw [z1, h1.2]; omega⟩ (n_grow h2 z1 o1) h3
theorem n_newa (X : Cn p R s m args meth c own cc nL ret D B cy n0) (k1 : Ky) {N' : Nat} {n : Int32} (hoff : off k1 = n0 + nn) (hn : ¬ n < 0) (hN : n.toNatClampNeg = N') (hb4 : N' ≤ 1300) (hcells : nn + 1 ≤ R.cells) (hslots : 1300 * (nn + 1) ≤ R.slots) (hd : decode cc pc = .ok (.newarray .int, 2)) (k : Vn p l e R s m args below meth c nL D B k0 n0 Q (nn + 1) (pc + 2) lc (.ref (adB B k1) :: st) (mu M k1 (.inl (cy 0, N', .inl (fun _ => 0))))) : Vn p l e R s m args below meth c nL D B k0 n0 Q nn pc lc (.int n :: st) M := by
  intro H locs ls h1 h2 h3
  obtain ⟨⟨hx, hb, hml, -, -, hown, hts, hK, hI, hNw⟩, -⟩ := X
  have hh : H.size = adB B k1 := by rw [h1.2]; unfold adB; omega
  refine va_newaK hx hb (atype := .int) (hts _ ac_int) rfl hd rfl hn hN (by show N' * 4 ≤ _; omega) hcells (by omega) hh fun H1 cA e1 z1 o1 hAr hNm => ?_
  have hcA : cA = cy 0 := Option.some.inj (hNm.symm.trans (hK.2 0 _ rfl).2)
  subst hcA
  rw [← hh] at z1 o1
  refine W.widen (k := nn + 1) (n := 1300 * (nn + 1)) (Nat.le_refl _) (by omega) ?_
  exact k H1 locs ls ⟨h1.1.new e1 o1, by rw [z1, h1.2]; omega⟩ (n_grow h2 z1 o1) h3
theorem n_newz (X : Cn p R s m args meth c own cc nL ret D B cy n0) (k1 : Ky) {N' : Nat} {n : Int32} (hoff : off k1 = n0 + nn) (hn : ¬ n < 0) (hN : n.toNatClampNeg = N') (hb4 : N' ≤ 1300) (hcells : nn + 1 ≤ R.cells) (hslots : 1300 * (nn + 1) ≤ R.slots) (hd : decode cc pc = .ok (.newarray .boolean, 2)) (k : Vn p l e R s m args below meth c nL D B k0 n0 Q (nn + 1) (pc + 2) lc (.ref (adB B k1) :: st) (mu M k1 (.inl (cy 1, N', .inl (fun _ => 0))))) : Vn p l e R s m args below meth c nL D B k0 n0 Q nn pc lc (.int n :: st) M := by
  intro H locs ls h1 h2 h3
  obtain ⟨⟨hx, hb, hml, -, -, hown, hts, hK, hI, hNw⟩, -⟩ := X
  have hh : H.size = adB B k1 := by rw [h1.2]; unfold adB; omega
  refine va_newaK hx hb (atype := .boolean) (hts _ ac_boolean) rfl hd rfl hn hN (by show N' * 1 ≤ _; omega) hcells (by omega) hh fun H1 cA e1 z1 o1 hAr hNm => ?_
  have hcA : cA = cy 1 := Option.some.inj (hNm.symm.trans (hK.2 1 _ rfl).2)
  subst hcA
  rw [← hh] at z1 o1
  refine W.widen (k := nn + 1) (n := 1300 * (nn + 1)) (Nat.le_refl _) (by omega) ?_
  exact k H1 locs ls ⟨h1.1.new e1 o1, by rw [z1, h1.2]; omega⟩ (n_grow h2 z1 o1) h3
theorem n_anew (X : Cn p R s m args meth c own cc nL ret D B cy n0) (k1 : Ky) (t0 : Nat) {C : String} {index N' : Nat} {n : Int32} (hoff : off k1 = n0 + nn) (ht : (tysA cy)[t0]? = some (cy t0, .object C)) (hcl : Cond.classLink own index C ∈ lwg) (hao : va_AO C s) (hn : ¬ n < 0) (hN : n.toNatClampNeg = N') (hb4 : N' ≤ 1300) (hcells : nn + 1 ≤ R.cells) (hslots : 1300 * (nn + 1) ≤ R.slots) (hd : decode cc pc = .ok (.anewarray index, 3)) (k : Vn p l e R s m args below meth c nL D B k0 n0 Q (nn + 1) (pc + 3) lc (.ref (adB B k1) :: st) (mu M k1 (.inl (cy t0, N', .inr (.inr (.inr (.inr (fun _ => none)))))))) : Vn p l e R s m args below meth c nL D B k0 n0 Q nn pc lc (.int n :: st) M := by
  intro H locs ls h1 h2 h3
  obtain ⟨⟨hx, hb, hml, -, -, hown, hts, hK, hI, hNw⟩, -⟩ := X
  have hh : H.size = adB B k1 := by rw [h1.2]; unfold adB; omega
  subst hN
  refine W.anew hx hb hown (hts _ hcl) (va_AO.use hao) rfl hd rfl hn (by omega) hcells (by omega) fun cA kA comp f1 f2 f3 f4 => ?_
  have hcA : cA = cy t0 := by
    obtain ⟨_, _, -, -, -, h5⟩ := (hK.2 t0 _ ht).2
    exact Option.some.inj (f1.symm.trans h5)
  subst hcA
  generalize hH1 : H.push ({ cls := cy t0, slots := Array.replicate n.toNatClampNeg .null, vm := .none } : Cell) = H1
  have z1 : H1.size = H.size + 1 := by rw [← hH1, Array.size_push]
  have e1 : H1[H.size]? = some (arrV (cy t0) n.toNatClampNeg (fun _ => .null)) := by rw [← hH1, Array.getElem?_push_size, ← arrV_new]
  have o1 : ∀ q : Nat, q < H.size → H1[q]? = H[q]? := fun q hq => by rw [← hH1, Array.getElem?_push, if_neg (Nat.ne_of_lt hq)]
  refine W.widen (k := nn + 1) (n := 1300 * (nn + 1)) (Nat.le_refl _) (by omega) ?_
  rw [hh] at e1
  rw [hh]
  exact k H1 locs ls ⟨h1.1.new e1 o1, by rw [z1, h1.2]; omega⟩ (n_grow h2 z1 o1) h3
theorem n_iast (X : Cn p R s m args meth c own cc nL ret D B cy n0) {k1 : Ky} {n : Nat} {f : Nat → Int32} {i x : Int32} (j : Nat) (hk : k1 ∈ keys) (ha : n0 ≤ off k1) (hM : M k1 = some (.inl (cy 0, n, .inl f))) (hi : i = nI j) (hj : j < n) (hn : n < 2 ^ 31) (hd : decode cc pc = .ok (.iastore, 1)) (k : Vn p l e R s m args below meth c nL D B k0 n0 Q nn (pc + 1) lc st (mu M k1 (.inl (cy 0, n, .inl (va_up f j x))))) : Vn p l e R s m args below meth c nL D B k0 n0 Q nn pc lc (.int x :: .int i :: .ref (adB B k1) :: st) M := by
  intro H locs ls h1 h2 h3
  obtain ⟨⟨hx, hb, hml, -, -, hown, hts, hK, hI, hNw⟩, -⟩ := X
  subst hi
  have hin := vp_in_nI hj hn
  refine W.iast hx hb (h1.1 k1 hk _ hM) ((hK.2 0 _ rfl).1 n (fun j => .int (f j))) (fun q => by cases q) (by show ¬ (nI j < 0 ∨ (arrV _ _ _).slots.size ≤ _); rw [arrV_size]; exact hin) rfl rfl hd fun H1 e1 z oq => ?_
  refine k H1 _ ls ⟨h1.1.put hk ?_ oq, by rw [z]; exact h1.2⟩ (h2.put z oq (Or.inr (by unfold adB; omega))) h3
  show H1[adB B k1]? = some (vp_cell _ _)
  rw [e1, nI_clamp (by omega)]
  rw [vp_cell_i, vp_cell_i, arrV_store]
  congr 2
  funext q
  by_cases hq : q = j
  · subst hq
    simp [updV, va_up]
  · simp [updV, va_up, hq]
theorem n_aast (X : Cn p R s m args meth c own cc nL ret D B cy n0) {k1 kv : Ky} (t0 ci : Nat) {r : vw_C} {vs : List Value} {n : Nat} {f : Nat → Option Nat} {i : Int32} (j : Nat) (hk : k1 ∈ keys) (hkv : kv ∈ keys) (ha : n0 ≤ off k1) (hM : M k1 = some (.inl (cy t0, n, .inr (.inr (.inr (.inr f)))))) (ht : (tysA cy)[t0]? = some (cy t0, .object r.1)) (hMv : M kv = some (.inr (ci, vs))) (hc : vwCl[ci]? = some r) (hi : i = nI j) (hj : j < n) (hn : n < 2 ^ 31) (hd : decode cc pc = .ok (.aastore, 1)) (k : Vn p l e R s m args below meth c nL D B k0 n0 Q nn (pc + 1) lc st (mu M k1 (.inl (cy t0, n, .inr (.inr (.inr (.inr (va_up f j (some (adB B kv)))))))))) : Vn p l e R s m args below meth c nL D B k0 n0 Q nn pc lc (.ref (adB B kv) :: .int i :: .ref (adB B k1) :: st) M := by
  intro H locs ls h1 h2 h3
  obtain ⟨⟨hx, hb, hml, -, -, hown, hts, hK, hI, hNw⟩, -⟩ := X
  subst hi
  have h0 : ¬ nI j < 0 := fun q => vp_in_nI hj hn (Or.inl q)
  have hcl : (nI j).toNatClampNeg = j := nI_clamp (by omega)
  obtain ⟨r', hr', cellV, g1, g2, g3, -⟩ := h1.1 kv hkv _ hMv
  have hcls := (hK.1 ci r hc).2
  obtain ⟨kA, comp, k1', k2, k3, -⟩ := (hK.2 t0 _ ht).2
  have hcomp : comp = D.1 ci := Option.some.inj (k3.symm.trans hcls.1)
  subst hcomp
  obtain ⟨kC, hkC, -⟩ := hcls.2
  refine W.aast hx hb (h1.1 k1 hk _ hM) (fun q h => by cases h) (fun h => by cases h) k1' k2 rfl hkC ⟨h0, by show _ < (arrV _ _ _).slots.size; rw [arrV_size, hcl]; exact hj⟩ g1 (fun q h => by rw [g3] at h; cases h) (by rw [g2]; exact hkC) (by rw [g2]; exact va_assign hcls) rfl rfl hd fun H1 e1 z oq => ?_
  refine k H1 _ ls ⟨h1.1.put hk ?_ oq, by rw [z]; exact h1.2⟩ (h2.put z oq (Or.inr (by unfold adB; omega))) h3
  show H1[adB B k1]? = some (vp_cell _ _)
  rw [e1, hcl]
  rw [vp_cell_q, vp_cell_q, arrV_store]
  congr 2
  funext q
  by_cases hq : q = j
  · subst hq
    simp [updV, va_up, va_rf]
  · simp [updV, va_up, hq]
theorem n_oinit (X : Cn p R s m args meth c own cc nL ret D B cy n0) {idx a : Nat} (hl : Cond.methodLink own idx objectInit ∈ lwg) (hf : 1 ≤ R.frames) (hlo : 12 ≤ R.locals) (hd : decode cc pc = .ok (.invokespecial idx, 3)) (k : Vn p l e R s m args below meth c nL D B k0 n0 Q nn (pc + 3) lc [] M) : Vn p l e R s m args below meth c nL D B k0 n0 Q nn pc lc [.ref a] M := by
  intro H locs ls h1 h2 h3
  obtain ⟨⟨hx, hb, hml, -, -, hown, hts, hK, hI, hNw⟩, -⟩ := X
  exact W.objInit hx hb hown (hts _ hl) (hts _ oi_im) (hts _ oi_code) rfl (by rw [hml]; exact h3.1) rfl hd hf hlo (k H locs ls h1 h2 h3)
theorem n_call (X : Cn p R s m args meth c own cc nL ret D B cy n0) {y : MethodName} {bytes : ByteArray} {maxL d' mc index : Nat} {k1 : Ky} {e1 : va_E} {w : List Ky} {rest : List Value}
    (hM : CtN l D B cy y bytes maxL d' mc (n0 + nn) k1 e1 w) (hcode : Cond.code y bytes maxL none ∈ lwg) (him : Cond.instanceMethod y ∈ lwg) (hini : Cond.initialized y.cls ∈ lwg) (hy1 : y.name = "<init>") (hyd : y.cls ≠ "java/lang/invoke/MethodHandle" ∧ y.cls ≠ "java/lang/invoke/VarHandle" ∧ (parseMethodDescriptor y.desc).map (fun d => d.parameters.length) = some 0) (ml : Cond.methodLink own index y ∈ lwg) (hR : d' + 1 ≤ R.frames ∧ 8 + (maxL + 11) + 60 * d' ≤ R.locals) (hc : nn + mc ≤ R.cells) (hs : 1300 * (nn + mc) ≤ R.slots) (hk : k1 ∈ keys) (hw : k1 ∈ w) (he : M k1 = some e1) (ha : n0 ≤ off k1) (hr : (rest.map fun v => v.category).sum ≤ 8) (hd : decode cc pc = .ok (.invokespecial index, 3))
    (k : Vn p l e R s m args below meth c nL D B k0 n0 Q (nn + mc) (pc + 3) lc rest (mU B cy M w)) : Vn p l e R s m args below meth c nL D B k0 n0 Q nn pc lc (.ref (adB B k1) :: rest) M := by
  intro H locs ls h1 h2 h3
  obtain ⟨⟨hx, hb, hml, -, -, hown, hts, hK, hI, hNw⟩, hz0, a3, a4, a5⟩ := X
  have hG : GoodIn lwg (Cond.code y bytes maxL none :: lwg) := by
    intro v hv
    have : v ∈ lwg := by
      rcases List.mem_cons.mp hv with rfl | hv
      · exact hcode
      · exact hv
    exact ⟨this, lwg_good this⟩
  have hA : ∀ q : Nat, AN (adB B k1) (B + (n0 + nn)) q → AN (adB B k0) (B + n0) q := by
    intro q hq
    rcases hq with rfl | hq
    · exact Or.inr (by unfold adB; omega)
    · exact Or.inr (by omega)
  refine va_callv (va_runI (As := []) (rest := rest) ⟨hx, hb, hml, hown, hts⟩ hM (cwI 0 hts hG rfl rfl rfl (hts _ hini) (hts _ ml) (hts _ him) hy1 hyd hR) ⟨PN_blind D B cy _ k1 e1 _, fun U hU hW => ⟨rfl, by rw [hU, h1.2]; omega, by rw [hU]; exact h1.1 k1 hk e1 he, va_K.moved hW.alike hK, va_Nw.warmM hW hNw, va_AO.moved hW.alike a3, va_AO.moved hW.alike a4, va_AO.moved hW.alike a5⟩⟩ rfl rfl h3.1 rfl (lv_room hr) hd ⟨hc, by omega⟩) h2 (fun q _ h => hA q h) hA (fun u t H1 locs1 ht hvm hw1 hB hz1 hk1 hS => ?_)
  refine W.widen (k := nn + mc) (n := 1300 * (nn + mc)) (Nat.le_refl _) (by omega) ?_
  obtain ⟨b1, b2⟩ := hB
  rw [ht] at b1 b2
  refine k H1 locs1 ls ⟨fun k' hk' e' h' => ?_, by rw [b1]; omega⟩ hS h3
  by_cases hq : k' ∈ w
  · rw [mU_in hq] at h'
    cases h'
    exact b2 k' hq
  · rw [mU_out hq] at h'
    have hv := h1.1 k' hk' e' h'
    refine hv.kept (hk1 _ hv.lt ?_)
    rintro (z | z)
    · have : k' = k1 := adB_inj B k' hk' k1 hk z
      exact hq (this ▸ hw)
    · have z2 := hv.lt
      rw [h1.2] at z2
      have z3 : adB B k' < B + n0 + nn := z2
      have z4 : B + (n0 + nn) ≤ adB B k' := z
      omega
theorem n_vret {mc : Nat} {w : List Ky} (X : Cn p R s m args meth c own cc nL none D B cy n0) (hw : ∀ k ∈ w, k ∈ keys ∧ ∃ e1 : va_E, M k = some e1 ∧ Eqv e1 (cellW (adB B) cy g0 k)) (hd : decode cc pc = .ok (.return_, 1)) : Vn p l e R s m args below meth c nL D B k0 n0 (QN D B cy below args s n0 k0 mc w) mc pc lc [] M := by
  intro H locs ls h1 h2 h3
  have hlocks : meth.locks = false := X.1.2.2.2.2.1
  refine W.vret X.1.1 X.1.2.1 X.1.2.2.2.1 (fun t ht hW => ⟨⟨(), rfl, trivial, by rw [ht, h1.2]; omega, fun k hk => ?_⟩, h2.F ht⟩) h2.2.2 hd hlocks
  obtain ⟨q1, e1, q2, q3⟩ := hw k hk
  rw [ht]
  exact q3 D _ H (h1.1 k q1 e1 q2)
theorem CtN.of {y : MethodName} {d mc : Nat} {e0 : va_E} {w : List Ky} (k : Nat) (hy : plainName y.cls = true) (hown : y.cls = own) (hy1 : y.name = "<init>") (hn : 1 ≤ nL)
    (body : ∀ (p : Program) (e : Env) (s : State) (m : MethodId) (args : Array Value) (below : List Frame) (meth : Method) (c : Code), Cn p (rmn d mc) s m args meth c own cc nL none D B cy n0 → meth.name = "<init>" → Vn p l e (rmn d mc) s m args below meth c nL D B k0 n0 (QN D B cy below args s n0 k0 mc w) 0 0 (some (.ref (adB B k0)) :: List.replicate k none) [] (mu m0 k0 e0)) : CtN l D B cy y cc nL d mc n0 k0 e0 w := by
  refine Met.ofW (cc := cc) (maxL := nL) (ret := none) hy rfl ?_
  intro p e s m args below meth c s₁ Bd hml hv
  obtain ⟨rfl, hsz, hat, hK, hN, a3, a4, a5⟩ := hv
  have hts := atoms_spec (ws := Cond.code y cc nL none :: lwg) Bd.pre
  have ho : s.vm.findClass own = some m.cls := hown ▸ findClass_of_methodNamed Bd.named
  have hnm : meth.name = "<init>" := (name_of_methodNamed Bd.named Bd.method).1.trans hy1
  have hl := lv_entry [.ref (adB B k0)] (n := nL) hn
  rw [lg_entry_eq]
  refine body p e s m _ below meth c ⟨⟨Bd.exec, Bd.bytes, hml, Bd.returns, Bd.notSynchronized, ho, fun w h => hts w (List.mem_cons_of_mem _ h), hK, adB_inj B, hN⟩, hsz, a3, a4, a5⟩ hnm s.heap [] _ ⟨fun k' hk' e' h' => ?_, by rw [hsz]; rfl⟩ va_S.rf (Lc.entry (k := k) hl)
  by_cases hq : k' = k0
  · subst hq
    rw [mu_self] at h'
    cases h'
    exact hat
  · rw [mu_ne hq] at h'
    cases h'
end VN
