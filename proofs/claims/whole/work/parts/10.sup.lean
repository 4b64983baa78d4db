/-! ===== words of the functions that a program of ours writes out of the bytecode ===== -/
/-- a place of an array, if it has it -/
def ix (x : Int32) (n : Nat) : Option Nat := if x < 0 then none else if x.toNatClampNeg < n then some x.toNatClampNeg else none
theorem ix_spec {x : Int32} {n j : Nat} (h : ix x n = some j) : x = nI j ∧ j < n := by
  unfold ix at h
  split at h
  · cases h
  · split at h
    · rename_i h0 h1
      cases h
      obtain ⟨k, hk, e⟩ := nI_of h0
      refine ⟨?_, h1⟩
      rw [e, nI_clamp hk]
    · cases h
theorem ix_nI {n j : Nat} (h : j < n) (hn : n < 2 ^ 31) : ix (nI j) n = some j := by
  unfold ix
  rw [if_neg (nI_pos (by omega)), nI_clamp (by omega), if_pos h]
/-- the row that is seen -/
def sk (x : Int32) : Option Nat := if x = 0 then none else if x.toNatClampNeg - 1 < 8 then some (x.toNatClampNeg - 1) else none
theorem sk_lt {x : Int32} {j : Nat} (h : sk x = some j) : j < 8 := by
  unfold sk at h
  split at h
  · cases h
  · split at h
    · rename_i q
      cases h
      exact q
    · cases h
theorem sk_row {x : Int32} {j : Nat} (ad : Ky → Nat) (h : sk x = some j) : seenRow ad x = some (ad (5, j, 0)) := by
  unfold sk at h
  split at h
  · cases h
  · rename_i q
    split at h
    · cases h
      unfold seenRow
      rw [if_neg q]
    · cases h
theorem seen_nI (ad : Ky → Nat) {j : Nat} (hj : j < 8) : seenRow ad (nI (j + 1)) = some (ad (5, j, 0)) := by
  unfold seenRow
  rw [if_neg (nI_ne0 (by omega) (by omega)), nI_clamp (by omega)]
  rfl
theorem sk_nI {j : Nat} (hj : j < 8) : sk (nI (j + 1)) = some j := by
  unfold sk
  rw [if_neg (nI_ne0 (by omega) (by omega)), nI_clamp (by omega), if_pos (by omega)]
  rfl
theorem nb {v : Int32} (h : v = 0 ∨ v = 1) : narrow .boolean (.int v) = .int v := by
  rcases h with rfl | rfl <;> rfl
theorem tab_ne {x k : Int32} {n : Int} (h : ¬ x = k) (hk : k.toInt = n) : x.toInt ≠ n := fun q => h (Int32.toInt_inj.mp (q.trans hk.symm))
def bd1 {A C : Type} (o : Option A) (f : A → Option C) : Option C := match o with
  | none => none
  | some a => f a
theorem bd1_some {A C : Type} {o : Option A} {f : A → Option C} {z : C} (h : bd1 o f = some z) : ∃ a, o = some a ∧ f a = some z := by
  cases o with
  | none => cases h
  | some a => exact ⟨a, rfl, h⟩
def bg {C : Type} (b : Bool) (o : Option C) : Option C := if b then o else none
theorem bg_some {C : Type} {b : Bool} {o : Option C} {z : C} (h : bg b o = some z) : b = true ∧ o = some z := by
  cases b with
  | false => cases h
  | true => exact ⟨rfl, h⟩
def bd2 {A0 A1 C : Type} (o : Option (A0 × A1)) (f : A0 → A1 → Option C) : Option C := match o with
  | none => none
  | some (a0, a1) => f a0 a1
theorem bd2_some {A0 A1 C : Type} {o : Option (A0 × A1)} {f : A0 → A1 → Option C} {z : C} (h : bd2 o f = some z) : ∃ a0 a1, o = some (a0, a1) ∧ f a0 a1 = some z := by
  cases o with
  | none => cases h
  | some a => obtain ⟨a0, a1⟩ := a; exact ⟨a0, a1, rfl, h⟩
def bd3 {A0 A1 A2 C : Type} (o : Option (A0 × A1 × A2)) (f : A0 → A1 → A2 → Option C) : Option C := match o with
  | none => none
  | some (a0, a1, a2) => f a0 a1 a2
theorem bd3_some {A0 A1 A2 C : Type} {o : Option (A0 × A1 × A2)} {f : A0 → A1 → A2 → Option C} {z : C} (h : bd3 o f = some z) : ∃ a0 a1 a2, o = some (a0, a1, a2) ∧ f a0 a1 a2 = some z := by
  cases o with
  | none => cases h
  | some a => obtain ⟨a0, a1, a2⟩ := a; exact ⟨a0, a1, a2, rfl, h⟩
def bd4 {A0 A1 A2 A3 C : Type} (o : Option (A0 × A1 × A2 × A3)) (f : A0 → A1 → A2 → A3 → Option C) : Option C := match o with
  | none => none
  | some (a0, a1, a2, a3) => f a0 a1 a2 a3
theorem bd4_some {A0 A1 A2 A3 C : Type} {o : Option (A0 × A1 × A2 × A3)} {f : A0 → A1 → A2 → A3 → Option C} {z : C} (h : bd4 o f = some z) : ∃ a0 a1 a2 a3, o = some (a0, a1, a2, a3) ∧ f a0 a1 a2 a3 = some z := by
  cases o with
  | none => cases h
  | some a => obtain ⟨a0, a1, a2, a3⟩ := a; exact ⟨a0, a1, a2, a3, rfl, h⟩
def bd5 {A0 A1 A2 A3 A4 C : Type} (o : Option (A0 × A1 × A2 × A3 × A4)) (f : A0 → A1 → A2 → A3 → A4 → Option C) : Option C := match o with
  | none => none
  | some (a0, a1, a2, a3, a4) => f a0 a1 a2 a3 a4
theorem bd5_some {A0 A1 A2 A3 A4 C : Type} {o : Option (A0 × A1 × A2 × A3 × A4)} {f : A0 → A1 → A2 → A3 → A4 → Option C} {z : C} (h : bd5 o f = some z) : ∃ a0 a1 a2 a3 a4, o = some (a0, a1, a2, a3, a4) ∧ f a0 a1 a2 a3 a4 = some z := by
  cases o with
  | none => cases h
  | some a => obtain ⟨a0, a1, a2, a3, a4⟩ := a; exact ⟨a0, a1, a2, a3, a4, rfl, h⟩
def bd6 {A0 A1 A2 A3 A4 A5 C : Type} (o : Option (A0 × A1 × A2 × A3 × A4 × A5)) (f : A0 → A1 → A2 → A3 → A4 → A5 → Option C) : Option C := match o with
  | none => none
  | some (a0, a1, a2, a3, a4, a5) => f a0 a1 a2 a3 a4 a5
theorem bd6_some {A0 A1 A2 A3 A4 A5 C : Type} {o : Option (A0 × A1 × A2 × A3 × A4 × A5)} {f : A0 → A1 → A2 → A3 → A4 → A5 → Option C} {z : C} (h : bd6 o f = some z) : ∃ a0 a1 a2 a3 a4 a5, o = some (a0, a1, a2, a3, a4, a5) ∧ f a0 a1 a2 a3 a4 a5 = some z := by
  cases o with
  | none => cases h
  | some a => obtain ⟨a0, a1, a2, a3, a4, a5⟩ := a; exact ⟨a0, a1, a2, a3, a4, a5, rfl, h⟩
def bd7 {A0 A1 A2 A3 A4 A5 A6 C : Type} (o : Option (A0 × A1 × A2 × A3 × A4 × A5 × A6)) (f : A0 → A1 → A2 → A3 → A4 → A5 → A6 → Option C) : Option C := match o with
  | none => none
  | some (a0, a1, a2, a3, a4, a5, a6) => f a0 a1 a2 a3 a4 a5 a6
theorem bd7_some {A0 A1 A2 A3 A4 A5 A6 C : Type} {o : Option (A0 × A1 × A2 × A3 × A4 × A5 × A6)} {f : A0 → A1 → A2 → A3 → A4 → A5 → A6 → Option C} {z : C} (h : bd7 o f = some z) : ∃ a0 a1 a2 a3 a4 a5 a6, o = some (a0, a1, a2, a3, a4, a5, a6) ∧ f a0 a1 a2 a3 a4 a5 a6 = some z := by
  cases o with
  | none => cases h
  | some a => obtain ⟨a0, a1, a2, a3, a4, a5, a6⟩ := a; exact ⟨a0, a1, a2, a3, a4, a5, a6, rfl, h⟩
def bd8 {A0 A1 A2 A3 A4 A5 A6 A7 C : Type} (o : Option (A0 × A1 × A2 × A3 × A4 × A5 × A6 × A7)) (f : A0 → A1 → A2 → A3 → A4 → A5 → A6 → A7 → Option C) : Option C := match o with
  | none => none
  | some (a0, a1, a2, a3, a4, a5, a6, a7) => f a0 a1 a2 a3 a4 a5 a6 a7
theorem bd8_some {A0 A1 A2 A3 A4 A5 A6 A7 C : Type} {o : Option (A0 × A1 × A2 × A3 × A4 × A5 × A6 × A7)} {f : A0 → A1 → A2 → A3 → A4 → A5 → A6 → A7 → Option C} {z : C} (h : bd8 o f = some z) : ∃ a0 a1 a2 a3 a4 a5 a6 a7, o = some (a0, a1, a2, a3, a4, a5, a6, a7) ∧ f a0 a1 a2 a3 a4 a5 a6 a7 = some z := by
  cases o with
  | none => cases h
  | some a => obtain ⟨a0, a1, a2, a3, a4, a5, a6, a7⟩ := a; exact ⟨a0, a1, a2, a3, a4, a5, a6, a7, rfl, h⟩
def bs1 {R A0 C : Type} (o : Option ((R × GS) ⊕ (A0))) (e : R → GS → Option C) (f : A0 → Option C) : Option C := match o with
  | none => none
  | some (.inl (r, g)) => e r g
  | some (.inr (a0)) => f a0
theorem bs1_some {R A0 C : Type} {o : Option ((R × GS) ⊕ (A0))} {e : R → GS → Option C} {f : A0 → Option C} {z : C} (h : bs1 o e f = some z) : ∃ w, o = some w ∧ (match w with
  | .inl (r, g) => e r g
  | .inr (a0) => f a0) = some z := by
  cases o with
  | none => cases h
  | some a => rcases a with ⟨r, g⟩ | ⟨a0⟩ <;> exact ⟨_, rfl, h⟩
def bs2 {R A0 A1 C : Type} (o : Option ((R × GS) ⊕ (A0 × A1))) (e : R → GS → Option C) (f : A0 → A1 → Option C) : Option C := match o with
  | none => none
  | some (.inl (r, g)) => e r g
  | some (.inr (a0, a1)) => f a0 a1
theorem bs2_some {R A0 A1 C : Type} {o : Option ((R × GS) ⊕ (A0 × A1))} {e : R → GS → Option C} {f : A0 → A1 → Option C} {z : C} (h : bs2 o e f = some z) : ∃ w, o = some w ∧ (match w with
  | .inl (r, g) => e r g
  | .inr (a0, a1) => f a0 a1) = some z := by
  cases o with
  | none => cases h
  | some a => rcases a with ⟨r, g⟩ | ⟨a0, a1⟩ <;> exact ⟨_, rfl, h⟩
def bs3 {R A0 A1 A2 C : Type} (o : Option ((R × GS) ⊕ (A0 × A1 × A2))) (e : R → GS → Option C) (f : A0 → A1 → A2 → Option C) : Option C := match o with
  | none => none
  | some (.inl (r, g)) => e r g
  | some (.inr (a0, a1, a2)) => f a0 a1 a2
theorem bs3_some {R A0 A1 A2 C : Type} {o : Option ((R × GS) ⊕ (A0 × A1 × A2))} {e : R → GS → Option C} {f : A0 → A1 → A2 → Option C} {z : C} (h : bs3 o e f = some z) : ∃ w, o = some w ∧ (match w with
  | .inl (r, g) => e r g
  | .inr (a0, a1, a2) => f a0 a1 a2) = some z := by
  cases o with
  | none => cases h
  | some a => rcases a with ⟨r, g⟩ | ⟨a0, a1, a2⟩ <;> exact ⟨_, rfl, h⟩
def bs4 {R A0 A1 A2 A3 C : Type} (o : Option ((R × GS) ⊕ (A0 × A1 × A2 × A3))) (e : R → GS → Option C) (f : A0 → A1 → A2 → A3 → Option C) : Option C := match o with
  | none => none
  | some (.inl (r, g)) => e r g
  | some (.inr (a0, a1, a2, a3)) => f a0 a1 a2 a3
theorem bs4_some {R A0 A1 A2 A3 C : Type} {o : Option ((R × GS) ⊕ (A0 × A1 × A2 × A3))} {e : R → GS → Option C} {f : A0 → A1 → A2 → A3 → Option C} {z : C} (h : bs4 o e f = some z) : ∃ w, o = some w ∧ (match w with
  | .inl (r, g) => e r g
  | .inr (a0, a1, a2, a3) => f a0 a1 a2 a3) = some z := by
  cases o with
  | none => cases h
  | some a => rcases a with ⟨r, g⟩ | ⟨a0, a1, a2, a3⟩ <;> exact ⟨_, rfl, h⟩
def bs5 {R A0 A1 A2 A3 A4 C : Type} (o : Option ((R × GS) ⊕ (A0 × A1 × A2 × A3 × A4))) (e : R → GS → Option C) (f : A0 → A1 → A2 → A3 → A4 → Option C) : Option C := match o with
  | none => none
  | some (.inl (r, g)) => e r g
  | some (.inr (a0, a1, a2, a3, a4)) => f a0 a1 a2 a3 a4
theorem bs5_some {R A0 A1 A2 A3 A4 C : Type} {o : Option ((R × GS) ⊕ (A0 × A1 × A2 × A3 × A4))} {e : R → GS → Option C} {f : A0 → A1 → A2 → A3 → A4 → Option C} {z : C} (h : bs5 o e f = some z) : ∃ w, o = some w ∧ (match w with
  | .inl (r, g) => e r g
  | .inr (a0, a1, a2, a3, a4) => f a0 a1 a2 a3 a4) = some z := by
  cases o with
  | none => cases h
  | some a => rcases a with ⟨r, g⟩ | ⟨a0, a1, a2, a3, a4⟩ <;> exact ⟨_, rfl, h⟩
/-- less is known of the locals -/
def lcsub : List (Option Value) → List (Option Value) → Prop
  | [], _ => True
  | none :: a, _ :: b => lcsub a b
  | some v :: a, some w :: b => v = w ∧ lcsub a b
  | _, _ => False
theorem lcsub_at : ∀ (lc2 lc1 : List (Option Value)), lcsub lc2 lc1 → ∀ (i : Nat) (v : Value), lc2[i]? = some (some v) → lc1[i]? = some (some v) := by
  intro lc2
  induction lc2 with
  | nil => intro lc1 _ i v h; simp at h
  | cons a t ih =>
    intro lc1 hs i v h
    cases lc1 with
    | nil => cases a <;> exact hs.elim
    | cons b t2 =>
      cases a with
      | none =>
        cases i with
        | zero => simp at h
        | succ i => simpa using ih t2 hs i v (by simpa using h)
      | some w =>
        cases b with
        | none => exact hs.elim
        | some w2 =>
          obtain ⟨rfl, hs⟩ := hs
          cases i with
          | zero => simpa using h
          | succ i => simpa using ih t2 hs i v (by simpa using h)
theorem v_weak {p : Program} {l : Launch} {e : Env} {R : Room} {s : State} {m : MethodId} {args : Array Value} {below : List Frame} {meth : Method} {c : Code} {nL : Nat} {D : va_G} {ad : Ky → Nat} {cy : Nat → ClassId} {Q : State → Prop} {pc : Nat} {lc : List (Option Value)} {st : List Value} {g : GS} {lc2 : List (Option Value)} (h : lcsub lc2 lc) (k : Vy p l e R s m args below meth c nL D ad cy Q pc lc2 st g) : Vy p l e R s m args below meth c nL D ad cy Q pc lc st g :=
  fun H locs ls h1 h2 h3 => k H locs ls h1 h2 ⟨h3.1, h3.2.1, fun i v hi => h3.2.2 i v (lcsub_at _ _ h i v hi)⟩
theorem v_ifnull_seen {p : Program} {l : Launch} {e : Env} {R : Room} {s : State} {m : MethodId} {args : Array Value} {below : List Frame} {meth : Method} {c : Code} {own : String} {cc : ByteArray} {nL : Nat} {ret : Option FieldType} {D : va_G} {ad : Ky → Nat} {cy : Nat → ClassId} {Q : State → Prop} {pc : Nat} {lc : List (Option Value)} {st : List Value} {g : GS} (X : Cx p R s m args meth c own cc nL ret D ad cy) {x : Int32} {off : Int} (tgt : Nat) (hd : decode cc pc = .ok (.ifnull off, 3)) (ht : (pc : Int) + off = (tgt : Int)) (kt : x = 0 → Vy p l e R s m args below meth c nL D ad cy Q tgt lc st g) (kf : ¬ x = 0 → Vy p l e R s m args below meth c nL D ad cy Q (pc + 3) lc st g) : Vy p l e R s m args below meth c nL D ad cy Q pc lc (va_rf (seenRow ad x) :: st) g := by
  intro H locs ls h1 h2 h3
  by_cases c : x = 0
  · have e : va_rf (seenRow ad x) = .null := by unfold seenRow; rw [if_pos c]; rfl
    rw [e]
    exact lv_ifnullN X.1 X.2.1 hd ht (kt c H locs ls h1 h2 h3)
  · have e : va_rf (seenRow ad x) = .ref (ad (5, x.toNatClampNeg - 1, 0)) := by unfold seenRow; rw [if_neg c]; rfl
    rw [e]
    exact lv_ifnull X.1 X.2.1 hd (kf c H locs ls h1 h2 h3)
theorem gs_X2_25 {p : Program} {l : Launch} {e : Env} {R : Room} {s : State} {m : MethodId} {args : Array Value} {below : List Frame} {meth : Method} {c : Code} {cc : ByteArray} {nL : Nat} {ret : Option FieldType} {D : va_G} {ad : Ky → Nat} {cy : Nat → ClassId} {Q : State → Prop} {pc : Nat} {lc : List (Option Value)} {st : List Value} {g : GS} (X : Cx p R s m args meth c RX2 cc nL ret D ad cy) {j : Nat} (hs : sk (g 5 0 1) = some j) (hd : decode cc pc = .ok (.getfield 25, 3)) (k : Vy p l e R s m args below meth c nL D ad cy Q (pc + 3) lc (.ref (ad (5, j, 0)) :: st) g) : Vy p l e R s m args below meth c nL D ad cy Q pc lc (.ref (ad (2, 0, 0)) :: st) g := by
  refine gf_X2_25 X hd ?_
  rw [sk_row ad hs]
  exact k
theorem ps_X2_25 {p : Program} {l : Launch} {e : Env} {R : Room} {s : State} {m : MethodId} {args : Array Value} {below : List Frame} {meth : Method} {c : Code} {cc : ByteArray} {nL : Nat} {ret : Option FieldType} {D : va_G} {ad : Ky → Nat} {cy : Nat → ClassId} {Q : State → Prop} {pc : Nat} {lc : List (Option Value)} {st : List Value} {g : GS} (X : Cx p R s m args meth c RX2 cc nL ret D ad cy) {j : Nat} (hj : j < 8) (hd : decode cc pc = .ok (.putfield 25, 3)) (k : Vy p l e R s m args below meth c nL D ad cy Q (pc + 3) lc st (g3 g 5 0 1 (nI (j + 1)))) : Vy p l e R s m args below meth c nL D ad cy Q pc lc (.ref (ad (5, j, 0)) :: .ref (ad (2, 0, 0)) :: st) g :=
  v_put (ty := .object "KiteTrays$Row") (fi := 3) X (g3 g 5 0 1 (nI (j + 1))) (by decide +kernel) (by decide) rfl inW2 tyX2 tyX2_ok nmX2 (by decide) fl_X2_25 rfl (by decide +kernel) rfl rfl (Nat.le_of_ble_eq_true rfl) (by show [_, _, _, va_rf (seenRow ad (nI (j + 1))), _, _, _, _, _, _] = _; rw [seen_nI ad hj]; rfl) (sw2 g 1 _) hd k
theorem alZ {p : Program} {l : Launch} {e : Env} {R : Room} {s : State} {m : MethodId} {args : Array Value} {below : List Frame} {meth : Method} {c : Code} {own : String} {cc : ByteArray} {nL : Nat} {ret : Option FieldType} {D : va_G} {ad : Ky → Nat} {cy : Nat → ClassId} {Q : State → Prop} {pc : Nat} {lc : List (Option Value)} {st : List Value} {g : GS} (X : Cx p R s m args meth c own cc nL ret D ad cy) {x : Int32} (j : Nat) (hi : x = nI j) (hj : j < 2) (hd : decode cc pc = .ok (.baload, 1)) (k : Vy p l e R s m args below meth c nL D ad cy Q (pc + 1) lc (.int (g 11 21 j) :: st) g) : Vy p l e R s m args below meth c nL D ad cy Q pc lc (.int x :: .ref (ad (10, 11, 21)) :: st) g := by
  intro H locs ls h1 h2 h3
  obtain ⟨q0, -, hq⟩ := Wd_at ad cy g (k := (10, 11, 21)) (by decide +kernel)
  subst hi
  refine va_zald (D := D) (n := 2) (f := g 11 21) X.1 X.2.1 X.2.2.2.2.2.2.2.1 h1 q0 1 hq rfl (vp_in_nI hj (by decide)) hd ?_
  rw [nI_clamp (by omega)]
  exact k H locs ls h1 h2 h3
