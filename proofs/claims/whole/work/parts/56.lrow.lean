/-! ===== the law's way ===== -/
/-- what the law's way stands on -/
def LX (p : Program) (s : State) (m : MethodId) (c : Code) (b L : Nat) (xs : Nat → Int32) (D : va_G) (ad : Ky → Nat) (cy : Nat → ClassId) : Prop :=
  p.tables.exec = Jvm.exec ∧ c.code = cL_law ∧ c.maxLocals = 4 ∧ s.vm.findClass RL = some m.cls ∧ (∀ w ∈ lw_tbl, w.before #[Value.ref b] s = true) ∧ va_X b L xs s s.heap ∧ b < s.heap.size ∧ va_K D vwCl (tysA cy) s ∧ Inj ad ∧ (∀ k ∈ keys, s.heap.size ≤ ad k) ∧ va_Nw NST s
def Vl (p : Program) (l : Launch) (e : Env) (s : State) (m : MethodId) (below : List Frame) (meth : Method) (c : Code) (b : Nat) (D : va_G) (ad : Ky → Nat) (cy : Nat → ClassId) (pc : Nat) (lc : List (Option Value)) (st : List Value) (g : GS) : Prop :=
  ∀ (H : Heap) (locs : List Loc) (ls : Array Slot), va_P D vwCl (Wd ad cy g) H → va_S (fun q => s.heap.size ≤ q) s.heap H locs → Lc ls 4 lc → W p l e room_1 s m #[Value.ref b] below meth c H locs 600000 7302250 (lw_Z below #[Value.ref b] s) (F0 m pc ls st)
/-- the law's locals -/
def llc (ad : Ky → Nat) (b i : Nat) : List (Option Value) := [some (.ref b), some (.ref (ad (7, 0, 0))), some (.ref (ad (8, 0, 0))), some (.int (nI i))]
section VL
variable {p : Program} {l : Launch} {e : Env} {s : State} {m : MethodId} {below : List Frame} {meth : Method} {c : Code} {b L : Nat} {xs : Nat → Int32} {D : va_G} {ad : Ky → Nat} {cy : Nat → ClassId} {pc : Nat} {st : List Value} {g : GS}
theorem LX.mono (X : LX p s m c b L xs D ad cy) {H : Heap} {locs : List Loc} (h2 : va_S (fun q => s.heap.size ≤ q) s.heap H locs) : ∀ q, AA ad H.size q → s.heap.size ≤ q := by
  intro q h
  rcases h with ⟨k, hk, rfl⟩ | h
  · exact X.2.2.2.2.2.2.2.2.2.1 k hk
  · exact Nat.le_trans h2.1 h
theorem l_obj (X : LX p s m c b L xs D ad cy) {k4 : Fin 4} {i j y : Nat} (hd : decode cL_law pc = .ok (.aload_n k4, 1)) (hi : (k4 : Nat) = j) (hl : (llc ad b i)[j]? = some (some (.ref y))) (k : Vl p l e s m below meth c b D ad cy (pc + 1) (llc ad b i) (.ref y :: st) g) : Vl p l e s m below meth c b D ad cy pc (llc ad b i) st g :=
  fun H locs ls h1 h2 h3 => lv_aload_n X.1 X.2.1 hd hi (h3.at hl) (k H locs ls h1 h2 h3)
/-- one int of the script -/
theorem l_arg (X : LX p s m c b L xs D ad cy) {i n : Nat} (hn : i + n < L) (hL : L ≤ 384) (d0 : decode cL_law pc = .ok (.aload_n 0, 1)) (d1 : decode cL_law (pc + 1) = .ok (.iload_n 3, 1)) (d2 : decode cL_law (pc + 2) = .ok (.iconst n, 1)) (hv : Int32.ofInt n = nI n) (d3 : decode cL_law (pc + 3) = .ok (.iadd, 1)) (d4 : decode cL_law (pc + 4) = .ok (.iaload, 1)) (k : Vl p l e s m below meth c b D ad cy (pc + 5) (llc ad b i) (.int (xs (i + n)) :: st) g) : Vl p l e s m below meth c b D ad cy pc (llc ad b i) st g := by
  intro H locs ls h1 h2 h3
  obtain ⟨hx, hb, hml, hown, hts, hX, hbl, hK, hI, hAd, hNw⟩ := X
  refine lv_aload_n hx hb d0 (i := 0) rfl (h3.at (i := 0) rfl) ?_
  refine lv_iload_n hx hb d1 (i := 3) rfl (h3.at (i := 3) rfl) ?_
  refine lv_iconst hx hb d2 hv ?_
  refine lv_iadd hx hb d3 ?_
  rw [nI_add]
  have hbA : ¬ (fun q : Nat => s.heap.size ≤ q) b := Nat.not_le.mpr hbl
  refine va_sld hx hb hX hbl hbA h2 (vp_in_nI hn (by omega)) d4 ?_
  rw [nI_clamp (by omega)]
  exact k H locs ls h1 h2 h3
theorem l_good {y : MethodName} {bytes : ByteArray} {maxL n index : Nat} {ret : Option FieldType} (h : MwV y bytes maxL ret n) (hl : Cond.methodLink RL index y ∈ lwg) : GoodIn lw_tbl (wsV RL index y.cls y (Cond.code y bytes maxL ret :: lwg)) :=
  fun w hw => ⟨lwg_of (h.good hl w hw).1, (h.good hl w hw).2⟩
theorem rm_law {d' maxL : Nat} (h : d' ≤ 20) (hm : maxL ≤ 40) : (rmd d').frames + 1 ≤ room_1.frames ∧ 8 + (maxL + 11) + (rmd d').locals ≤ room_1.locals := by
  show d' + 1 ≤ 2048 ∧ 8 + (maxL + 11) + 60 * d' ≤ 84000
  omega
theorem l_callI (X : LX p s m c b L xs D ad cy) {i : Nat} {y : MethodName} {bytes : ByteArray} {maxL n index d' : Nat} {C : String} {T : u_T} {N a : Nat} {As rest : List Value} {r : Int32} {g' : GS}
    (hM : CtI l D ad cy y bytes maxL (some .int) d' (.ref (ad (a, 0, 0)) :: As) g r g') (mw : MwV y bytes maxL (some .int) n) (ml : Cond.methodLink RL index y ∈ lwg) (hd' : d' ≤ 20) (hk : ((a, 0, 0) : Ky) ∈ keys) (h9 : a < 9) (hC : vwCl[a]? = some (C, T, N)) (hCy : C = y.cls) (hn : As.length = n) (hst : st = As.reverse ++ .ref (ad (a, 0, 0)) :: rest) (hr : (rest.map fun v => v.category).sum ≤ 8) (hd : decode cL_law pc = .ok (.invokevirtual index, 3))
    (k : Vl p l e s m below meth c b D ad cy (pc + 3) (llc ad b i) (.int r :: rest) g') : Vl p l e s m below meth c b D ad cy pc (llc ad b i) st g := by
  intro H locs ls h1 h2 h3
  have mono := X.mono h2
  obtain ⟨hx, hb, hml, hown, hts, hX, hbl, hK, hI, hAd, hNw⟩ := X
  obtain ⟨q0, -, hq⟩ := Wd_at ad cy g hk
  have he : cellW ad cy g (a, 0, 0) = .inr (a, cellO ad g a 0 0) := by simp [cellW, h9]
  rw [he] at hq
  subst hst
  subst hCy
  refine va_calli (va_runV (As := As) (rest := rest) ⟨hx, hb, hml, hown, hts⟩ (hM H.size) (cwV n hts (l_good mw ml) rfl rfl rfl ⟨rfl, mw.2.2.2.2.1⟩ (rm_law hd' mw.2.2.2.2.2)) ⟨PG_blind D ad cy g H.size _, va_recv hK h1 hC hq, fun U hU hW => ⟨rfl, by rw [hU], by rw [hU]; exact h1, va_K.moved hW.alike hK, va_Nw.warmM hW hNw⟩⟩ rfl hn h3.1 rfl (lv_room hr) hd ⟨Nat.le_refl _, Nat.le_refl _⟩) h2 (fun q _ h => mono q h) mono (fun r1 u t H1 locs1 ht hvm hw hB hz1 hk1 hS => ?_)
  obtain ⟨rfl, rfl⟩ := hw
  exact k H1 locs1 ls (ht ▸ hB.1) hS h3
theorem l_callL (X : LX p s m c b L xs D ad cy) {i : Nat} {y : MethodName} {bytes : ByteArray} {maxL n index d' : Nat} {C : String} {T : u_T} {N a : Nat} {As rest : List Value} {r : Int64} {g' : GS}
    (hM : CtL l D ad cy y bytes maxL d' (.ref (ad (a, 0, 0)) :: As) g r g') (mw : MwV y bytes maxL (some .long) n) (ml : Cond.methodLink RL index y ∈ lwg) (hd' : d' ≤ 20) (hk : ((a, 0, 0) : Ky) ∈ keys) (h9 : a < 9) (hC : vwCl[a]? = some (C, T, N)) (hCy : C = y.cls) (hn : As.length = n) (hst : st = As.reverse ++ .ref (ad (a, 0, 0)) :: rest) (hr : (rest.map fun v => v.category).sum ≤ 8) (hd : decode cL_law pc = .ok (.invokevirtual index, 3))
    (k : Vl p l e s m below meth c b D ad cy (pc + 3) (llc ad b i) (.long r :: rest) g') : Vl p l e s m below meth c b D ad cy pc (llc ad b i) st g := by
  intro H locs ls h1 h2 h3
  have mono := X.mono h2
  obtain ⟨hx, hb, hml, hown, hts, hX, hbl, hK, hI, hAd, hNw⟩ := X
  obtain ⟨q0, -, hq⟩ := Wd_at ad cy g hk
  have he : cellW ad cy g (a, 0, 0) = .inr (a, cellO ad g a 0 0) := by simp [cellW, h9]
  rw [he] at hq
  subst hst
  subst hCy
  refine va_calll (va_runV (As := As) (rest := rest) ⟨hx, hb, hml, hown, hts⟩ (hM H.size) (cwV n hts (l_good mw ml) rfl rfl rfl ⟨rfl, mw.2.2.2.2.1⟩ (rm_law hd' mw.2.2.2.2.2)) ⟨PG_blind D ad cy g H.size _, va_recv hK h1 hC hq, fun U hU hW => ⟨rfl, by rw [hU], by rw [hU]; exact h1, va_K.moved hW.alike hK, va_Nw.warmM hW hNw⟩⟩ rfl hn h3.1 rfl (lv_room hr) hd ⟨Nat.le_refl _, Nat.le_refl _⟩) h2 (fun q _ h => mono q h) mono (fun r1 u t H1 locs1 ht hvm hw hB hz1 hk1 hS => ?_)
  obtain ⟨rfl, rfl⟩ := hw
  exact k H1 locs1 ls (ht ▸ hB.1) hS h3
/-- the same answers -/
theorem l_same (X : LX p s m c b L xs D ad cy) {i : Nat} {r : Int32} {off : Int} (hd : decode cL_law pc = .ok (.if_icmp .eq off, 3)) (ht : (pc : Int) + off = ((1435 : Nat) : Int)) (k : Vl p l e s m below meth c b D ad cy 1435 (llc ad b i) st g) : Vl p l e s m below meth c b D ad cy pc (llc ad b i) (.int r :: .int r :: st) g :=
  fun H locs ls h1 h2 h3 => lv_icmp_eq X.1 X.2.1 hd ht (fun _ => k H locs ls h1 h2 h3) (fun q => absurd rfl q)
theorem l_sameL (X : LX p s m c b L xs D ad cy) {i : Nat} {r : Int64} {off : Int} (hd0 : decode cL_law pc = .ok (.lcmp, 1)) (hd : decode cL_law (pc + 1) = .ok (.ifCond .eq off, 3)) (ht : ((pc + 1 : Nat) : Int) + off = ((1435 : Nat) : Int)) (k : Vl p l e s m below meth c b D ad cy 1435 (llc ad b i) st g) : Vl p l e s m below meth c b D ad cy pc (llc ad b i) (.long r :: .long r :: st) g := by
  intro H locs ls h1 h2 h3
  refine W.lcmp X.1 X.2.1 hd0 ?_
  refine lv_if_eq X.1 X.2.1 hd ht (fun _ => k H locs ls h1 h2 h3) (fun q => absurd ?_ q)
  unfold lg_cmp
  rw [if_neg (fun t => by have := Int64.lt_iff_toInt_lt.mp t; omega), if_pos rfl]
end VL
