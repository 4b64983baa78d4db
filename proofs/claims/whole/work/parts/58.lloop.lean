/-- the law's loop -/
theorem law_loop {p : Program} {l : Launch} {e : Env} {s : State} {m : MethodId} {below : List Frame} {meth : Method} {c : Code} {b L : Nat} {xs : Nat → Int32} {D : va_G} {ad : Ky → Nat} {cy : Nat → ClassId} (X : LX p s m c b L xs D ad cy) (hL : L ≤ 384) (hr : meth.sig.returnType = ret) (hlocks : meth.locks = false) : ∀ (n i : Nat) (g : GS), i ≤ L + 6 → L < i + n → Rel g → Vl p l e s m below meth c b D ad cy 18 (llc ad b i) [] g := by
  intro n
  induction n with
  | zero =>
    intro i g h1 h2 hR H locs ls hP hS hl
    have X' := X
    obtain ⟨hx, hb, hml, hown, hts, hX, hbl, hK, hI, hAd, hNw⟩ := X'
    have hbA : ¬ (fun q : Nat => s.heap.size ≤ q) b := Nat.not_le.mpr hbl
    refine lv_iload_n hx hb dL_law_18 (i := 3) rfl (hl.at (i := 3) rfl) ?_
    refine lv_aload_n hx hb dL_law_19 (i := 0) rfl (hl.at (i := 0) rfl) ?_
    refine va_slen hx hb hX hbl hbA hS dL_law_20 ?_
    refine lv_bipush hx hb dL_law_21 (v := 6) (by decide) ?_
    refine lv_isub hx hb dL_law_23 ?_
    refine lv_icmp_gt (tgt := 1441) hx hb dL_law_24 (by decide) (fun q => ?_) (fun q => ?_)
    · refine lv_iconst (v := 1) hx hb dL_law_1441 (by decide) ?_
      refine va_forget (fun q hq => hS.2.2 q hq) ?_
      exact lw_ret hx hb hr hlocks dL_law_1442
    · exfalso
      apply q
      rw [show Int32.ofNat L = nI L from rfl, i_lt, show (6 : Int32) = nI 6 from rfl, pk_sub_toInt (by omega) (by omega), nI_toInt (by omega)]
      omega
  | succ n ih =>
    intro i g h1 h2 hR H locs ls hP hS hl
    have X' := X
    obtain ⟨hx, hb, hml, hown, hts, hX, hbl, hK, hI, hAd, hNw⟩ := X'
    have hbA : ¬ (fun q : Nat => s.heap.size ≤ q) b := Nat.not_le.mpr hbl
    refine lv_iload_n hx hb dL_law_18 (i := 3) rfl (hl.at (i := 3) rfl) ?_
    refine lv_aload_n hx hb dL_law_19 (i := 0) rfl (hl.at (i := 0) rfl) ?_
    refine va_slen hx hb hX hbl hbA hS dL_law_20 ?_
    refine lv_bipush hx hb dL_law_21 (v := 6) (by decide) ?_
    refine lv_isub hx hb dL_law_23 ?_
    refine lv_icmp_gt (tgt := 1441) hx hb dL_law_24 (by decide) (fun q => ?_) (fun q => ?_)
    · refine lv_iconst (v := 1) hx hb dL_law_1441 (by decide) ?_
      refine va_forget (fun q hq => hS.2.2 q hq) ?_
      exact lw_ret hx hb hr hlocks dL_law_1442
    · have hi : i + 6 ≤ L := by
        rw [show Int32.ofNat L = nI L from rfl, i_lt, show (6 : Int32) = nI 6 from rfl, pk_sub_toInt (by omega) (by omega), nI_toInt (by omega)] at q
        omega
      have K : ∀ g', Rel g' → Vl p l e s m below meth c b D ad cy 1435 (llc ad b i) [] g' := by
        intro g' hR' H1 locs1 ls1 hP1 hS1 hl1
        refine lv_iinc (v := nI (i + 6)) hx hb dL_law_1435 hl1.has (k := 3) rfl (by rw [show Int32.ofInt 6 = nI 6 from by decide, nI_add]) (by decide) rfl (fun ls2 hl2 => ?_)
        refine lv_goto (tgt := 18) hx hb dL_law_1438 (by decide) ?_
        refine ih (i + 6) g' (by omega) (by omega) hR' H1 locs1 ls2 hP1 hS1 ?_
        exact Lc.of1 (lc := llc ad b i) (i := 3) (v := .int (nI (i + 6))) rfl hl2
      refine lv_aload_n hx hb dL_law_27 (i := 0) rfl (hl.at (i := 0) rfl) ?_
      refine lv_iload_n hx hb dL_law_28 (i := 3) rfl (hl.at (i := 3) rfl) ?_
      refine va_sld hx hb hX hbl hbA hS (vp_in_nI (show i < L by omega) (by omega)) dL_law_29 ?_
      rw [nI_clamp (by omega)]
      refine lv_bipush hx hb dL_law_30 (v := 63) (by decide) ?_
      refine lv_iand hx hb dL_law_32 ?_
      obtain ⟨k, hk, ek⟩ := pk_andE (xs i) (m := 63) 6 (by decide)
      rw [ek]
      have ki : (nI k).toInt = (k : Int) := nI_toInt (by omega)
      rcases Nat.lt_or_ge 37 k with big | small
      · refine lv_tableOut (tgt := 1435) hx hb dL_law_33 (Or.inr (by rw [ki]; omega)) (by decide) ?_
        exact K g hR H locs ls hP hS hl
      · have go : ∀ {off : Int} (tgt : Nat), (#[167, 210, 253, 316, 339, 362, 375, 388, 401, 424, 457, 490, 523, 556, 589, 612, 635, 678, 711, 734, 757, 800, 843, 876, 899, 922, 985, 1048, 1111, 1165, 1208, 1231, 1254, 1277, 1310, 1343, 1366, 1389] : Array Int)[k]? = some off → (33 : Int) + off = (tgt : Int) → Vl p l e s m below meth c b D ad cy tgt (llc ad b i) [] g → W p l e room_1 s m #[Value.ref b] below meth c H locs 600000 7302250 (lw_Z below #[Value.ref b] s) (F0 m 33 ls [.int (nI k)]) := fun tgt ho ht kk => lv_tableIn (tgt := tgt) hx hb dL_law_33 (by rw [ki]; omega) (by rw [ki]; omega) (by rw [ki, show ((k : Int) - 0).toNat = k by omega]; exact ho) ht (kk H locs ls hP hS hl)
        rcases (show k = 0 ∨ k = 1 ∨ k = 2 ∨ k = 3 ∨ k = 4 ∨ k = 5 ∨ k = 6 ∨ k = 7 ∨ k = 8 ∨ k = 9 ∨ k = 10 ∨ k = 11 ∨ k = 12 ∨ k = 13 ∨ k = 14 ∨ k = 15 ∨ k = 16 ∨ k = 17 ∨ k = 18 ∨ k = 19 ∨ k = 20 ∨ k = 21 ∨ k = 22 ∨ k = 23 ∨ k = 24 ∨ k = 25 ∨ k = 26 ∨ k = 27 ∨ k = 28 ∨ k = 29 ∨ k = 30 ∨ k = 31 ∨ k = 32 ∨ k = 33 ∨ k = 34 ∨ k = 35 ∨ k = 36 ∨ k = 37 by omega) with rfl | rfl | rfl | rfl | rfl | rfl | rfl | rfl | rfl | rfl | rfl | rfl | rfl | rfl | rfl | rfl | rfl | rfl | rfl | rfl | rfl | rfl | rfl | rfl | rfl | rfl | rfl | rfl | rfl | rfl | rfl | rfl | rfl | rfl | rfl | rfl | rfl | rfl
        · exact go 200 rfl (by decide) (lw_0 X hi hL hR K)
        · exact go 243 rfl (by decide) (lw_1 X hi hL hR K)
        · exact go 286 rfl (by decide) (lw_2 X hi hL hR K)
        · exact go 349 rfl (by decide) (lw_3 X hi hL hR K)
        · exact go 372 rfl (by decide) (lw_4 X hi hL hR K)
        · exact go 395 rfl (by decide) (lw_5 X hi hL hR K)
        · exact go 408 rfl (by decide) (lw_6 X hi hL hR K)
        · exact go 421 rfl (by decide) (lw_7 X hi hL hR K)
        · exact go 434 rfl (by decide) (lw_8 X hi hL hR K)
        · exact go 457 rfl (by decide) (lw_9 X hi hL hR K)
        · exact go 490 rfl (by decide) (lw_10 X hi hL hR K)
        · exact go 523 rfl (by decide) (lw_11 X hi hL hR K)
        · exact go 556 rfl (by decide) (lw_12 X hi hL hR K)
        · exact go 589 rfl (by decide) (lw_13 X hi hL hR K)
        · exact go 622 rfl (by decide) (lw_14 X hi hL hR K)
        · exact go 645 rfl (by decide) (lw_15 X hi hL hR K)
        · exact go 668 rfl (by decide) (lw_16 X hi hL hR K)
        · exact go 711 rfl (by decide) (lw_17 X hi hL hR K)
        · exact go 744 rfl (by decide) (lw_18 X hi hL hR K)
        · exact go 767 rfl (by decide) (lw_19 X hi hL hR K)
        · exact go 790 rfl (by decide) (lw_20 X hi hL hR K)
        · exact go 833 rfl (by decide) (lw_21 X hi hL hR K)
        · exact go 876 rfl (by decide) (lw_22 X hi hL hR K)
        · exact go 909 rfl (by decide) (lw_23 X hi hL hR K)
        · exact go 932 rfl (by decide) (lw_24 X hi hL hR K)
        · exact go 955 rfl (by decide) (lw_25 X hi hL hR K)
        · exact go 1018 rfl (by decide) (lw_26 X hi hL hR K)
        · exact go 1081 rfl (by decide) (lw_27 X hi hL hR K)
        · exact go 1144 rfl (by decide) (lw_28 X hi hL hR K)
        · exact go 1198 rfl (by decide) (lw_29 X hi hL hR K)
        · exact go 1241 rfl (by decide) (lw_30 X hi hL hR K)
        · exact go 1264 rfl (by decide) (lw_31 X hi hL hR K)
        · exact go 1287 rfl (by decide) (lw_32 X hi hL hR K)
        · exact go 1310 rfl (by decide) (lw_33 X hi hL hR K)
        · exact go 1343 rfl (by decide) (lw_34 X hi hL hR K)
        · exact go 1376 rfl (by decide) (lw_35 X hi hL hR K)
        · exact go 1399 rfl (by decide) (lw_36 X hi hL hR K)
        · exact go 1422 rfl (by decide) (lw_37 X hi hL hR K)
