def F_J6_bitCount_0f7a4 (N : Nat) (x0 : Int32) (g : GS) : Option (Int32 × GS) := some (((((((((x0 - ((((x0).toUInt32 >>> (((1 : Int32)).toUInt32 &&& Int32.toUInt32 31)).toInt32) &&& (1431655765 : Int32))) &&& (858993459 : Int32)) + (((((x0 - ((((x0).toUInt32 >>> (((1 : Int32)).toUInt32 &&& Int32.toUInt32 31)).toInt32) &&& (1431655765 : Int32)))).toUInt32 >>> (((2 : Int32)).toUInt32 &&& Int32.toUInt32 31)).toInt32) &&& (858993459 : Int32))) + ((((((x0 - ((((x0).toUInt32 >>> (((1 : Int32)).toUInt32 &&& Int32.toUInt32 31)).toInt32) &&& (1431655765 : Int32))) &&& (858993459 : Int32)) + (((((x0 - ((((x0).toUInt32 >>> (((1 : Int32)).toUInt32 &&& Int32.toUInt32 31)).toInt32) &&& (1431655765 : Int32)))).toUInt32 >>> (((2 : Int32)).toUInt32 &&& Int32.toUInt32 31)).toInt32) &&& (858993459 : Int32)))).toUInt32 >>> (((4 : Int32)).toUInt32 &&& Int32.toUInt32 31)).toInt32)) &&& (252645135 : Int32)) + ((((((((x0 - ((((x0).toUInt32 >>> (((1 : Int32)).toUInt32 &&& Int32.toUInt32 31)).toInt32) &&& (1431655765 : Int32))) &&& (858993459 : Int32)) + (((((x0 - ((((x0).toUInt32 >>> (((1 : Int32)).toUInt32 &&& Int32.toUInt32 31)).toInt32) &&& (1431655765 : Int32)))).toUInt32 >>> (((2 : Int32)).toUInt32 &&& Int32.toUInt32 31)).toInt32) &&& (858993459 : Int32))) + ((((((x0 - ((((x0).toUInt32 >>> (((1 : Int32)).toUInt32 &&& Int32.toUInt32 31)).toInt32) &&& (1431655765 : Int32))) &&& (858993459 : Int32)) + (((((x0 - ((((x0).toUInt32 >>> (((1 : Int32)).toUInt32 &&& Int32.toUInt32 31)).toInt32) &&& (1431655765 : Int32)))).toUInt32 >>> (((2 : Int32)).toUInt32 &&& Int32.toUInt32 31)).toInt32) &&& (858993459 : Int32)))).toUInt32 >>> (((4 : Int32)).toUInt32 &&& Int32.toUInt32 31)).toInt32)) &&& (252645135 : Int32))).toUInt32 >>> (((8 : Int32)).toUInt32 &&& Int32.toUInt32 31)).toInt32)) + (((((((((x0 - ((((x0).toUInt32 >>> (((1 : Int32)).toUInt32 &&& Int32.toUInt32 31)).toInt32) &&& (1431655765 : Int32))) &&& (858993459 : Int32)) + (((((x0 - ((((x0).toUInt32 >>> (((1 : Int32)).toUInt32 &&& Int32.toUInt32 31)).toInt32) &&& (1431655765 : Int32)))).toUInt32 >>> (((2 : Int32)).toUInt32 &&& Int32.toUInt32 31)).toInt32) &&& (858993459 : Int32))) + ((((((x0 - ((((x0).toUInt32 >>> (((1 : Int32)).toUInt32 &&& Int32.toUInt32 31)).toInt32) &&& (1431655765 : Int32))) &&& (858993459 : Int32)) + (((((x0 - ((((x0).toUInt32 >>> (((1 : Int32)).toUInt32 &&& Int32.toUInt32 31)).toInt32) &&& (1431655765 : Int32)))).toUInt32 >>> (((2 : Int32)).toUInt32 &&& Int32.toUInt32 31)).toInt32) &&& (858993459 : Int32)))).toUInt32 >>> (((4 : Int32)).toUInt32 &&& Int32.toUInt32 31)).toInt32)) &&& (252645135 : Int32)) + ((((((((x0 - ((((x0).toUInt32 >>> (((1 : Int32)).toUInt32 &&& Int32.toUInt32 31)).toInt32) &&& (1431655765 : Int32))) &&& (858993459 : Int32)) + (((((x0 - ((((x0).toUInt32 >>> (((1 : Int32)).toUInt32 &&& Int32.toUInt32 31)).toInt32) &&& (1431655765 : Int32)))).toUInt32 >>> (((2 : Int32)).toUInt32 &&& Int32.toUInt32 31)).toInt32) &&& (858993459 : Int32))) + ((((((x0 - ((((x0).toUInt32 >>> (((1 : Int32)).toUInt32 &&& Int32.toUInt32 31)).toInt32) &&& (1431655765 : Int32))) &&& (858993459 : Int32)) + (((((x0 - ((((x0).toUInt32 >>> (((1 : Int32)).toUInt32 &&& Int32.toUInt32 31)).toInt32) &&& (1431655765 : Int32)))).toUInt32 >>> (((2 : Int32)).toUInt32 &&& Int32.toUInt32 31)).toInt32) &&& (858993459 : Int32)))).toUInt32 >>> (((4 : Int32)).toUInt32 &&& Int32.toUInt32 31)).toInt32)) &&& (252645135 : Int32))).toUInt32 >>> (((8 : Int32)).toUInt32 &&& Int32.toUInt32 31)).toInt32))).toUInt32 >>> (((16 : Int32)).toUInt32 &&& Int32.toUInt32 31)).toInt32)) &&& (63 : Int32)), g)
set_option maxRecDepth 100000 in
set_option maxHeartbeats 4000000 in
theorem c_J6_bitCount_0f7a4 (l : Launch) (D : va_G) (ad : Ky → Nat) (cy : Nat → ClassId) (hI : Inj ad) (N : Nat) (x0 : Int32) (g : GS) (r : Int32) (gq : GS) (h : F_J6_bitCount_0f7a4 N x0 g = some (r, gq)) : CtI l D ad cy yJ6_bitCount_0f7a4 cJ6_bitCount_0f7a4 1 (some .int) 0 [.int x0] g r gq := by
  refine CtI.of 0 hI (by decide +kernel) rfl (Nat.le_of_ble_eq_true rfl) (fun p e s m args below meth c X => ?_)
  unfold F_J6_bitCount_0f7a4 at h
  show Vy _ _ _ _ _ _ _ _ _ _ _ _ _ _ _ 0 [some (.int x0)] [] g
  refine v_iloadn X dJ6_bitCount_0f7a4_0 rfl rfl ?_
  refine v_iloadn X dJ6_bitCount_0f7a4_1 rfl rfl ?_
  refine v_iconst (v := 1) X dJ6_bitCount_0f7a4_2 (by decide) ?_
  refine v_iushr X dJ6_bitCount_0f7a4_3 ?_
  refine v_ldcw X kc_J6_265 dJ6_bitCount_0f7a4_4 ?_
  refine v_iand X dJ6_bitCount_0f7a4_7 ?_
  refine v_isub X dJ6_bitCount_0f7a4_8 ?_
  refine v_istoren (lc' := [some (.int (x0 - ((((x0).toUInt32 >>> (((1 : Int32)).toUInt32 &&& Int32.toUInt32 31)).toInt32) &&& (1431655765 : Int32))))]) X dJ6_bitCount_0f7a4_9 rfl (by decide) rfl rfl ?_
  refine v_iloadn X dJ6_bitCount_0f7a4_10 rfl rfl ?_
  refine v_ldcw X kc_J6_266 dJ6_bitCount_0f7a4_11 ?_
  refine v_iand X dJ6_bitCount_0f7a4_14 ?_
  refine v_iloadn X dJ6_bitCount_0f7a4_15 rfl rfl ?_
  refine v_iconst (v := 2) X dJ6_bitCount_0f7a4_16 (by decide) ?_
  refine v_iushr X dJ6_bitCount_0f7a4_17 ?_
  refine v_ldcw X kc_J6_266 dJ6_bitCount_0f7a4_18 ?_
  refine v_iand X dJ6_bitCount_0f7a4_21 ?_
  refine v_iadd X dJ6_bitCount_0f7a4_22 ?_
  refine v_istoren (lc' := [some (.int (((x0 - ((((x0).toUInt32 >>> (((1 : Int32)).toUInt32 &&& Int32.toUInt32 31)).toInt32) &&& (1431655765 : Int32))) &&& (858993459 : Int32)) + (((((x0 - ((((x0).toUInt32 >>> (((1 : Int32)).toUInt32 &&& Int32.toUInt32 31)).toInt32) &&& (1431655765 : Int32)))).toUInt32 >>> (((2 : Int32)).toUInt32 &&& Int32.toUInt32 31)).toInt32) &&& (858993459 : Int32))))]) X dJ6_bitCount_0f7a4_23 rfl (by decide) rfl rfl ?_
  refine v_iloadn X dJ6_bitCount_0f7a4_24 rfl rfl ?_
  refine v_iloadn X dJ6_bitCount_0f7a4_25 rfl rfl ?_
  refine v_iconst (v := 4) X dJ6_bitCount_0f7a4_26 (by decide) ?_
  refine v_iushr X dJ6_bitCount_0f7a4_27 ?_
  refine v_iadd X dJ6_bitCount_0f7a4_28 ?_
  refine v_ldcw X kc_J6_267 dJ6_bitCount_0f7a4_29 ?_
  refine v_iand X dJ6_bitCount_0f7a4_32 ?_
  refine v_istoren (lc' := [some (.int (((((x0 - ((((x0).toUInt32 >>> (((1 : Int32)).toUInt32 &&& Int32.toUInt32 31)).toInt32) &&& (1431655765 : Int32))) &&& (858993459 : Int32)) + (((((x0 - ((((x0).toUInt32 >>> (((1 : Int32)).toUInt32 &&& Int32.toUInt32 31)).toInt32) &&& (1431655765 : Int32)))).toUInt32 >>> (((2 : Int32)).toUInt32 &&& Int32.toUInt32 31)).toInt32) &&& (858993459 : Int32))) + ((((((x0 - ((((x0).toUInt32 >>> (((1 : Int32)).toUInt32 &&& Int32.toUInt32 31)).toInt32) &&& (1431655765 : Int32))) &&& (858993459 : Int32)) + (((((x0 - ((((x0).toUInt32 >>> (((1 : Int32)).toUInt32 &&& Int32.toUInt32 31)).toInt32) &&& (1431655765 : Int32)))).toUInt32 >>> (((2 : Int32)).toUInt32 &&& Int32.toUInt32 31)).toInt32) &&& (858993459 : Int32)))).toUInt32 >>> (((4 : Int32)).toUInt32 &&& Int32.toUInt32 31)).toInt32)) &&& (252645135 : Int32)))]) X dJ6_bitCount_0f7a4_33 rfl (by decide) rfl rfl ?_
  refine v_iloadn X dJ6_bitCount_0f7a4_34 rfl rfl ?_
  refine v_iloadn X dJ6_bitCount_0f7a4_35 rfl rfl ?_
  refine v_bipush (v := 8) X dJ6_bitCount_0f7a4_36 (by decide) ?_
  refine v_iushr X dJ6_bitCount_0f7a4_38 ?_
  refine v_iadd X dJ6_bitCount_0f7a4_39 ?_
  refine v_istoren (lc' := [some (.int ((((((x0 - ((((x0).toUInt32 >>> (((1 : Int32)).toUInt32 &&& Int32.toUInt32 31)).toInt32) &&& (1431655765 : Int32))) &&& (858993459 : Int32)) + (((((x0 - ((((x0).toUInt32 >>> (((1 : Int32)).toUInt32 &&& Int32.toUInt32 31)).toInt32) &&& (1431655765 : Int32)))).toUInt32 >>> (((2 : Int32)).toUInt32 &&& Int32.toUInt32 31)).toInt32) &&& (858993459 : Int32))) + ((((((x0 - ((((x0).toUInt32 >>> (((1 : Int32)).toUInt32 &&& Int32.toUInt32 31)).toInt32) &&& (1431655765 : Int32))) &&& (858993459 : Int32)) + (((((x0 - ((((x0).toUInt32 >>> (((1 : Int32)).toUInt32 &&& Int32.toUInt32 31)).toInt32) &&& (1431655765 : Int32)))).toUInt32 >>> (((2 : Int32)).toUInt32 &&& Int32.toUInt32 31)).toInt32) &&& (858993459 : Int32)))).toUInt32 >>> (((4 : Int32)).toUInt32 &&& Int32.toUInt32 31)).toInt32)) &&& (252645135 : Int32)) + ((((((((x0 - ((((x0).toUInt32 >>> (((1 : Int32)).toUInt32 &&& Int32.toUInt32 31)).toInt32) &&& (1431655765 : Int32))) &&& (858993459 : Int32)) + (((((x0 - ((((x0).toUInt32 >>> (((1 : Int32)).toUInt32 &&& Int32.toUInt32 31)).toInt32) &&& (1431655765 : Int32)))).toUInt32 >>> (((2 : Int32)).toUInt32 &&& Int32.toUInt32 31)).toInt32) &&& (858993459 : Int32))) + ((((((x0 - ((((x0).toUInt32 >>> (((1 : Int32)).toUInt32 &&& Int32.toUInt32 31)).toInt32) &&& (1431655765 : Int32))) &&& (858993459 : Int32)) + (((((x0 - ((((x0).toUInt32 >>> (((1 : Int32)).toUInt32 &&& Int32.toUInt32 31)).toInt32) &&& (1431655765 : Int32)))).toUInt32 >>> (((2 : Int32)).toUInt32 &&& Int32.toUInt32 31)).toInt32) &&& (858993459 : Int32)))).toUInt32 >>> (((4 : Int32)).toUInt32 &&& Int32.toUInt32 31)).toInt32)) &&& (252645135 : Int32))).toUInt32 >>> (((8 : Int32)).toUInt32 &&& Int32.toUInt32 31)).toInt32)))]) X dJ6_bitCount_0f7a4_40 rfl (by decide) rfl rfl ?_
  refine v_iloadn X dJ6_bitCount_0f7a4_41 rfl rfl ?_
  refine v_iloadn X dJ6_bitCount_0f7a4_42 rfl rfl ?_
  refine v_bipush (v := 16) X dJ6_bitCount_0f7a4_43 (by decide) ?_
  refine v_iushr X dJ6_bitCount_0f7a4_45 ?_
  refine v_iadd X dJ6_bitCount_0f7a4_46 ?_
  refine v_istoren (lc' := [some (.int (((((((x0 - ((((x0).toUInt32 >>> (((1 : Int32)).toUInt32 &&& Int32.toUInt32 31)).toInt32) &&& (1431655765 : Int32))) &&& (858993459 : Int32)) + (((((x0 - ((((x0).toUInt32 >>> (((1 : Int32)).toUInt32 &&& Int32.toUInt32 31)).toInt32) &&& (1431655765 : Int32)))).toUInt32 >>> (((2 : Int32)).toUInt32 &&& Int32.toUInt32 31)).toInt32) &&& (858993459 : Int32))) + ((((((x0 - ((((x0).toUInt32 >>> (((1 : Int32)).toUInt32 &&& Int32.toUInt32 31)).toInt32) &&& (1431655765 : Int32))) &&& (858993459 : Int32)) + (((((x0 - ((((x0).toUInt32 >>> (((1 : Int32)).toUInt32 &&& Int32.toUInt32 31)).toInt32) &&& (1431655765 : Int32)))).toUInt32 >>> (((2 : Int32)).toUInt32 &&& Int32.toUInt32 31)).toInt32) &&& (858993459 : Int32)))).toUInt32 >>> (((4 : Int32)).toUInt32 &&& Int32.toUInt32 31)).toInt32)) &&& (252645135 : Int32)) + ((((((((x0 - ((((x0).toUInt32 >>> (((1 : Int32)).toUInt32 &&& Int32.toUInt32 31)).toInt32) &&& (1431655765 : Int32))) &&& (858993459 : Int32)) + (((((x0 - ((((x0).toUInt32 >>> (((1 : Int32)).toUInt32 &&& Int32.toUInt32 31)).toInt32) &&& (1431655765 : Int32)))).toUInt32 >>> (((2 : Int32)).toUInt32 &&& Int32.toUInt32 31)).toInt32) &&& (858993459 : Int32))) + ((((((x0 - ((((x0).toUInt32 >>> (((1 : Int32)).toUInt32 &&& Int32.toUInt32 31)).toInt32) &&& (1431655765 : Int32))) &&& (858993459 : Int32)) + (((((x0 - ((((x0).toUInt32 >>> (((1 : Int32)).toUInt32 &&& Int32.toUInt32 31)).toInt32) &&& (1431655765 : Int32)))).toUInt32 >>> (((2 : Int32)).toUInt32 &&& Int32.toUInt32 31)).toInt32) &&& (858993459 : Int32)))).toUInt32 >>> (((4 : Int32)).toUInt32 &&& Int32.toUInt32 31)).toInt32)) &&& (252645135 : Int32))).toUInt32 >>> (((8 : Int32)).toUInt32 &&& Int32.toUInt32 31)).toInt32)) + (((((((((x0 - ((((x0).toUInt32 >>> (((1 : Int32)).toUInt32 &&& Int32.toUInt32 31)).toInt32) &&& (1431655765 : Int32))) &&& (858993459 : Int32)) + (((((x0 - ((((x0).toUInt32 >>> (((1 : Int32)).toUInt32 &&& Int32.toUInt32 31)).toInt32) &&& (1431655765 : Int32)))).toUInt32 >>> (((2 : Int32)).toUInt32 &&& Int32.toUInt32 31)).toInt32) &&& (858993459 : Int32))) + ((((((x0 - ((((x0).toUInt32 >>> (((1 : Int32)).toUInt32 &&& Int32.toUInt32 31)).toInt32) &&& (1431655765 : Int32))) &&& (858993459 : Int32)) + (((((x0 - ((((x0).toUInt32 >>> (((1 : Int32)).toUInt32 &&& Int32.toUInt32 31)).toInt32) &&& (1431655765 : Int32)))).toUInt32 >>> (((2 : Int32)).toUInt32 &&& Int32.toUInt32 31)).toInt32) &&& (858993459 : Int32)))).toUInt32 >>> (((4 : Int32)).toUInt32 &&& Int32.toUInt32 31)).toInt32)) &&& (252645135 : Int32)) + ((((((((x0 - ((((x0).toUInt32 >>> (((1 : Int32)).toUInt32 &&& Int32.toUInt32 31)).toInt32) &&& (1431655765 : Int32))) &&& (858993459 : Int32)) + (((((x0 - ((((x0).toUInt32 >>> (((1 : Int32)).toUInt32 &&& Int32.toUInt32 31)).toInt32) &&& (1431655765 : Int32)))).toUInt32 >>> (((2 : Int32)).toUInt32 &&& Int32.toUInt32 31)).toInt32) &&& (858993459 : Int32))) + ((((((x0 - ((((x0).toUInt32 >>> (((1 : Int32)).toUInt32 &&& Int32.toUInt32 31)).toInt32) &&& (1431655765 : Int32))) &&& (858993459 : Int32)) + (((((x0 - ((((x0).toUInt32 >>> (((1 : Int32)).toUInt32 &&& Int32.toUInt32 31)).toInt32) &&& (1431655765 : Int32)))).toUInt32 >>> (((2 : Int32)).toUInt32 &&& Int32.toUInt32 31)).toInt32) &&& (858993459 : Int32)))).toUInt32 >>> (((4 : Int32)).toUInt32 &&& Int32.toUInt32 31)).toInt32)) &&& (252645135 : Int32))).toUInt32 >>> (((8 : Int32)).toUInt32 &&& Int32.toUInt32 31)).toInt32))).toUInt32 >>> (((16 : Int32)).toUInt32 &&& Int32.toUInt32 31)).toInt32)))]) X dJ6_bitCount_0f7a4_47 rfl (by decide) rfl rfl ?_
  refine v_iloadn X dJ6_bitCount_0f7a4_48 rfl rfl ?_
  refine v_bipush (v := 63) X dJ6_bitCount_0f7a4_49 (by decide) ?_
  refine v_iand X dJ6_bitCount_0f7a4_51 ?_
  obtain ⟨er, eg⟩ := Prod.mk.inj (Option.some.inj h)
  exact v_iret X dJ6_bitCount_0f7a4_52 er eg
def F_X3_become (N : Nat) (r0 : Nat) (i0 : Nat) (r1 : Nat) (i1 : Nat) (g : GS) : Option GS := some (g3 (g3 (g3 (g3 (g3 (g3 (g3 g 13 r0 (7 * i0) (g 13 r1 (7 * i1))) 13 r0 (7 * i0 + 1) ((g3 g 13 r0 (7 * i0) (g 13 r1 (7 * i1))) 13 r1 (7 * i1 + 1))) 13 r0 (7 * i0 + 2) ((g3 (g3 g 13 r0 (7 * i0) (g 13 r1 (7 * i1))) 13 r0 (7 * i0 + 1) ((g3 g 13 r0 (7 * i0) (g 13 r1 (7 * i1))) 13 r1 (7 * i1 + 1))) 13 r1 (7 * i1 + 2))) 13 r0 (7 * i0 + 3) ((g3 (g3 (g3 g 13 r0 (7 * i0) (g 13 r1 (7 * i1))) 13 r0 (7 * i0 + 1) ((g3 g 13 r0 (7 * i0) (g 13 r1 (7 * i1))) 13 r1 (7 * i1 + 1))) 13 r0 (7 * i0 + 2) ((g3 (g3 g 13 r0 (7 * i0) (g 13 r1 (7 * i1))) 13 r0 (7 * i0 + 1) ((g3 g 13 r0 (7 * i0) (g 13 r1 (7 * i1))) 13 r1 (7 * i1 + 1))) 13 r1 (7 * i1 + 2))) 13 r1 (7 * i1 + 3))) 13 r0 (7 * i0 + 4) ((g3 (g3 (g3 (g3 g 13 r0 (7 * i0) (g 13 r1 (7 * i1))) 13 r0 (7 * i0 + 1) ((g3 g 13 r0 (7 * i0) (g 13 r1 (7 * i1))) 13 r1 (7 * i1 + 1))) 13 r0 (7 * i0 + 2) ((g3 (g3 g 13 r0 (7 * i0) (g 13 r1 (7 * i1))) 13 r0 (7 * i0 + 1) ((g3 g 13 r0 (7 * i0) (g 13 r1 (7 * i1))) 13 r1 (7 * i1 + 1))) 13 r1 (7 * i1 + 2))) 13 r0 (7 * i0 + 3) ((g3 (g3 (g3 g 13 r0 (7 * i0) (g 13 r1 (7 * i1))) 13 r0 (7 * i0 + 1) ((g3 g 13 r0 (7 * i0) (g 13 r1 (7 * i1))) 13 r1 (7 * i1 + 1))) 13 r0 (7 * i0 + 2) ((g3 (g3 g 13 r0 (7 * i0) (g 13 r1 (7 * i1))) 13 r0 (7 * i0 + 1) ((g3 g 13 r0 (7 * i0) (g 13 r1 (7 * i1))) 13 r1 (7 * i1 + 1))) 13 r1 (7 * i1 + 2))) 13 r1 (7 * i1 + 3))) 13 r1 (7 * i1 + 4))) 13 r0 (7 * i0 + 5) ((g3 (g3 (g3 (g3 (g3 g 13 r0 (7 * i0) (g 13 r1 (7 * i1))) 13 r0 (7 * i0 + 1) ((g3 g 13 r0 (7 * i0) (g 13 r1 (7 * i1))) 13 r1 (7 * i1 + 1))) 13 r0 (7 * i0 + 2) ((g3 (g3 g 13 r0 (7 * i0) (g 13 r1 (7 * i1))) 13 r0 (7 * i0 + 1) ((g3 g 13 r0 (7 * i0) (g 13 r1 (7 * i1))) 13 r1 (7 * i1 + 1))) 13 r1 (7 * i1 + 2))) 13 r0 (7 * i0 + 3) ((g3 (g3 (g3 g 13 r0 (7 * i0) (g 13 r1 (7 * i1))) 13 r0 (7 * i0 + 1) ((g3 g 13 r0 (7 * i0) (g 13 r1 (7 * i1))) 13 r1 (7 * i1 + 1))) 13 r0 (7 * i0 + 2) ((g3 (g3 g 13 r0 (7 * i0) (g 13 r1 (7 * i1))) 13 r0 (7 * i0 + 1) ((g3 g 13 r0 (7 * i0) (g 13 r1 (7 * i1))) 13 r1 (7 * i1 + 1))) 13 r1 (7 * i1 + 2))) 13 r1 (7 * i1 + 3))) 13 r0 (7 * i0 + 4) ((g3 (g3 (g3 (g3 g 13 r0 (7 * i0) (g 13 r1 (7 * i1))) 13 r0 (7 * i0 + 1) ((g3 g 13 r0 (7 * i0) (g 13 r1 (7 * i1))) 13 r1 (7 * i1 + 1))) 13 r0 (7 * i0 + 2) ((g3 (g3 g 13 r0 (7 * i0) (g 13 r1 (7 * i1))) 13 r0 (7 * i0 + 1) ((g3 g 13 r0 (7 * i0) (g 13 r1 (7 * i1))) 13 r1 (7 * i1 + 1))) 13 r1 (7 * i1 + 2))) 13 r0 (7 * i0 + 3) ((g3 (g3 (g3 g 13 r0 (7 * i0) (g 13 r1 (7 * i1))) 13 r0 (7 * i0 + 1) ((g3 g 13 r0 (7 * i0) (g 13 r1 (7 * i1))) 13 r1 (7 * i1 + 1))) 13 r0 (7 * i0 + 2) ((g3 (g3 g 13 r0 (7 * i0) (g 13 r1 (7 * i1))) 13 r0 (7 * i0 + 1) ((g3 g 13 r0 (7 * i0) (g 13 r1 (7 * i1))) 13 r1 (7 * i1 + 1))) 13 r1 (7 * i1 + 2))) 13 r1 (7 * i1 + 3))) 13 r1 (7 * i1 + 4))) 13 r1 (7 * i1 + 5))) 13 r0 (7 * i0 + 6) ((g3 (g3 (g3 (g3 (g3 (g3 g 13 r0 (7 * i0) (g 13 r1 (7 * i1))) 13 r0 (7 * i0 + 1) ((g3 g 13 r0 (7 * i0) (g 13 r1 (7 * i1))) 13 r1 (7 * i1 + 1))) 13 r0 (7 * i0 + 2) ((g3 (g3 g 13 r0 (7 * i0) (g 13 r1 (7 * i1))) 13 r0 (7 * i0 + 1) ((g3 g 13 r0 (7 * i0) (g 13 r1 (7 * i1))) 13 r1 (7 * i1 + 1))) 13 r1 (7 * i1 + 2))) 13 r0 (7 * i0 + 3) ((g3 (g3 (g3 g 13 r0 (7 * i0) (g 13 r1 (7 * i1))) 13 r0 (7 * i0 + 1) ((g3 g 13 r0 (7 * i0) (g 13 r1 (7 * i1))) 13 r1 (7 * i1 + 1))) 13 r0 (7 * i0 + 2) ((g3 (g3 g 13 r0 (7 * i0) (g 13 r1 (7 * i1))) 13 r0 (7 * i0 + 1) ((g3 g 13 r0 (7 * i0) (g 13 r1 (7 * i1))) 13 r1 (7 * i1 + 1))) 13 r1 (7 * i1 + 2))) 13 r1 (7 * i1 + 3))) 13 r0 (7 * i0 + 4) ((g3 (g3 (g3 (g3 g 13 r0 (7 * i0) (g 13 r1 (7 * i1))) 13 r0 (7 * i0 + 1) ((g3 g 13 r0 (7 * i0) (g 13 r1 (7 * i1))) 13 r1 (7 * i1 + 1))) 13 r0 (7 * i0 + 2) ((g3 (g3 g 13 r0 (7 * i0) (g 13 r1 (7 * i1))) 13 r0 (7 * i0 + 1) ((g3 g 13 r0 (7 * i0) (g 13 r1 (7 * i1))) 13 r1 (7 * i1 + 1))) 13 r1 (7 * i1 + 2))) 13 r0 (7 * i0 + 3) ((g3 (g3 (g3 g 13 r0 (7 * i0) (g 13 r1 (7 * i1))) 13 r0 (7 * i0 + 1) ((g3 g 13 r0 (7 * i0) (g 13 r1 (7 * i1))) 13 r1 (7 * i1 + 1))) 13 r0 (7 * i0 + 2) ((g3 (g3 g 13 r0 (7 * i0) (g 13 r1 (7 * i1))) 13 r0 (7 * i0 + 1) ((g3 g 13 r0 (7 * i0) (g 13 r1 (7 * i1))) 13 r1 (7 * i1 + 1))) 13 r1 (7 * i1 + 2))) 13 r1 (7 * i1 + 3))) 13 r1 (7 * i1 + 4))) 13 r0 (7 * i0 + 5) ((g3 (g3 (g3 (g3 (g3 g 13 r0 (7 * i0) (g 13 r1 (7 * i1))) 13 r0 (7 * i0 + 1) ((g3 g 13 r0 (7 * i0) (g 13 r1 (7 * i1))) 13 r1 (7 * i1 + 1))) 13 r0 (7 * i0 + 2) ((g3 (g3 g 13 r0 (7 * i0) (g 13 r1 (7 * i1))) 13 r0 (7 * i0 + 1) ((g3 g 13 r0 (7 * i0) (g 13 r1 (7 * i1))) 13 r1 (7 * i1 + 1))) 13 r1 (7 * i1 + 2))) 13 r0 (7 * i0 + 3) ((g3 (g3 (g3 g 13 r0 (7 * i0) (g 13 r1 (7 * i1))) 13 r0 (7 * i0 + 1) ((g3 g 13 r0 (7 * i0) (g 13 r1 (7 * i1))) 13 r1 (7 * i1 + 1))) 13 r0 (7 * i0 + 2) ((g3 (g3 g 13 r0 (7 * i0) (g 13 r1 (7 * i1))) 13 r0 (7 * i0 + 1) ((g3 g 13 r0 (7 * i0) (g 13 r1 (7 * i1))) 13 r1 (7 * i1 + 1))) 13 r1 (7 * i1 + 2))) 13 r1 (7 * i1 + 3))) 13 r0 (7 * i0 + 4) ((g3 (g3 (g3 (g3 g 13 r0 (7 * i0) (g 13 r1 (7 * i1))) 13 r0 (7 * i0 + 1) ((g3 g 13 r0 (7 * i0) (g 13 r1 (7 * i1))) 13 r1 (7 * i1 + 1))) 13 r0 (7 * i0 + 2) ((g3 (g3 g 13 r0 (7 * i0) (g 13 r1 (7 * i1))) 13 r0 (7 * i0 + 1) ((g3 g 13 r0 (7 * i0) (g 13 r1 (7 * i1))) 13 r1 (7 * i1 + 1))) 13 r1 (7 * i1 + 2))) 13 r0 (7 * i0 + 3) ((g3 (g3 (g3 g 13 r0 (7 * i0) (g 13 r1 (7 * i1))) 13 r0 (7 * i0 + 1) ((g3 g 13 r0 (7 * i0) (g 13 r1 (7 * i1))) 13 r1 (7 * i1 + 1))) 13 r0 (7 * i0 + 2) ((g3 (g3 g 13 r0 (7 * i0) (g 13 r1 (7 * i1))) 13 r0 (7 * i0 + 1) ((g3 g 13 r0 (7 * i0) (g 13 r1 (7 * i1))) 13 r1 (7 * i1 + 1))) 13 r1 (7 * i1 + 2))) 13 r1 (7 * i1 + 3))) 13 r1 (7 * i1 + 4))) 13 r1 (7 * i1 + 5))) 13 r1 (7 * i1 + 6)))
set_option maxRecDepth 100000 in
set_option maxHeartbeats 4000000 in
theorem c_X3_become (l : Launch) (D : va_G) (ad : Ky → Nat) (cy : Nat → ClassId) (hI : Inj ad) (N : Nat) (r0 : Nat) (i0 : Nat) (r1 : Nat) (i1 : Nat) (g : GS) (gq : GS) (hr0 : r0 < 28) (hi0 : i0 < 6) (hr1 : r1 < 28) (hi1 : i1 < 6) (h : F_X3_become N r0 i0 r1 i1 g = some gq) : CtV l D ad cy yX3_become cX3_become 2 0 [.ref (ad (3, r0, i0)), .ref (ad (3, r1, i1))] g gq := by
  refine CtV.of 0 hI (by decide +kernel) rfl (Nat.le_of_ble_eq_true rfl) (fun p e s m args below meth c X => ?_)
  unfold F_X3_become at h
  show Vy _ _ _ _ _ _ _ _ _ _ _ _ _ _ _ 0 [some (.ref (ad (3, r0, i0))), some (.ref (ad (3, r1, i1)))] [] g
  refine v_aloadn X dX3_become_0 rfl rfl ?_
  refine v_aloadn X dX3_become_1 rfl rfl ?_
  refine gf_X3_9 X (k_paper (by omega) (by omega)) dX3_become_2 ?_
  refine pf_X3_9 X (k_paper (by omega) (by omega)) dX3_become_5 ?_
  refine v_aloadn X dX3_become_8 rfl rfl ?_
  refine v_aloadn X dX3_become_9 rfl rfl ?_
  refine gf_X3_15 X (k_paper (by omega) (by omega)) dX3_become_10 ?_
  refine pf_X3_15 X (k_paper (by omega) (by omega)) dX3_become_13 ?_
  refine v_aloadn X dX3_become_16 rfl rfl ?_
  refine v_aloadn X dX3_become_17 rfl rfl ?_
  refine gf_X3_18 X (k_paper (by omega) (by omega)) dX3_become_18 ?_
  refine pf_X3_18 X (k_paper (by omega) (by omega)) dX3_become_21 ?_
  refine v_aloadn X dX3_become_24 rfl rfl ?_
  refine v_aloadn X dX3_become_25 rfl rfl ?_
  refine gf_X3_21 X (k_paper (by omega) (by omega)) dX3_become_26 ?_
  refine pf_X3_21 X (k_paper (by omega) (by omega)) dX3_become_29 ?_
  refine v_aloadn X dX3_become_32 rfl rfl ?_
  refine v_aloadn X dX3_become_33 rfl rfl ?_
  refine gf_X3_24 X (k_paper (by omega) (by omega)) dX3_become_34 ?_
  refine pf_X3_24 X (k_paper (by omega) (by omega)) dX3_become_37 ?_
  refine v_aloadn X dX3_become_40 rfl rfl ?_
  refine v_aloadn X dX3_become_41 rfl rfl ?_
  refine gf_X3_27 X (k_paper (by omega) (by omega)) dX3_become_42 ?_
  refine pf_X3_27 X (k_paper (by omega) (by omega)) dX3_become_45 ?_
  refine v_aloadn X dX3_become_48 rfl rfl ?_
  refine v_aloadn X dX3_become_49 rfl rfl ?_
  refine gf_X3_31 X (k_paper (by omega) (by omega)) dX3_become_50 ?_
  refine pf_X3_31 X (k_paper (by omega) (by omega)) dX3_become_53 ?_
  exact v_vret X dX3_become_56 (Option.some.inj h)
def F_X3_kindAbove (N : Nat) (x0 : Int32) (g : GS) : Option (Int32 × GS) := if x0 = 2 then some ((1 : Int32), g) else if x0 = 3 then some ((1 : Int32), g) else if x0 = 5 then some ((4 : Int32), g) else some ((0 : Int32), g)
set_option maxRecDepth 100000 in
set_option maxHeartbeats 4000000 in
theorem c_X3_kindAbove (l : Launch) (D : va_G) (ad : Ky → Nat) (cy : Nat → ClassId) (hI : Inj ad) (N : Nat) (x0 : Int32) (g : GS) (r : Int32) (gq : GS) (h : F_X3_kindAbove N x0 g = some (r, gq)) : CtI l D ad cy yX3_kindAbove cX3_kindAbove 1 (some .int) 0 [.int x0] g r gq := by
  refine CtI.of 0 hI (by decide +kernel) rfl (Nat.le_of_ble_eq_true rfl) (fun p e s m args below meth c X => ?_)
  unfold F_X3_kindAbove at h
  show Vy _ _ _ _ _ _ _ _ _ _ _ _ _ _ _ 0 [some (.int x0)] [] g
  refine v_iloadn X dX3_kindAbove_0 rfl rfl ?_
  by_cases cv1 : x0 = 2
  · replace h := (if_pos cv1).symm.trans h
    refine v_tableIn X 32 dX3_kindAbove_1 (by rw [cv1]; decide) (by rw [cv1]; decide) (by rw [cv1]; rfl) (by decide) ?_
    refine v_iconst (v := 1) X dX3_kindAbove_32 (by decide) ?_
    obtain ⟨er, eg⟩ := Prod.mk.inj (Option.some.inj h)
    exact v_iret X dX3_kindAbove_33 er eg
  replace h := (if_neg cv1).symm.trans h
  by_cases cv2 : x0 = 3
  · replace h := (if_pos cv2).symm.trans h
    refine v_tableIn X 34 dX3_kindAbove_1 (by rw [cv2]; decide) (by rw [cv2]; decide) (by rw [cv2]; rfl) (by decide) ?_
    refine v_iconst (v := 1) X dX3_kindAbove_34 (by decide) ?_
    obtain ⟨er, eg⟩ := Prod.mk.inj (Option.some.inj h)
    exact v_iret X dX3_kindAbove_35 er eg
  replace h := (if_neg cv2).symm.trans h
  by_cases cv3 : x0 = 5
  · replace h := (if_pos cv3).symm.trans h
    refine v_tableIn X 36 dX3_kindAbove_1 (by rw [cv3]; decide) (by rw [cv3]; decide) (by rw [cv3]; rfl) (by decide) ?_
    refine v_iconst (v := 4) X dX3_kindAbove_36 (by decide) ?_
    obtain ⟨er, eg⟩ := Prod.mk.inj (Option.some.inj h)
    exact v_iret X dX3_kindAbove_37 er eg
  replace h := (if_neg cv3).symm.trans h
  by_cases cv4 : x0 = 4
  · refine v_tableIn X 38 dX3_kindAbove_1 (by rw [cv4]; decide) (by rw [cv4]; decide) (by rw [cv4]; rfl) (by decide) ?_
    refine v_iconst (v := 0) X dX3_kindAbove_38 (by decide) ?_
    obtain ⟨er, eg⟩ := Prod.mk.inj (Option.some.inj h)
    exact v_iret X dX3_kindAbove_39 er eg
  have tv5 := tab_ne (k := 2) (n := 2) cv1 (by decide)
  have tv6 := tab_ne (k := 3) (n := 3) cv2 (by decide)
  have tv7 := tab_ne (k := 5) (n := 5) cv3 (by decide)
  have tv8 := tab_ne (k := 4) (n := 4) cv4 (by decide)
  refine v_tableOut X 38 dX3_kindAbove_1 (by omega) (by decide) ?_
  refine v_iconst (v := 0) X dX3_kindAbove_38 (by decide) ?_
  obtain ⟨er, eg⟩ := Prod.mk.inj (Option.some.inj h)
  exact v_iret X dX3_kindAbove_39 er eg
def F_X3_isOf (N : Nat) (r0 : Nat) (i0 : Nat) (x1 : Int32) (g : GS) : Option (Int32 × GS) := if x1 = 0 then some ((1 : Int32), g) else if x1 = (g 13 r0 (7 * i0)) then some ((1 : Int32), g) else bd2 (F_X3_kindAbove N (g 13 r0 (7 * i0)) g) (fun rv5 gv4 => if x1 = rv5 then some ((1 : Int32), gv4) else some ((0 : Int32), gv4))
set_option maxRecDepth 100000 in
set_option maxHeartbeats 4000000 in
theorem c_X3_isOf (l : Launch) (D : va_G) (ad : Ky → Nat) (cy : Nat → ClassId) (hI : Inj ad) (N : Nat) (r0 : Nat) (i0 : Nat) (x1 : Int32) (g : GS) (r : Int32) (gq : GS) (hr0 : r0 < 28) (hi0 : i0 < 6) (h : F_X3_isOf N r0 i0 x1 g = some (r, gq)) : CtI l D ad cy yX3_isOf cX3_isOf 2 (some .boolean) 1 [.ref (ad (3, r0, i0)), .int x1] g r gq := by
  refine CtI.of 0 hI (by decide +kernel) rfl (Nat.le_of_ble_eq_true rfl) (fun p e s m args below meth c X => ?_)
  unfold F_X3_isOf at h
  show Vy _ _ _ _ _ _ _ _ _ _ _ _ _ _ _ 0 [some (.ref (ad (3, r0, i0))), some (.int x1)] [] g
  refine v_iloadn X dX3_isOf_0 rfl rfl ?_
  refine v_if_eq X 23 dX3_isOf_1 (by decide) (fun cv1 => ?_) (fun cv1 => ?_)
  · replace h := (if_pos cv1).symm.trans h
    refine v_iconst (v := 1) X dX3_isOf_23 (by decide) ?_
    refine v_goto X 28 dX3_isOf_24 (by decide) ?_
    obtain ⟨er, eg⟩ := Prod.mk.inj (Option.some.inj h)
    exact v_zret X dX3_isOf_28 rfl er eg
  · replace h := (if_neg cv1).symm.trans h
    refine v_iloadn X dX3_isOf_4 rfl rfl ?_
    refine v_aloadn X dX3_isOf_5 rfl rfl ?_
    refine gf_X3_9 X (k_paper (by omega) (by omega)) dX3_isOf_6 ?_
    refine v_icmp_eq X 23 dX3_isOf_9 (by decide) (fun cv2 => ?_) (fun cv2 => ?_)
    · replace h := (if_pos cv2).symm.trans h
      refine v_iconst (v := 1) X dX3_isOf_23 (by decide) ?_
      refine v_goto X 28 dX3_isOf_24 (by decide) ?_
      obtain ⟨er, eg⟩ := Prod.mk.inj (Option.some.inj h)
      exact v_zret X dX3_isOf_28 rfl er eg
    · replace h := (if_neg cv2).symm.trans h
      refine v_iloadn X dX3_isOf_12 rfl rfl ?_
      refine v_aloadn X dX3_isOf_13 rfl rfl ?_
      refine gf_X3_9 X (k_paper (by omega) (by omega)) dX3_isOf_14 ?_
      obtain ⟨rv5, gv4, qv3, h⟩ := bd2_some h
      refine v_callSI (As := [.int (g 13 r0 (7 * i0))]) (rest := [.int x1]) X (c_X3_kindAbove l D ad cy X.2.2.2.2.2.2.2.2.1 N (g 13 r0 (7 * i0)) g rv5 gv4  qv3) mw_X3_kindAbove ml_X3_34 (by decide) rfl rfl (Nat.le_of_ble_eq_true rfl) dX3_isOf_17 ?_
      refine v_icmp_ne X 27 dX3_isOf_20 (by decide) (fun cv6 => ?_) (fun cv6 => ?_)
      · replace h := (if_neg cv6).symm.trans h
        refine v_iconst (v := 0) X dX3_isOf_27 (by decide) ?_
        obtain ⟨er, eg⟩ := Prod.mk.inj (Option.some.inj h)
        exact v_zret X dX3_isOf_28 rfl er eg
      · replace h := (if_pos cv6).symm.trans h
        refine v_iconst (v := 1) X dX3_isOf_23 (by decide) ?_
        refine v_goto X 28 dX3_isOf_24 (by decide) ?_
        obtain ⟨er, eg⟩ := Prod.mk.inj (Option.some.inj h)
        exact v_zret X dX3_isOf_28 rfl er eg
def F_X3_markBody (N : Nat) (r0 : Nat) (i0 : Nat) (g : GS) : Option (Int32 × GS) := if (g 13 r0 (7 * i0)) = 1 then some ((21 : Int32), g) else if (g 13 r0 (7 * i0)) = 2 then some ((24 : Int32), g) else if (g 13 r0 (7 * i0)) = 3 then some ((22 : Int32), g) else bd2 (F_X3_isOf N r0 i0 (4 : Int32) g) (fun rv6 gv5 => if rv6 = 0 then some ((20 : Int32), gv5) else some ((23 : Int32), gv5))
set_option maxRecDepth 100000 in
set_option maxHeartbeats 4000000 in
theorem c_X3_markBody (l : Launch) (D : va_G) (ad : Ky → Nat) (cy : Nat → ClassId) (hI : Inj ad) (N : Nat) (r0 : Nat) (i0 : Nat) (g : GS) (r : Int32) (gq : GS) (hr0 : r0 < 28) (hi0 : i0 < 6) (h : F_X3_markBody N r0 i0 g = some (r, gq)) : CtI l D ad cy yX3_markBody cX3_markBody 1 (some .int) 2 [.ref (ad (3, r0, i0))] g r gq := by
  refine CtI.of 0 hI (by decide +kernel) rfl (Nat.le_of_ble_eq_true rfl) (fun p e s m args below meth c X => ?_)
  unfold F_X3_markBody at h
  show Vy _ _ _ _ _ _ _ _ _ _ _ _ _ _ _ 0 [some (.ref (ad (3, r0, i0)))] [] g
  refine v_aloadn X dX3_markBody_0 rfl rfl ?_
  refine gf_X3_9 X (k_paper (by omega) (by omega)) dX3_markBody_1 ?_
  by_cases cv1 : (g 13 r0 (7 * i0)) = 1
  · replace h := (if_pos cv1).symm.trans h
    refine v_tableIn X 38 dX3_markBody_4 (by rw [cv1]; decide) (by rw [cv1]; decide) (by rw [cv1]; rfl) (by decide) ?_
    refine v_bipush (v := 21) X dX3_markBody_38 (by decide) ?_
    obtain ⟨er, eg⟩ := Prod.mk.inj (Option.some.inj h)
    exact v_iret X dX3_markBody_40 er eg
  replace h := (if_neg cv1).symm.trans h
  by_cases cv2 : (g 13 r0 (7 * i0)) = 2
  · replace h := (if_pos cv2).symm.trans h
    refine v_tableIn X 32 dX3_markBody_4 (by rw [cv2]; decide) (by rw [cv2]; decide) (by rw [cv2]; rfl) (by decide) ?_
    refine v_bipush (v := 24) X dX3_markBody_32 (by decide) ?_
    obtain ⟨er, eg⟩ := Prod.mk.inj (Option.some.inj h)
    exact v_iret X dX3_markBody_34 er eg
  replace h := (if_neg cv2).symm.trans h
  by_cases cv3 : (g 13 r0 (7 * i0)) = 3
  · replace h := (if_pos cv3).symm.trans h
    refine v_tableIn X 35 dX3_markBody_4 (by rw [cv3]; decide) (by rw [cv3]; decide) (by rw [cv3]; rfl) (by decide) ?_
    refine v_bipush (v := 22) X dX3_markBody_35 (by decide) ?_
    obtain ⟨er, eg⟩ := Prod.mk.inj (Option.some.inj h)
    exact v_iret X dX3_markBody_37 er eg
  replace h := (if_neg cv3).symm.trans h
  have tv8 := tab_ne (k := 1) (n := 1) cv1 (by decide)
  have tv9 := tab_ne (k := 2) (n := 2) cv2 (by decide)
  have tv10 := tab_ne (k := 3) (n := 3) cv3 (by decide)
  refine v_tableOut X 41 dX3_markBody_4 (by omega) (by decide) ?_
  refine v_aloadn X dX3_markBody_41 rfl rfl ?_
  refine v_iconst (v := 4) X dX3_markBody_42 (by decide) ?_
  obtain ⟨rv6, gv5, qv4, h⟩ := bd2_some h
  refine v_callVI (As := [.int (4 : Int32)]) (rest := []) X (c_X3_isOf l D ad cy X.2.2.2.2.2.2.2.2.1 N r0 i0 (4 : Int32) g rv6 gv5 (by omega) (by omega) qv4) mw_X3_isOf ml_X3_38 (by decide) (k_paper (by omega) (by omega)) (by decide) rfl rfl rfl rfl (Nat.le_of_ble_eq_true rfl) dX3_markBody_43 ?_
  refine v_if_eq X 54 dX3_markBody_46 (by decide) (fun cv7 => ?_) (fun cv7 => ?_)
  · replace h := (if_pos cv7).symm.trans h
    refine v_bipush (v := 20) X dX3_markBody_54 (by decide) ?_
    obtain ⟨er, eg⟩ := Prod.mk.inj (Option.some.inj h)
    exact v_iret X dX3_markBody_56 er eg
  · replace h := (if_neg cv7).symm.trans h
    refine v_bipush (v := 23) X dX3_markBody_49 (by decide) ?_
    refine v_goto X 56 dX3_markBody_51 (by decide) ?_
    obtain ⟨er, eg⟩ := Prod.mk.inj (Option.some.inj h)
    exact v_iret X dX3_markBody_56 er eg
def F_X3_sizeBody (N : Nat) (r0 : Nat) (i0 : Nat) (g : GS) : Option (Int32 × GS) := if (g 13 r0 (7 * i0)) = 2 then some ((12 : Int32), g) else if (g 13 r0 (7 * i0)) = 4 then some ((13 : Int32), g) else if (g 13 r0 (7 * i0)) = 5 then some ((14 : Int32), g) else bd2 (F_X3_isOf N r0 i0 (1 : Int32) g) (fun rv6 gv5 => if rv6 = 0 then some ((10 : Int32), gv5) else some ((11 : Int32), gv5))
set_option maxRecDepth 100000 in
set_option maxHeartbeats 4000000 in
theorem c_X3_sizeBody (l : Launch) (D : va_G) (ad : Ky → Nat) (cy : Nat → ClassId) (hI : Inj ad) (N : Nat) (r0 : Nat) (i0 : Nat) (g : GS) (r : Int32) (gq : GS) (hr0 : r0 < 28) (hi0 : i0 < 6) (h : F_X3_sizeBody N r0 i0 g = some (r, gq)) : CtI l D ad cy yX3_sizeBody cX3_sizeBody 1 (some .int) 2 [.ref (ad (3, r0, i0))] g r gq := by
  refine CtI.of 0 hI (by decide +kernel) rfl (Nat.le_of_ble_eq_true rfl) (fun p e s m args below meth c X => ?_)
  unfold F_X3_sizeBody at h
  show Vy _ _ _ _ _ _ _ _ _ _ _ _ _ _ _ 0 [some (.ref (ad (3, r0, i0)))] [] g
  refine v_aloadn X dX3_sizeBody_0 rfl rfl ?_
  refine gf_X3_9 X (k_paper (by omega) (by omega)) dX3_sizeBody_1 ?_
  by_cases cv1 : (g 13 r0 (7 * i0)) = 2
  · replace h := (if_pos cv1).symm.trans h
    refine v_tableIn X 36 dX3_sizeBody_4 (by rw [cv1]; decide) (by rw [cv1]; decide) (by rw [cv1]; rfl) (by decide) ?_
    refine v_bipush (v := 12) X dX3_sizeBody_36 (by decide) ?_
    obtain ⟨er, eg⟩ := Prod.mk.inj (Option.some.inj h)
    exact v_iret X dX3_sizeBody_38 er eg
  replace h := (if_neg cv1).symm.trans h
  by_cases cv2 : (g 13 r0 (7 * i0)) = 4
  · replace h := (if_pos cv2).symm.trans h
    refine v_tableIn X 39 dX3_sizeBody_4 (by rw [cv2]; decide) (by rw [cv2]; decide) (by rw [cv2]; rfl) (by decide) ?_
    refine v_bipush (v := 13) X dX3_sizeBody_39 (by decide) ?_
    obtain ⟨er, eg⟩ := Prod.mk.inj (Option.some.inj h)
    exact v_iret X dX3_sizeBody_41 er eg
  replace h := (if_neg cv2).symm.trans h
  by_cases cv3 : (g 13 r0 (7 * i0)) = 5
  · replace h := (if_pos cv3).symm.trans h
    refine v_tableIn X 42 dX3_sizeBody_4 (by rw [cv3]; decide) (by rw [cv3]; decide) (by rw [cv3]; rfl) (by decide) ?_
    refine v_bipush (v := 14) X dX3_sizeBody_42 (by decide) ?_
    obtain ⟨er, eg⟩ := Prod.mk.inj (Option.some.inj h)
    exact v_iret X dX3_sizeBody_44 er eg
  replace h := (if_neg cv3).symm.trans h
  by_cases cv8 : (g 13 r0 (7 * i0)) = 3
  · refine v_tableIn X 45 dX3_sizeBody_4 (by rw [cv8]; decide) (by rw [cv8]; decide) (by rw [cv8]; rfl) (by decide) ?_
    refine v_aloadn X dX3_sizeBody_45 rfl rfl ?_
    refine v_iconst (v := 1) X dX3_sizeBody_46 (by decide) ?_
    obtain ⟨rv6, gv5, qv4, h⟩ := bd2_some h
    refine v_callVI (As := [.int (1 : Int32)]) (rest := []) X (c_X3_isOf l D ad cy X.2.2.2.2.2.2.2.2.1 N r0 i0 (1 : Int32) g rv6 gv5 (by omega) (by omega) qv4) mw_X3_isOf ml_X3_38 (by decide) (k_paper (by omega) (by omega)) (by decide) rfl rfl rfl rfl (Nat.le_of_ble_eq_true rfl) dX3_sizeBody_47 ?_
    refine v_if_eq X 58 dX3_sizeBody_50 (by decide) (fun cv7 => ?_) (fun cv7 => ?_)
    · replace h := (if_pos cv7).symm.trans h
      refine v_bipush (v := 10) X dX3_sizeBody_58 (by decide) ?_
      obtain ⟨er, eg⟩ := Prod.mk.inj (Option.some.inj h)
      exact v_iret X dX3_sizeBody_60 er eg
    · replace h := (if_neg cv7).symm.trans h
      refine v_bipush (v := 11) X dX3_sizeBody_53 (by decide) ?_
      refine v_goto X 60 dX3_sizeBody_55 (by decide) ?_
      obtain ⟨er, eg⟩ := Prod.mk.inj (Option.some.inj h)
      exact v_iret X dX3_sizeBody_60 er eg
  have tv9 := tab_ne (k := 2) (n := 2) cv1 (by decide)
  have tv10 := tab_ne (k := 4) (n := 4) cv2 (by decide)
  have tv11 := tab_ne (k := 5) (n := 5) cv3 (by decide)
  have tv12 := tab_ne (k := 3) (n := 3) cv8 (by decide)
  refine v_tableOut X 45 dX3_sizeBody_4 (by omega) (by decide) ?_
  refine v_aloadn X dX3_sizeBody_45 rfl rfl ?_
  refine v_iconst (v := 1) X dX3_sizeBody_46 (by decide) ?_
  obtain ⟨rv6, gv5, qv4, h⟩ := bd2_some h
  refine v_callVI (As := [.int (1 : Int32)]) (rest := []) X (c_X3_isOf l D ad cy X.2.2.2.2.2.2.2.2.1 N r0 i0 (1 : Int32) g rv6 gv5 (by omega) (by omega) qv4) mw_X3_isOf ml_X3_38 (by decide) (k_paper (by omega) (by omega)) (by decide) rfl rfl rfl rfl (Nat.le_of_ble_eq_true rfl) dX3_sizeBody_47 ?_
  refine v_if_eq X 58 dX3_sizeBody_50 (by decide) (fun cv7 => ?_) (fun cv7 => ?_)
  · replace h := (if_pos cv7).symm.trans h
    refine v_bipush (v := 10) X dX3_sizeBody_58 (by decide) ?_
    obtain ⟨er, eg⟩ := Prod.mk.inj (Option.some.inj h)
    exact v_iret X dX3_sizeBody_60 er eg
  · replace h := (if_neg cv7).symm.trans h
    refine v_bipush (v := 11) X dX3_sizeBody_53 (by decide) ?_
    refine v_goto X 60 dX3_sizeBody_55 (by decide) ?_
    obtain ⟨er, eg⟩ := Prod.mk.inj (Option.some.inj h)
    exact v_iret X dX3_sizeBody_60 er eg
def F_X3_isUp (N : Nat) (r0 : Nat) (i0 : Nat) (g : GS) : Option (Int32 × GS) := if (g 13 r0 (7 * i0 + 3)) = (1 : Int32) then some ((1 : Int32), g) else some ((0 : Int32), g)
set_option maxRecDepth 100000 in
set_option maxHeartbeats 4000000 in
theorem c_X3_isUp (l : Launch) (D : va_G) (ad : Ky → Nat) (cy : Nat → ClassId) (hI : Inj ad) (N : Nat) (r0 : Nat) (i0 : Nat) (g : GS) (r : Int32) (gq : GS) (hr0 : r0 < 28) (hi0 : i0 < 6) (h : F_X3_isUp N r0 i0 g = some (r, gq)) : CtI l D ad cy yX3_isUp cX3_isUp 1 (some .boolean) 0 [.ref (ad (3, r0, i0))] g r gq := by
  refine CtI.of 0 hI (by decide +kernel) rfl (Nat.le_of_ble_eq_true rfl) (fun p e s m args below meth c X => ?_)
  unfold F_X3_isUp at h
  show Vy _ _ _ _ _ _ _ _ _ _ _ _ _ _ _ 0 [some (.ref (ad (3, r0, i0)))] [] g
  refine v_aloadn X dX3_isUp_0 rfl rfl ?_
  refine gf_X3_21 X (k_paper (by omega) (by omega)) dX3_isUp_1 ?_
  refine v_iconst (v := 1) X dX3_isUp_4 (by decide) ?_
  refine v_icmp_ne X 12 dX3_isUp_5 (by decide) (fun cv1 => ?_) (fun cv1 => ?_)
  · replace h := (if_neg cv1).symm.trans h
    refine v_iconst (v := 0) X dX3_isUp_12 (by decide) ?_
    obtain ⟨er, eg⟩ := Prod.mk.inj (Option.some.inj h)
    exact v_zret X dX3_isUp_13 rfl er eg
  · replace h := (if_pos cv1).symm.trans h
    refine v_iconst (v := 1) X dX3_isUp_8 (by decide) ?_
    refine v_goto X 13 dX3_isUp_9 (by decide) ?_
    obtain ⟨er, eg⟩ := Prod.mk.inj (Option.some.inj h)
    exact v_zret X dX3_isUp_13 rfl er eg
def F_X3_letOutBy (N : Nat) (r0 : Nat) (i0 : Nat) (x1 : Int32) (g : GS) : Option GS := some (g3 (g3 g 13 r0 (7 * i0 + 5) (if (1 : Int32) < (if ((g 13 r0 (7 * i0 + 5)) + x1) < (40 : Int32) then ((g 13 r0 (7 * i0 + 5)) + x1) else (40 : Int32)) then (if ((g 13 r0 (7 * i0 + 5)) + x1) < (40 : Int32) then ((g 13 r0 (7 * i0 + 5)) + x1) else (40 : Int32)) else (1 : Int32))) 13 r0 (7 * i0 + 4) (if (if (1 : Int32) < (if ((g 13 r0 (7 * i0 + 5)) + x1) < (40 : Int32) then ((g 13 r0 (7 * i0 + 5)) + x1) else (40 : Int32)) then (if ((g 13 r0 (7 * i0 + 5)) + x1) < (40 : Int32) then ((g 13 r0 (7 * i0 + 5)) + x1) else (40 : Int32)) else (1 : Int32)) < (g 13 r0 (7 * i0 + 4)) then (if (1 : Int32) < (if ((g 13 r0 (7 * i0 + 5)) + x1) < (40 : Int32) then ((g 13 r0 (7 * i0 + 5)) + x1) else (40 : Int32)) then (if ((g 13 r0 (7 * i0 + 5)) + x1) < (40 : Int32) then ((g 13 r0 (7 * i0 + 5)) + x1) else (40 : Int32)) else (1 : Int32)) else (g 13 r0 (7 * i0 + 4))))
set_option maxRecDepth 100000 in
set_option maxHeartbeats 4000000 in
theorem c_X3_letOutBy (l : Launch) (D : va_G) (ad : Ky → Nat) (cy : Nat → ClassId) (hI : Inj ad) (N : Nat) (r0 : Nat) (i0 : Nat) (x1 : Int32) (g : GS) (gq : GS) (hr0 : r0 < 28) (hi0 : i0 < 6) (h : F_X3_letOutBy N r0 i0 x1 g = some gq) : CtV l D ad cy yX3_letOutBy cX3_letOutBy 2 1 [.ref (ad (3, r0, i0)), .int x1] g gq := by
  refine CtV.of 0 hI (by decide +kernel) rfl (Nat.le_of_ble_eq_true rfl) (fun p e s m args below meth c X => ?_)
  unfold F_X3_letOutBy at h
  show Vy _ _ _ _ _ _ _ _ _ _ _ _ _ _ _ 0 [some (.ref (ad (3, r0, i0))), some (.int x1)] [] g
  refine v_aloadn X dX3_letOutBy_0 rfl rfl ?_
  refine v_iconst (v := 1) X dX3_letOutBy_1 (by decide) ?_
  refine v_bipush (v := 40) X dX3_letOutBy_2 (by decide) ?_
  refine v_aloadn X dX3_letOutBy_4 rfl rfl ?_
  refine gf_X3_27 X (k_paper (by omega) (by omega)) dX3_letOutBy_5 ?_
  refine v_iloadn X dX3_letOutBy_8 rfl rfl ?_
  refine v_iadd X dX3_letOutBy_9 ?_
  refine v_mmin X ml_X3_42 mw_J9_min_7cf53.2.1 mw_J9_min_7cf53.2.2.1 mw_J9_min_7cf53.1 (Nat.le_of_ble_eq_true rfl) dX3_letOutBy_10 ?_
  refine v_mmax X ml_X3_48 mw_J9_max_7cf53.2.1 mw_J9_max_7cf53.2.2.1 mw_J9_max_7cf53.1 (Nat.le_of_ble_eq_true rfl) dX3_letOutBy_13 ?_
  refine pf_X3_27 X (k_paper (by omega) (by omega)) dX3_letOutBy_16 ?_
  refine v_aloadn X dX3_letOutBy_19 rfl rfl ?_
  refine v_aloadn X dX3_letOutBy_20 rfl rfl ?_
  refine gf_X3_24 X (k_paper (by omega) (by omega)) dX3_letOutBy_21 ?_
  refine v_vali (v2 := (g 13 r0 (7 * i0 + 4))) (by simp [g3, va_up]) ?_
  refine v_aloadn X dX3_letOutBy_24 rfl rfl ?_
  refine gf_X3_27 X (k_paper (by omega) (by omega)) dX3_letOutBy_25 ?_
  refine v_vali (v2 := (if (1 : Int32) < (if ((g 13 r0 (7 * i0 + 5)) + x1) < (40 : Int32) then ((g 13 r0 (7 * i0 + 5)) + x1) else (40 : Int32)) then (if ((g 13 r0 (7 * i0 + 5)) + x1) < (40 : Int32) then ((g 13 r0 (7 * i0 + 5)) + x1) else (40 : Int32)) else (1 : Int32))) (by simp [g3, va_up]) ?_
  refine v_mmin X ml_X3_42 mw_J9_min_7cf53.2.1 mw_J9_min_7cf53.2.2.1 mw_J9_min_7cf53.1 (Nat.le_of_ble_eq_true rfl) dX3_letOutBy_28 ?_
  refine pf_X3_24 X (k_paper (by omega) (by omega)) dX3_letOutBy_31 ?_
  exact v_vret X dX3_letOutBy_34 (Option.some.inj h)
def F_X3_liftIn (N : Nat) (r0 : Nat) (i0 : Nat) (x1 : Int32) (x2 : Int32) (g : GS) : Option (Int32 × GS) := if (g 13 r0 (7 * i0)) = 2 then if (g 13 r0 (7 * i0 + 4)) < (20 : Int32) then some ((((g 13 r0 (7 * i0 + 1)) * x1) / (2 : Int32)), g) else some (((g 13 r0 (7 * i0 + 1)) * x1), g) else if (g 13 r0 (7 * i0)) = 3 then if x2 = 0 then some (((g 13 r0 (7 * i0 + 1)) * x1), g) else some (((2 : Int32) * ((g 13 r0 (7 * i0 + 1)) * x1)), g) else if (g 13 r0 (7 * i0)) = 4 then some (((4 : Int32) * x1), g) else if (g 13 r0 (7 * i0)) = 5 then if (g 13 r0 (7 * i0 + 4)) < (30 : Int32) then some (((4 : Int32) * x1), g) else some ((if (30 : Int32) < ((4 : Int32) * x1) then ((4 : Int32) * x1) else (30 : Int32)), g) else some (((g 13 r0 (7 * i0 + 1)) * x1), g)
set_option maxRecDepth 100000 in
set_option maxHeartbeats 4000000 in
theorem c_X3_liftIn (l : Launch) (D : va_G) (ad : Ky → Nat) (cy : Nat → ClassId) (hI : Inj ad) (N : Nat) (r0 : Nat) (i0 : Nat) (x1 : Int32) (x2 : Int32) (g : GS) (r : Int32) (gq : GS) (hr0 : r0 < 28) (hi0 : i0 < 6) (h : F_X3_liftIn N r0 i0 x1 x2 g = some (r, gq)) : CtI l D ad cy yX3_liftIn cX3_liftIn 5 (some .int) 1 [.ref (ad (3, r0, i0)), .int x1, .int x2] g r gq := by
  refine CtI.of 2 hI (by decide +kernel) rfl (Nat.le_of_ble_eq_true rfl) (fun p e s m args below meth c X => ?_)
  unfold F_X3_liftIn at h
  show Vy _ _ _ _ _ _ _ _ _ _ _ _ _ _ _ 0 [some (.ref (ad (3, r0, i0))), some (.int x1), some (.int x2), none, none] [] g
  refine v_aloadn X dX3_liftIn_0 rfl rfl ?_
  refine gf_X3_15 X (k_paper (by omega) (by omega)) dX3_liftIn_1 ?_
  refine v_iloadn X dX3_liftIn_4 rfl rfl ?_
  refine v_imul X dX3_liftIn_5 ?_
  refine v_istoren (lc' := [some (.ref (ad (3, r0, i0))), some (.int x1), some (.int x2), some (.int ((g 13 r0 (7 * i0 + 1)) * x1)), none]) X dX3_liftIn_6 rfl (by decide) rfl rfl ?_
  refine v_iconst (v := 4) X dX3_liftIn_7 (by decide) ?_
  refine v_iloadn X dX3_liftIn_8 rfl rfl ?_
  refine v_imul X dX3_liftIn_9 ?_
  refine v_istore (lc' := [some (.ref (ad (3, r0, i0))), some (.int x1), some (.int x2), some (.int ((g 13 r0 (7 * i0 + 1)) * x1)), some (.int ((4 : Int32) * x1))]) X dX3_liftIn_10 (by decide) rfl rfl ?_
  refine v_aloadn X dX3_liftIn_12 rfl rfl ?_
  refine gf_X3_9 X (k_paper (by omega) (by omega)) dX3_liftIn_13 ?_
  by_cases cv1 : (g 13 r0 (7 * i0)) = 2
  · replace h := (if_pos cv1).symm.trans h
    refine v_tableIn X 48 dX3_liftIn_16 (by rw [cv1]; decide) (by rw [cv1]; decide) (by rw [cv1]; rfl) (by decide) ?_
    refine v_aloadn X dX3_liftIn_48 rfl rfl ?_
    refine gf_X3_24 X (k_paper (by omega) (by omega)) dX3_liftIn_49 ?_
    refine v_bipush (v := 20) X dX3_liftIn_52 (by decide) ?_
    refine v_icmp_lt X 61 dX3_liftIn_54 (by decide) (fun cv2 => ?_) (fun cv2 => ?_)
    · replace h := (if_pos cv2).symm.trans h
      refine v_iloadn X dX3_liftIn_61 rfl rfl ?_
      refine v_iconst (v := 2) X dX3_liftIn_62 (by decide) ?_
      refine v_idiv X dX3_liftIn_63 (by decide) ?_
      obtain ⟨er, eg⟩ := Prod.mk.inj (Option.some.inj h)
      exact v_iret X dX3_liftIn_64 er eg
    · replace h := (if_neg cv2).symm.trans h
      refine v_iloadn X dX3_liftIn_57 rfl rfl ?_
      refine v_goto X 64 dX3_liftIn_58 (by decide) ?_
      obtain ⟨er, eg⟩ := Prod.mk.inj (Option.some.inj h)
      exact v_iret X dX3_liftIn_64 er eg
  replace h := (if_neg cv1).symm.trans h
  by_cases cv3 : (g 13 r0 (7 * i0)) = 3
  · replace h := (if_pos cv3).symm.trans h
    refine v_tableIn X 65 dX3_liftIn_16 (by rw [cv3]; decide) (by rw [cv3]; decide) (by rw [cv3]; rfl) (by decide) ?_
    refine v_iloadn X dX3_liftIn_65 rfl rfl ?_
    refine v_if_eq X 75 dX3_liftIn_66 (by decide) (fun cv4 => ?_) (fun cv4 => ?_)
    · replace h := (if_pos cv4).symm.trans h
      refine v_iloadn X dX3_liftIn_75 rfl rfl ?_
      obtain ⟨er, eg⟩ := Prod.mk.inj (Option.some.inj h)
      exact v_iret X dX3_liftIn_76 er eg
    · replace h := (if_neg cv4).symm.trans h
      refine v_iconst (v := 2) X dX3_liftIn_69 (by decide) ?_
      refine v_iloadn X dX3_liftIn_70 rfl rfl ?_
      refine v_imul X dX3_liftIn_71 ?_
      refine v_goto X 76 dX3_liftIn_72 (by decide) ?_
      obtain ⟨er, eg⟩ := Prod.mk.inj (Option.some.inj h)
      exact v_iret X dX3_liftIn_76 er eg
  replace h := (if_neg cv3).symm.trans h
  by_cases cv5 : (g 13 r0 (7 * i0)) = 4
  · replace h := (if_pos cv5).symm.trans h
    refine v_tableIn X 77 dX3_liftIn_16 (by rw [cv5]; decide) (by rw [cv5]; decide) (by rw [cv5]; rfl) (by decide) ?_
    refine v_iload X dX3_liftIn_77 rfl ?_
    obtain ⟨er, eg⟩ := Prod.mk.inj (Option.some.inj h)
    exact v_iret X dX3_liftIn_79 er eg
  replace h := (if_neg cv5).symm.trans h
  by_cases cv6 : (g 13 r0 (7 * i0)) = 5
  · replace h := (if_pos cv6).symm.trans h
    refine v_tableIn X 80 dX3_liftIn_16 (by rw [cv6]; decide) (by rw [cv6]; decide) (by rw [cv6]; rfl) (by decide) ?_
    refine v_aloadn X dX3_liftIn_80 rfl rfl ?_
    refine gf_X3_24 X (k_paper (by omega) (by omega)) dX3_liftIn_81 ?_
    refine v_bipush (v := 30) X dX3_liftIn_84 (by decide) ?_
    refine v_icmp_lt X 99 dX3_liftIn_86 (by decide) (fun cv7 => ?_) (fun cv7 => ?_)
    · replace h := (if_pos cv7).symm.trans h
      refine v_iload X dX3_liftIn_99 rfl ?_
      obtain ⟨er, eg⟩ := Prod.mk.inj (Option.some.inj h)
      exact v_iret X dX3_liftIn_101 er eg
    · replace h := (if_neg cv7).symm.trans h
      refine v_bipush (v := 30) X dX3_liftIn_89 (by decide) ?_
      refine v_iload X dX3_liftIn_91 rfl ?_
      refine v_mmax X ml_X3_48 mw_J9_max_7cf53.2.1 mw_J9_max_7cf53.2.2.1 mw_J9_max_7cf53.1 (Nat.le_of_ble_eq_true rfl) dX3_liftIn_93 ?_
      refine v_goto X 101 dX3_liftIn_96 (by decide) ?_
      obtain ⟨er, eg⟩ := Prod.mk.inj (Option.some.inj h)
      exact v_iret X dX3_liftIn_101 er eg
  replace h := (if_neg cv6).symm.trans h
  have tv8 := tab_ne (k := 2) (n := 2) cv1 (by decide)
  have tv9 := tab_ne (k := 3) (n := 3) cv3 (by decide)
  have tv10 := tab_ne (k := 4) (n := 4) cv5 (by decide)
  have tv11 := tab_ne (k := 5) (n := 5) cv6 (by decide)
  refine v_tableOut X 102 dX3_liftIn_16 (by omega) (by decide) ?_
  refine v_iloadn X dX3_liftIn_102 rfl rfl ?_
  obtain ⟨er, eg⟩ := Prod.mk.inj (Option.some.inj h)
  exact v_iret X dX3_liftIn_103 er eg
def F_X3_settle (N : Nat) (r0 : Nat) (i0 : Nat) (x1 : Int32) (x2 : Int32) (g : GS) : Option GS := some (g3 (g3 (g3 (g3 g 13 r0 (7 * i0 + 3) x1) 13 r0 (7 * i0 + 4) (0 : Int32)) 13 r0 (7 * i0 + 5) (0 : Int32)) 13 r0 (7 * i0 + 6) x2)
set_option maxRecDepth 100000 in
set_option maxHeartbeats 4000000 in
theorem c_X3_settle (l : Launch) (D : va_G) (ad : Ky → Nat) (cy : Nat → ClassId) (hI : Inj ad) (N : Nat) (r0 : Nat) (i0 : Nat) (x1 : Int32) (x2 : Int32) (g : GS) (gq : GS) (hr0 : r0 < 28) (hi0 : i0 < 6) (h : F_X3_settle N r0 i0 x1 x2 g = some gq) : CtV l D ad cy yX3_settle cX3_settle 3 0 [.ref (ad (3, r0, i0)), .int x1, .int x2] g gq := by
  refine CtV.of 0 hI (by decide +kernel) rfl (Nat.le_of_ble_eq_true rfl) (fun p e s m args below meth c X => ?_)
  unfold F_X3_settle at h
  show Vy _ _ _ _ _ _ _ _ _ _ _ _ _ _ _ 0 [some (.ref (ad (3, r0, i0))), some (.int x1), some (.int x2)] [] g
  refine v_aloadn X dX3_settle_0 rfl rfl ?_
  refine v_iloadn X dX3_settle_1 rfl rfl ?_
  refine pf_X3_21 X (k_paper (by omega) (by omega)) dX3_settle_2 ?_
  refine v_aloadn X dX3_settle_5 rfl rfl ?_
  refine v_iconst (v := 0) X dX3_settle_6 (by decide) ?_
  refine pf_X3_24 X (k_paper (by omega) (by omega)) dX3_settle_7 ?_
  refine v_aloadn X dX3_settle_10 rfl rfl ?_
  refine v_iconst (v := 0) X dX3_settle_11 (by decide) ?_
  refine pf_X3_27 X (k_paper (by omega) (by omega)) dX3_settle_12 ?_
  refine v_aloadn X dX3_settle_15 rfl rfl ?_
  refine v_iloadn X dX3_settle_16 rfl rfl ?_
  refine pf_X3_31 X (k_paper (by omega) (by omega)) dX3_settle_17 ?_
  exact v_vret X dX3_settle_20 (Option.some.inj h)
def F_X3_snapsBy (N : Nat) (r0 : Nat) (i0 : Nat) (x1 : Int32) (x2 : Int32) (g : GS) : Option (Int32 × GS) := if x1 ≤ 0 then some ((0 : Int32), g) else if ((g 13 r0 (7 * i0 + 4)) + x1) ≤ ((g 13 r0 (7 * i0 + 5)) + x2) then some ((0 : Int32), g) else some ((1 : Int32), g)
set_option maxRecDepth 100000 in
set_option maxHeartbeats 4000000 in
theorem c_X3_snapsBy (l : Launch) (D : va_G) (ad : Ky → Nat) (cy : Nat → ClassId) (hI : Inj ad) (N : Nat) (r0 : Nat) (i0 : Nat) (x1 : Int32) (x2 : Int32) (g : GS) (r : Int32) (gq : GS) (hr0 : r0 < 28) (hi0 : i0 < 6) (h : F_X3_snapsBy N r0 i0 x1 x2 g = some (r, gq)) : CtI l D ad cy yX3_snapsBy cX3_snapsBy 3 (some .boolean) 0 [.ref (ad (3, r0, i0)), .int x1, .int x2] g r gq := by
  refine CtI.of 0 hI (by decide +kernel) rfl (Nat.le_of_ble_eq_true rfl) (fun p e s m args below meth c X => ?_)
  unfold F_X3_snapsBy at h
  show Vy _ _ _ _ _ _ _ _ _ _ _ _ _ _ _ 0 [some (.ref (ad (3, r0, i0))), some (.int x1), some (.int x2)] [] g
  refine v_iloadn X dX3_snapsBy_0 rfl rfl ?_
  refine v_if_le X 23 dX3_snapsBy_1 (by decide) (fun cv1 => ?_) (fun cv1 => ?_)
  · replace h := (if_pos cv1).symm.trans h
    refine v_iconst (v := 0) X dX3_snapsBy_23 (by decide) ?_
    obtain ⟨er, eg⟩ := Prod.mk.inj (Option.some.inj h)
    exact v_zret X dX3_snapsBy_24 rfl er eg
  · replace h := (if_neg cv1).symm.trans h
    refine v_aloadn X dX3_snapsBy_4 rfl rfl ?_
    refine gf_X3_24 X (k_paper (by omega) (by omega)) dX3_snapsBy_5 ?_
    refine v_iloadn X dX3_snapsBy_8 rfl rfl ?_
    refine v_iadd X dX3_snapsBy_9 ?_
    refine v_aloadn X dX3_snapsBy_10 rfl rfl ?_
    refine gf_X3_27 X (k_paper (by omega) (by omega)) dX3_snapsBy_11 ?_
    refine v_iloadn X dX3_snapsBy_14 rfl rfl ?_
    refine v_iadd X dX3_snapsBy_15 ?_
    refine v_icmp_le X 23 dX3_snapsBy_16 (by decide) (fun cv2 => ?_) (fun cv2 => ?_)
    · replace h := (if_pos cv2).symm.trans h
      refine v_iconst (v := 0) X dX3_snapsBy_23 (by decide) ?_
      obtain ⟨er, eg⟩ := Prod.mk.inj (Option.some.inj h)
      exact v_zret X dX3_snapsBy_24 rfl er eg
    · replace h := (if_neg cv2).symm.trans h
      refine v_iconst (v := 1) X dX3_snapsBy_19 (by decide) ?_
      refine v_goto X 24 dX3_snapsBy_20 (by decide) ?_
      obtain ⟨er, eg⟩ := Prod.mk.inj (Option.some.inj h)
      exact v_zret X dX3_snapsBy_24 rfl er eg
def F_X3_moveBy (N : Nat) (r0 : Nat) (i0 : Nat) (x1 : Int32) (x2 : Int32) (x3 : Int32) (g : GS) : Option GS := bd2 (F_X3_snapsBy N r0 i0 x1 x2 g) (fun rv3 gv2 => if rv3 = 0 then if 0 ≤ x1 then some (g3 gv2 13 r0 (7 * i0 + 4) (if (gv2 13 r0 (7 * i0 + 5)) < ((gv2 13 r0 (7 * i0 + 4)) + x1) then (gv2 13 r0 (7 * i0 + 5)) else ((gv2 13 r0 (7 * i0 + 4)) + x1))) else if 0 < (if (gv2 13 r0 (7 * i0 + 5)) < ((gv2 13 r0 (7 * i0 + 4)) + x1) then (gv2 13 r0 (7 * i0 + 5)) else ((gv2 13 r0 (7 * i0 + 4)) + x1)) then some (g3 gv2 13 r0 (7 * i0 + 4) (if (gv2 13 r0 (7 * i0 + 5)) < ((gv2 13 r0 (7 * i0 + 4)) + x1) then (gv2 13 r0 (7 * i0 + 5)) else ((gv2 13 r0 (7 * i0 + 4)) + x1))) else bd1 (F_X3_settle N r0 i0 (0 : Int32) (-1000000 : Int32) (g3 gv2 13 r0 (7 * i0 + 4) (if (gv2 13 r0 (7 * i0 + 5)) < ((gv2 13 r0 (7 * i0 + 4)) + x1) then (gv2 13 r0 (7 * i0 + 5)) else ((gv2 13 r0 (7 * i0 + 4)) + x1)))) (fun gv8 => some gv8) else bd1 (F_X3_settle N r0 i0 (2 : Int32) ((x3 + (gv2 13 r0 (7 * i0 + 5))) - (x3 + (gv2 13 r0 (7 * i0 + 5))) / (16 : Int32) * (16 : Int32)) gv2) (fun gv10 => some gv10))
set_option maxRecDepth 100000 in
set_option maxHeartbeats 4000000 in
theorem c_X3_moveBy (l : Launch) (D : va_G) (ad : Ky → Nat) (cy : Nat → ClassId) (hI : Inj ad) (N : Nat) (r0 : Nat) (i0 : Nat) (x1 : Int32) (x2 : Int32) (x3 : Int32) (g : GS) (gq : GS) (hr0 : r0 < 28) (hi0 : i0 < 6) (h : F_X3_moveBy N r0 i0 x1 x2 x3 g = some gq) : CtV l D ad cy yX3_moveBy cX3_moveBy 4 1 [.ref (ad (3, r0, i0)), .int x1, .int x2, .int x3] g gq := by
  refine CtV.of 0 hI (by decide +kernel) rfl (Nat.le_of_ble_eq_true rfl) (fun p e s m args below meth c X => ?_)
  unfold F_X3_moveBy at h
  show Vy _ _ _ _ _ _ _ _ _ _ _ _ _ _ _ 0 [some (.ref (ad (3, r0, i0))), some (.int x1), some (.int x2), some (.int x3)] [] g
  refine v_aloadn X dX3_moveBy_0 rfl rfl ?_
  refine v_iloadn X dX3_moveBy_1 rfl rfl ?_
  refine v_iloadn X dX3_moveBy_2 rfl rfl ?_
  obtain ⟨rv3, gv2, qv1, h⟩ := bd2_some h
  refine v_callVI (As := [.int x1, .int x2]) (rest := []) X (c_X3_snapsBy l D ad cy X.2.2.2.2.2.2.2.2.1 N r0 i0 x1 x2 g rv3 gv2 (by omega) (by omega) qv1) mw_X3_snapsBy ml_X3_51 (by decide) (k_paper (by omega) (by omega)) (by decide) rfl rfl rfl rfl (Nat.le_of_ble_eq_true rfl) dX3_moveBy_3 ?_
  refine v_if_eq X 24 dX3_moveBy_6 (by decide) (fun cv4 => ?_) (fun cv4 => ?_)
  · replace h := (if_pos cv4).symm.trans h
    refine v_aloadn X dX3_moveBy_24 rfl rfl ?_
    refine v_aloadn X dX3_moveBy_25 rfl rfl ?_
    refine gf_X3_24 X (k_paper (by omega) (by omega)) dX3_moveBy_26 ?_
    refine v_iloadn X dX3_moveBy_29 rfl rfl ?_
    refine v_iadd X dX3_moveBy_30 ?_
    refine v_aloadn X dX3_moveBy_31 rfl rfl ?_
    refine gf_X3_27 X (k_paper (by omega) (by omega)) dX3_moveBy_32 ?_
    refine v_mmin X ml_X3_42 mw_J9_min_7cf53.2.1 mw_J9_min_7cf53.2.2.1 mw_J9_min_7cf53.1 (Nat.le_of_ble_eq_true rfl) dX3_moveBy_35 ?_
    refine pf_X3_24 X (k_paper (by omega) (by omega)) dX3_moveBy_38 ?_
    refine v_iloadn X dX3_moveBy_41 rfl rfl ?_
    refine v_if_ge X 59 dX3_moveBy_42 (by decide) (fun cv5 => ?_) (fun cv5 => ?_)
    · replace h := (if_pos cv5).symm.trans h
      exact v_vret X dX3_moveBy_59 (Option.some.inj h)
    · replace h := (if_neg cv5).symm.trans h
      refine v_aloadn X dX3_moveBy_45 rfl rfl ?_
      refine gf_X3_24 X (k_paper (by omega) (by omega)) dX3_moveBy_46 ?_
      refine v_vali (v2 := (if (gv2 13 r0 (7 * i0 + 5)) < ((gv2 13 r0 (7 * i0 + 4)) + x1) then (gv2 13 r0 (7 * i0 + 5)) else ((gv2 13 r0 (7 * i0 + 4)) + x1))) (by simp [g3, va_up]) ?_
      refine v_if_gt X 59 dX3_moveBy_49 (by decide) (fun cv6 => ?_) (fun cv6 => ?_)
      · replace h := (if_pos cv6).symm.trans h
        exact v_vret X dX3_moveBy_59 (Option.some.inj h)
      · replace h := (if_neg cv6).symm.trans h
        refine v_aloadn X dX3_moveBy_52 rfl rfl ?_
        refine v_iconst (v := 0) X dX3_moveBy_53 (by decide) ?_
        refine v_ldc X kc_X3_30 dX3_moveBy_54 ?_
        obtain ⟨gv8, qv7, h⟩ := bd1_some h
        refine v_callVV (As := [.int (0 : Int32), .int (-1000000 : Int32)]) (rest := []) X (c_X3_settle l D ad cy X.2.2.2.2.2.2.2.2.1 N r0 i0 (0 : Int32) (-1000000 : Int32) (g3 gv2 13 r0 (7 * i0 + 4) (if (gv2 13 r0 (7 * i0 + 5)) < ((gv2 13 r0 (7 * i0 + 4)) + x1) then (gv2 13 r0 (7 * i0 + 5)) else ((gv2 13 r0 (7 * i0 + 4)) + x1))) gv8 (by omega) (by omega) qv7) mw_X3_settle ml_X3_55 (by decide) (k_paper (by omega) (by omega)) (by decide) rfl rfl rfl rfl (Nat.le_of_ble_eq_true rfl) dX3_moveBy_56 ?_
        exact v_vret X dX3_moveBy_59 (Option.some.inj h)
  · replace h := (if_neg cv4).symm.trans h
    refine v_aloadn X dX3_moveBy_9 rfl rfl ?_
    refine v_iconst (v := 2) X dX3_moveBy_10 (by decide) ?_
    refine v_iloadn X dX3_moveBy_11 rfl rfl ?_
    refine v_aloadn X dX3_moveBy_12 rfl rfl ?_
    refine gf_X3_27 X (k_paper (by omega) (by omega)) dX3_moveBy_13 ?_
    refine v_iadd X dX3_moveBy_16 ?_
    refine v_bipush (v := 16) X dX3_moveBy_17 (by decide) ?_
    refine v_irem X dX3_moveBy_19 (by decide) ?_
    obtain ⟨gv10, qv9, h⟩ := bd1_some h
    refine v_callVV (As := [.int (2 : Int32), .int ((x3 + (gv2 13 r0 (7 * i0 + 5))) - (x3 + (gv2 13 r0 (7 * i0 + 5))) / (16 : Int32) * (16 : Int32))]) (rest := []) X (c_X3_settle l D ad cy X.2.2.2.2.2.2.2.2.1 N r0 i0 (2 : Int32) ((x3 + (gv2 13 r0 (7 * i0 + 5))) - (x3 + (gv2 13 r0 (7 * i0 + 5))) / (16 : Int32) * (16 : Int32)) gv2 gv10 (by omega) (by omega) qv9) mw_X3_settle ml_X3_55 (by decide) (k_paper (by omega) (by omega)) (by decide) rfl rfl rfl rfl (Nat.le_of_ble_eq_true rfl) dX3_moveBy_20 ?_
    exact v_vret X dX3_moveBy_23 (Option.some.inj h)
def F_X3_rise (N : Nat) (r0 : Nat) (i0 : Nat) (x1 : Int32) (g : GS) : Option GS := some (g3 (g3 (g3 (g3 g 13 r0 (7 * i0 + 3) (1 : Int32)) 13 r0 (7 * i0 + 4) (0 : Int32)) 13 r0 (7 * i0 + 5) x1) 13 r0 (7 * i0 + 6) (-1000000 : Int32))
set_option maxRecDepth 100000 in
set_option maxHeartbeats 4000000 in
theorem c_X3_rise (l : Launch) (D : va_G) (ad : Ky → Nat) (cy : Nat → ClassId) (hI : Inj ad) (N : Nat) (r0 : Nat) (i0 : Nat) (x1 : Int32) (g : GS) (gq : GS) (hr0 : r0 < 28) (hi0 : i0 < 6) (h : F_X3_rise N r0 i0 x1 g = some gq) : CtV l D ad cy yX3_rise cX3_rise 2 0 [.ref (ad (3, r0, i0)), .int x1] g gq := by
  refine CtV.of 0 hI (by decide +kernel) rfl (Nat.le_of_ble_eq_true rfl) (fun p e s m args below meth c X => ?_)
  unfold F_X3_rise at h
  show Vy _ _ _ _ _ _ _ _ _ _ _ _ _ _ _ 0 [some (.ref (ad (3, r0, i0))), some (.int x1)] [] g
  refine v_aloadn X dX3_rise_0 rfl rfl ?_
  refine v_iconst (v := 1) X dX3_rise_1 (by decide) ?_
  refine pf_X3_21 X (k_paper (by omega) (by omega)) dX3_rise_2 ?_
  refine v_aloadn X dX3_rise_5 rfl rfl ?_
  refine v_iconst (v := 0) X dX3_rise_6 (by decide) ?_
  refine pf_X3_24 X (k_paper (by omega) (by omega)) dX3_rise_7 ?_
  refine v_aloadn X dX3_rise_10 rfl rfl ?_
  refine v_iloadn X dX3_rise_11 rfl rfl ?_
  refine pf_X3_27 X (k_paper (by omega) (by omega)) dX3_rise_12 ?_
  refine v_aloadn X dX3_rise_15 rfl rfl ?_
  refine v_ldc X kc_X3_30 dX3_rise_16 ?_
  refine pf_X3_31 X (k_paper (by omega) (by omega)) dX3_rise_18 ?_
  exact v_vret X dX3_rise_21 (Option.some.inj h)
def F_X5_hasPlaces (N : Nat) (j0 : Nat) (x1 : Int32) (x2 : Int32) (g : GS) : Option (Int32 × GS) := if x1 < 0 then some ((0 : Int32), g) else if x2 < 0 then some ((0 : Int32), g) else if ((g 1 j0 1) - x2) < x1 then some ((0 : Int32), g) else some ((1 : Int32), g)
set_option maxRecDepth 100000 in
set_option maxHeartbeats 4000000 in
theorem c_X5_hasPlaces (l : Launch) (D : va_G) (ad : Ky → Nat) (cy : Nat → ClassId) (hI : Inj ad) (N : Nat) (j0 : Nat) (x1 : Int32) (x2 : Int32) (g : GS) (r : Int32) (gq : GS) (hj0 : j0 < 8) (h : F_X5_hasPlaces N j0 x1 x2 g = some (r, gq)) : CtI l D ad cy yX5_hasPlaces cX5_hasPlaces 3 (some .boolean) 0 [.ref (ad (5, j0, 0)), .int x1, .int x2] g r gq := by
  refine CtI.of 0 hI (by decide +kernel) rfl (Nat.le_of_ble_eq_true rfl) (fun p e s m args below meth c X => ?_)
  unfold F_X5_hasPlaces at h
  show Vy _ _ _ _ _ _ _ _ _ _ _ _ _ _ _ 0 [some (.ref (ad (5, j0, 0))), some (.int x1), some (.int x2)] [] g
  refine v_iloadn X dX5_hasPlaces_0 rfl rfl ?_
  refine v_if_lt X 22 dX5_hasPlaces_1 (by decide) (fun cv1 => ?_) (fun cv1 => ?_)
  · replace h := (if_pos cv1).symm.trans h
    refine v_iconst (v := 0) X dX5_hasPlaces_22 (by decide) ?_
    obtain ⟨er, eg⟩ := Prod.mk.inj (Option.some.inj h)
    exact v_zret X dX5_hasPlaces_23 rfl er eg
  · replace h := (if_neg cv1).symm.trans h
    refine v_iloadn X dX5_hasPlaces_4 rfl rfl ?_
    refine v_if_lt X 22 dX5_hasPlaces_5 (by decide) (fun cv2 => ?_) (fun cv2 => ?_)
    · replace h := (if_pos cv2).symm.trans h
      refine v_iconst (v := 0) X dX5_hasPlaces_22 (by decide) ?_
      obtain ⟨er, eg⟩ := Prod.mk.inj (Option.some.inj h)
      exact v_zret X dX5_hasPlaces_23 rfl er eg
    · replace h := (if_neg cv2).symm.trans h
      refine v_iloadn X dX5_hasPlaces_8 rfl rfl ?_
      refine v_aloadn X dX5_hasPlaces_9 rfl rfl ?_
      refine gf_X5_15 X (k_row (by omega)) dX5_hasPlaces_10 ?_
      refine v_iloadn X dX5_hasPlaces_13 rfl rfl ?_
      refine v_isub X dX5_hasPlaces_14 ?_
      refine v_icmp_gt X 22 dX5_hasPlaces_15 (by decide) (fun cv3 => ?_) (fun cv3 => ?_)
      · replace h := (if_pos cv3).symm.trans h
        refine v_iconst (v := 0) X dX5_hasPlaces_22 (by decide) ?_
        obtain ⟨er, eg⟩ := Prod.mk.inj (Option.some.inj h)
        exact v_zret X dX5_hasPlaces_23 rfl er eg
      · replace h := (if_neg cv3).symm.trans h
        refine v_iconst (v := 1) X dX5_hasPlaces_18 (by decide) ?_
        refine v_goto X 23 dX5_hasPlaces_19 (by decide) ?_
        obtain ⟨er, eg⟩ := Prod.mk.inj (Option.some.inj h)
        exact v_zret X dX5_hasPlaces_23 rfl er eg
def L_X5_begin_12 (N : Nat) (w0_0 : Nat) (z1 : Int32) (z2 : Int32) : Nat → Int32 → GS → Option (Int32 × GS)
  | 0, _, _ => none
  | n + 1, y3, g => if (40 : Int32) ≤ y3 then some (y3, g) else bd1 (ix y3 40) (fun jv2 => L_X5_begin_12 N w0_0 z1 z2 n (y3 + 1) (g3 g 2 w0_0 jv2 (0 : Int32)))
def F_X5_begin (N : Nat) (j0 : Nat) (x1 : Int32) (x2 : Int32) (g : GS) : Option GS := bd2 (L_X5_begin_12 N j0 x1 x2 N (0 : Int32) (g3 (g3 g 1 j0 0 x1) 1 j0 1 x2)) (fun xv4 gv5 => some gv5)
set_option maxRecDepth 100000 in
set_option maxHeartbeats 4000000 in
theorem w_X5_begin_12 {p : Program} {l : Launch} {e : Env} {s : State} {m : MethodId} {args : Array Value} {below : List Frame} {meth : Method} {c : Code} {D : va_G} {ad : Ky → Nat} {cy : Nat → ClassId} {gq : GS} {N : Nat} (X : Cx p (rmd 0) s m args meth c RX5 cX5_begin 4 none D ad cy) (w0_0 : Nat) (z1 : Int32) (z2 : Int32) (hh0 : w0_0 < 8) : ∀ (n : Nat) (y3 : Int32) (g : GS) (y3' : Int32) (g' : GS), L_X5_begin_12 N w0_0 z1 z2 n y3 g = some (y3', g') → Vy p l e (rmd 0) s m args below meth c 4 D ad cy (QV D ad cy below args s gq) 31 [some (.ref (ad (5, w0_0, 0))), some (.int z1), some (.int z2), some (.int y3')] [] g' → Vy p l e (rmd 0) s m args below meth c 4 D ad cy (QV D ad cy below args s gq) 12 [some (.ref (ad (5, w0_0, 0))), some (.int z1), some (.int z2), some (.int y3)] [] g := by
  intro n
  induction n with
  | zero => intro y3 g y3' g' h k; cases h
  | succ n ih =>
    intro y3 g y3' g' h k
    rw [L_X5_begin_12] at h
    refine v_iloadn X dX5_begin_12 rfl rfl ?_
    refine v_bipush (v := 40) X dX5_begin_13 (by decide) ?_
    refine v_icmp_ge X 31 dX5_begin_15 (by decide) (fun cv1 => ?_) (fun cv1 => ?_)
    · replace h := (if_pos cv1).symm.trans h
      cases h
      exact k
    · replace h := (if_neg cv1).symm.trans h
      refine v_aloadn X dX5_begin_18 rfl rfl ?_
      refine gf_X5_18 X (k_row (by omega)) dX5_begin_19 ?_
      refine v_iloadn X dX5_begin_22 rfl rfl ?_
      refine v_iconst (v := 0) X dX5_begin_23 (by decide) ?_
      obtain ⟨jv2, qv3, h⟩ := bd1_some h
      obtain ⟨ejv2, ljv2⟩ := ix_spec qv3
      refine asI X (k_items (by omega)) jv2 ejv2 ljv2 dX5_begin_24 ?_
      refine v_iinc (v := (y3 + 1)) (lc' := [some (.ref (ad (5, w0_0, 0))), some (.int z1), some (.int z2), some (.int (y3 + 1))]) X dX5_begin_25 rfl rfl (by decide) rfl rfl ?_
      refine v_goto X 12 dX5_begin_28 (by decide) ?_
      exact ih (y3 + 1) (g3 g 2 w0_0 jv2 (0 : Int32)) _ _ h k
set_option maxRecDepth 100000 in
set_option maxHeartbeats 4000000 in
theorem c_X5_begin (l : Launch) (D : va_G) (ad : Ky → Nat) (cy : Nat → ClassId) (hI : Inj ad) (N : Nat) (j0 : Nat) (x1 : Int32) (x2 : Int32) (g : GS) (gq : GS) (hj0 : j0 < 8) (h : F_X5_begin N j0 x1 x2 g = some gq) : CtV l D ad cy yX5_begin cX5_begin 4 0 [.ref (ad (5, j0, 0)), .int x1, .int x2] g gq := by
  refine CtV.of 1 hI (by decide +kernel) rfl (Nat.le_of_ble_eq_true rfl) (fun p e s m args below meth c X => ?_)
  unfold F_X5_begin at h
  show Vy _ _ _ _ _ _ _ _ _ _ _ _ _ _ _ 0 [some (.ref (ad (5, j0, 0))), some (.int x1), some (.int x2), none] [] g
  refine v_aloadn X dX5_begin_0 rfl rfl ?_
  refine v_iloadn X dX5_begin_1 rfl rfl ?_
  refine pf_X5_11 X (k_row (by omega)) dX5_begin_2 ?_
  refine v_aloadn X dX5_begin_5 rfl rfl ?_
  refine v_iloadn X dX5_begin_6 rfl rfl ?_
  refine pf_X5_15 X (k_row (by omega)) dX5_begin_7 ?_
  refine v_iconst (v := 0) X dX5_begin_10 (by decide) ?_
  refine v_istoren (lc' := [some (.ref (ad (5, j0, 0))), some (.int x1), some (.int x2), some (.int (0 : Int32))]) X dX5_begin_11 rfl (by decide) rfl rfl ?_
  obtain ⟨xv4, gv5, qv6, h⟩ := bd2_some h
  refine w_X5_begin_12 X j0 x1 x2 (by omega) N (0 : Int32) (g3 (g3 g 1 j0 0 x1) 1 j0 1 x2) xv4 gv5 qv6 ?_
  exact v_vret X dX5_begin_31 (Option.some.inj h)
def F_X5_cut (N : Nat) (j0 : Nat) (x1 : Int32) (g : GS) : Option (Int32 × GS) := if (g 1 j0 0) = 0 then some ((x1.toInt8.toInt32), g) else if (g 1 j0 0) = (1 : Int32) then some ((x1.toInt16.toInt32), g) else some (x1, g)
set_option maxRecDepth 100000 in
set_option maxHeartbeats 4000000 in
theorem c_X5_cut (l : Launch) (D : va_G) (ad : Ky → Nat) (cy : Nat → ClassId) (hI : Inj ad) (N : Nat) (j0 : Nat) (x1 : Int32) (g : GS) (r : Int32) (gq : GS) (hj0 : j0 < 8) (h : F_X5_cut N j0 x1 g = some (r, gq)) : CtI l D ad cy yX5_cut cX5_cut 2 (some .int) 0 [.ref (ad (5, j0, 0)), .int x1] g r gq := by
  refine CtI.of 0 hI (by decide +kernel) rfl (Nat.le_of_ble_eq_true rfl) (fun p e s m args below meth c X => ?_)
  unfold F_X5_cut at h
  show Vy _ _ _ _ _ _ _ _ _ _ _ _ _ _ _ 0 [some (.ref (ad (5, j0, 0))), some (.int x1)] [] g
  refine v_aloadn X dX5_cut_0 rfl rfl ?_
  refine gf_X5_11 X (k_row (by omega)) dX5_cut_1 ?_
  refine v_if_ne X 10 dX5_cut_4 (by decide) (fun cv1 => ?_) (fun cv1 => ?_)
  · replace h := (if_neg cv1).symm.trans h
    refine v_aloadn X dX5_cut_10 rfl rfl ?_
    refine gf_X5_11 X (k_row (by omega)) dX5_cut_11 ?_
    refine v_iconst (v := 1) X dX5_cut_14 (by decide) ?_
    refine v_icmp_ne X 23 dX5_cut_15 (by decide) (fun cv2 => ?_) (fun cv2 => ?_)
    · replace h := (if_neg cv2).symm.trans h
      refine v_iloadn X dX5_cut_23 rfl rfl ?_
      obtain ⟨er, eg⟩ := Prod.mk.inj (Option.some.inj h)
      exact v_iret X dX5_cut_24 er eg
    · replace h := (if_pos cv2).symm.trans h
      refine v_iloadn X dX5_cut_18 rfl rfl ?_
      refine v_i2s X dX5_cut_19 ?_
      refine v_goto X 24 dX5_cut_20 (by decide) ?_
      obtain ⟨er, eg⟩ := Prod.mk.inj (Option.some.inj h)
      exact v_iret X dX5_cut_24 er eg
  · replace h := (if_pos cv1).symm.trans h
    refine v_iloadn X dX5_cut_7 rfl rfl ?_
    refine v_i2b X dX5_cut_8 ?_
    obtain ⟨er, eg⟩ := Prod.mk.inj (Option.some.inj h)
    exact v_iret X dX5_cut_9 er eg
def F_X5_end (N : Nat) (j0 : Nat) (g : GS) : Option GS := some (g3 (g3 g 1 j0 0 (-1 : Int32)) 1 j0 1 (0 : Int32))
set_option maxRecDepth 100000 in
set_option maxHeartbeats 4000000 in
theorem c_X5_end (l : Launch) (D : va_G) (ad : Ky → Nat) (cy : Nat → ClassId) (hI : Inj ad) (N : Nat) (j0 : Nat) (g : GS) (gq : GS) (hj0 : j0 < 8) (h : F_X5_end N j0 g = some gq) : CtV l D ad cy yX5_end cX5_end 1 0 [.ref (ad (5, j0, 0))] g gq := by
  refine CtV.of 0 hI (by decide +kernel) rfl (Nat.le_of_ble_eq_true rfl) (fun p e s m args below meth c X => ?_)
  unfold F_X5_end at h
  show Vy _ _ _ _ _ _ _ _ _ _ _ _ _ _ _ 0 [some (.ref (ad (5, j0, 0)))] [] g
  refine v_aloadn X dX5_end_0 rfl rfl ?_
  refine v_iconst (v := -1) X dX5_end_1 (by decide) ?_
  refine pf_X5_11 X (k_row (by omega)) dX5_end_2 ?_
  refine v_aloadn X dX5_end_5 rfl rfl ?_
  refine v_iconst (v := 0) X dX5_end_6 (by decide) ?_
  refine pf_X5_15 X (k_row (by omega)) dX5_end_7 ?_
  exact v_vret X dX5_end_10 (Option.some.inj h)
def F_X5_isMissing (N : Nat) (j0 : Nat) (g : GS) : Option (Int32 × GS) := if (g 1 j0 0) = (-1 : Int32) then some ((1 : Int32), g) else some ((0 : Int32), g)
set_option maxRecDepth 100000 in
set_option maxHeartbeats 4000000 in
theorem c_X5_isMissing (l : Launch) (D : va_G) (ad : Ky → Nat) (cy : Nat → ClassId) (hI : Inj ad) (N : Nat) (j0 : Nat) (g : GS) (r : Int32) (gq : GS) (hj0 : j0 < 8) (h : F_X5_isMissing N j0 g = some (r, gq)) : CtI l D ad cy yX5_isMissing cX5_isMissing 1 (some .boolean) 0 [.ref (ad (5, j0, 0))] g r gq := by
  refine CtI.of 0 hI (by decide +kernel) rfl (Nat.le_of_ble_eq_true rfl) (fun p e s m args below meth c X => ?_)
  unfold F_X5_isMissing at h
  show Vy _ _ _ _ _ _ _ _ _ _ _ _ _ _ _ 0 [some (.ref (ad (5, j0, 0)))] [] g
  refine v_aloadn X dX5_isMissing_0 rfl rfl ?_
  refine gf_X5_11 X (k_row (by omega)) dX5_isMissing_1 ?_
  refine v_iconst (v := -1) X dX5_isMissing_4 (by decide) ?_
  refine v_icmp_ne X 12 dX5_isMissing_5 (by decide) (fun cv1 => ?_) (fun cv1 => ?_)
  · replace h := (if_neg cv1).symm.trans h
    refine v_iconst (v := 0) X dX5_isMissing_12 (by decide) ?_
    obtain ⟨er, eg⟩ := Prod.mk.inj (Option.some.inj h)
    exact v_zret X dX5_isMissing_13 rfl er eg
  · replace h := (if_pos cv1).symm.trans h
    refine v_iconst (v := 1) X dX5_isMissing_8 (by decide) ?_
    refine v_goto X 13 dX5_isMissing_9 (by decide) ?_
    obtain ⟨er, eg⟩ := Prod.mk.inj (Option.some.inj h)
    exact v_zret X dX5_isMissing_13 rfl er eg
def F_X5_put (N : Nat) (j0 : Nat) (x1 : Int32) (x2 : Int32) (g : GS) : Option (Int32 × GS) := bd2 (F_X5_cut N j0 x2 g) (fun rv3 gv2 => bd1 (ix x1 40) (fun jv4 => some (rv3, (g3 gv2 2 j0 jv4 rv3))))
set_option maxRecDepth 100000 in
set_option maxHeartbeats 4000000 in
theorem c_X5_put (l : Launch) (D : va_G) (ad : Ky → Nat) (cy : Nat → ClassId) (hI : Inj ad) (N : Nat) (j0 : Nat) (x1 : Int32) (x2 : Int32) (g : GS) (r : Int32) (gq : GS) (hj0 : j0 < 8) (h : F_X5_put N j0 x1 x2 g = some (r, gq)) : CtI l D ad cy yX5_put cX5_put 3 (some .int) 1 [.ref (ad (5, j0, 0)), .int x1, .int x2] g r gq := by
  refine CtI.of 0 hI (by decide +kernel) rfl (Nat.le_of_ble_eq_true rfl) (fun p e s m args below meth c X => ?_)
  unfold F_X5_put at h
  show Vy _ _ _ _ _ _ _ _ _ _ _ _ _ _ _ 0 [some (.ref (ad (5, j0, 0))), some (.int x1), some (.int x2)] [] g
  refine v_aloadn X dX5_put_0 rfl rfl ?_
  refine gf_X5_18 X (k_row (by omega)) dX5_put_1 ?_
  refine v_iloadn X dX5_put_4 rfl rfl ?_
  refine v_aloadn X dX5_put_5 rfl rfl ?_
  refine v_iloadn X dX5_put_6 rfl rfl ?_
  obtain ⟨rv3, gv2, qv1, h⟩ := bd2_some h
  refine v_callVI (As := [.int x2]) (rest := [.int x1, .ref (ad (9, 2, j0))]) X (c_X5_cut l D ad cy X.2.2.2.2.2.2.2.2.1 N j0 x2 g rv3 gv2 (by omega) qv1) mw_X5_cut ml_X5_22 (by decide) (k_row (by omega)) (by decide) rfl rfl rfl rfl (Nat.le_of_ble_eq_true rfl) dX5_put_7 ?_
  obtain ⟨jv4, qv5, h⟩ := bd1_some h
  obtain ⟨ejv4, ljv4⟩ := ix_spec qv5
  refine asI X (k_items (by omega)) jv4 ejv4 ljv4 dX5_put_10 ?_
  refine v_aloadn X dX5_put_11 rfl rfl ?_
  refine gf_X5_18 X (k_row (by omega)) dX5_put_12 ?_
  refine v_iloadn X dX5_put_15 rfl rfl ?_
  refine alI X (k_items (by omega)) jv4 ejv4 ljv4 dX5_put_16 ?_
  refine v_vali (v2 := rv3) (by simp [g3, va_up]) ?_
  obtain ⟨er, eg⟩ := Prod.mk.inj (Option.some.inj h)
  exact v_iret X dX5_put_17 er eg
