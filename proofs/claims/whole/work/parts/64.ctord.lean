set_option maxRecDepth 100000 in
theorem kin8 : ∀ k ∈ w8, k ∈ keys := by decide +kernel
set_option maxRecDepth 100000 in
set_option maxHeartbeats 4000000 in
theorem c_X8_init (l : Launch) (D : va_G) (B : Nat) (cy : Nat → ClassId) : CtN l D B cy yX8_init cX8_init 1 1 13 279 (8, 0, 0) (.inr (8, [.int 0, .int 0, .null, .null, .null, .null, .null, .null, .null, .null, .int 0, .null, .int 0, .int 0, .int 0, .int 0, .int 0, .int 0, .int 0, .int 0, .null, .null, .null, .null, .int 0])) w8 := by
  refine CtN.of (own := RX8) 0 (by decide +kernel) rfl rfl (by decide) (fun p e s m args below meth c X hin => ?_)
  show Vn _ _ _ _ _ _ _ _ _ _ _ _ _ _ _ _ _ _ [some (.ref (adB B (8, 0, 0)))] [] _
  refine n_aloadn X dX8_init_0 rfl rfl ?_
  refine n_oinit X oi_X8 (Nat.le_of_ble_eq_true rfl) (Nat.le_of_ble_eq_true rfl) dX8_init_1 ?_
  refine n_aloadn X dX8_init_4 rfl rfl ?_
  refine n_bipush (v := 8) X dX8_init_5 (by decide) ?_
  refine n_newa (N' := 8) X (9, 11, 2) rfl (by decide) (by decide) (by decide) (Nat.le_of_ble_eq_true rfl) (Nat.le_of_ble_eq_true rfl) dX8_init_7 ?_
  refine n_dup X dX8_init_9 rfl ?_
  refine n_iconst (v := 0) X dX8_init_10 (by decide) ?_
  refine n_iconst (v := (-1)) X dX8_init_11 (by decide) ?_
  refine n_iast X 0 (by decide +kernel) (Nat.le_of_ble_eq_true rfl) mu_self (by decide +kernel) (by decide) (by decide) dX8_init_12 ?_
  refine n_dup X dX8_init_13 rfl ?_
  refine n_iconst (v := 1) X dX8_init_14 (by decide) ?_
  refine n_iconst (v := (-1)) X dX8_init_15 (by decide) ?_
  refine n_iast X 1 (by decide +kernel) (Nat.le_of_ble_eq_true rfl) mu_self (by decide +kernel) (by decide) (by decide) dX8_init_16 ?_
  refine n_dup X dX8_init_17 rfl ?_
  refine n_iconst (v := 2) X dX8_init_18 (by decide) ?_
  refine n_iconst (v := (-1)) X dX8_init_19 (by decide) ?_
  refine n_iast X 2 (by decide +kernel) (Nat.le_of_ble_eq_true rfl) mu_self (by decide +kernel) (by decide) (by decide) dX8_init_20 ?_
  refine n_dup X dX8_init_21 rfl ?_
  refine n_iconst (v := 3) X dX8_init_22 (by decide) ?_
  refine n_iconst (v := (-1)) X dX8_init_23 (by decide) ?_
  refine n_iast X 3 (by decide +kernel) (Nat.le_of_ble_eq_true rfl) mu_self (by decide +kernel) (by decide) (by decide) dX8_init_24 ?_
  refine n_dup X dX8_init_25 rfl ?_
  refine n_iconst (v := 4) X dX8_init_26 (by decide) ?_
  refine n_iconst (v := (-1)) X dX8_init_27 (by decide) ?_
  refine n_iast X 4 (by decide +kernel) (Nat.le_of_ble_eq_true rfl) mu_self (by decide +kernel) (by decide) (by decide) dX8_init_28 ?_
  refine n_dup X dX8_init_29 rfl ?_
  refine n_iconst (v := 5) X dX8_init_30 (by decide) ?_
  refine n_iconst (v := (-1)) X dX8_init_31 (by decide) ?_
  refine n_iast X 5 (by decide +kernel) (Nat.le_of_ble_eq_true rfl) mu_self (by decide +kernel) (by decide) (by decide) dX8_init_32 ?_
  refine n_dup X dX8_init_33 rfl ?_
  refine n_bipush (v := 6) X dX8_init_34 (by decide) ?_
  refine n_iconst (v := (-1)) X dX8_init_36 (by decide) ?_
  refine n_iast X 6 (by decide +kernel) (Nat.le_of_ble_eq_true rfl) mu_self (by decide +kernel) (by decide) (by decide) dX8_init_37 ?_
  refine n_dup X dX8_init_38 rfl ?_
  refine n_bipush (v := 7) X dX8_init_39 (by decide) ?_
  refine n_iconst (v := (-1)) X dX8_init_41 (by decide) ?_
  refine n_iast X 7 (by decide +kernel) (Nat.le_of_ble_eq_true rfl) mu_self (by decide +kernel) (by decide) (by decide) dX8_init_42 ?_
  refine n_putF (ty := tyX8 2) (fi := 2) X hin (by decide +kernel) ((mu_ne (by simp)).trans ((mu_ne (by simp)).trans ((mu_ne (by simp)).trans ((mu_ne (by simp)).trans ((mu_ne (by simp)).trans ((mu_ne (by simp)).trans ((mu_ne (by simp)).trans ((mu_ne (by simp)).trans ((mu_ne (by simp)).trans mu_self))))))))) rfl inW8 tyX8 tyX8_ok nmX8 (by decide) fl_X8_7 rfl rfl (tyX8_ok 2 (by decide)) rfl rfl (Nat.le_of_ble_eq_true rfl) dX8_init_43 ?_
  refine n_aloadn X dX8_init_46 rfl rfl ?_
  refine n_bipush (v := 8) X dX8_init_47 (by decide) ?_
  refine n_newa (N' := 8) X (9, 11, 3) rfl (by decide) (by decide) (by decide) (Nat.le_of_ble_eq_true rfl) (Nat.le_of_ble_eq_true rfl) dX8_init_49 ?_
  refine n_putF (ty := tyX8 3) (fi := 3) X hin (by decide +kernel) ((mu_ne (by simp)).trans mu_self) rfl inW8 tyX8 tyX8_ok nmX8 (by decide) fl_X8_13 rfl rfl (tyX8_ok 3 (by decide)) rfl rfl (Nat.le_of_ble_eq_true rfl) dX8_init_51 ?_
  refine n_aloadn X dX8_init_54 rfl rfl ?_
  refine n_sipush (v := 320) X dX8_init_55 (by decide) ?_
  refine n_newa (N' := 320) X (9, 11, 4) rfl (by decide) (by decide) (by decide) (Nat.le_of_ble_eq_true rfl) (Nat.le_of_ble_eq_true rfl) dX8_init_58 ?_
  refine n_putF (ty := tyX8 4) (fi := 4) X hin (by decide +kernel) ((mu_ne (by simp)).trans mu_self) rfl inW8 tyX8 tyX8_ok nmX8 (by decide) fl_X8_16 rfl rfl (tyX8_ok 4 (by decide)) rfl rfl (Nat.le_of_ble_eq_true rfl) dX8_init_60 ?_
  refine n_aloadn X dX8_init_63 rfl rfl ?_
  refine n_bipush (v := 53) X dX8_init_64 (by decide) ?_
  refine n_newa (N' := 53) X (9, 11, 5) rfl (by decide) (by decide) (by decide) (Nat.le_of_ble_eq_true rfl) (Nat.le_of_ble_eq_true rfl) dX8_init_66 ?_
  refine n_putF (ty := tyX8 5) (fi := 5) X hin (by decide +kernel) ((mu_ne (by simp)).trans mu_self) rfl inW8 tyX8 tyX8_ok nmX8 (by decide) fl_X8_19 rfl rfl (tyX8_ok 5 (by decide)) rfl rfl (Nat.le_of_ble_eq_true rfl) dX8_init_68 ?_
  refine n_aloadn X dX8_init_71 rfl rfl ?_
  refine n_bipush (v := 53) X dX8_init_72 (by decide) ?_
  refine n_newa (N' := 53) X (9, 11, 6) rfl (by decide) (by decide) (by decide) (Nat.le_of_ble_eq_true rfl) (Nat.le_of_ble_eq_true rfl) dX8_init_74 ?_
  refine n_putF (ty := tyX8 6) (fi := 6) X hin (by decide +kernel) ((mu_ne (by simp)).trans mu_self) rfl inW8 tyX8 tyX8_ok nmX8 (by decide) fl_X8_22 rfl rfl (tyX8_ok 6 (by decide)) rfl rfl (Nat.le_of_ble_eq_true rfl) dX8_init_76 ?_
  refine n_aloadn X dX8_init_79 rfl rfl ?_
  refine n_bipush (v := 53) X dX8_init_80 (by decide) ?_
  refine n_newa (N' := 53) X (9, 11, 7) rfl (by decide) (by decide) (by decide) (Nat.le_of_ble_eq_true rfl) (Nat.le_of_ble_eq_true rfl) dX8_init_82 ?_
  refine n_putF (ty := tyX8 7) (fi := 7) X hin (by decide +kernel) ((mu_ne (by simp)).trans mu_self) rfl inW8 tyX8 tyX8_ok nmX8 (by decide) fl_X8_25 rfl rfl (tyX8_ok 7 (by decide)) rfl rfl (Nat.le_of_ble_eq_true rfl) dX8_init_84 ?_
  refine n_aloadn X dX8_init_87 rfl rfl ?_
  refine n_bipush (v := 6) X dX8_init_88 (by decide) ?_
  refine n_newa (N' := 6) X (9, 11, 8) rfl (by decide) (by decide) (by decide) (Nat.le_of_ble_eq_true rfl) (Nat.le_of_ble_eq_true rfl) dX8_init_90 ?_
  refine n_putF (ty := tyX8 8) (fi := 8) X hin (by decide +kernel) ((mu_ne (by simp)).trans mu_self) rfl inW8 tyX8 tyX8_ok nmX8 (by decide) fl_X8_28 rfl rfl (tyX8_ok 8 (by decide)) rfl rfl (Nat.le_of_ble_eq_true rfl) dX8_init_92 ?_
  refine n_aloadn X dX8_init_95 rfl rfl ?_
  refine n_sipush (v := 1272) X dX8_init_96 (by decide) ?_
  refine n_newa (N' := 1272) X (9, 11, 9) rfl (by decide) (by decide) (by decide) (Nat.le_of_ble_eq_true rfl) (Nat.le_of_ble_eq_true rfl) dX8_init_99 ?_
  refine n_putF (ty := tyX8 9) (fi := 9) X hin (by decide +kernel) ((mu_ne (by simp)).trans mu_self) rfl inW8 tyX8 tyX8_ok nmX8 (by decide) fl_X8_31 rfl rfl (tyX8_ok 9 (by decide)) rfl rfl (Nat.le_of_ble_eq_true rfl) dX8_init_101 ?_
  refine n_aloadn X dX8_init_104 rfl rfl ?_
  refine n_bipush (v := 100) X dX8_init_105 (by decide) ?_
  refine n_newa (N' := 100) X (9, 11, 11) rfl (by decide) (by decide) (by decide) (Nat.le_of_ble_eq_true rfl) (Nat.le_of_ble_eq_true rfl) dX8_init_107 ?_
  refine n_putF (ty := tyX8 11) (fi := 11) X hin (by decide +kernel) ((mu_ne (by simp)).trans mu_self) rfl inW8 tyX8 tyX8_ok nmX8 (by decide) fl_X8_34 rfl rfl (tyX8_ok 11 (by decide)) rfl rfl (Nat.le_of_ble_eq_true rfl) dX8_init_109 ?_
  refine n_aloadn X dX8_init_112 rfl rfl ?_
  refine n_iconst (v := 4) X dX8_init_113 (by decide) ?_
  refine n_newa (N' := 4) X (9, 11, 20) rfl (by decide) (by decide) (by decide) (Nat.le_of_ble_eq_true rfl) (Nat.le_of_ble_eq_true rfl) dX8_init_114 ?_
  refine n_dup X dX8_init_116 rfl ?_
  refine n_iconst (v := 0) X dX8_init_117 (by decide) ?_
  refine n_iconst (v := 0) X dX8_init_118 (by decide) ?_
  refine n_iast X 0 (by decide +kernel) (Nat.le_of_ble_eq_true rfl) mu_self (by decide +kernel) (by decide) (by decide) dX8_init_119 ?_
  refine n_dup X dX8_init_120 rfl ?_
  refine n_iconst (v := 1) X dX8_init_121 (by decide) ?_
  refine n_iconst (v := 5) X dX8_init_122 (by decide) ?_
  refine n_iast X 1 (by decide +kernel) (Nat.le_of_ble_eq_true rfl) mu_self (by decide +kernel) (by decide) (by decide) dX8_init_123 ?_
  refine n_dup X dX8_init_124 rfl ?_
  refine n_iconst (v := 2) X dX8_init_125 (by decide) ?_
  refine n_bipush (v := 10) X dX8_init_126 (by decide) ?_
  refine n_iast X 2 (by decide +kernel) (Nat.le_of_ble_eq_true rfl) mu_self (by decide +kernel) (by decide) (by decide) dX8_init_128 ?_
  refine n_dup X dX8_init_129 rfl ?_
  refine n_iconst (v := 3) X dX8_init_130 (by decide) ?_
  refine n_bipush (v := (-5)) X dX8_init_131 (by decide) ?_
  refine n_iast X 3 (by decide +kernel) (Nat.le_of_ble_eq_true rfl) mu_self (by decide +kernel) (by decide) (by decide) dX8_init_133 ?_
  refine n_putF (ty := tyX8 20) (fi := 20) X hin (by decide +kernel) ((mu_ne (by simp)).trans ((mu_ne (by simp)).trans ((mu_ne (by simp)).trans ((mu_ne (by simp)).trans ((mu_ne (by simp)).trans mu_self))))) rfl inW8 tyX8 tyX8_ok nmX8 (by decide) fl_X8_37 rfl rfl (tyX8_ok 20 (by decide)) rfl rfl (Nat.le_of_ble_eq_true rfl) dX8_init_134 ?_
  refine n_aloadn X dX8_init_137 rfl rfl ?_
  refine n_iconst (v := 2) X dX8_init_138 (by decide) ?_
  refine n_newz (N' := 2) X (10, 11, 21) rfl (by decide) (by decide) (by decide) (Nat.le_of_ble_eq_true rfl) (Nat.le_of_ble_eq_true rfl) dX8_init_139 ?_
  refine n_putF (ty := tyX8 21) (fi := 21) X hin (by decide +kernel) ((mu_ne (by simp)).trans mu_self) rfl inW8 tyX8 tyX8_ok nmX8 (by decide) fl_X8_40 rfl rfl (tyX8_ok 21 (by decide)) rfl rfl (Nat.le_of_ble_eq_true rfl) dX8_init_141 ?_
  refine n_aloadn X dX8_init_144 rfl rfl ?_
  refine n_bipush (v := 106) X dX8_init_145 (by decide) ?_
  refine n_newa (N' := 106) X (9, 11, 22) rfl (by decide) (by decide) (by decide) (Nat.le_of_ble_eq_true rfl) (Nat.le_of_ble_eq_true rfl) dX8_init_147 ?_
  refine n_putF (ty := tyX8 22) (fi := 22) X hin (by decide +kernel) ((mu_ne (by simp)).trans mu_self) rfl inW8 tyX8 tyX8_ok nmX8 (by decide) fl_X8_44 rfl rfl (tyX8_ok 22 (by decide)) rfl rfl (Nat.le_of_ble_eq_true rfl) dX8_init_149 ?_
  refine n_aloadn X dX8_init_152 rfl rfl ?_
  refine n_bipush (v := 16) X dX8_init_153 (by decide) ?_
  refine n_newa (N' := 16) X (9, 11, 23) rfl (by decide) (by decide) (by decide) (Nat.le_of_ble_eq_true rfl) (Nat.le_of_ble_eq_true rfl) dX8_init_155 ?_
  refine n_putF (ty := tyX8 23) (fi := 23) X hin (by decide +kernel) ((mu_ne (by simp)).trans mu_self) rfl inW8 tyX8 tyX8_ok nmX8 (by decide) fl_X8_47 rfl rfl (tyX8_ok 23 (by decide)) rfl rfl (Nat.le_of_ble_eq_true rfl) dX8_init_157 ?_
  refine n_vret X (fun k hk' => ⟨kin8 k hk', ?_⟩) dX8_init_160
  simp only [w8, List.map, List.mem_cons, List.not_mem_nil, or_false] at hk'
  rcases hk' with rfl | rfl | rfl | rfl | rfl | rfl | rfl | rfl | rfl | rfl | rfl | rfl | rfl | rfl
  · exact ⟨_, mu_self, Eqv.of rfl⟩
  · exact ⟨_, ((mu_ne (by simp)).trans ((mu_ne (by simp)).trans ((mu_ne (by simp)).trans ((mu_ne (by simp)).trans ((mu_ne (by simp)).trans mu_self))))), Eqv.of rfl⟩
  · exact ⟨_, ((mu_ne (by simp)).trans ((mu_ne (by simp)).trans ((mu_ne (by simp)).trans ((mu_ne (by simp)).trans ((mu_ne (by simp)).trans ((mu_ne (by simp)).trans ((mu_ne (by simp)).trans ((mu_ne (by simp)).trans ((mu_ne (by simp)).trans ((mu_ne (by simp)).trans ((mu_ne (by simp)).trans ((mu_ne (by simp)).trans ((mu_ne (by simp)).trans ((mu_ne (by simp)).trans ((mu_ne (by simp)).trans ((mu_ne (by simp)).trans ((mu_ne (by simp)).trans ((mu_ne (by simp)).trans ((mu_ne (by simp)).trans ((mu_ne (by simp)).trans ((mu_ne (by simp)).trans ((mu_ne (by simp)).trans ((mu_ne (by simp)).trans ((mu_ne (by simp)).trans ((mu_ne (by simp)).trans ((mu_ne (by simp)).trans ((mu_ne (by simp)).trans ((mu_ne (by simp)).trans ((mu_ne (by simp)).trans mu_self))))))))))))))))))))))))))))), Eqv.arrI (cA := cy 0) (n := 8) (f' := g0 11 2) (by decide +kernel)⟩
  · exact ⟨_, ((mu_ne (by simp)).trans ((mu_ne (by simp)).trans ((mu_ne (by simp)).trans ((mu_ne (by simp)).trans ((mu_ne (by simp)).trans ((mu_ne (by simp)).trans ((mu_ne (by simp)).trans ((mu_ne (by simp)).trans ((mu_ne (by simp)).trans ((mu_ne (by simp)).trans ((mu_ne (by simp)).trans ((mu_ne (by simp)).trans ((mu_ne (by simp)).trans ((mu_ne (by simp)).trans ((mu_ne (by simp)).trans ((mu_ne (by simp)).trans ((mu_ne (by simp)).trans ((mu_ne (by simp)).trans ((mu_ne (by simp)).trans ((mu_ne (by simp)).trans ((mu_ne (by simp)).trans ((mu_ne (by simp)).trans ((mu_ne (by simp)).trans ((mu_ne (by simp)).trans ((mu_ne (by simp)).trans ((mu_ne (by simp)).trans ((mu_ne (by simp)).trans mu_self))))))))))))))))))))))))))), Eqv.of rfl⟩
  · exact ⟨_, ((mu_ne (by simp)).trans ((mu_ne (by simp)).trans ((mu_ne (by simp)).trans ((mu_ne (by simp)).trans ((mu_ne (by simp)).trans ((mu_ne (by simp)).trans ((mu_ne (by simp)).trans ((mu_ne (by simp)).trans ((mu_ne (by simp)).trans ((mu_ne (by simp)).trans ((mu_ne (by simp)).trans ((mu_ne (by simp)).trans ((mu_ne (by simp)).trans ((mu_ne (by simp)).trans ((mu_ne (by simp)).trans ((mu_ne (by simp)).trans ((mu_ne (by simp)).trans ((mu_ne (by simp)).trans ((mu_ne (by simp)).trans ((mu_ne (by simp)).trans ((mu_ne (by simp)).trans ((mu_ne (by simp)).trans ((mu_ne (by simp)).trans ((mu_ne (by simp)).trans ((mu_ne (by simp)).trans mu_self))))))))))))))))))))))))), Eqv.of rfl⟩
  · exact ⟨_, ((mu_ne (by simp)).trans ((mu_ne (by simp)).trans ((mu_ne (by simp)).trans ((mu_ne (by simp)).trans ((mu_ne (by simp)).trans ((mu_ne (by simp)).trans ((mu_ne (by simp)).trans ((mu_ne (by simp)).trans ((mu_ne (by simp)).trans ((mu_ne (by simp)).trans ((mu_ne (by simp)).trans ((mu_ne (by simp)).trans ((mu_ne (by simp)).trans ((mu_ne (by simp)).trans ((mu_ne (by simp)).trans ((mu_ne (by simp)).trans ((mu_ne (by simp)).trans ((mu_ne (by simp)).trans ((mu_ne (by simp)).trans ((mu_ne (by simp)).trans ((mu_ne (by simp)).trans ((mu_ne (by simp)).trans ((mu_ne (by simp)).trans mu_self))))))))))))))))))))))), Eqv.of rfl⟩
  · exact ⟨_, ((mu_ne (by simp)).trans ((mu_ne (by simp)).trans ((mu_ne (by simp)).trans ((mu_ne (by simp)).trans ((mu_ne (by simp)).trans ((mu_ne (by simp)).trans ((mu_ne (by simp)).trans ((mu_ne (by simp)).trans ((mu_ne (by simp)).trans ((mu_ne (by simp)).trans ((mu_ne (by simp)).trans ((mu_ne (by simp)).trans ((mu_ne (by simp)).trans ((mu_ne (by simp)).trans ((mu_ne (by simp)).trans ((mu_ne (by simp)).trans ((mu_ne (by simp)).trans ((mu_ne (by simp)).trans ((mu_ne (by simp)).trans ((mu_ne (by simp)).trans ((mu_ne (by simp)).trans mu_self))))))))))))))))))))), Eqv.of rfl⟩
  · exact ⟨_, ((mu_ne (by simp)).trans ((mu_ne (by simp)).trans ((mu_ne (by simp)).trans ((mu_ne (by simp)).trans ((mu_ne (by simp)).trans ((mu_ne (by simp)).trans ((mu_ne (by simp)).trans ((mu_ne (by simp)).trans ((mu_ne (by simp)).trans ((mu_ne (by simp)).trans ((mu_ne (by simp)).trans ((mu_ne (by simp)).trans ((mu_ne (by simp)).trans ((mu_ne (by simp)).trans ((mu_ne (by simp)).trans ((mu_ne (by simp)).trans ((mu_ne (by simp)).trans ((mu_ne (by simp)).trans ((mu_ne (by simp)).trans mu_self))))))))))))))))))), Eqv.of rfl⟩
  · exact ⟨_, ((mu_ne (by simp)).trans ((mu_ne (by simp)).trans ((mu_ne (by simp)).trans ((mu_ne (by simp)).trans ((mu_ne (by simp)).trans ((mu_ne (by simp)).trans ((mu_ne (by simp)).trans ((mu_ne (by simp)).trans ((mu_ne (by simp)).trans ((mu_ne (by simp)).trans ((mu_ne (by simp)).trans ((mu_ne (by simp)).trans ((mu_ne (by simp)).trans ((mu_ne (by simp)).trans ((mu_ne (by simp)).trans ((mu_ne (by simp)).trans ((mu_ne (by simp)).trans mu_self))))))))))))))))), Eqv.of rfl⟩
  · exact ⟨_, ((mu_ne (by simp)).trans ((mu_ne (by simp)).trans ((mu_ne (by simp)).trans ((mu_ne (by simp)).trans ((mu_ne (by simp)).trans ((mu_ne (by simp)).trans ((mu_ne (by simp)).trans ((mu_ne (by simp)).trans ((mu_ne (by simp)).trans ((mu_ne (by simp)).trans ((mu_ne (by simp)).trans ((mu_ne (by simp)).trans ((mu_ne (by simp)).trans ((mu_ne (by simp)).trans ((mu_ne (by simp)).trans mu_self))))))))))))))), Eqv.of rfl⟩
  · exact ⟨_, ((mu_ne (by simp)).trans ((mu_ne (by simp)).trans ((mu_ne (by simp)).trans ((mu_ne (by simp)).trans ((mu_ne (by simp)).trans ((mu_ne (by simp)).trans ((mu_ne (by simp)).trans ((mu_ne (by simp)).trans ((mu_ne (by simp)).trans ((mu_ne (by simp)).trans ((mu_ne (by simp)).trans ((mu_ne (by simp)).trans ((mu_ne (by simp)).trans mu_self))))))))))))), Eqv.of rfl⟩
  · exact ⟨_, ((mu_ne (by simp)).trans ((mu_ne (by simp)).trans ((mu_ne (by simp)).trans ((mu_ne (by simp)).trans ((mu_ne (by simp)).trans ((mu_ne (by simp)).trans ((mu_ne (by simp)).trans mu_self))))))), Eqv.arrI (cA := cy 0) (n := 4) (f' := g0 11 20) (by decide +kernel)⟩
  · exact ⟨_, ((mu_ne (by simp)).trans ((mu_ne (by simp)).trans ((mu_ne (by simp)).trans mu_self))), Eqv.of rfl⟩
  · exact ⟨_, ((mu_ne (by simp)).trans mu_self), Eqv.of rfl⟩
