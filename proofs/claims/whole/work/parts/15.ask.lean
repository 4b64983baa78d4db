def F_X1_leave (N : Nat) (x1 : Int32) (g : GS) : Option GS := if (16 : Int32) ≤ (g 7 0 0) then some g else bd1 (ix (g 7 0 0) 16) (fun jv2 => some (g3 (g3 g 8 0 jv2 x1) 7 0 0 ((g 7 0 0) + (1 : Int32))))
set_option maxRecDepth 100000 in
set_option maxHeartbeats 4000000 in
theorem c_X1_leave (l : Launch) (D : va_G) (ad : Ky → Nat) (cy : Nat → ClassId) (hI : Inj ad) (N : Nat) (x1 : Int32) (g : GS) (gq : GS) (h : F_X1_leave N x1 g = some gq) : CtV l D ad cy yX1_leave cX1_leave 2 0 [.ref (ad (1, 0, 0)), .int x1] g gq := by
  refine CtV.of 0 hI (by decide +kernel) rfl (Nat.le_of_ble_eq_true rfl) (fun p e s m args below meth c X => ?_)
  unfold F_X1_leave at h
  show Vy _ _ _ _ _ _ _ _ _ _ _ _ _ _ _ 0 [some (.ref (ad (1, 0, 0))), some (.int x1)] [] g
  refine v_aloadn X dX1_leave_0 rfl rfl ?_
  refine gf_X1_15 X dX1_leave_1 ?_
  refine v_bipush (v := 16) X dX1_leave_4 (by decide) ?_
  refine v_icmp_ge X 29 dX1_leave_6 (by decide) (fun cv1 => ?_) (fun cv1 => ?_)
  · replace h := (if_pos cv1).symm.trans h
    exact v_vret X dX1_leave_29 (Option.some.inj h)
  · replace h := (if_neg cv1).symm.trans h
    refine v_aloadn X dX1_leave_9 rfl rfl ?_
    refine gf_X1_9 X dX1_leave_10 ?_
    refine v_aloadn X dX1_leave_13 rfl rfl ?_
    refine gf_X1_15 X dX1_leave_14 ?_
    refine v_iloadn X dX1_leave_17 rfl rfl ?_
    obtain ⟨jv2, qv3, h⟩ := bd1_some h
    obtain ⟨ejv2, ljv2⟩ := ix_spec qv3
    refine asB X jv2 ejv2 ljv2 dX1_leave_18 ?_
    refine v_aloadn X dX1_leave_19 rfl rfl ?_
    refine v_dup X dX1_leave_20 rfl ?_
    refine gf_X1_15 X dX1_leave_21 ?_
    refine v_vali (v2 := (g 7 0 0)) rfl ?_
    refine v_iconst (v := 1) X dX1_leave_24 (by decide) ?_
    refine v_iadd X dX1_leave_25 ?_
    refine pf_X1_15 X dX1_leave_26 ?_
    exact v_vret X dX1_leave_29 (Option.some.inj h)
def F_X1_give (N : Nat) : Nat → Int32 → Nat → Nat → Int32 → Int32 → GS → Option (Int32 × GS)
  | 0, _, _, _, _, _, _ => none
  | f + 1, x1, r2, i2, x3, x4, g => if x4 ≤ (8 : Int32) then bd1 (F_X1_leave N x1 g) (fun gv3 => if x1 = 10 then some ((gv3 13 r2 (7 * i2 + 2)), gv3) else if x1 = 11 then bd2 (F_X1_give N f (10 : Int32) r2 i2 x3 (x4 + (1 : Int32)) gv3) (fun rv10 gv9 => bd2 (F_X3_markBody N r2 i2 gv9) (fun rv13 gv12 => bd2 (F_X1_give N f rv13 r2 i2 x3 (x4 + (1 : Int32)) gv12) (fun rv18 gv17 => some ((rv10 + rv18), gv17)))) else if x1 = 12 then bd2 (F_X1_give N f (11 : Int32) r2 i2 x3 (x4 + (1 : Int32)) gv3) (fun rv24 gv23 => some ((-rv24), gv23)) else if x1 = 13 then bd2 (F_X1_give N f (10 : Int32) r2 i2 x3 (x4 + (1 : Int32)) gv3) (fun rv30 gv29 => some ((rv30 - (100 : Int32)), gv29)) else if x1 = 14 then bd2 (F_X1_give N f (13 : Int32) r2 i2 x3 (x4 + (1 : Int32)) gv3) (fun rv36 gv35 => some (((2 : Int32) * rv36), gv35)) else if x1 = 20 then some (x3, gv3) else if x1 = 21 then bd2 (F_X1_give N f (20 : Int32) r2 i2 x3 (x4 + (1 : Int32)) gv3) (fun rv43 gv42 => some ((rv43 + (gv42 13 r2 (7 * i2 + 4))), gv42)) else if x1 = 22 then bd2 (F_X1_give N f (21 : Int32) r2 i2 x3 (x4 + (1 : Int32)) gv3) (fun rv49 gv48 => some ((rv49 - (1000 : Int32)), gv48)) else if x1 = 23 then bd2 (F_X1_give N f (20 : Int32) r2 i2 x3 (x4 + (1 : Int32)) gv3) (fun rv55 gv54 => bd2 (F_X3_sizeBody N r2 i2 gv54) (fun rv58 gv57 => bd2 (F_X1_give N f rv58 r2 i2 x3 (x4 + (1 : Int32)) gv57) (fun rv63 gv62 => some ((rv55 - rv63), gv62)))) else if x1 = 24 then bd2 (F_X1_give N f (21 : Int32) r2 i2 x3 (x4 + (1 : Int32)) gv3) (fun rv69 gv68 => some (((2 : Int32) * rv69), gv68)) else some ((0 : Int32), gv3)) else some ((0 : Int32), g)
set_option maxRecDepth 100000 in
set_option maxHeartbeats 4000000 in
theorem c_X1_give (l : Launch) (D : va_G) (ad : Ky → Nat) (cy : Nat → ClassId) (hI : Inj ad) (N : Nat) : ∀ (f : Nat) (x1 : Int32) (r2 : Nat) (i2 : Nat) (x3 : Int32) (x4 : Int32) (g : GS) (r : Int32) (gq : GS) (hr2 : r2 < 28) (hi2 : i2 < 6) (h : F_X1_give N f x1 r2 i2 x3 x4 g = some (r, gq)), CtI l D ad cy yX1_give cX1_give 6 (some .int) (3 + f) [.ref (ad (1, 0, 0)), .int x1, .ref (ad (3, r2, i2)), .int x3, .int x4] g r gq := by
  intro f
  induction f with
  | zero => intro x1 r2 i2 x3 x4 g r gq hr2 hi2 h; cases h
  | succ f ihf =>
    intro x1 r2 i2 x3 x4 g r gq hr2 hi2 h
    refine CtI.of 1 hI (by decide +kernel) rfl (Nat.le_of_ble_eq_true rfl) (fun p e s m args below meth c X => ?_)
    rw [F_X1_give] at h
    show Vy _ _ _ _ _ _ _ _ _ _ _ _ _ _ _ 0 [some (.ref (ad (1, 0, 0))), some (.int x1), some (.ref (ad (3, r2, i2))), some (.int x3), some (.int x4), none] [] g
    refine v_iload X dX1_give_0 rfl ?_
    refine v_bipush (v := 8) X dX1_give_2 (by decide) ?_
    refine v_icmp_le X 9 dX1_give_4 (by decide) (fun cv1 => ?_) (fun cv1 => ?_)
    · replace h := (if_pos cv1).symm.trans h
      refine v_aloadn X dX1_give_9 rfl rfl ?_
      refine v_iloadn X dX1_give_10 rfl rfl ?_
      obtain ⟨gv3, qv2, h⟩ := bd1_some h
      refine v_callVV (As := [.int x1]) (rest := []) X (c_X1_leave l D ad cy X.2.2.2.2.2.2.2.2.1 N x1 g gv3  qv2) mw_X1_leave ml_X1_24 (by omega) (by decide +kernel) (by decide) rfl rfl rfl rfl (Nat.le_of_ble_eq_true rfl) dX1_give_11 ?_
      refine v_iload X dX1_give_14 rfl ?_
      refine v_iconst (v := 1) X dX1_give_16 (by decide) ?_
      refine v_iadd X dX1_give_17 ?_
      refine v_istore (lc' := [some (.ref (ad (1, 0, 0))), some (.int x1), some (.ref (ad (3, r2, i2))), some (.int x3), some (.int x4), some (.int (x4 + (1 : Int32)))]) X dX1_give_18 (by decide) rfl rfl ?_
      refine v_iloadn X dX1_give_20 rfl rfl ?_
      by_cases cv4 : x1 = 10
      · replace h := (if_pos cv4).symm.trans h
        refine v_tableIn X 96 dX1_give_21 (by rw [cv4]; decide) (by rw [cv4]; decide) (by rw [cv4]; rfl) (by decide) ?_
        refine v_aloadn X dX1_give_96 rfl rfl ?_
        refine gf_X1_28 X (k_paper (by omega) (by omega)) dX1_give_97 ?_
        obtain ⟨er, eg⟩ := Prod.mk.inj (Option.some.inj h)
        exact v_iret X dX1_give_100 er eg
      replace h := (if_neg cv4).symm.trans h
      by_cases cv5 : x1 = 11
      · replace h := (if_pos cv5).symm.trans h
        refine v_tableIn X 101 dX1_give_21 (by rw [cv5]; decide) (by rw [cv5]; decide) (by rw [cv5]; rfl) (by decide) ?_
        refine v_aloadn X dX1_give_101 rfl rfl ?_
        refine v_bipush (v := 10) X dX1_give_102 (by decide) ?_
        refine v_aloadn X dX1_give_104 rfl rfl ?_
        refine v_iloadn X dX1_give_105 rfl rfl ?_
        refine v_iload X dX1_give_106 rfl ?_
        obtain ⟨rv10, gv9, qv8, h⟩ := bd2_some h
        refine v_callVI (As := [.int (10 : Int32), .ref (ad (3, r2, i2)), .int x3, .int (x4 + (1 : Int32))]) (rest := []) X (ihf (10 : Int32) r2 i2 x3 (x4 + (1 : Int32)) gv3 rv10 gv9 (by omega) (by omega) qv8) mw_X1_give ml_X1_20 (by omega) (by decide +kernel) (by decide) rfl rfl rfl rfl (Nat.le_of_ble_eq_true rfl) dX1_give_108 ?_
        refine v_aloadn X dX1_give_111 rfl rfl ?_
        refine v_aloadn X dX1_give_112 rfl rfl ?_
        obtain ⟨rv13, gv12, qv11, h⟩ := bd2_some h
        refine v_callVI (As := []) (rest := [.ref (ad (1, 0, 0)), .int rv10]) X (c_X3_markBody l D ad cy X.2.2.2.2.2.2.2.2.1 N r2 i2 gv9 rv13 gv12 (by omega) (by omega) qv11) mw_X3_markBody ml_X1_33 (by omega) (k_paper (by omega) (by omega)) (by decide) rfl rfl rfl rfl (Nat.le_of_ble_eq_true rfl) dX1_give_113 ?_
        refine v_aloadn X dX1_give_116 rfl rfl ?_
        refine v_iloadn X dX1_give_117 rfl rfl ?_
        refine v_iload X dX1_give_118 rfl ?_
        obtain ⟨rv18, gv17, qv16, h⟩ := bd2_some h
        refine v_callVI (As := [.int rv13, .ref (ad (3, r2, i2)), .int x3, .int (x4 + (1 : Int32))]) (rest := [.int rv10]) X (ihf rv13 r2 i2 x3 (x4 + (1 : Int32)) gv12 rv18 gv17 (by omega) (by omega) qv16) mw_X1_give ml_X1_20 (by omega) (by decide +kernel) (by decide) rfl rfl rfl rfl (Nat.le_of_ble_eq_true rfl) dX1_give_120 ?_
        refine v_iadd X dX1_give_123 ?_
        obtain ⟨er, eg⟩ := Prod.mk.inj (Option.some.inj h)
        exact v_iret X dX1_give_124 er eg
      replace h := (if_neg cv5).symm.trans h
      by_cases cv19 : x1 = 12
      · replace h := (if_pos cv19).symm.trans h
        refine v_tableIn X 125 dX1_give_21 (by rw [cv19]; decide) (by rw [cv19]; decide) (by rw [cv19]; rfl) (by decide) ?_
        refine v_aloadn X dX1_give_125 rfl rfl ?_
        refine v_bipush (v := 11) X dX1_give_126 (by decide) ?_
        refine v_aloadn X dX1_give_128 rfl rfl ?_
        refine v_iloadn X dX1_give_129 rfl rfl ?_
        refine v_iload X dX1_give_130 rfl ?_
        obtain ⟨rv24, gv23, qv22, h⟩ := bd2_some h
        refine v_callVI (As := [.int (11 : Int32), .ref (ad (3, r2, i2)), .int x3, .int (x4 + (1 : Int32))]) (rest := []) X (ihf (11 : Int32) r2 i2 x3 (x4 + (1 : Int32)) gv3 rv24 gv23 (by omega) (by omega) qv22) mw_X1_give ml_X1_20 (by omega) (by decide +kernel) (by decide) rfl rfl rfl rfl (Nat.le_of_ble_eq_true rfl) dX1_give_132 ?_
        refine v_ineg X dX1_give_135 ?_
        obtain ⟨er, eg⟩ := Prod.mk.inj (Option.some.inj h)
        exact v_iret X dX1_give_136 er eg
      replace h := (if_neg cv19).symm.trans h
      by_cases cv25 : x1 = 13
      · replace h := (if_pos cv25).symm.trans h
        refine v_tableIn X 137 dX1_give_21 (by rw [cv25]; decide) (by rw [cv25]; decide) (by rw [cv25]; rfl) (by decide) ?_
        refine v_aloadn X dX1_give_137 rfl rfl ?_
        refine v_bipush (v := 10) X dX1_give_138 (by decide) ?_
        refine v_aloadn X dX1_give_140 rfl rfl ?_
        refine v_iloadn X dX1_give_141 rfl rfl ?_
        refine v_iload X dX1_give_142 rfl ?_
        obtain ⟨rv30, gv29, qv28, h⟩ := bd2_some h
        refine v_callVI (As := [.int (10 : Int32), .ref (ad (3, r2, i2)), .int x3, .int (x4 + (1 : Int32))]) (rest := []) X (ihf (10 : Int32) r2 i2 x3 (x4 + (1 : Int32)) gv3 rv30 gv29 (by omega) (by omega) qv28) mw_X1_give ml_X1_20 (by omega) (by decide +kernel) (by decide) rfl rfl rfl rfl (Nat.le_of_ble_eq_true rfl) dX1_give_144 ?_
        refine v_bipush (v := 100) X dX1_give_147 (by decide) ?_
        refine v_isub X dX1_give_149 ?_
        obtain ⟨er, eg⟩ := Prod.mk.inj (Option.some.inj h)
        exact v_iret X dX1_give_150 er eg
      replace h := (if_neg cv25).symm.trans h
      by_cases cv31 : x1 = 14
      · replace h := (if_pos cv31).symm.trans h
        refine v_tableIn X 151 dX1_give_21 (by rw [cv31]; decide) (by rw [cv31]; decide) (by rw [cv31]; rfl) (by decide) ?_
        refine v_iconst (v := 2) X dX1_give_151 (by decide) ?_
        refine v_aloadn X dX1_give_152 rfl rfl ?_
        refine v_bipush (v := 13) X dX1_give_153 (by decide) ?_
        refine v_aloadn X dX1_give_155 rfl rfl ?_
        refine v_iloadn X dX1_give_156 rfl rfl ?_
        refine v_iload X dX1_give_157 rfl ?_
        obtain ⟨rv36, gv35, qv34, h⟩ := bd2_some h
        refine v_callVI (As := [.int (13 : Int32), .ref (ad (3, r2, i2)), .int x3, .int (x4 + (1 : Int32))]) (rest := [.int (2 : Int32)]) X (ihf (13 : Int32) r2 i2 x3 (x4 + (1 : Int32)) gv3 rv36 gv35 (by omega) (by omega) qv34) mw_X1_give ml_X1_20 (by omega) (by decide +kernel) (by decide) rfl rfl rfl rfl (Nat.le_of_ble_eq_true rfl) dX1_give_159 ?_
        refine v_imul X dX1_give_162 ?_
        obtain ⟨er, eg⟩ := Prod.mk.inj (Option.some.inj h)
        exact v_iret X dX1_give_163 er eg
      replace h := (if_neg cv31).symm.trans h
      by_cases cv37 : x1 = 20
      · replace h := (if_pos cv37).symm.trans h
        refine v_tableIn X 164 dX1_give_21 (by rw [cv37]; decide) (by rw [cv37]; decide) (by rw [cv37]; rfl) (by decide) ?_
        refine v_iloadn X dX1_give_164 rfl rfl ?_
        obtain ⟨er, eg⟩ := Prod.mk.inj (Option.some.inj h)
        exact v_iret X dX1_give_165 er eg
      replace h := (if_neg cv37).symm.trans h
      by_cases cv38 : x1 = 21
      · replace h := (if_pos cv38).symm.trans h
        refine v_tableIn X 166 dX1_give_21 (by rw [cv38]; decide) (by rw [cv38]; decide) (by rw [cv38]; rfl) (by decide) ?_
        refine v_aloadn X dX1_give_166 rfl rfl ?_
        refine v_bipush (v := 20) X dX1_give_167 (by decide) ?_
        refine v_aloadn X dX1_give_169 rfl rfl ?_
        refine v_iloadn X dX1_give_170 rfl rfl ?_
        refine v_iload X dX1_give_171 rfl ?_
        obtain ⟨rv43, gv42, qv41, h⟩ := bd2_some h
        refine v_callVI (As := [.int (20 : Int32), .ref (ad (3, r2, i2)), .int x3, .int (x4 + (1 : Int32))]) (rest := []) X (ihf (20 : Int32) r2 i2 x3 (x4 + (1 : Int32)) gv3 rv43 gv42 (by omega) (by omega) qv41) mw_X1_give ml_X1_20 (by omega) (by decide +kernel) (by decide) rfl rfl rfl rfl (Nat.le_of_ble_eq_true rfl) dX1_give_173 ?_
        refine v_aloadn X dX1_give_176 rfl rfl ?_
        refine gf_X1_37 X (k_paper (by omega) (by omega)) dX1_give_177 ?_
        refine v_iadd X dX1_give_180 ?_
        obtain ⟨er, eg⟩ := Prod.mk.inj (Option.some.inj h)
        exact v_iret X dX1_give_181 er eg
      replace h := (if_neg cv38).symm.trans h
      by_cases cv44 : x1 = 22
      · replace h := (if_pos cv44).symm.trans h
        refine v_tableIn X 182 dX1_give_21 (by rw [cv44]; decide) (by rw [cv44]; decide) (by rw [cv44]; rfl) (by decide) ?_
        refine v_aloadn X dX1_give_182 rfl rfl ?_
        refine v_bipush (v := 21) X dX1_give_183 (by decide) ?_
        refine v_aloadn X dX1_give_185 rfl rfl ?_
        refine v_iloadn X dX1_give_186 rfl rfl ?_
        refine v_iload X dX1_give_187 rfl ?_
        obtain ⟨rv49, gv48, qv47, h⟩ := bd2_some h
        refine v_callVI (As := [.int (21 : Int32), .ref (ad (3, r2, i2)), .int x3, .int (x4 + (1 : Int32))]) (rest := []) X (ihf (21 : Int32) r2 i2 x3 (x4 + (1 : Int32)) gv3 rv49 gv48 (by omega) (by omega) qv47) mw_X1_give ml_X1_20 (by omega) (by decide +kernel) (by decide) rfl rfl rfl rfl (Nat.le_of_ble_eq_true rfl) dX1_give_189 ?_
        refine v_sipush (v := 1000) X dX1_give_192 (by decide) ?_
        refine v_isub X dX1_give_195 ?_
        obtain ⟨er, eg⟩ := Prod.mk.inj (Option.some.inj h)
        exact v_iret X dX1_give_196 er eg
      replace h := (if_neg cv44).symm.trans h
      by_cases cv50 : x1 = 23
      · replace h := (if_pos cv50).symm.trans h
        refine v_tableIn X 197 dX1_give_21 (by rw [cv50]; decide) (by rw [cv50]; decide) (by rw [cv50]; rfl) (by decide) ?_
        refine v_aloadn X dX1_give_197 rfl rfl ?_
        refine v_bipush (v := 20) X dX1_give_198 (by decide) ?_
        refine v_aloadn X dX1_give_200 rfl rfl ?_
        refine v_iloadn X dX1_give_201 rfl rfl ?_
        refine v_iload X dX1_give_202 rfl ?_
        obtain ⟨rv55, gv54, qv53, h⟩ := bd2_some h
        refine v_callVI (As := [.int (20 : Int32), .ref (ad (3, r2, i2)), .int x3, .int (x4 + (1 : Int32))]) (rest := []) X (ihf (20 : Int32) r2 i2 x3 (x4 + (1 : Int32)) gv3 rv55 gv54 (by omega) (by omega) qv53) mw_X1_give ml_X1_20 (by omega) (by decide +kernel) (by decide) rfl rfl rfl rfl (Nat.le_of_ble_eq_true rfl) dX1_give_204 ?_
        refine v_aloadn X dX1_give_207 rfl rfl ?_
        refine v_aloadn X dX1_give_208 rfl rfl ?_
        obtain ⟨rv58, gv57, qv56, h⟩ := bd2_some h
        refine v_callVI (As := []) (rest := [.ref (ad (1, 0, 0)), .int rv55]) X (c_X3_sizeBody l D ad cy X.2.2.2.2.2.2.2.2.1 N r2 i2 gv54 rv58 gv57 (by omega) (by omega) qv56) mw_X3_sizeBody ml_X1_40 (by omega) (k_paper (by omega) (by omega)) (by decide) rfl rfl rfl rfl (Nat.le_of_ble_eq_true rfl) dX1_give_209 ?_
        refine v_aloadn X dX1_give_212 rfl rfl ?_
        refine v_iloadn X dX1_give_213 rfl rfl ?_
        refine v_iload X dX1_give_214 rfl ?_
        obtain ⟨rv63, gv62, qv61, h⟩ := bd2_some h
        refine v_callVI (As := [.int rv58, .ref (ad (3, r2, i2)), .int x3, .int (x4 + (1 : Int32))]) (rest := [.int rv55]) X (ihf rv58 r2 i2 x3 (x4 + (1 : Int32)) gv57 rv63 gv62 (by omega) (by omega) qv61) mw_X1_give ml_X1_20 (by omega) (by decide +kernel) (by decide) rfl rfl rfl rfl (Nat.le_of_ble_eq_true rfl) dX1_give_216 ?_
        refine v_isub X dX1_give_219 ?_
        obtain ⟨er, eg⟩ := Prod.mk.inj (Option.some.inj h)
        exact v_iret X dX1_give_220 er eg
      replace h := (if_neg cv50).symm.trans h
      by_cases cv64 : x1 = 24
      · replace h := (if_pos cv64).symm.trans h
        refine v_tableIn X 221 dX1_give_21 (by rw [cv64]; decide) (by rw [cv64]; decide) (by rw [cv64]; rfl) (by decide) ?_
        refine v_iconst (v := 2) X dX1_give_221 (by decide) ?_
        refine v_aloadn X dX1_give_222 rfl rfl ?_
        refine v_bipush (v := 21) X dX1_give_223 (by decide) ?_
        refine v_aloadn X dX1_give_225 rfl rfl ?_
        refine v_iloadn X dX1_give_226 rfl rfl ?_
        refine v_iload X dX1_give_227 rfl ?_
        obtain ⟨rv69, gv68, qv67, h⟩ := bd2_some h
        refine v_callVI (As := [.int (21 : Int32), .ref (ad (3, r2, i2)), .int x3, .int (x4 + (1 : Int32))]) (rest := [.int (2 : Int32)]) X (ihf (21 : Int32) r2 i2 x3 (x4 + (1 : Int32)) gv3 rv69 gv68 (by omega) (by omega) qv67) mw_X1_give ml_X1_20 (by omega) (by decide +kernel) (by decide) rfl rfl rfl rfl (Nat.le_of_ble_eq_true rfl) dX1_give_229 ?_
        refine v_imul X dX1_give_232 ?_
        obtain ⟨er, eg⟩ := Prod.mk.inj (Option.some.inj h)
        exact v_iret X dX1_give_233 er eg
      replace h := (if_neg cv64).symm.trans h
      by_cases cv70 : x1 = 15
      · refine v_tableIn X 234 dX1_give_21 (by rw [cv70]; decide) (by rw [cv70]; decide) (by rw [cv70]; rfl) (by decide) ?_
        refine v_iconst (v := 0) X dX1_give_234 (by decide) ?_
        obtain ⟨er, eg⟩ := Prod.mk.inj (Option.some.inj h)
        exact v_iret X dX1_give_235 er eg
      by_cases cv71 : x1 = 16
      · refine v_tableIn X 234 dX1_give_21 (by rw [cv71]; decide) (by rw [cv71]; decide) (by rw [cv71]; rfl) (by decide) ?_
        refine v_iconst (v := 0) X dX1_give_234 (by decide) ?_
        obtain ⟨er, eg⟩ := Prod.mk.inj (Option.some.inj h)
        exact v_iret X dX1_give_235 er eg
      by_cases cv72 : x1 = 17
      · refine v_tableIn X 234 dX1_give_21 (by rw [cv72]; decide) (by rw [cv72]; decide) (by rw [cv72]; rfl) (by decide) ?_
        refine v_iconst (v := 0) X dX1_give_234 (by decide) ?_
        obtain ⟨er, eg⟩ := Prod.mk.inj (Option.some.inj h)
        exact v_iret X dX1_give_235 er eg
      by_cases cv73 : x1 = 18
      · refine v_tableIn X 234 dX1_give_21 (by rw [cv73]; decide) (by rw [cv73]; decide) (by rw [cv73]; rfl) (by decide) ?_
        refine v_iconst (v := 0) X dX1_give_234 (by decide) ?_
        obtain ⟨er, eg⟩ := Prod.mk.inj (Option.some.inj h)
        exact v_iret X dX1_give_235 er eg
      by_cases cv74 : x1 = 19
      · refine v_tableIn X 234 dX1_give_21 (by rw [cv74]; decide) (by rw [cv74]; decide) (by rw [cv74]; rfl) (by decide) ?_
        refine v_iconst (v := 0) X dX1_give_234 (by decide) ?_
        obtain ⟨er, eg⟩ := Prod.mk.inj (Option.some.inj h)
        exact v_iret X dX1_give_235 er eg
      have tv75 := tab_ne (k := 10) (n := 10) cv4 (by decide)
      have tv76 := tab_ne (k := 11) (n := 11) cv5 (by decide)
      have tv77 := tab_ne (k := 12) (n := 12) cv19 (by decide)
      have tv78 := tab_ne (k := 13) (n := 13) cv25 (by decide)
      have tv79 := tab_ne (k := 14) (n := 14) cv31 (by decide)
      have tv80 := tab_ne (k := 20) (n := 20) cv37 (by decide)
      have tv81 := tab_ne (k := 21) (n := 21) cv38 (by decide)
      have tv82 := tab_ne (k := 22) (n := 22) cv44 (by decide)
      have tv83 := tab_ne (k := 23) (n := 23) cv50 (by decide)
      have tv84 := tab_ne (k := 24) (n := 24) cv64 (by decide)
      have tv85 := tab_ne (k := 15) (n := 15) cv70 (by decide)
      have tv86 := tab_ne (k := 16) (n := 16) cv71 (by decide)
      have tv87 := tab_ne (k := 17) (n := 17) cv72 (by decide)
      have tv88 := tab_ne (k := 18) (n := 18) cv73 (by decide)
      have tv89 := tab_ne (k := 19) (n := 19) cv74 (by decide)
      refine v_tableOut X 234 dX1_give_21 (by omega) (by decide) ?_
      refine v_iconst (v := 0) X dX1_give_234 (by decide) ?_
      obtain ⟨er, eg⟩ := Prod.mk.inj (Option.some.inj h)
      exact v_iret X dX1_give_235 er eg
    · replace h := (if_neg cv1).symm.trans h
      refine v_iconst (v := 0) X dX1_give_7 (by decide) ?_
      obtain ⟨er, eg⟩ := Prod.mk.inj (Option.some.inj h)
      exact v_iret X dX1_give_8 er eg
def F_X1_begin (N : Nat) (x1 : Int32) (r2 : Nat) (i2 : Nat) (x3 : Int32) (g : GS) : Option (Int32 × GS) := bd2 (F_X1_give N 12 x1 r2 i2 x3 (0 : Int32) (g3 g 7 0 0 (0 : Int32))) (fun rv3 gv2 => some (rv3, gv2))
set_option maxRecDepth 100000 in
set_option maxHeartbeats 4000000 in
theorem c_X1_begin (l : Launch) (D : va_G) (ad : Ky → Nat) (cy : Nat → ClassId) (hI : Inj ad) (N : Nat) (x1 : Int32) (r2 : Nat) (i2 : Nat) (x3 : Int32) (g : GS) (r : Int32) (gq : GS) (hr2 : r2 < 28) (hi2 : i2 < 6) (h : F_X1_begin N x1 r2 i2 x3 g = some (r, gq)) : CtI l D ad cy yX1_begin cX1_begin 4 (some .int) 17 [.ref (ad (1, 0, 0)), .int x1, .ref (ad (3, r2, i2)), .int x3] g r gq := by
  refine CtI.of 0 hI (by decide +kernel) rfl (Nat.le_of_ble_eq_true rfl) (fun p e s m args below meth c X => ?_)
  unfold F_X1_begin at h
  show Vy _ _ _ _ _ _ _ _ _ _ _ _ _ _ _ 0 [some (.ref (ad (1, 0, 0))), some (.int x1), some (.ref (ad (3, r2, i2))), some (.int x3)] [] g
  refine v_aloadn X dX1_begin_0 rfl rfl ?_
  refine v_iconst (v := 0) X dX1_begin_1 (by decide) ?_
  refine pf_X1_15 X dX1_begin_2 ?_
  refine v_aloadn X dX1_begin_5 rfl rfl ?_
  refine v_iloadn X dX1_begin_6 rfl rfl ?_
  refine v_aloadn X dX1_begin_7 rfl rfl ?_
  refine v_iloadn X dX1_begin_8 rfl rfl ?_
  refine v_iconst (v := 0) X dX1_begin_9 (by decide) ?_
  obtain ⟨rv3, gv2, qv1, h⟩ := bd2_some h
  refine v_callVI (As := [.int x1, .ref (ad (3, r2, i2)), .int x3, .int (0 : Int32)]) (rest := []) X (c_X1_give l D ad cy X.2.2.2.2.2.2.2.2.1 N 12 x1 r2 i2 x3 (0 : Int32) (g3 g 7 0 0 (0 : Int32)) rv3 gv2 (by omega) (by omega) qv1) mw_X1_give ml_X1_20 (by decide) (by decide +kernel) (by decide) rfl rfl rfl rfl (Nat.le_of_ble_eq_true rfl) dX1_begin_10 ?_
  obtain ⟨er, eg⟩ := Prod.mk.inj (Option.some.inj h)
  exact v_iret X dX1_begin_13 er eg
def F_X1_traced (N : Nat) (x1 : Int32) (g : GS) : Option (Int32 × GS) := if x1 < 0 then some ((-1000000 : Int32), g) else if (g 7 0 0) ≤ x1 then some ((-1000000 : Int32), g) else if (16 : Int32) ≤ x1 then some ((-1000000 : Int32), g) else bd1 (ix x1 16) (fun jv4 => some ((g 8 0 jv4), g))
set_option maxRecDepth 100000 in
set_option maxHeartbeats 4000000 in
theorem c_X1_traced (l : Launch) (D : va_G) (ad : Ky → Nat) (cy : Nat → ClassId) (hI : Inj ad) (N : Nat) (x1 : Int32) (g : GS) (r : Int32) (gq : GS) (h : F_X1_traced N x1 g = some (r, gq)) : CtI l D ad cy yX1_traced cX1_traced 2 (some .int) 0 [.ref (ad (1, 0, 0)), .int x1] g r gq := by
  refine CtI.of 0 hI (by decide +kernel) rfl (Nat.le_of_ble_eq_true rfl) (fun p e s m args below meth c X => ?_)
  unfold F_X1_traced at h
  show Vy _ _ _ _ _ _ _ _ _ _ _ _ _ _ _ 0 [some (.ref (ad (1, 0, 0))), some (.int x1)] [] g
  refine v_iloadn X dX1_traced_0 rfl rfl ?_
  refine v_if_lt X 27 dX1_traced_1 (by decide) (fun cv1 => ?_) (fun cv1 => ?_)
  · replace h := (if_pos cv1).symm.trans h
    refine v_ldc X kc_X1_19 dX1_traced_27 ?_
    obtain ⟨er, eg⟩ := Prod.mk.inj (Option.some.inj h)
    exact v_iret X dX1_traced_29 er eg
  · replace h := (if_neg cv1).symm.trans h
    refine v_iloadn X dX1_traced_4 rfl rfl ?_
    refine v_aloadn X dX1_traced_5 rfl rfl ?_
    refine gf_X1_15 X dX1_traced_6 ?_
    refine v_icmp_ge X 27 dX1_traced_9 (by decide) (fun cv2 => ?_) (fun cv2 => ?_)
    · replace h := (if_pos cv2).symm.trans h
      refine v_ldc X kc_X1_19 dX1_traced_27 ?_
      obtain ⟨er, eg⟩ := Prod.mk.inj (Option.some.inj h)
      exact v_iret X dX1_traced_29 er eg
    · replace h := (if_neg cv2).symm.trans h
      refine v_iloadn X dX1_traced_12 rfl rfl ?_
      refine v_bipush (v := 16) X dX1_traced_13 (by decide) ?_
      refine v_icmp_ge X 27 dX1_traced_15 (by decide) (fun cv3 => ?_) (fun cv3 => ?_)
      · replace h := (if_pos cv3).symm.trans h
        refine v_ldc X kc_X1_19 dX1_traced_27 ?_
        obtain ⟨er, eg⟩ := Prod.mk.inj (Option.some.inj h)
        exact v_iret X dX1_traced_29 er eg
      · replace h := (if_neg cv3).symm.trans h
        refine v_aloadn X dX1_traced_18 rfl rfl ?_
        refine gf_X1_9 X dX1_traced_19 ?_
        refine v_iloadn X dX1_traced_22 rfl rfl ?_
        obtain ⟨jv4, qv5, h⟩ := bd1_some h
        obtain ⟨ejv4, ljv4⟩ := ix_spec qv5
        refine alB X jv4 ejv4 ljv4 dX1_traced_23 ?_
        refine v_goto X 29 dX1_traced_24 (by decide) ?_
        obtain ⟨er, eg⟩ := Prod.mk.inj (Option.some.inj h)
        exact v_iret X dX1_traced_29 er eg
