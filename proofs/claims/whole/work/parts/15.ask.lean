def F_X1_leave (N : Nat) (x1 : Int32) (g : GS) : Option GS := if (16 : Int32) ≤ (g 7 0 0) then some g else bd1 (ix (g 7 0 0) 16) (fun j2 => some (g3 (g3 g 8 0 j2 x1) 7 0 0 (((g3 g 8 0 j2 x1) 7 0 0) + (1 : Int32))))
set_option maxRecDepth 100000 in
set_option maxHeartbeats 4000000 in
theorem c_X1_leave (l : Launch) (D : va_G) (ad : Ky → Nat) (cy : Nat → ClassId) (hI : Inj ad) (N : Nat) (x1 : Int32) (g : GS) (gq : GS) (h : F_X1_leave N x1 g = some gq) : CtV l D ad cy yX1_leave cX1_leave 2 0 [.ref (ad (1, 0, 0)), .int x1] g gq := by
  refine CtV.of 0 hI (by decide +kernel) rfl (Nat.le_of_ble_eq_true rfl) (fun p e s m args below meth c X => ?_)
  unfold F_X1_leave at h
  show Vy _ _ _ _ _ _ _ _ _ _ _ _ _ _ _ 0 [some (.ref (ad (1, 0, 0))), some (.int x1)] [] g
  refine v_aloadn X dX1_leave_0 rfl rfl ?_
  refine gf_X1_15 X dX1_leave_1 ?_
  refine v_bipush (v := 16) X dX1_leave_4 (by decide) ?_
  refine v_icmp_ge X 29 dX1_leave_6 (by decide) (fun c1 => ?_) (fun c1 => ?_)
  · replace h := (if_pos c1).symm.trans h
    cases h
    exact v_vret X dX1_leave_29 rfl
  · replace h := (if_neg c1).symm.trans h
    refine v_aloadn X dX1_leave_9 rfl rfl ?_
    refine gf_X1_9 X dX1_leave_10 ?_
    refine v_aloadn X dX1_leave_13 rfl rfl ?_
    refine gf_X1_15 X dX1_leave_14 ?_
    refine v_iloadn X dX1_leave_17 rfl rfl ?_
    obtain ⟨j2, q3, h⟩ := bd1_some h
    obtain ⟨ej2, lj2⟩ := ix_spec q3
    refine asB X j2 ej2 lj2 dX1_leave_18 ?_
    refine v_aloadn X dX1_leave_19 rfl rfl ?_
    refine v_dup X dX1_leave_20 rfl ?_
    refine gf_X1_15 X dX1_leave_21 ?_
    refine v_iconst (v := 1) X dX1_leave_24 (by decide) ?_
    refine v_iadd X dX1_leave_25 ?_
    refine pf_X1_15 X dX1_leave_26 ?_
    cases h
    exact v_vret X dX1_leave_29 rfl
def F_X1_give (N : Nat) : Nat → Int32 → Nat → Nat → Int32 → Int32 → GS → Option (Int32 × GS)
  | 0, _, _, _, _, _, _ => none
  | f + 1, x1, r2, i2, x3, x4, g => if x4 ≤ (8 : Int32) then bd1 (F_X1_leave N x1 g) (fun g3 => if x1 = 10 then some ((g3 13 r2 (7 * i2 + 2)), g3) else if x1 = 11 then bd2 (F_X1_give N f (10 : Int32) r2 i2 x3 (x4 + (1 : Int32)) g3) (fun r10 g9 => bd2 (F_X3_markBody N r2 i2 g9) (fun r13 g12 => bd2 (F_X1_give N f r13 r2 i2 x3 (x4 + (1 : Int32)) g12) (fun r18 g17 => some ((r10 + r18), g17)))) else if x1 = 12 then bd2 (F_X1_give N f (11 : Int32) r2 i2 x3 (x4 + (1 : Int32)) g3) (fun r24 g23 => some ((-r24), g23)) else if x1 = 13 then bd2 (F_X1_give N f (10 : Int32) r2 i2 x3 (x4 + (1 : Int32)) g3) (fun r30 g29 => some ((r30 - (100 : Int32)), g29)) else if x1 = 14 then bd2 (F_X1_give N f (13 : Int32) r2 i2 x3 (x4 + (1 : Int32)) g3) (fun r36 g35 => some (((2 : Int32) * r36), g35)) else if x1 = 20 then some (x3, g3) else if x1 = 21 then bd2 (F_X1_give N f (20 : Int32) r2 i2 x3 (x4 + (1 : Int32)) g3) (fun r43 g42 => some ((r43 + (g42 13 r2 (7 * i2 + 4))), g42)) else if x1 = 22 then bd2 (F_X1_give N f (21 : Int32) r2 i2 x3 (x4 + (1 : Int32)) g3) (fun r49 g48 => some ((r49 - (1000 : Int32)), g48)) else if x1 = 23 then bd2 (F_X1_give N f (20 : Int32) r2 i2 x3 (x4 + (1 : Int32)) g3) (fun r55 g54 => bd2 (F_X3_sizeBody N r2 i2 g54) (fun r58 g57 => bd2 (F_X1_give N f r58 r2 i2 x3 (x4 + (1 : Int32)) g57) (fun r63 g62 => some ((r55 - r63), g62)))) else if x1 = 24 then bd2 (F_X1_give N f (21 : Int32) r2 i2 x3 (x4 + (1 : Int32)) g3) (fun r69 g68 => some (((2 : Int32) * r69), g68)) else some ((0 : Int32), g3)) else some ((0 : Int32), g)
set_option maxRecDepth 100000 in
set_option maxHeartbeats 4000000 in
theorem c_X1_give (l : Launch) (D : va_G) (ad : Ky → Nat) (cy : Nat → ClassId) (hI : Inj ad) (N : Nat) : ∀ (f : Nat) (x1 : Int32) (r2 : Nat) (i2 : Nat) (x3 : Int32) (x4 : Int32) (g : GS) (r : Int32) (gq : GS) (hr2 : r2 < 28) (hi2 : i2 < 6) (h : F_X1_give N f x1 r2 i2 x3 x4 g = some (r, gq)), CtI l D ad cy yX1_give cX1_give 6 (some .int) (3 + f) [.ref (ad (1, 0, 0)), .int x1, .ref (ad (3, r2, i2)), .int x3, .int x4] g r gq := by
  intro f
  induction f with
  | zero => intro x1 r2 i2 x3 x4 g r gq hr2 hi2 h; cases h
  | succ f ihf =>
    intro x1 r2 i2 x3 x4 g r gq hr2 hi2 h
    refine CtI.of 1 hI (by decide +kernel) rfl (Nat.le_of_ble_eq_true rfl) (fun p e s m args below meth c X => ?_)
    rw [F_X1_give] at h
    show Vy _ _ _ _ _ _ _ _ _ _ _ _ _ _ _ 0 [some (.ref (ad (1, 0, 0))), some (.int x1), some (.ref (ad (3, r2, i2))), some (.int x3), some (.int x4), none] [] g
    refine v_iload X dX1_give_0 rfl ?_
    refine v_bipush (v := 8) X dX1_give_2 (by decide) ?_
    refine v_icmp_le X 9 dX1_give_4 (by decide) (fun c1 => ?_) (fun c1 => ?_)
    · replace h := (if_pos c1).symm.trans h
      refine v_aloadn X dX1_give_9 rfl rfl ?_
      refine v_iloadn X dX1_give_10 rfl rfl ?_
      obtain ⟨g3, q2, h⟩ := bd1_some h
      refine v_callVV (As := [.int x1]) (rest := []) X (c_X1_leave l D ad cy X.2.2.2.2.2.2.2.2.1 N x1 g g3  q2) mw_X1_leave ml_X1_24 (by decide) (by decide +kernel) (by decide) rfl rfl rfl rfl (Nat.le_of_ble_eq_true rfl) dX1_give_11 ?_
      refine v_iload X dX1_give_14 rfl ?_
      refine v_iconst (v := 1) X dX1_give_16 (by decide) ?_
      refine v_iadd X dX1_give_17 ?_
      refine v_istore (lc' := [some (.ref (ad (1, 0, 0))), some (.int x1), some (.ref (ad (3, r2, i2))), some (.int x3), some (.int x4), some (.int (x4 + (1 : Int32)))]) X dX1_give_18 (by decide) rfl rfl ?_
      refine v_iloadn X dX1_give_20 rfl rfl ?_
      by_cases c4 : x1 = 10
      · replace h := (if_pos c4).symm.trans h
        refine v_tableIn X 96 dX1_give_21 (by rw [c4]; decide) (by rw [c4]; decide) (by rw [c4]; rfl) (by decide) ?_
        refine v_aloadn X dX1_give_96 rfl rfl ?_
        refine gf_X1_28 X (k_paper (by omega) (by omega)) dX1_give_97 ?_
        cases h
        exact v_iret X dX1_give_100 rfl rfl
      replace h := (if_neg c4).symm.trans h
      by_cases c5 : x1 = 11
      · replace h := (if_pos c5).symm.trans h
        refine v_tableIn X 101 dX1_give_21 (by rw [c5]; decide) (by rw [c5]; decide) (by rw [c5]; rfl) (by decide) ?_
        refine v_aloadn X dX1_give_101 rfl rfl ?_
        refine v_bipush (v := 10) X dX1_give_102 (by decide) ?_
        refine v_aloadn X dX1_give_104 rfl rfl ?_
        refine v_iloadn X dX1_give_105 rfl rfl ?_
        refine v_iload X dX1_give_106 rfl ?_
        obtain ⟨r10, g9, q8, h⟩ := bd2_some h
        refine v_callVI (As := [.int (10 : Int32), .ref (ad (3, r2, i2)), .int x3, .int (x4 + (1 : Int32))]) (rest := []) X (ihf (10 : Int32) r2 i2 x3 (x4 + (1 : Int32)) g3 r10 g9 (by omega) (by omega) q8) mw_X1_give ml_X1_20 (by omega) (by decide +kernel) (by decide) rfl rfl rfl rfl (Nat.le_of_ble_eq_true rfl) dX1_give_108 ?_
        refine v_aloadn X dX1_give_111 rfl rfl ?_
        refine v_aloadn X dX1_give_112 rfl rfl ?_
        obtain ⟨r13, g12, q11, h⟩ := bd2_some h
        refine v_callVI (As := []) (rest := [.ref (ad (1, 0, 0)), .int r10]) X (c_X3_markBody l D ad cy X.2.2.2.2.2.2.2.2.1 N r2 i2 g9 r13 g12 (by omega) (by omega) q11) mw_X3_markBody ml_X1_33 (by decide) (k_paper (by omega) (by omega)) (by decide) rfl rfl rfl rfl (Nat.le_of_ble_eq_true rfl) dX1_give_113 ?_
        refine v_aloadn X dX1_give_116 rfl rfl ?_
        refine v_iloadn X dX1_give_117 rfl rfl ?_
        refine v_iload X dX1_give_118 rfl ?_
        obtain ⟨r18, g17, q16, h⟩ := bd2_some h
        refine v_callVI (As := [.int r13, .ref (ad (3, r2, i2)), .int x3, .int (x4 + (1 : Int32))]) (rest := [.int r10]) X (ihf r13 r2 i2 x3 (x4 + (1 : Int32)) g12 r18 g17 (by omega) (by omega) q16) mw_X1_give ml_X1_20 (by omega) (by decide +kernel) (by decide) rfl rfl rfl rfl (Nat.le_of_ble_eq_true rfl) dX1_give_120 ?_
        refine v_iadd X dX1_give_123 ?_
        cases h
        exact v_iret X dX1_give_124 rfl rfl
      replace h := (if_neg c5).symm.trans h
      by_cases c19 : x1 = 12
      · replace h := (if_pos c19).symm.trans h
        refine v_tableIn X 125 dX1_give_21 (by rw [c19]; decide) (by rw [c19]; decide) (by rw [c19]; rfl) (by decide) ?_
        refine v_aloadn X dX1_give_125 rfl rfl ?_
        refine v_bipush (v := 11) X dX1_give_126 (by decide) ?_
        refine v_aloadn X dX1_give_128 rfl rfl ?_
        refine v_iloadn X dX1_give_129 rfl rfl ?_
        refine v_iload X dX1_give_130 rfl ?_
        obtain ⟨r24, g23, q22, h⟩ := bd2_some h
        refine v_callVI (As := [.int (11 : Int32), .ref (ad (3, r2, i2)), .int x3, .int (x4 + (1 : Int32))]) (rest := []) X (ihf (11 : Int32) r2 i2 x3 (x4 + (1 : Int32)) g3 r24 g23 (by omega) (by omega) q22) mw_X1_give ml_X1_20 (by omega) (by decide +kernel) (by decide) rfl rfl rfl rfl (Nat.le_of_ble_eq_true rfl) dX1_give_132 ?_
        refine v_ineg X dX1_give_135 ?_
        cases h
        exact v_iret X dX1_give_136 rfl rfl
      replace h := (if_neg c19).symm.trans h
      by_cases c25 : x1 = 13
      · replace h := (if_pos c25).symm.trans h
        refine v_tableIn X 137 dX1_give_21 (by rw [c25]; decide) (by rw [c25]; decide) (by rw [c25]; rfl) (by decide) ?_
        refine v_aloadn X dX1_give_137 rfl rfl ?_
        refine v_bipush (v := 10) X dX1_give_138 (by decide) ?_
        refine v_aloadn X dX1_give_140 rfl rfl ?_
        refine v_iloadn X dX1_give_141 rfl rfl ?_
        refine v_iload X dX1_give_142 rfl ?_
        obtain ⟨r30, g29, q28, h⟩ := bd2_some h
        refine v_callVI (As := [.int (10 : Int32), .ref (ad (3, r2, i2)), .int x3, .int (x4 + (1 : Int32))]) (rest := []) X (ihf (10 : Int32) r2 i2 x3 (x4 + (1 : Int32)) g3 r30 g29 (by omega) (by omega) q28) mw_X1_give ml_X1_20 (by omega) (by decide +kernel) (by decide) rfl rfl rfl rfl (Nat.le_of_ble_eq_true rfl) dX1_give_144 ?_
        refine v_bipush (v := 100) X dX1_give_147 (by decide) ?_
        refine v_isub X dX1_give_149 ?_
        cases h
        exact v_iret X dX1_give_150 rfl rfl
      replace h := (if_neg c25).symm.trans h
      by_cases c31 : x1 = 14
      · replace h := (if_pos c31).symm.trans h
        refine v_tableIn X 151 dX1_give_21 (by rw [c31]; decide) (by rw [c31]; decide) (by rw [c31]; rfl) (by decide) ?_
        refine v_iconst (v := 2) X dX1_give_151 (by decide) ?_
        refine v_aloadn X dX1_give_152 rfl rfl ?_
        refine v_bipush (v := 13) X dX1_give_153 (by decide) ?_
        refine v_aloadn X dX1_give_155 rfl rfl ?_
        refine v_iloadn X dX1_give_156 rfl rfl ?_
        refine v_iload X dX1_give_157 rfl ?_
        obtain ⟨r36, g35, q34, h⟩ := bd2_some h
        refine v_callVI (As := [.int (13 : Int32), .ref (ad (3, r2, i2)), .int x3, .int (x4 + (1 : Int32))]) (rest := [.int (2 : Int32)]) X (ihf (13 : Int32) r2 i2 x3 (x4 + (1 : Int32)) g3 r36 g35 (by omega) (by omega) q34) mw_X1_give ml_X1_20 (by omega) (by decide +kernel) (by decide) rfl rfl rfl rfl (Nat.le_of_ble_eq_true rfl) dX1_give_159 ?_
        refine v_imul X dX1_give_162 ?_
        cases h
        exact v_iret X dX1_give_163 rfl rfl
      replace h := (if_neg c31).symm.trans h
      by_cases c37 : x1 = 20
      · replace h := (if_pos c37).symm.trans h
        refine v_tableIn X 164 dX1_give_21 (by rw [c37]; decide) (by rw [c37]; decide) (by rw [c37]; rfl) (by decide) ?_
        refine v_iloadn X dX1_give_164 rfl rfl ?_
        cases h
        exact v_iret X dX1_give_165 rfl rfl
      replace h := (if_neg c37).symm.trans h
      by_cases c38 : x1 = 21
      · replace h := (if_pos c38).symm.trans h
        refine v_tableIn X 166 dX1_give_21 (by rw [c38]; decide) (by rw [c38]; decide) (by rw [c38]; rfl) (by decide) ?_
        refine v_aloadn X dX1_give_166 rfl rfl ?_
        refine v_bipush (v := 20) X dX1_give_167 (by decide) ?_
        refine v_aloadn X dX1_give_169 rfl rfl ?_
        refine v_iloadn X dX1_give_170 rfl rfl ?_
        refine v_iload X dX1_give_171 rfl ?_
        obtain ⟨r43, g42, q41, h⟩ := bd2_some h
        refine v_callVI (As := [.int (20 : Int32), .ref (ad (3, r2, i2)), .int x3, .int (x4 + (1 : Int32))]) (rest := []) X (ihf (20 : Int32) r2 i2 x3 (x4 + (1 : Int32)) g3 r43 g42 (by omega) (by omega) q41) mw_X1_give ml_X1_20 (by omega) (by decide +kernel) (by decide) rfl rfl rfl rfl (Nat.le_of_ble_eq_true rfl) dX1_give_173 ?_
        refine v_aloadn X dX1_give_176 rfl rfl ?_
        refine gf_X1_37 X (k_paper (by omega) (by omega)) dX1_give_177 ?_
        refine v_iadd X dX1_give_180 ?_
        cases h
        exact v_iret X dX1_give_181 rfl rfl
      replace h := (if_neg c38).symm.trans h
      by_cases c44 : x1 = 22
      · replace h := (if_pos c44).symm.trans h
        refine v_tableIn X 182 dX1_give_21 (by rw [c44]; decide) (by rw [c44]; decide) (by rw [c44]; rfl) (by decide) ?_
        refine v_aloadn X dX1_give_182 rfl rfl ?_
        refine v_bipush (v := 21) X dX1_give_183 (by decide) ?_
        refine v_aloadn X dX1_give_185 rfl rfl ?_
        refine v_iloadn X dX1_give_186 rfl rfl ?_
        refine v_iload X dX1_give_187 rfl ?_
        obtain ⟨r49, g48, q47, h⟩ := bd2_some h
        refine v_callVI (As := [.int (21 : Int32), .ref (ad (3, r2, i2)), .int x3, .int (x4 + (1 : Int32))]) (rest := []) X (ihf (21 : Int32) r2 i2 x3 (x4 + (1 : Int32)) g3 r49 g48 (by omega) (by omega) q47) mw_X1_give ml_X1_20 (by omega) (by decide +kernel) (by decide) rfl rfl rfl rfl (Nat.le_of_ble_eq_true rfl) dX1_give_189 ?_
        refine v_sipush (v := 1000) X dX1_give_192 (by decide) ?_
        refine v_isub X dX1_give_195 ?_
        cases h
        exact v_iret X dX1_give_196 rfl rfl
      replace h := (if_neg c44).symm.trans h
      by_cases c50 : x1 = 23
      · replace h := (if_pos c50).symm.trans h
        refine v_tableIn X 197 dX1_give_21 (by rw [c50]; decide) (by rw [c50]; decide) (by rw [c50]; rfl) (by decide) ?_
        refine v_aloadn X dX1_give_197 rfl rfl ?_
        refine v_bipush (v := 20) X dX1_give_198 (by decide) ?_
        refine v_aloadn X dX1_give_200 rfl rfl ?_
        refine v_iloadn X dX1_give_201 rfl rfl ?_
        refine v_iload X dX1_give_202 rfl ?_
        obtain ⟨r55, g54, q53, h⟩ := bd2_some h
        refine v_callVI (As := [.int (20 : Int32), .ref (ad (3, r2, i2)), .int x3, .int (x4 + (1 : Int32))]) (rest := []) X (ihf (20 : Int32) r2 i2 x3 (x4 + (1 : Int32)) g3 r55 g54 (by omega) (by omega) q53) mw_X1_give ml_X1_20 (by omega) (by decide +kernel) (by decide) rfl rfl rfl rfl (Nat.le_of_ble_eq_true rfl) dX1_give_204 ?_
        refine v_aloadn X dX1_give_207 rfl rfl ?_
        refine v_aloadn X dX1_give_208 rfl rfl ?_
        obtain ⟨r58, g57, q56, h⟩ := bd2_some h
        refine v_callVI (As := []) (rest := [.ref (ad (1, 0, 0)), .int r55]) X (c_X3_sizeBody l D ad cy X.2.2.2.2.2.2.2.2.1 N r2 i2 g54 r58 g57 (by omega) (by omega) q56) mw_X3_sizeBody ml_X1_40 (by decide) (k_paper (by omega) (by omega)) (by decide) rfl rfl rfl rfl (Nat.le_of_ble_eq_true rfl) dX1_give_209 ?_
        refine v_aloadn X dX1_give_212 rfl rfl ?_
        refine v_iloadn X dX1_give_213 rfl rfl ?_
        refine v_iload X dX1_give_214 rfl ?_
        obtain ⟨r63, g62, q61, h⟩ := bd2_some h
        refine v_callVI (As := [.int r58, .ref (ad (3, r2, i2)), .int x3, .int (x4 + (1 : Int32))]) (rest := [.int r55]) X (ihf r58 r2 i2 x3 (x4 + (1 : Int32)) g57 r63 g62 (by omega) (by omega) q61) mw_X1_give ml_X1_20 (by omega) (by decide +kernel) (by decide) rfl rfl rfl rfl (Nat.le_of_ble_eq_true rfl) dX1_give_216 ?_
        refine v_isub X dX1_give_219 ?_
        cases h
        exact v_iret X dX1_give_220 rfl rfl
      replace h := (if_neg c50).symm.trans h
      by_cases c64 : x1 = 24
      · replace h := (if_pos c64).symm.trans h
        refine v_tableIn X 221 dX1_give_21 (by rw [c64]; decide) (by rw [c64]; decide) (by rw [c64]; rfl) (by decide) ?_
        refine v_iconst (v := 2) X dX1_give_221 (by decide) ?_
        refine v_aloadn X dX1_give_222 rfl rfl ?_
        refine v_bipush (v := 21) X dX1_give_223 (by decide) ?_
        refine v_aloadn X dX1_give_225 rfl rfl ?_
        refine v_iloadn X dX1_give_226 rfl rfl ?_
        refine v_iload X dX1_give_227 rfl ?_
        obtain ⟨r69, g68, q67, h⟩ := bd2_some h
        refine v_callVI (As := [.int (21 : Int32), .ref (ad (3, r2, i2)), .int x3, .int (x4 + (1 : Int32))]) (rest := [.int (2 : Int32)]) X (ihf (21 : Int32) r2 i2 x3 (x4 + (1 : Int32)) g3 r69 g68 (by omega) (by omega) q67) mw_X1_give ml_X1_20 (by omega) (by decide +kernel) (by decide) rfl rfl rfl rfl (Nat.le_of_ble_eq_true rfl) dX1_give_229 ?_
        refine v_imul X dX1_give_232 ?_
        cases h
        exact v_iret X dX1_give_233 rfl rfl
      replace h := (if_neg c64).symm.trans h
      by_cases c70 : x1 = 15
      · refine v_tableIn X 234 dX1_give_21 (by rw [c70]; decide) (by rw [c70]; decide) (by rw [c70]; rfl) (by decide) ?_
        refine v_iconst (v := 0) X dX1_give_234 (by decide) ?_
        cases h
        exact v_iret X dX1_give_235 rfl rfl
      by_cases c71 : x1 = 16
      · refine v_tableIn X 234 dX1_give_21 (by rw [c71]; decide) (by rw [c71]; decide) (by rw [c71]; rfl) (by decide) ?_
        refine v_iconst (v := 0) X dX1_give_234 (by decide) ?_
        cases h
        exact v_iret X dX1_give_235 rfl rfl
      by_cases c72 : x1 = 17
      · refine v_tableIn X 234 dX1_give_21 (by rw [c72]; decide) (by rw [c72]; decide) (by rw [c72]; rfl) (by decide) ?_
        refine v_iconst (v := 0) X dX1_give_234 (by decide) ?_
        cases h
        exact v_iret X dX1_give_235 rfl rfl
      by_cases c73 : x1 = 18
      · refine v_tableIn X 234 dX1_give_21 (by rw [c73]; decide) (by rw [c73]; decide) (by rw [c73]; rfl) (by decide) ?_
        refine v_iconst (v := 0) X dX1_give_234 (by decide) ?_
        cases h
        exact v_iret X dX1_give_235 rfl rfl
      by_cases c74 : x1 = 19
      · refine v_tableIn X 234 dX1_give_21 (by rw [c74]; decide) (by rw [c74]; decide) (by rw [c74]; rfl) (by decide) ?_
        refine v_iconst (v := 0) X dX1_give_234 (by decide) ?_
        cases h
        exact v_iret X dX1_give_235 rfl rfl
      have t75 := tab_ne (k := 10) (n := 10) c4 (by decide)
      have t76 := tab_ne (k := 11) (n := 11) c5 (by decide)
      have t77 := tab_ne (k := 12) (n := 12) c19 (by decide)
      have t78 := tab_ne (k := 13) (n := 13) c25 (by decide)
      have t79 := tab_ne (k := 14) (n := 14) c31 (by decide)
      have t80 := tab_ne (k := 20) (n := 20) c37 (by decide)
      have t81 := tab_ne (k := 21) (n := 21) c38 (by decide)
      have t82 := tab_ne (k := 22) (n := 22) c44 (by decide)
      have t83 := tab_ne (k := 23) (n := 23) c50 (by decide)
      have t84 := tab_ne (k := 24) (n := 24) c64 (by decide)
      have t85 := tab_ne (k := 15) (n := 15) c70 (by decide)
      have t86 := tab_ne (k := 16) (n := 16) c71 (by decide)
      have t87 := tab_ne (k := 17) (n := 17) c72 (by decide)
      have t88 := tab_ne (k := 18) (n := 18) c73 (by decide)
      have t89 := tab_ne (k := 19) (n := 19) c74 (by decide)
      refine v_tableOut X 234 dX1_give_21 (by omega) (by decide) ?_
      refine v_iconst (v := 0) X dX1_give_234 (by decide) ?_
      cases h
      exact v_iret X dX1_give_235 rfl rfl
    · replace h := (if_neg c1).symm.trans h
      refine v_iconst (v := 0) X dX1_give_7 (by decide) ?_
      cases h
      exact v_iret X dX1_give_8 rfl rfl
def F_X1_begin (N : Nat) (x1 : Int32) (r2 : Nat) (i2 : Nat) (x3 : Int32) (g : GS) : Option (Int32 × GS) := bd2 (F_X1_give N 12 x1 r2 i2 x3 (0 : Int32) (g3 g 7 0 0 (0 : Int32))) (fun r3 g2 => some (r3, g2))
set_option maxRecDepth 100000 in
set_option maxHeartbeats 4000000 in
theorem c_X1_begin (l : Launch) (D : va_G) (ad : Ky → Nat) (cy : Nat → ClassId) (hI : Inj ad) (N : Nat) (x1 : Int32) (r2 : Nat) (i2 : Nat) (x3 : Int32) (g : GS) (r : Int32) (gq : GS) (hr2 : r2 < 28) (hi2 : i2 < 6) (h : F_X1_begin N x1 r2 i2 x3 g = some (r, gq)) : CtI l D ad cy yX1_begin cX1_begin 4 (some .int) 17 [.ref (ad (1, 0, 0)), .int x1, .ref (ad (3, r2, i2)), .int x3] g r gq := by
  refine CtI.of 0 hI (by decide +kernel) rfl (Nat.le_of_ble_eq_true rfl) (fun p e s m args below meth c X => ?_)
  unfold F_X1_begin at h
  show Vy _ _ _ _ _ _ _ _ _ _ _ _ _ _ _ 0 [some (.ref (ad (1, 0, 0))), some (.int x1), some (.ref (ad (3, r2, i2))), some (.int x3)] [] g
  refine v_aloadn X dX1_begin_0 rfl rfl ?_
  refine v_iconst (v := 0) X dX1_begin_1 (by decide) ?_
  refine pf_X1_15 X dX1_begin_2 ?_
  refine v_aloadn X dX1_begin_5 rfl rfl ?_
  refine v_iloadn X dX1_begin_6 rfl rfl ?_
  refine v_aloadn X dX1_begin_7 rfl rfl ?_
  refine v_iloadn X dX1_begin_8 rfl rfl ?_
  refine v_iconst (v := 0) X dX1_begin_9 (by decide) ?_
  obtain ⟨r3, g2, q1, h⟩ := bd2_some h
  refine v_callVI (As := [.int x1, .ref (ad (3, r2, i2)), .int x3, .int (0 : Int32)]) (rest := []) X (c_X1_give l D ad cy X.2.2.2.2.2.2.2.2.1 N 12 x1 r2 i2 x3 (0 : Int32) (g3 g 7 0 0 (0 : Int32)) r3 g2 (by omega) (by omega) q1) mw_X1_give ml_X1_20 (by decide) (by decide +kernel) (by decide) rfl rfl rfl rfl (Nat.le_of_ble_eq_true rfl) dX1_begin_10 ?_
  cases h
  exact v_iret X dX1_begin_13 rfl rfl
def F_X1_traced (N : Nat) (x1 : Int32) (g : GS) : Option (Int32 × GS) := if x1 < 0 then some ((-1000000 : Int32), g) else if (g 7 0 0) ≤ x1 then some ((-1000000 : Int32), g) else if (16 : Int32) ≤ x1 then some ((-1000000 : Int32), g) else bd1 (ix x1 16) (fun j4 => some ((g 8 0 j4), g))
set_option maxRecDepth 100000 in
set_option maxHeartbeats 4000000 in
theorem c_X1_traced (l : Launch) (D : va_G) (ad : Ky → Nat) (cy : Nat → ClassId) (hI : Inj ad) (N : Nat) (x1 : Int32) (g : GS) (r : Int32) (gq : GS) (h : F_X1_traced N x1 g = some (r, gq)) : CtI l D ad cy yX1_traced cX1_traced 2 (some .int) 0 [.ref (ad (1, 0, 0)), .int x1] g r gq := by
  refine CtI.of 0 hI (by decide +kernel) rfl (Nat.le_of_ble_eq_true rfl) (fun p e s m args below meth c X => ?_)
  unfold F_X1_traced at h
  show Vy _ _ _ _ _ _ _ _ _ _ _ _ _ _ _ 0 [some (.ref (ad (1, 0, 0))), some (.int x1)] [] g
  refine v_iloadn X dX1_traced_0 rfl rfl ?_
  refine v_if_lt X 27 dX1_traced_1 (by decide) (fun c1 => ?_) (fun c1 => ?_)
  · replace h := (if_pos c1).symm.trans h
    refine v_ldc X kc_X1_19 dX1_traced_27 ?_
    cases h
    exact v_iret X dX1_traced_29 rfl rfl
  · replace h := (if_neg c1).symm.trans h
    refine v_iloadn X dX1_traced_4 rfl rfl ?_
    refine v_aloadn X dX1_traced_5 rfl rfl ?_
    refine gf_X1_15 X dX1_traced_6 ?_
    refine v_icmp_ge X 27 dX1_traced_9 (by decide) (fun c2 => ?_) (fun c2 => ?_)
    · replace h := (if_pos c2).symm.trans h
      refine v_ldc X kc_X1_19 dX1_traced_27 ?_
      cases h
      exact v_iret X dX1_traced_29 rfl rfl
    · replace h := (if_neg c2).symm.trans h
      refine v_iloadn X dX1_traced_12 rfl rfl ?_
      refine v_bipush (v := 16) X dX1_traced_13 (by decide) ?_
      refine v_icmp_ge X 27 dX1_traced_15 (by decide) (fun c3 => ?_) (fun c3 => ?_)
      · replace h := (if_pos c3).symm.trans h
        refine v_ldc X kc_X1_19 dX1_traced_27 ?_
        cases h
        exact v_iret X dX1_traced_29 rfl rfl
      · replace h := (if_neg c3).symm.trans h
        refine v_aloadn X dX1_traced_18 rfl rfl ?_
        refine gf_X1_9 X dX1_traced_19 ?_
        refine v_iloadn X dX1_traced_22 rfl rfl ?_
        obtain ⟨j4, q5, h⟩ := bd1_some h
        obtain ⟨ej4, lj4⟩ := ix_spec q5
        refine alB X j4 ej4 lj4 dX1_traced_23 ?_
        refine v_goto X 29 dX1_traced_24 (by decide) ?_
        cases h
        exact v_iret X dX1_traced_29 rfl rfl
