/-! small methods of both -/
section
variable {g : Nat} {M S : Mem} {a : Row}
theorem RC.p3 (R : RC g M a) {p : Nat} (h : p < np a) : M g 3 p = zI (pa a p 0) := (R.rpen h).1
theorem RC.p4 (R : RC g M a) {p : Nat} (h : p < np a) : M g 4 p = zI (pa a p 1) := (R.rpen h).2.1
theorem RC.p5 (R : RC g M a) {p : Nat} (h : p < np a) : M g 5 p = zI (pa a p 5) := (R.rpen h).2.2.1
theorem RC.p6 (R : RC g M a) {p : Nat} (h : p < np a) : M g 6 p = zI (pa a p 2) := (R.rpen h).2.2.2.1
theorem RC.p7 (R : RC g M a) {p : Nat} (h : p < np a) : M g 7 p = zI (pa a p 3) := (R.rpen h).2.2.2.2.1
theorem RC.p8 (R : RC g M a) {p : Nat} (h : p < np a) : M g 8 p = zI (pa a p 4) := (R.rpen h).2.2.2.2.2.1
theorem RC.p9 (R : RC g M a) {p : Nat} (h : p < np a) : M g 9 p = zI (pa a p 6) := (R.rpen h).2.2.2.2.2.2
theorem RC.l11 (R : RC g M a) {l : Nat} (h : l < nl a) : M g 11 l = zI (la a l 0) := (R.rline h).1
theorem RC.l12 (R : RC g M a) {l : Nat} (h : l < nl a) : M g 12 l = zI (la a l 1) := (R.rline h).2.1
theorem RC.l13 (R : RC g M a) {l : Nat} (h : l < nl a) : M g 13 l = zI (la a l 2) := (R.rline h).2.2.1
theorem RC.l14 (R : RC g M a) {l : Nat} (h : l < nl a) : M g 14 l = zI (la a l 3) := (R.rline h).2.2.2.1
theorem RC.l15 (R : RC g M a) {l : Nat} (h : l < nl a) : M g 15 l = zI (len a l) := (R.rline h).2.2.2.2.1
theorem RC.l16 (R : RC g M a) {l : Nat} (h : l < nl a) : M g 16 l = tsI a l (nl a) := (R.rline h).2.2.2.2.2.1
theorem RC.l17 (R : RC g M a) {l : Nat} (h : l < nl a) : M g 17 l = zI (la a l 4) := (R.rline h).2.2.2.2.2.2
theorem RC.l18 (R : RC g M a) {l : Nat} (h : l < nl a) (hd : la a l 4 ≠ -1) : M g 18 l = zI (la a l 5) := (R.rdrawn h hd).1
theorem RC.l19 (R : RC g M a) {l : Nat} (h : l < nl a) (hd : la a l 4 ≠ -1) : M g 19 l = zI (la a l 6) := (R.rdrawn h hd).2
theorem RC.t3 (R : RC g M a) : M g 0 3 = zI (a 7) := R.rsc.1
theorem RC.t4 (R : RC g M a) : M g 0 4 = zI (a 8) := R.rsc.2.1
theorem RC.t5 (R : RC g M a) : M g 0 5 = zI (a 9) := R.rsc.2.2.1
theorem RC.t6 (R : RC g M a) : M g 0 6 = zI (a 10) := R.rsc.2.2.2.1
theorem RC.t7 (R : RC g M a) : M g 0 7 = zI (a 11) := R.rsc.2.2.2.2.1
theorem RC.t8 (R : RC g M a) : M g 0 8 = zI (a 12) := R.rsc.2.2.2.2.2
theorem sm_eq {P Q : Prop} (h : P ↔ Q) (M : Mem) : some (zI (bP P), M) = some (zI (bP Q), M) := by rw [bP_c h]
theorem sm_t {P : Prop} (h : P) (M : Mem) : some (zI 1, M) = some (zI (bP P), M) := by rw [bP_t h]
theorem sm_f {P : Prop} (h : ¬ P) (M : Mem) : some (zI 0, M) = some (zI (bP P), M) := by rw [bP_f h]
theorem sm_v {x y : Int} (h : x = y) (M : Mem) : some (zI x, M) = some (zI y, M) := by rw [h]
theorem k_isIn {x lo hi : Int} (h1 : -2147483648 ≤ x) (h2 : x < 2147483648) (h3 : -2147483648 ≤ lo) (h4 : lo < 2147483648) (h5 : -2147483648 ≤ hi) (h6 : hi < 2147483648) : f_X7_isIn (zI x) (zI lo) (zI hi) M = some (zI (bP (lo ≤ x ∧ x ≤ hi)), M) := by
  unfold f_X7_isIn f_X7_isIn_b14 f_X7_isIn_b15
  simp (disch := omega) only [zl_21, zl_22, zl_25, zl_40, zl_64, zl_150, zl_400, zl_1000000, zl_1065353216, zl_25214903, zl_2147483647, zl_32768, zl_1024, zl_0, zl_1, zl_2, zl_3, zl_4, zl_5, zl_6, zl_7, zl_8, zl_9, zl_10, zl_11, zl_12, zl_13, zl_14, zl_15, zl_16, zl_17, zl_18, zl_19, zl_20, zl_23, zl_24, zl_31, zl_32, zl_48, zl_50, zl_53, zl_57, zl_59, zl_60, zl_99, zl_100, zl_104, zl_112, zl_114, zl_119, zl_126, zl_127, zl_181, zl_200, zl_500, zl_543, zl_724, zl_999, zl_1000, zl_5000, zl_65536, zl_100000, zl_1000001, zl_1000002, zl_1000003, zl_1000004, zl_2143289344, zI_neg, zI_add, zI_sub, zI_mul, zI_le, zI_lt, zI_eq, ck_ib, ix_nat, ixz_0, ixz_1, ixz_2, ixz_3, ixz_4, ixz_5, ixz_6, ixz_7, ixz_8, ixz_9, ixz_10, ixz_11, ixz_12, ob_some, lt_of, ck_bP, bP_z, bP_o, ite_bP, Int.reduceToNat, Nat.reduceAdd, Nat.reduceMul, Int.reduceAdd, Int.reduceSub, Int.reduceMul, Int.reduceNeg, Int.reduceEq, Int.reduceLT, Int.reduceLE, ck_bl0, ck_bl1]
  (repeat' split) <;> first | exact sm_t (by omega) _ | exact sm_f (by omega) _
theorem k_asBit (P : Prop) : f_X7_asBit (zI (bP P)) M = some (zI (bP P), M) := by
  unfold f_X7_asBit f_X7_asBit_b9
  simp (disch := omega) only [zl_21, zl_22, zl_25, zl_40, zl_64, zl_150, zl_400, zl_1000000, zl_1065353216, zl_25214903, zl_2147483647, zl_32768, zl_1024, zl_0, zl_1, zl_2, zl_3, zl_4, zl_5, zl_6, zl_7, zl_8, zl_9, zl_10, zl_11, zl_12, zl_13, zl_14, zl_15, zl_16, zl_17, zl_18, zl_19, zl_20, zl_23, zl_24, zl_31, zl_32, zl_48, zl_50, zl_53, zl_57, zl_59, zl_60, zl_99, zl_100, zl_104, zl_112, zl_114, zl_119, zl_126, zl_127, zl_181, zl_200, zl_500, zl_543, zl_724, zl_999, zl_1000, zl_5000, zl_65536, zl_100000, zl_1000001, zl_1000002, zl_1000003, zl_1000004, zl_2143289344, zI_neg, zI_add, zI_sub, zI_mul, zI_le, zI_lt, zI_eq, ck_ib, ix_nat, ixz_0, ixz_1, ixz_2, ixz_3, ixz_4, ixz_5, ixz_6, ixz_7, ixz_8, ixz_9, ixz_10, ixz_11, ixz_12, ob_some, lt_of, ck_bP, bP_z, bP_o, ite_bP, Int.reduceToNat, Nat.reduceAdd, Nat.reduceMul, Int.reduceAdd, Int.reduceSub, Int.reduceMul, Int.reduceNeg, Int.reduceEq, Int.reduceLT, Int.reduceLE]
  split
  · exact sm_t (by assumption) _
  · exact sm_f (by assumption) _
theorem k_X4_has (W : WF a) (R : RC g M a) {z : Int} (h1 : -2147483648 ≤ z) (h2 : z < 2147483648) : f_X4_has g (zI z) M = some (zI (bP (0 ≤ z ∧ z < np a)), M) := by
  have w := W.sc
  unfold f_X4_has
  simp (disch := omega) only [zl_21, zl_22, zl_25, zl_40, zl_64, zl_150, zl_400, zl_1000000, zl_1065353216, zl_25214903, zl_2147483647, zl_32768, zl_1024, zl_0, zl_1, zl_2, zl_3, zl_4, zl_5, zl_6, zl_7, zl_8, zl_9, zl_10, zl_11, zl_12, zl_13, zl_14, zl_15, zl_16, zl_17, zl_18, zl_19, zl_20, zl_23, zl_24, zl_31, zl_32, zl_48, zl_50, zl_53, zl_57, zl_59, zl_60, zl_99, zl_100, zl_104, zl_112, zl_114, zl_119, zl_126, zl_127, zl_181, zl_200, zl_500, zl_543, zl_724, zl_999, zl_1000, zl_5000, zl_65536, zl_100000, zl_1000001, zl_1000002, zl_1000003, zl_1000004, zl_2143289344, zI_neg, zI_add, zI_sub, zI_mul, zI_le, zI_lt, zI_eq, ck_ib, ix_nat, ixz_0, ixz_1, ixz_2, ixz_3, ixz_4, ixz_5, ixz_6, ixz_7, ixz_8, ixz_9, ixz_10, ixz_11, ixz_12, ob_some, lt_of, ck_bP, bP_z, bP_o, ite_bP, Int.reduceToNat, Nat.reduceAdd, Nat.reduceMul, Int.reduceAdd, Int.reduceSub, Int.reduceMul, Int.reduceNeg, Int.reduceEq, Int.reduceLT, Int.reduceLE, R.rnp, k_isIn]
  exact sm_eq (by omega) _
theorem k_X2_has (W : WF a) (R : RC g M a) {z : Int} (h1 : -2147483648 ≤ z) (h2 : z < 2147483648) : f_X2_has g (zI z) M = some (zI (bP (0 ≤ z ∧ z < nl a)), M) := by
  have w := W.sc
  unfold f_X2_has
  simp (disch := omega) only [zl_21, zl_22, zl_25, zl_40, zl_64, zl_150, zl_400, zl_1000000, zl_1065353216, zl_25214903, zl_2147483647, zl_32768, zl_1024, zl_0, zl_1, zl_2, zl_3, zl_4, zl_5, zl_6, zl_7, zl_8, zl_9, zl_10, zl_11, zl_12, zl_13, zl_14, zl_15, zl_16, zl_17, zl_18, zl_19, zl_20, zl_23, zl_24, zl_31, zl_32, zl_48, zl_50, zl_53, zl_57, zl_59, zl_60, zl_99, zl_100, zl_104, zl_112, zl_114, zl_119, zl_126, zl_127, zl_181, zl_200, zl_500, zl_543, zl_724, zl_999, zl_1000, zl_5000, zl_65536, zl_100000, zl_1000001, zl_1000002, zl_1000003, zl_1000004, zl_2143289344, zI_neg, zI_add, zI_sub, zI_mul, zI_le, zI_lt, zI_eq, ck_ib, ix_nat, ixz_0, ixz_1, ixz_2, ixz_3, ixz_4, ixz_5, ixz_6, ixz_7, ixz_8, ixz_9, ixz_10, ixz_11, ixz_12, ob_some, lt_of, ck_bP, bP_z, bP_o, ite_bP, Int.reduceToNat, Nat.reduceAdd, Nat.reduceMul, Int.reduceAdd, Int.reduceSub, Int.reduceMul, Int.reduceNeg, Int.reduceEq, Int.reduceLT, Int.reduceLE, R.rnl, k_isIn]
  exact sm_eq (by omega) _
theorem k_X2_isDrawn (W : WF a) (R : RC g M a) {l : Nat} (h : l < nl a) : f_X2_isDrawn g (zI l) M = some (zI (bP (la a l 4 ≠ -1)), M) := by
  have w := W.sc
  have v := W.line h
  unfold f_X2_isDrawn f_X2_isDrawn_b15
  simp (disch := omega) only [zl_21, zl_22, zl_25, zl_40, zl_64, zl_150, zl_400, zl_1000000, zl_1065353216, zl_25214903, zl_2147483647, zl_32768, zl_1024, zl_0, zl_1, zl_2, zl_3, zl_4, zl_5, zl_6, zl_7, zl_8, zl_9, zl_10, zl_11, zl_12, zl_13, zl_14, zl_15, zl_16, zl_17, zl_18, zl_19, zl_20, zl_23, zl_24, zl_31, zl_32, zl_48, zl_50, zl_53, zl_57, zl_59, zl_60, zl_99, zl_100, zl_104, zl_112, zl_114, zl_119, zl_126, zl_127, zl_181, zl_200, zl_500, zl_543, zl_724, zl_999, zl_1000, zl_5000, zl_65536, zl_100000, zl_1000001, zl_1000002, zl_1000003, zl_1000004, zl_2143289344, zI_neg, zI_add, zI_sub, zI_mul, zI_le, zI_lt, zI_eq, ck_ib, ix_nat, ixz_0, ixz_1, ixz_2, ixz_3, ixz_4, ixz_5, ixz_6, ixz_7, ixz_8, ixz_9, ixz_10, ixz_11, ixz_12, ob_some, lt_of, ck_bP, bP_z, bP_o, ite_bP, Int.reduceToNat, Nat.reduceAdd, Nat.reduceMul, Int.reduceAdd, Int.reduceSub, Int.reduceMul, Int.reduceNeg, Int.reduceEq, Int.reduceLT, Int.reduceLE, R.l17, ck_bl0, ck_bl1]
  (repeat' split) <;> first | exact sm_t (by omega) _ | exact sm_f (by omega) _
theorem k_X2_drt (W : WF a) (R : RC g M a) {l : Nat} (h : l < nl a) (hd : la a l 4 ≠ -1) : f_X2_isDrawn g (zI l) M = some (zI 1, M) := by rw [k_X2_isDrawn W R h, bP_t hd]
theorem k_X2_drf (W : WF a) (R : RC g M a) {l : Nat} (h : l < nl a) (hd : la a l 4 = -1) : f_X2_isDrawn g (zI l) M = some (zI 0, M) := by rw [k_X2_isDrawn W R h, bP_f (fun q => q hd)]
theorem k_X4_isAway (W : WF a) (R : RC g M a) {p : Nat} (h : p < np a) : f_X4_isAway g (zI p) M = some (zI (bP (pa a p 6 = 1)), M) := by
  have w := W.sc
  have v := W.pen h
  unfold f_X4_isAway f_X4_isAway_b15
  simp (disch := omega) only [zl_21, zl_22, zl_25, zl_40, zl_64, zl_150, zl_400, zl_1000000, zl_1065353216, zl_25214903, zl_2147483647, zl_32768, zl_1024, zl_0, zl_1, zl_2, zl_3, zl_4, zl_5, zl_6, zl_7, zl_8, zl_9, zl_10, zl_11, zl_12, zl_13, zl_14, zl_15, zl_16, zl_17, zl_18, zl_19, zl_20, zl_23, zl_24, zl_31, zl_32, zl_48, zl_50, zl_53, zl_57, zl_59, zl_60, zl_99, zl_100, zl_104, zl_112, zl_114, zl_119, zl_126, zl_127, zl_181, zl_200, zl_500, zl_543, zl_724, zl_999, zl_1000, zl_5000, zl_65536, zl_100000, zl_1000001, zl_1000002, zl_1000003, zl_1000004, zl_2143289344, zI_neg, zI_add, zI_sub, zI_mul, zI_le, zI_lt, zI_eq, ck_ib, ix_nat, ixz_0, ixz_1, ixz_2, ixz_3, ixz_4, ixz_5, ixz_6, ixz_7, ixz_8, ixz_9, ixz_10, ixz_11, ixz_12, ob_some, lt_of, ck_bP, bP_z, bP_o, ite_bP, Int.reduceToNat, Nat.reduceAdd, Nat.reduceMul, Int.reduceAdd, Int.reduceSub, Int.reduceMul, Int.reduceNeg, Int.reduceEq, Int.reduceLT, Int.reduceLE, R.p9, ck_bl0, ck_bl1]
  (repeat' split) <;> first | exact sm_t (by omega) _ | exact sm_f (by omega) _
theorem k_isClogged (W : WF a) (R : RC g M a) {p : Nat} (h : p < np a) : f_X5_isClogged g (zI p) M = some (zI (bP (a 3 < pa a p 4)), M) := by
  have w := W.sc
  have v := W.pen h
  unfold f_X5_isClogged f_X5_isClogged_b23
  simp (disch := omega) only [zl_21, zl_22, zl_25, zl_40, zl_64, zl_150, zl_400, zl_1000000, zl_1065353216, zl_25214903, zl_2147483647, zl_32768, zl_1024, zl_0, zl_1, zl_2, zl_3, zl_4, zl_5, zl_6, zl_7, zl_8, zl_9, zl_10, zl_11, zl_12, zl_13, zl_14, zl_15, zl_16, zl_17, zl_18, zl_19, zl_20, zl_23, zl_24, zl_31, zl_32, zl_48, zl_50, zl_53, zl_57, zl_59, zl_60, zl_99, zl_100, zl_104, zl_112, zl_114, zl_119, zl_126, zl_127, zl_181, zl_200, zl_500, zl_543, zl_724, zl_999, zl_1000, zl_5000, zl_65536, zl_100000, zl_1000001, zl_1000002, zl_1000003, zl_1000004, zl_2143289344, zI_neg, zI_add, zI_sub, zI_mul, zI_le, zI_lt, zI_eq, ck_ib, ix_nat, ixz_0, ixz_1, ixz_2, ixz_3, ixz_4, ixz_5, ixz_6, ixz_7, ixz_8, ixz_9, ixz_10, ixz_11, ixz_12, ob_some, lt_of, ck_bP, bP_z, bP_o, ite_bP, Int.reduceToNat, Nat.reduceAdd, Nat.reduceMul, Int.reduceAdd, Int.reduceSub, Int.reduceMul, Int.reduceNeg, Int.reduceEq, Int.reduceLT, Int.reduceLE, R.p8, R.rset, Nat.reduceAdd, ck_bl0, ck_bl1]
  (repeat' split) <;> first | exact sm_t (by omega) _ | exact sm_f (by omega) _
theorem k_X5_isWet (W : WF a) (R : RC g M a) {l : Nat} (h : l < nl a) : f_X5_isWet g (zI l) M = some (zI (bP (la a l 4 ≠ -1 ∧ a 7 < la a l 6)), M) := by
  have w := W.sc
  have v := W.line h
  unfold f_X5_isWet f_X5_isWet_b31 f_X5_isWet_b32
  simp (disch := omega) only [zl_21, zl_22, zl_25, zl_40, zl_64, zl_150, zl_400, zl_1000000, zl_1065353216, zl_25214903, zl_2147483647, zl_32768, zl_1024, zl_0, zl_1, zl_2, zl_3, zl_4, zl_5, zl_6, zl_7, zl_8, zl_9, zl_10, zl_11, zl_12, zl_13, zl_14, zl_15, zl_16, zl_17, zl_18, zl_19, zl_20, zl_23, zl_24, zl_31, zl_32, zl_48, zl_50, zl_53, zl_57, zl_59, zl_60, zl_99, zl_100, zl_104, zl_112, zl_114, zl_119, zl_126, zl_127, zl_181, zl_200, zl_500, zl_543, zl_724, zl_999, zl_1000, zl_5000, zl_65536, zl_100000, zl_1000001, zl_1000002, zl_1000003, zl_1000004, zl_2143289344, zI_neg, zI_add, zI_sub, zI_mul, zI_le, zI_lt, zI_eq, ck_ib, ix_nat, ixz_0, ixz_1, ixz_2, ixz_3, ixz_4, ixz_5, ixz_6, ixz_7, ixz_8, ixz_9, ixz_10, ixz_11, ixz_12, ob_some, lt_of, ck_bP, bP_z, bP_o, ite_bP, Int.reduceToNat, Nat.reduceAdd, Nat.reduceMul, Int.reduceAdd, Int.reduceSub, Int.reduceMul, Int.reduceNeg, Int.reduceEq, Int.reduceLT, Int.reduceLE, k_X2_isDrawn W R h]
  by_cases hd : la a l 4 ≠ -1
  · have u := W.drawn h hd
    rw [if_neg (by omega)]
    simp (disch := omega) only [zl_21, zl_22, zl_25, zl_40, zl_64, zl_150, zl_400, zl_1000000, zl_1065353216, zl_25214903, zl_2147483647, zl_32768, zl_1024, zl_0, zl_1, zl_2, zl_3, zl_4, zl_5, zl_6, zl_7, zl_8, zl_9, zl_10, zl_11, zl_12, zl_13, zl_14, zl_15, zl_16, zl_17, zl_18, zl_19, zl_20, zl_23, zl_24, zl_31, zl_32, zl_48, zl_50, zl_53, zl_57, zl_59, zl_60, zl_99, zl_100, zl_104, zl_112, zl_114, zl_119, zl_126, zl_127, zl_181, zl_200, zl_500, zl_543, zl_724, zl_999, zl_1000, zl_5000, zl_65536, zl_100000, zl_1000001, zl_1000002, zl_1000003, zl_1000004, zl_2143289344, zI_neg, zI_add, zI_sub, zI_mul, zI_le, zI_lt, zI_eq, ck_ib, ix_nat, ixz_0, ixz_1, ixz_2, ixz_3, ixz_4, ixz_5, ixz_6, ixz_7, ixz_8, ixz_9, ixz_10, ixz_11, ixz_12, ob_some, lt_of, ck_bP, bP_z, bP_o, ite_bP, Int.reduceToNat, Nat.reduceAdd, Nat.reduceMul, Int.reduceAdd, Int.reduceSub, Int.reduceMul, Int.reduceNeg, Int.reduceEq, Int.reduceLT, Int.reduceLE, R.l19 h hd, R.t3, ck_bl0, ck_bl1]
    (repeat' split) <;> first | exact sm_t (by omega) _ | exact sm_f (by omega) _
  · rw [if_pos (by omega)]
    simp (disch := omega) only [zl_21, zl_22, zl_25, zl_40, zl_64, zl_150, zl_400, zl_1000000, zl_1065353216, zl_25214903, zl_2147483647, zl_32768, zl_1024, zl_0, zl_1, zl_2, zl_3, zl_4, zl_5, zl_6, zl_7, zl_8, zl_9, zl_10, zl_11, zl_12, zl_13, zl_14, zl_15, zl_16, zl_17, zl_18, zl_19, zl_20, zl_23, zl_24, zl_31, zl_32, zl_48, zl_50, zl_53, zl_57, zl_59, zl_60, zl_99, zl_100, zl_104, zl_112, zl_114, zl_119, zl_126, zl_127, zl_181, zl_200, zl_500, zl_543, zl_724, zl_999, zl_1000, zl_5000, zl_65536, zl_100000, zl_1000001, zl_1000002, zl_1000003, zl_1000004, zl_2143289344, zI_neg, zI_add, zI_sub, zI_mul, zI_le, zI_lt, zI_eq, ck_ib, ix_nat, ixz_0, ixz_1, ixz_2, ixz_3, ixz_4, ixz_5, ixz_6, ixz_7, ixz_8, ixz_9, ixz_10, ixz_11, ixz_12, ob_some, lt_of, ck_bP, bP_z, bP_o, ite_bP, Int.reduceToNat, Nat.reduceAdd, Nat.reduceMul, Int.reduceAdd, Int.reduceSub, Int.reduceMul, Int.reduceNeg, Int.reduceEq, Int.reduceLT, Int.reduceLE, ck_bl0, ck_bl1]
    exact sm_f (by omega) _
/-- the end of a line where one begins it this way -/
def bX (a : Row) (l : Nat) (w : Int) : Int := if w = 0 then la a l 0 else la a l 2
def bY (a : Row) (l : Nat) (w : Int) : Int := if w = 0 then la a l 1 else la a l 3
theorem bX_rg (W : WF a) {l : Nat} (h : l < nl a) (w : Int) : 0 ≤ bX a l w ∧ bX a l w ≤ 99 := by
  have v := W.line h
  unfold bX
  split <;> omega
theorem bY_rg (W : WF a) {l : Nat} (h : l < nl a) (w : Int) : 0 ≤ bY a l w ∧ bY a l w ≤ 99 := by
  have v := W.line h
  unfold bY
  split <;> omega
theorem dst_rg {x y x2 y2 : Int} (h1 : 0 ≤ x ∧ x ≤ 99) (h2 : 0 ≤ y ∧ y ≤ 99) (h3 : 0 ≤ x2 ∧ x2 ≤ 99) (h4 : 0 ≤ y2 ∧ y2 ≤ 99) : 0 ≤ dst x y x2 y2 ∧ dst x y x2 y2 ≤ 99 := by
  unfold dst
  omega
theorem k_distance {x y x2 y2 : Int} (h1 : 0 ≤ x ∧ x ≤ 99) (h2 : 0 ≤ y ∧ y ≤ 99) (h3 : 0 ≤ x2 ∧ x2 ≤ 99) (h4 : 0 ≤ y2 ∧ y2 ≤ 99) : f_X7_distance (zI x) (zI y) (zI x2) (zI y2) M = some (zI (dst x y x2 y2), M) := by
  unfold f_X7_distance
  rw [zI_sub, zI_sub, ab_zI (by omega) (by omega), ab_zI (by omega) (by omega), mx_zI (by omega) (by omega) (by omega) (by omega)]
  rfl
theorem k_beginX (R : RC g M a) {l : Nat} (h : l < nl a) (hl : l < 16) {w : Int} (h0 : 0 ≤ w) (h2 : w ≤ 1) : f_X2_beginX g (zI l) (zI w) M = some (zI (bX a l w), M) := by
  unfold f_X2_beginX f_X2_beginX_b19 bX
  simp (disch := omega) only [zl_21, zl_22, zl_25, zl_40, zl_64, zl_150, zl_400, zl_1000000, zl_1065353216, zl_25214903, zl_2147483647, zl_32768, zl_1024, zl_0, zl_1, zl_2, zl_3, zl_4, zl_5, zl_6, zl_7, zl_8, zl_9, zl_10, zl_11, zl_12, zl_13, zl_14, zl_15, zl_16, zl_17, zl_18, zl_19, zl_20, zl_23, zl_24, zl_31, zl_32, zl_48, zl_50, zl_53, zl_57, zl_59, zl_60, zl_99, zl_100, zl_104, zl_112, zl_114, zl_119, zl_126, zl_127, zl_181, zl_200, zl_500, zl_543, zl_724, zl_999, zl_1000, zl_5000, zl_65536, zl_100000, zl_1000001, zl_1000002, zl_1000003, zl_1000004, zl_2143289344, zI_neg, zI_add, zI_sub, zI_mul, zI_le, zI_lt, zI_eq, ck_ib, ix_nat, ixz_0, ixz_1, ixz_2, ixz_3, ixz_4, ixz_5, ixz_6, ixz_7, ixz_8, ixz_9, ixz_10, ixz_11, ixz_12, ob_some, lt_of, ck_bP, bP_z, bP_o, ite_bP, Int.reduceToNat, Nat.reduceAdd, Nat.reduceMul, Int.reduceAdd, Int.reduceSub, Int.reduceMul, Int.reduceNeg, Int.reduceEq, Int.reduceLT, Int.reduceLE, R.l11 h, R.l13 h]
  split <;> rfl
theorem k_beginY (R : RC g M a) {l : Nat} (h : l < nl a) (hl : l < 16) {w : Int} (h0 : 0 ≤ w) (h2 : w ≤ 1) : f_X2_beginY g (zI l) (zI w) M = some (zI (bY a l w), M) := by
  unfold f_X2_beginY f_X2_beginY_b19 bY
  simp (disch := omega) only [zl_21, zl_22, zl_25, zl_40, zl_64, zl_150, zl_400, zl_1000000, zl_1065353216, zl_25214903, zl_2147483647, zl_32768, zl_1024, zl_0, zl_1, zl_2, zl_3, zl_4, zl_5, zl_6, zl_7, zl_8, zl_9, zl_10, zl_11, zl_12, zl_13, zl_14, zl_15, zl_16, zl_17, zl_18, zl_19, zl_20, zl_23, zl_24, zl_31, zl_32, zl_48, zl_50, zl_53, zl_57, zl_59, zl_60, zl_99, zl_100, zl_104, zl_112, zl_114, zl_119, zl_126, zl_127, zl_181, zl_200, zl_500, zl_543, zl_724, zl_999, zl_1000, zl_5000, zl_65536, zl_100000, zl_1000001, zl_1000002, zl_1000003, zl_1000004, zl_2143289344, zI_neg, zI_add, zI_sub, zI_mul, zI_le, zI_lt, zI_eq, ck_ib, ix_nat, ixz_0, ixz_1, ixz_2, ixz_3, ixz_4, ixz_5, ixz_6, ixz_7, ixz_8, ixz_9, ixz_10, ixz_11, ixz_12, ob_some, lt_of, ck_bP, bP_z, bP_o, ite_bP, Int.reduceToNat, Nat.reduceAdd, Nat.reduceMul, Int.reduceAdd, Int.reduceSub, Int.reduceMul, Int.reduceNeg, Int.reduceEq, Int.reduceLT, Int.reduceLE, R.l12 h, R.l14 h]
  split <;> rfl
theorem k_X5_travelTo (W : WF a) (R : RC g M a) {l : Nat} (h : l < nl a) {w : Int} (h0 : 0 ≤ w) (h2 : w ≤ 1) : f_X5_travelTo g (zI l) (zI w) M = some (zI (dst (a 9) (a 10) (bX a l w) (bY a l w)), M) := by
  have v := W.sc
  unfold f_X5_travelTo
  rw [ob_of (k_beginX R h (by omega) h0 h2), ob_of (k_beginY R h (by omega) h0 h2), R.t5, R.t6, ob_of (k_distance (by omega) (by omega) (bX_rg W h w) (bY_rg W h w))]
/-- what ink a line takes of a pen -/
def ik (a : Row) (p l : Nat) : Int := if pa a p 0 = 1 then 2 * len a l else len a l
theorem ik_rg (W : WF a) {p l : Nat} (h : l < nl a) : 1 ≤ ik a p l ∧ ik a p l ≤ 198 := by
  have v := W.line h
  unfold ik
  split <;> omega
theorem k_inkFor (W : WF a) (R : RC g M a) {p l : Nat} (hp : p < np a) (h : l < nl a) : f_X5_inkFor g (zI p) (zI l) M = some (zI (ik a p l), M) := by
  have v := W.sc
  have u := W.pen hp
  unfold f_X5_inkFor f_X5_inkFor_b36 ik
  simp (disch := omega) only [zl_21, zl_22, zl_25, zl_40, zl_64, zl_150, zl_400, zl_1000000, zl_1065353216, zl_25214903, zl_2147483647, zl_32768, zl_1024, zl_0, zl_1, zl_2, zl_3, zl_4, zl_5, zl_6, zl_7, zl_8, zl_9, zl_10, zl_11, zl_12, zl_13, zl_14, zl_15, zl_16, zl_17, zl_18, zl_19, zl_20, zl_23, zl_24, zl_31, zl_32, zl_48, zl_50, zl_53, zl_57, zl_59, zl_60, zl_99, zl_100, zl_104, zl_112, zl_114, zl_119, zl_126, zl_127, zl_181, zl_200, zl_500, zl_543, zl_724, zl_999, zl_1000, zl_5000, zl_65536, zl_100000, zl_1000001, zl_1000002, zl_1000003, zl_1000004, zl_2143289344, zI_neg, zI_add, zI_sub, zI_mul, zI_le, zI_lt, zI_eq, ck_ib, ix_nat, ixz_0, ixz_1, ixz_2, ixz_3, ixz_4, ixz_5, ixz_6, ixz_7, ixz_8, ixz_9, ixz_10, ixz_11, ixz_12, ob_some, lt_of, ck_bP, bP_z, bP_o, ite_bP, Int.reduceToNat, Nat.reduceAdd, Nat.reduceMul, Int.reduceAdd, Int.reduceSub, Int.reduceMul, Int.reduceNeg, Int.reduceEq, Int.reduceLT, Int.reduceLE, R.p3, R.l15]
  split <;> rfl
end
