/-! more changes: erase, refill, leave, set, undo, type, clearText -/
section
variable {g : Nat} {M N S : Mem} {a b : Row}
theorem WF.e17 (W : WF a) {l : Nat} (hl : l < nl a) : WF (uz a (53 + 8 * l + 4) (-1)) := by
  have ws := W.sc
  refine W.g1 (uz_ne _ _ (by omega)) (uz_ne _ _ (by omega)) ?_ ?_ ?_ ?_ ?_
  · have q := W.scw
    unfold ScWf at q
    unfold ScWf
    simp (disch := omega) only [uz_ne]
    exact q
  · intro p hp
    have q := W.penw hp
    unfold PenWf at q
    unfold PenWf
    rw [uz_ne a (-1) (show 7 ≠ 53 + 8 * l + 4 by omega)]
    simp (disch := omega) only [pa_ln]
    exact q
  · intro o ho w hw
    rw [la_ln _ (by omega) (by omega), if_neg (by omega)]
  · intro o ho
    have v := W.line ho
    rw [la_ln _ (by omega) (by omega)]
    split <;> omega
  · intro o ho hd
    rw [la_ln _ (by omega) (by omega)] at hd
    have c : o ≠ l := fun t => hd (if_pos ⟨t, rfl⟩)
    rw [if_neg (fun t => c t.1)] at hd
    rw [la_ln _ (by omega) (by omega), la_ln _ (by omega) (by omega), la_ln _ (by omega) (by omega), if_neg (by omega), if_neg (by omega), if_neg (fun t => c t.1)]
    exact ⟨W.drawn ho hd, W.shade ho hd⟩
theorem ch_erase {ns : Nat} (I : INV ns M S) (x : Int32) : CH (f_X7_erase ns x M) (f_X8_erase x S) := by
  have I0 := I
  obtain ⟨a, n, h, W, R, Q, H, q, X⟩ := I
  obtain ⟨z, h1, h2, rfl⟩ := zI_ex x
  have ws := W.sc
  unfold f_X7_erase f_X8_erase
  rw [ob_of (k_X2_has W R h1 h2), ob_of (k_isLine W Q h1 h2)]
  by_cases c : 0 ≤ z ∧ z < nl a
  · obtain ⟨l, rfl⟩ : ∃ p : Nat, z = p := ⟨z.toNat, by omega⟩
    have hl : l < nl a := by omega
    have v := W.line hl
    rw [bP_t c, if_neg (show ¬ (zI 1 = 0) by decide), if_neg (show ¬ (zI 1 = 0) by decide)]
    by_cases hd : la a l 4 = -1
    · rw [ob_of (k_X2_drf W R hl hd), ob_of (k_drf W Q hl hd), if_pos (show zI 0 = 0 by decide), if_pos (show zI 0 = 0 by decide)]
      exact ch_same I0 _
    · rw [ob_of (k_X2_drt W R hl hd), ob_of (k_drt W Q hl hd), if_neg (show ¬ (zI 1 = 0) by decide), if_neg (show ¬ (zI 1 = 0) by decide)]
      obtain ⟨T1, k1, k2, k3⟩ := k_keeps S
      have Q1 : RM T1 a := Q.same (k3 0 1 (by omega))
      obtain ⟨ns', N, n1, n2, n3⟩ := k_record W R H
      have RN := n3.rc R
      have i4 : (53 + 8 * (l : Int) + 4) = ((53 + 8 * l + 4 : Nat) : Int) := by omega
      obtain ⟨T, t1, t2⟩ := ch_ok (W.e17 hl) H.1 q X n2 n3 (P := up3 N 1 17 l (zI (-1))) OG.up (RC.e17 W RN hl) Q k2 k3 (T2 := up3 T1 0 1 (53 + 8 * l + 4) (zI (-1))) OS.up (Q1.up _ _) (la a l 4) (by omega) (by omega)
      rw [ob_of n1, ob_of k1]
      refine ⟨zI (la a l 4), ns', up3 N 1 17 l (zI (-1)), T, ?_, ?_, t2⟩
      · simp (disch := omega) only [zl_0, zl_1, zl_2, zl_3, zl_4, zl_5, zl_6, zl_7, zl_8, zl_9, zl_10, zl_11, zl_12, zl_13, zl_14, zl_15, zl_16, zl_17, zl_18, zl_19, zl_20, zl_23, zl_24, zl_31, zl_32, zl_48, zl_50, zl_53, zl_57, zl_59, zl_60, zl_99, zl_100, zl_104, zl_112, zl_114, zl_119, zl_126, zl_127, zl_181, zl_200, zl_500, zl_543, zl_724, zl_999, zl_1000, zl_5000, zl_65536, zl_100000, zl_1000001, zl_1000002, zl_1000003, zl_1000004, zl_2143289344, zI_neg, zI_add, zI_sub, zI_mul, zI_le, zI_lt, zI_eq, ck_ib, ix_nat, ixz_0, ixz_1, ixz_2, ixz_3, ixz_4, ixz_5, ixz_6, ixz_7, ixz_8, ixz_9, ixz_10, ixz_11, ixz_12, ob_some, lt_of, ck_bP, bP_z, bP_o, ite_bP, Int.reduceToNat, Nat.reduceAdd, Nat.reduceMul, Int.reduceAdd, Int.reduceSub, Int.reduceMul, Int.reduceNeg, Int.reduceEq, Int.reduceLT, Int.reduceLE, ↓reduceIte, not_true_eq_false, not_false_eq_true, RN.l17]
      · simp (disch := omega) only [zl_0, zl_1, zl_2, zl_3, zl_4, zl_5, zl_6, zl_7, zl_8, zl_9, zl_10, zl_11, zl_12, zl_13, zl_14, zl_15, zl_16, zl_17, zl_18, zl_19, zl_20, zl_23, zl_24, zl_31, zl_32, zl_48, zl_50, zl_53, zl_57, zl_59, zl_60, zl_99, zl_100, zl_104, zl_112, zl_114, zl_119, zl_126, zl_127, zl_181, zl_200, zl_500, zl_543, zl_724, zl_999, zl_1000, zl_5000, zl_65536, zl_100000, zl_1000001, zl_1000002, zl_1000003, zl_1000004, zl_2143289344, zI_neg, zI_add, zI_sub, zI_mul, zI_le, zI_lt, zI_eq, ck_ib, ix_nat, ixz_0, ixz_1, ixz_2, ixz_3, ixz_4, ixz_5, ixz_6, ixz_7, ixz_8, ixz_9, ixz_10, ixz_11, ixz_12, ob_some, lt_of, ck_bP, bP_z, bP_o, ite_bP, Int.reduceToNat, Nat.reduceAdd, Nat.reduceMul, Int.reduceAdd, Int.reduceSub, Int.reduceMul, Int.reduceNeg, Int.reduceEq, Int.reduceLT, Int.reduceLE, ↓reduceIte, not_true_eq_false, not_false_eq_true, k_ln Q1, i4, t1]
  · rw [bP_f c, if_pos (show zI 0 = 0 by decide), if_pos (show zI 0 = 0 by decide)]
    exact ch_same I0 _
theorem ch_refill {ns : Nat} (I : INV ns M S) (x : Int32) : CH (f_X7_refill ns x M) (f_X8_refill x S) := by
  have I0 := I
  obtain ⟨a, n, h, W, R, Q, H, q, X⟩ := I
  obtain ⟨z, h1, h2, rfl⟩ := zI_ex x
  have ws := W.sc
  unfold f_X7_refill f_X8_refill
  rw [ob_of (k_X4_has W R h1 h2), ob_of (k_isPen W Q h1 h2)]
  by_cases c : 0 ≤ z ∧ z < np a
  · obtain ⟨p, rfl⟩ : ∃ p : Nat, z = p := ⟨z.toNat, by omega⟩
    have hp : p < np a := by omega
    have v := W.pen hp
    rw [bP_t c, if_neg (show ¬ (zI 1 = 0) by decide), if_neg (show ¬ (zI 1 = 0) by decide)]
    by_cases e : pa a p 1 - pa a p 2 = 0
    · refine ⟨zI (-1000002), ns, M, S, ?_, ?_, I0⟩
      · simp (disch := omega) only [zl_0, zl_1, zl_2, zl_3, zl_4, zl_5, zl_6, zl_7, zl_8, zl_9, zl_10, zl_11, zl_12, zl_13, zl_14, zl_15, zl_16, zl_17, zl_18, zl_19, zl_20, zl_23, zl_24, zl_31, zl_32, zl_48, zl_50, zl_53, zl_57, zl_59, zl_60, zl_99, zl_100, zl_104, zl_112, zl_114, zl_119, zl_126, zl_127, zl_181, zl_200, zl_500, zl_543, zl_724, zl_999, zl_1000, zl_5000, zl_65536, zl_100000, zl_1000001, zl_1000002, zl_1000003, zl_1000004, zl_2143289344, zI_neg, zI_add, zI_sub, zI_mul, zI_le, zI_lt, zI_eq, ck_ib, ix_nat, ixz_0, ixz_1, ixz_2, ixz_3, ixz_4, ixz_5, ixz_6, ixz_7, ixz_8, ixz_9, ixz_10, ixz_11, ixz_12, ob_some, lt_of, ck_bP, bP_z, bP_o, ite_bP, Int.reduceToNat, Nat.reduceAdd, Nat.reduceMul, Int.reduceAdd, Int.reduceSub, Int.reduceMul, Int.reduceNeg, Int.reduceEq, Int.reduceLT, Int.reduceLE, ↓reduceIte, not_true_eq_false, not_false_eq_true, R.p4, R.p6, e]
      · simp (disch := omega) only [zl_0, zl_1, zl_2, zl_3, zl_4, zl_5, zl_6, zl_7, zl_8, zl_9, zl_10, zl_11, zl_12, zl_13, zl_14, zl_15, zl_16, zl_17, zl_18, zl_19, zl_20, zl_23, zl_24, zl_31, zl_32, zl_48, zl_50, zl_53, zl_57, zl_59, zl_60, zl_99, zl_100, zl_104, zl_112, zl_114, zl_119, zl_126, zl_127, zl_181, zl_200, zl_500, zl_543, zl_724, zl_999, zl_1000, zl_5000, zl_65536, zl_100000, zl_1000001, zl_1000002, zl_1000003, zl_1000004, zl_2143289344, zI_neg, zI_add, zI_sub, zI_mul, zI_le, zI_lt, zI_eq, ck_ib, ix_nat, ixz_0, ixz_1, ixz_2, ixz_3, ixz_4, ixz_5, ixz_6, ixz_7, ixz_8, ixz_9, ixz_10, ixz_11, ixz_12, ob_some, lt_of, ck_bP, bP_z, bP_o, ite_bP, Int.reduceToNat, Nat.reduceAdd, Nat.reduceMul, Int.reduceAdd, Int.reduceSub, Int.reduceMul, Int.reduceNeg, Int.reduceEq, Int.reduceLT, Int.reduceLE, ↓reduceIte, not_true_eq_false, not_false_eq_true, k_pn Q, e]
    · obtain ⟨T1, k1, k2, k3⟩ := k_keeps S
      have Q1 : RM T1 a := Q.same (k3 0 1 (by omega))
      obtain ⟨ns', N, n1, n2, n3⟩ := k_record W R H
      have RN := n3.rc R
      have s1 := k_lays (S := T1) (zI (pa a p 1)) (p := p) (w := 2) (by omega) (by omega) (by omega)
      simp only [Int.reduceToNat] at s1
      obtain ⟨T, t1, t2⟩ := ch_ok (W.q2 hp (v := pa a p 1) (by omega) (by omega)) H.1 q X n2 n3 (P := up3 N 1 6 p (zI (pa a p 1))) OG.up (RN.q2 hp (by omega) _) Q k2 k3 (T2 := up3 T1 0 1 (13 + 8 * p + 2) (zI (pa a p 1))) OS.up (Q1.up _ _) (pa a p 1 - pa a p 2) (by omega) (by omega)
      refine ⟨zI (pa a p 1 - pa a p 2), ns', up3 N 1 6 p (zI (pa a p 1)), T, ?_, ?_, t2⟩
      · simp (disch := omega) only [zl_0, zl_1, zl_2, zl_3, zl_4, zl_5, zl_6, zl_7, zl_8, zl_9, zl_10, zl_11, zl_12, zl_13, zl_14, zl_15, zl_16, zl_17, zl_18, zl_19, zl_20, zl_23, zl_24, zl_31, zl_32, zl_48, zl_50, zl_53, zl_57, zl_59, zl_60, zl_99, zl_100, zl_104, zl_112, zl_114, zl_119, zl_126, zl_127, zl_181, zl_200, zl_500, zl_543, zl_724, zl_999, zl_1000, zl_5000, zl_65536, zl_100000, zl_1000001, zl_1000002, zl_1000003, zl_1000004, zl_2143289344, zI_neg, zI_add, zI_sub, zI_mul, zI_le, zI_lt, zI_eq, ck_ib, ix_nat, ixz_0, ixz_1, ixz_2, ixz_3, ixz_4, ixz_5, ixz_6, ixz_7, ixz_8, ixz_9, ixz_10, ixz_11, ixz_12, ob_some, lt_of, ck_bP, bP_z, bP_o, ite_bP, Int.reduceToNat, Nat.reduceAdd, Nat.reduceMul, Int.reduceAdd, Int.reduceSub, Int.reduceMul, Int.reduceNeg, Int.reduceEq, Int.reduceLT, Int.reduceLE, ↓reduceIte, not_true_eq_false, not_false_eq_true, R.p4, R.p6, e, n1, RN.p4]
      · simp (disch := omega) only [zl_0, zl_1, zl_2, zl_3, zl_4, zl_5, zl_6, zl_7, zl_8, zl_9, zl_10, zl_11, zl_12, zl_13, zl_14, zl_15, zl_16, zl_17, zl_18, zl_19, zl_20, zl_23, zl_24, zl_31, zl_32, zl_48, zl_50, zl_53, zl_57, zl_59, zl_60, zl_99, zl_100, zl_104, zl_112, zl_114, zl_119, zl_126, zl_127, zl_181, zl_200, zl_500, zl_543, zl_724, zl_999, zl_1000, zl_5000, zl_65536, zl_100000, zl_1000001, zl_1000002, zl_1000003, zl_1000004, zl_2143289344, zI_neg, zI_add, zI_sub, zI_mul, zI_le, zI_lt, zI_eq, ck_ib, ix_nat, ixz_0, ixz_1, ixz_2, ixz_3, ixz_4, ixz_5, ixz_6, ixz_7, ixz_8, ixz_9, ixz_10, ixz_11, ixz_12, ob_some, lt_of, ck_bP, bP_z, bP_o, ite_bP, Int.reduceToNat, Nat.reduceAdd, Nat.reduceMul, Int.reduceAdd, Int.reduceSub, Int.reduceMul, Int.reduceNeg, Int.reduceEq, Int.reduceLT, Int.reduceLE, ↓reduceIte, not_true_eq_false, not_false_eq_true, k_pn Q, e, k1, k_pn Q1, s1, t1]
  · rw [bP_f c, if_pos (show zI 0 = 0 by decide), if_pos (show zI 0 = 0 by decide)]
    exact ch_same I0 _
theorem ch_leave {ns : Nat} (I : INV ns M S) (x y : Int32) : CH (f_X7_leave ns x y M) (f_X8_leave x y S) := by
  have I0 := I
  obtain ⟨a, n, h, W, R, Q, H, q, X⟩ := I
  obtain ⟨z, h1, h2, rfl⟩ := zI_ex x
  obtain ⟨v, h3, h4, rfl⟩ := zI_ex y
  have ws := W.sc
  unfold f_X7_leave f_X7_leave_b23 f_X7_leave_b53 f_X8_leave f_X8_leave_b17 f_X8_leave_b42
  rw [ob_of (k_X4_has W R h1 h2), ob_of (k_isPen W Q h1 h2)]
  by_cases c : 0 ≤ z ∧ z < np a
  · obtain ⟨p, rfl⟩ : ∃ p : Nat, z = p := ⟨z.toNat, by omega⟩
    have hp : p < np a := by omega
    have u := W.pen hp
    have ki : f_X7_isIn (zI v) 0 1 M = some (zI (bP (0 ≤ v ∧ v ≤ 1)), M) := by
      rw [zl_0, zl_1]; exact k_isIn h3 h4 (by omega) (by omega) (by omega) (by omega)
    have kj : f_X8_in (zI v) 0 1 S = some (zI (bP (0 ≤ v ∧ v ≤ 1)), S) := by
      rw [zl_0, zl_1]; exact k_in h3 h4 (by omega) (by omega) (by omega) (by omega)
    rw [bP_t c, if_neg (show ¬ (zI 1 = 0) by decide), if_neg (show ¬ (zI 1 = 0) by decide), ob_of ki, ob_of kj]
    by_cases d : 0 ≤ v ∧ v ≤ 1
    · rw [bP_t d, if_neg (show ¬ (zI 1 = 0) by decide), if_neg (show ¬ (zI 1 = 0) by decide)]
      by_cases e : pa a p 6 = v
      · refine ⟨zI (-1000002), ns, M, S, ?_, ?_, I0⟩
        · simp (disch := omega) only [zl_0, zl_1, zl_2, zl_3, zl_4, zl_5, zl_6, zl_7, zl_8, zl_9, zl_10, zl_11, zl_12, zl_13, zl_14, zl_15, zl_16, zl_17, zl_18, zl_19, zl_20, zl_23, zl_24, zl_31, zl_32, zl_48, zl_50, zl_53, zl_57, zl_59, zl_60, zl_99, zl_100, zl_104, zl_112, zl_114, zl_119, zl_126, zl_127, zl_181, zl_200, zl_500, zl_543, zl_724, zl_999, zl_1000, zl_5000, zl_65536, zl_100000, zl_1000001, zl_1000002, zl_1000003, zl_1000004, zl_2143289344, zI_neg, zI_add, zI_sub, zI_mul, zI_le, zI_lt, zI_eq, ck_ib, ix_nat, ixz_0, ixz_1, ixz_2, ixz_3, ixz_4, ixz_5, ixz_6, ixz_7, ixz_8, ixz_9, ixz_10, ixz_11, ixz_12, ob_some, lt_of, ck_bP, bP_z, bP_o, ite_bP, Int.reduceToNat, Nat.reduceAdd, Nat.reduceMul, Int.reduceAdd, Int.reduceSub, Int.reduceMul, Int.reduceNeg, Int.reduceEq, Int.reduceLT, Int.reduceLE, ↓reduceIte, not_true_eq_false, not_false_eq_true, R.p9, e]
        · simp (disch := omega) only [zl_0, zl_1, zl_2, zl_3, zl_4, zl_5, zl_6, zl_7, zl_8, zl_9, zl_10, zl_11, zl_12, zl_13, zl_14, zl_15, zl_16, zl_17, zl_18, zl_19, zl_20, zl_23, zl_24, zl_31, zl_32, zl_48, zl_50, zl_53, zl_57, zl_59, zl_60, zl_99, zl_100, zl_104, zl_112, zl_114, zl_119, zl_126, zl_127, zl_181, zl_200, zl_500, zl_543, zl_724, zl_999, zl_1000, zl_5000, zl_65536, zl_100000, zl_1000001, zl_1000002, zl_1000003, zl_1000004, zl_2143289344, zI_neg, zI_add, zI_sub, zI_mul, zI_le, zI_lt, zI_eq, ck_ib, ix_nat, ixz_0, ixz_1, ixz_2, ixz_3, ixz_4, ixz_5, ixz_6, ixz_7, ixz_8, ixz_9, ixz_10, ixz_11, ixz_12, ob_some, lt_of, ck_bP, bP_z, bP_o, ite_bP, Int.reduceToNat, Nat.reduceAdd, Nat.reduceMul, Int.reduceAdd, Int.reduceSub, Int.reduceMul, Int.reduceNeg, Int.reduceEq, Int.reduceLT, Int.reduceLE, ↓reduceIte, not_true_eq_false, not_false_eq_true, k_pn Q, e]
      · by_cases f : a 8 = p
        · refine ⟨zI (-1000002), ns, M, S, ?_, ?_, I0⟩
          · simp (disch := omega) only [zl_0, zl_1, zl_2, zl_3, zl_4, zl_5, zl_6, zl_7, zl_8, zl_9, zl_10, zl_11, zl_12, zl_13, zl_14, zl_15, zl_16, zl_17, zl_18, zl_19, zl_20, zl_23, zl_24, zl_31, zl_32, zl_48, zl_50, zl_53, zl_57, zl_59, zl_60, zl_99, zl_100, zl_104, zl_112, zl_114, zl_119, zl_126, zl_127, zl_181, zl_200, zl_500, zl_543, zl_724, zl_999, zl_1000, zl_5000, zl_65536, zl_100000, zl_1000001, zl_1000002, zl_1000003, zl_1000004, zl_2143289344, zI_neg, zI_add, zI_sub, zI_mul, zI_le, zI_lt, zI_eq, ck_ib, ix_nat, ixz_0, ixz_1, ixz_2, ixz_3, ixz_4, ixz_5, ixz_6, ixz_7, ixz_8, ixz_9, ixz_10, ixz_11, ixz_12, ob_some, lt_of, ck_bP, bP_z, bP_o, ite_bP, Int.reduceToNat, Nat.reduceAdd, Nat.reduceMul, Int.reduceAdd, Int.reduceSub, Int.reduceMul, Int.reduceNeg, Int.reduceEq, Int.reduceLT, Int.reduceLE, ↓reduceIte, not_true_eq_false, not_false_eq_true, R.p9, R.t4, e, f]
          · simp (disch := omega) only [zl_0, zl_1, zl_2, zl_3, zl_4, zl_5, zl_6, zl_7, zl_8, zl_9, zl_10, zl_11, zl_12, zl_13, zl_14, zl_15, zl_16, zl_17, zl_18, zl_19, zl_20, zl_23, zl_24, zl_31, zl_32, zl_48, zl_50, zl_53, zl_57, zl_59, zl_60, zl_99, zl_100, zl_104, zl_112, zl_114, zl_119, zl_126, zl_127, zl_181, zl_200, zl_500, zl_543, zl_724, zl_999, zl_1000, zl_5000, zl_65536, zl_100000, zl_1000001, zl_1000002, zl_1000003, zl_1000004, zl_2143289344, zI_neg, zI_add, zI_sub, zI_mul, zI_le, zI_lt, zI_eq, ck_ib, ix_nat, ixz_0, ixz_1, ixz_2, ixz_3, ixz_4, ixz_5, ixz_6, ixz_7, ixz_8, ixz_9, ixz_10, ixz_11, ixz_12, ob_some, lt_of, ck_bP, bP_z, bP_o, ite_bP, Int.reduceToNat, Nat.reduceAdd, Nat.reduceMul, Int.reduceAdd, Int.reduceSub, Int.reduceMul, Int.reduceNeg, Int.reduceEq, Int.reduceLT, Int.reduceLE, ↓reduceIte, not_true_eq_false, not_false_eq_true, k_pn Q, RM.at Q, e, f]
        · obtain ⟨T1, k1, k2, k3⟩ := k_keeps S
          have Q1 : RM T1 a := Q.same (k3 0 1 (by omega))
          obtain ⟨ns', N, n1, n2, n3⟩ := k_record W R H
          have RN := n3.rc R
          have s1 := k_lays (S := T1) (zI v) (p := p) (w := 6) (by omega) (by omega) (by omega)
          simp only [Int.reduceToNat] at s1
          have Wb : WF (uz a (13 + 8 * p + 6) v) := W.q6 hp (by omega)
          have Rb := RN.q6 hp (by omega) v
          have Qb : RM (up3 T1 0 1 (13 + 8 * p + 6) (zI v)) (uz a (13 + 8 * p + 6) v) := Q1.up _ _
          have kn := k_howManyPresent Wb Rb
          have kp := k_present Wb Qb
          have pr := prs_rg Wb (Nat.le_refl (np (uz a (13 + 8 * p + 6) v)))
          have wb := Wb.sc
          generalize prs (uz a (13 + 8 * p + 6) v) (np (uz a (13 + 8 * p + 6) v)) = r at kn kp pr
          obtain ⟨T, t1, t2⟩ := ch_ok Wb H.1 q X n2 n3 (P := up3 N 1 9 p (zI v)) OG.up Rb Q k2 k3 (T2 := up3 T1 0 1 (13 + 8 * p + 6) (zI v)) OS.up Qb r (by omega) (by omega)
          refine ⟨zI r, ns', up3 N 1 9 p (zI v), T, ?_, ?_, t2⟩
          · simp (disch := omega) only [zl_0, zl_1, zl_2, zl_3, zl_4, zl_5, zl_6, zl_7, zl_8, zl_9, zl_10, zl_11, zl_12, zl_13, zl_14, zl_15, zl_16, zl_17, zl_18, zl_19, zl_20, zl_23, zl_24, zl_31, zl_32, zl_48, zl_50, zl_53, zl_57, zl_59, zl_60, zl_99, zl_100, zl_104, zl_112, zl_114, zl_119, zl_126, zl_127, zl_181, zl_200, zl_500, zl_543, zl_724, zl_999, zl_1000, zl_5000, zl_65536, zl_100000, zl_1000001, zl_1000002, zl_1000003, zl_1000004, zl_2143289344, zI_neg, zI_add, zI_sub, zI_mul, zI_le, zI_lt, zI_eq, ck_ib, ix_nat, ixz_0, ixz_1, ixz_2, ixz_3, ixz_4, ixz_5, ixz_6, ixz_7, ixz_8, ixz_9, ixz_10, ixz_11, ixz_12, ob_some, lt_of, ck_bP, bP_z, bP_o, ite_bP, Int.reduceToNat, Nat.reduceAdd, Nat.reduceMul, Int.reduceAdd, Int.reduceSub, Int.reduceMul, Int.reduceNeg, Int.reduceEq, Int.reduceLT, Int.reduceLE, ↓reduceIte, not_true_eq_false, not_false_eq_true, R.p9, R.t4, e, f, n1, kn]
          · simp (disch := omega) only [zl_0, zl_1, zl_2, zl_3, zl_4, zl_5, zl_6, zl_7, zl_8, zl_9, zl_10, zl_11, zl_12, zl_13, zl_14, zl_15, zl_16, zl_17, zl_18, zl_19, zl_20, zl_23, zl_24, zl_31, zl_32, zl_48, zl_50, zl_53, zl_57, zl_59, zl_60, zl_99, zl_100, zl_104, zl_112, zl_114, zl_119, zl_126, zl_127, zl_181, zl_200, zl_500, zl_543, zl_724, zl_999, zl_1000, zl_5000, zl_65536, zl_100000, zl_1000001, zl_1000002, zl_1000003, zl_1000004, zl_2143289344, zI_neg, zI_add, zI_sub, zI_mul, zI_le, zI_lt, zI_eq, ck_ib, ix_nat, ixz_0, ixz_1, ixz_2, ixz_3, ixz_4, ixz_5, ixz_6, ixz_7, ixz_8, ixz_9, ixz_10, ixz_11, ixz_12, ob_some, lt_of, ck_bP, bP_z, bP_o, ite_bP, Int.reduceToNat, Nat.reduceAdd, Nat.reduceMul, Int.reduceAdd, Int.reduceSub, Int.reduceMul, Int.reduceNeg, Int.reduceEq, Int.reduceLT, Int.reduceLE, ↓reduceIte, not_true_eq_false, not_false_eq_true, k_pn Q, RM.at Q, e, f, k1, s1, kp, t1]
    · rw [bP_f d, if_pos (show zI 0 = 0 by decide), if_pos (show zI 0 = 0 by decide)]
      exact ch_same I0 _
  · rw [bP_f c, if_pos (show zI 0 = 0 by decide), if_pos (show zI 0 = 0 by decide)]
    exact ch_same I0 _
def lo5 (i : Nat) : Int := if i = 1 then 1 else 0
def hi5 (i : Nat) : Int := if i = 0 then 500 else if i = 1 then 200 else if i = 2 then 100 else 50
theorem tab_lo : ∀ i : Fin 5, tabL i.val = zI (lo5 i.val) := by decide
theorem tab_hi : ∀ i : Fin 5, tabG i.val = zI (hi5 i.val) := by decide
theorem set_ref (v : Int32) {i : Nat} (hi : i < 5) : f_X8_set (zI i) v S = f_X8_set_b54 (zI i) v (zI (hi5 i)) v (zI (lo5 i)) S := by
  have k : f_X8_in (zI i) (zI 0) (zI 4) S = some (zI 1, S) := by
    rw [k_in (by omega) (by omega) (by omega) (by omega) (by omega) (by omega), bP_t (by omega)]
  unfold f_X8_set f_X8_set_b33
  rcases (by omega : i = 0 ∨ i = 1 ∨ i = 2 ∨ i = 3 ∨ i = 4) with rfl | rfl | rfl | rfl | rfl
  all_goals (rw [zl_0, zl_4, k]; rfl)
theorem lo5_rg {i : Nat} (h : i < 5) : 0 ≤ lo5 i ∧ lo5 i ≤ 1 ∧ 50 ≤ hi5 i ∧ hi5 i ≤ 500 := by
  unfold lo5 hi5
  (repeat' split) <;> omega
theorem ch_set {ns : Nat} (I : INV ns M S) (x y : Int32) : CH (f_X7_set ns x y M) (f_X8_set x y S) := by
  have I0 := I
  obtain ⟨a, n, h, W, R, Q, H, q, X⟩ := I
  obtain ⟨z, h1, h2, rfl⟩ := zI_ex x
  obtain ⟨v, h3, h4, rfl⟩ := zI_ex y
  have ws := W.sc
  have ki : f_X7_isIn (zI z) 0 4 M = some (zI (bP (0 ≤ z ∧ z ≤ 4)), M) := by
    rw [zl_0, zl_4]; exact k_isIn h1 h2 (by omega) (by omega) (by omega) (by omega)
  unfold f_X7_set f_X7_set_b26
  rw [ob_of ki]
  by_cases c : 0 ≤ z ∧ z ≤ 4
  · obtain ⟨i, rfl⟩ : ∃ p : Nat, z = p := ⟨z.toNat, by omega⟩
    have hi : i < 5 := by omega
    have tl := tab_lo ⟨i, hi⟩
    have th := tab_hi ⟨i, hi⟩
    simp only at tl th
    have lr := lo5_rg hi
    rw [bP_t c, if_neg (show ¬ (zI 1 = 0) by decide), set_ref _ hi, ix_nat (by omega), ck_ib (by omega) (by omega) (by omega), ck_ib (by omega) (by omega) (by omega), tl, th, ob_of (k_isIn h3 h4 (by omega) (by omega) (by omega) (by omega))]
    unfold f_X8_set_b54 f_X8_set_b61
    have kj : f_X8_in (zI v) (zI (lo5 i)) (zI (hi5 i)) S = some (zI (bP (lo5 i ≤ v ∧ v ≤ hi5 i)), S) := k_in h3 h4 (by omega) (by omega) (by omega) (by omega)
    rw [ob_of kj]
    by_cases d : lo5 i ≤ v ∧ v ≤ hi5 i
    · rw [bP_t d, if_neg (show ¬ (zI 1 = 0) by decide), if_neg (show ¬ (zI 1 = 0) by decide)]
      obtain ⟨T1, k1, k2, k3⟩ := k_keeps S
      have Q1 : RM T1 a := Q.same (k3 0 1 (by omega))
      obtain ⟨ns', N, n1, n2, n3⟩ := k_record W R H
      have RN := n3.rc R
      have i4 : (2 + (i : Int)) = ((2 + i : Nat) : Int) := by omega
      have wr : 0 ≤ a (2 + i) ∧ a (2 + i) ≤ 500 := by
        rcases (by omega : i = 0 ∨ i = 1 ∨ i = 2 ∨ i = 3 ∨ i = 4) with rfl | rfl | rfl | rfl | rfl
        all_goals (simp only [Nat.reduceAdd]; omega)
      obtain ⟨T, t1, t2⟩ := ch_ok (W.s1 hi d.1 d.2) H.1 q X n2 n3 (P := up3 N 1 1 i (zI v)) OG.up (RN.s1 hi v) Q k2 k3 (T2 := up3 T1 0 1 (2 + i) (zI v)) OS.up (Q1.up _ _) (a (2 + i)) (by omega) (by omega)
      refine ⟨zI (a (2 + i)), ns', up3 N 1 1 i (zI v), T, ?_, ?_, t2⟩
      · simp (disch := omega) only [zl_0, zl_1, zl_2, zl_3, zl_4, zl_5, zl_6, zl_7, zl_8, zl_9, zl_10, zl_11, zl_12, zl_13, zl_14, zl_15, zl_16, zl_17, zl_18, zl_19, zl_20, zl_23, zl_24, zl_31, zl_32, zl_48, zl_50, zl_53, zl_57, zl_59, zl_60, zl_99, zl_100, zl_104, zl_112, zl_114, zl_119, zl_126, zl_127, zl_181, zl_200, zl_500, zl_543, zl_724, zl_999, zl_1000, zl_5000, zl_65536, zl_100000, zl_1000001, zl_1000002, zl_1000003, zl_1000004, zl_2143289344, zI_neg, zI_add, zI_sub, zI_mul, zI_le, zI_lt, zI_eq, ck_ib, ix_nat, ixz_0, ixz_1, ixz_2, ixz_3, ixz_4, ixz_5, ixz_6, ixz_7, ixz_8, ixz_9, ixz_10, ixz_11, ixz_12, ob_some, lt_of, ck_bP, bP_z, bP_o, ite_bP, Int.reduceToNat, Nat.reduceAdd, Nat.reduceMul, Int.reduceAdd, Int.reduceSub, Int.reduceMul, Int.reduceNeg, Int.reduceEq, Int.reduceLT, Int.reduceLE, ↓reduceIte, not_true_eq_false, not_false_eq_true, n1, RN.rset]
      · simp (disch := omega) only [zl_0, zl_1, zl_2, zl_3, zl_4, zl_5, zl_6, zl_7, zl_8, zl_9, zl_10, zl_11, zl_12, zl_13, zl_14, zl_15, zl_16, zl_17, zl_18, zl_19, zl_20, zl_23, zl_24, zl_31, zl_32, zl_48, zl_50, zl_53, zl_57, zl_59, zl_60, zl_99, zl_100, zl_104, zl_112, zl_114, zl_119, zl_126, zl_127, zl_181, zl_200, zl_500, zl_543, zl_724, zl_999, zl_1000, zl_5000, zl_65536, zl_100000, zl_1000001, zl_1000002, zl_1000003, zl_1000004, zl_2143289344, zI_neg, zI_add, zI_sub, zI_mul, zI_le, zI_lt, zI_eq, ck_ib, ix_nat, ixz_0, ixz_1, ixz_2, ixz_3, ixz_4, ixz_5, ixz_6, ixz_7, ixz_8, ixz_9, ixz_10, ixz_11, ixz_12, ob_some, lt_of, ck_bP, bP_z, bP_o, ite_bP, Int.reduceToNat, Nat.reduceAdd, Nat.reduceMul, Int.reduceAdd, Int.reduceSub, Int.reduceMul, Int.reduceNeg, Int.reduceEq, Int.reduceLT, Int.reduceLE, ↓reduceIte, not_true_eq_false, not_false_eq_true, k1, i4, RM.at Q1, t1]
    · rw [bP_f d, if_pos (show zI 0 = 0 by decide), if_pos (show zI 0 = 0 by decide)]
      exact ch_same I0 _
  · rw [bP_f c, if_pos (show zI 0 = 0 by decide)]
    have kj : f_X8_in (zI z) (zI 0) (zI 4) S = some (zI 0, S) := by
      rw [k_in h1 h2 (by omega) (by omega) (by omega) (by omega), bP_f c]
    refine ⟨_, ns, M, S, rfl, ?_, I0⟩
    unfold f_X8_set f_X8_set_b33 f_X8_set_b61
    have e0 : ¬ (zI z = zI 0) := by rw [zI_eq (by omega) (by omega) (by omega) (by omega)]; omega
    have e1 : ¬ (zI z = zI 1) := by rw [zI_eq (by omega) (by omega) (by omega) (by omega)]; omega
    have e2 : ¬ (zI z = zI 2) := by rw [zI_eq (by omega) (by omega) (by omega) (by omega)]; omega
    rw [zl_0, zl_4, zl_1, zl_2, if_neg e0, if_neg e1, if_neg e2, ob_of kj]
    exact if_pos rfl
/-- a change of the class's that makes no state -/
def C0 (ns : Nat) (x y : Option (Int32 × Mem)) : Prop := ∃ (r : Int32) (N T : Mem), x = some (r, N) ∧ y = some (r, T) ∧ INV ns N T
theorem Q3.c0 {ns : Nat} {x y : Option (Int32 × Mem)} (I : INV ns M S) (h : Q3 x y M S) : C0 ns x y := by
  obtain ⟨r, N, T, h1, h2, h3, h4⟩ := h
  exact ⟨r, N, T, h1, h2, I.keep h3 h4⟩
theorem ch_undo {ns : Nat} (I : INV ns M S) : C0 ns (f_X7_undo ns M) (f_X8_undo S) := by
  have I0 := I
  obtain ⟨a, n, h, W, R, Q, H, q, X⟩ := I
  have H0 := H
  obtain ⟨q1, q2, nx, q3, q4, q5, q6, q7⟩ := H
  unfold f_X7_undo f_X8_undo
  rw [q5, q.1, zl_0]
  by_cases c : n = 0
  · subst c
    rw [if_pos (show zI ((0 : Nat) : Int) = zI 0 from rfl), if_pos (show zI ((0 : Nat) : Int) = zI 0 from rfl)]
    exact ⟨_, M, S, rfl, rfl, I0⟩
  · obtain ⟨k, rfl⟩ : ∃ k, n = k + 1 := ⟨n - 1, by omega⟩
    have ne : ¬ (zI ((k + 1 : Nat) : Int) = zI 0) := by rw [zI_eq (by omega) (by omega) (by omega) (by omega)]; omega
    rw [if_neg ne, if_neg ne]
    obtain ⟨N, n1, n2, n3, n4, n5, n6⟩ := k_restoreTo H0
    have e : zI ((k + 1 : Nat) : Int) - zI 1 = zI k := by rw [zI_sub]; congr 1; omega
    obtain ⟨T, t1, t2, t3⟩ := k_undo_l (n := k) (by omega) 181 0 1000 (up3 S 0 0 4 (zI k)) (up3 S 0 0 4 (zI k)) (by omega) (by omega) (up3_at _ _ _ _ _) (fun i h => absurd h (Nat.not_lt_zero i)) (fun _ _ _ => rfl)
    rw [ob_of n1, n6, zl_1, e, lt_of]
    refine ⟨zI k, N, T, rfl, t1, h k, k, h, n4, n3, ?_, n2, ⟨?_, ?_⟩, ?_⟩
    · intro i hi
      rw [t2 i hi, up3_cell _ _ (by omega)]
      exact q.2 k (by omega) i hi
    · rw [t3 0 0 (by omega), up3_at]
    · intro i hi j hj
      rw [t3 0 2 (by omega), up3_cell _ _ (by omega)]
      exact q.2 i (by omega) j hj
    · refine X.same ?_ ?_ ?_ ?_
      · rw [n5 0 3 (by omega)]
      · rw [n5 0 4 (by omega)]
      · rw [t3 0 0 (by omega), up3_slot _ _ (by omega)]
      · rw [t3 0 5 (by omega), up3_cell _ _ (by omega)]
theorem ch_clearText {ns : Nat} (I : INV ns M S) : C0 ns (f_X7_clearText M) (f_X8_clearText S) := by
  obtain ⟨a, n, h, W, R, Q, H, q, X⟩ := I
  obtain ⟨t, x1, x2, x3, x4⟩ := X
  refine ⟨zI t, up3 M 0 3 0 (zI 0), up3 S 0 0 6 (zI 0), ?_, ?_, a, n, h, W, R.same (fun k _ => up3_cell _ _ (by omega)), Q.same (up3_cell _ _ (by omega)), H.same (up3_cell _ _ (by omega)) (fun g k hg => up3_cell _ _ (by omega)), q.same (up3_slot _ _ (by omega)) (up3_cell _ _ (by omega)), 0, by omega, up3_at _ _ _ _ _, up3_at _ _ _ _ _, fun i hi => absurd hi (Nat.not_lt_zero i)⟩
  · unfold f_X7_clearText
    rw [x2]
    rfl
  · unfold f_X8_clearText
    rw [x3]
    rfl
theorem chr_ok : ∀ k : Fin 127, vp_nar .char (((zI (k.val : Nat)).toUInt32 % 65536).toInt32) = zI (k.val : Nat) := by decide +kernel
theorem ch_type {ns : Nat} (I : INV ns M S) (x : Int32) : C0 ns (f_X7_type x M) (f_X8_type x S) := by
  have I0 := I
  obtain ⟨a, n, h, W, R, Q, H, q, X⟩ := I
  obtain ⟨z, h1, h2, rfl⟩ := zI_ex x
  obtain ⟨t, x1, x2, x3, x4⟩ := X
  have ki : f_X7_isIn (zI z) 32 126 M = some (zI (bP (32 ≤ z ∧ z ≤ 126)), M) := by
    rw [zl_32, zl_126]; exact k_isIn h1 h2 (by omega) (by omega) (by omega) (by omega)
  have kj : f_X8_in (zI z) 32 126 S = some (zI (bP (32 ≤ z ∧ z ≤ 126)), S) := by
    rw [zl_32, zl_126]; exact k_in h1 h2 (by omega) (by omega) (by omega) (by omega)
  unfold f_X7_type f_X8_type
  rw [ob_of ki, ob_of kj]
  by_cases c : 32 ≤ z ∧ z ≤ 126
  · rw [bP_t c, if_neg (show ¬ (zI 1 = 0) by decide), if_neg (show ¬ (zI 1 = 0) by decide)]
    by_cases d : t = 60
    · refine ⟨zI (-1000003), M, S, ?_, ?_, I0⟩
      · rw [x2, d]; rfl
      · rw [x3, d]; rfl
    · have e1 : ((t : Int) < 60) := by omega
      have e2 : ¬ ((t : Int) = 60) := by omega
      have e3 : ¬ ((60 : Int) ≤ (t : Int)) := by omega
      obtain ⟨k, rfl⟩ : ∃ k : Nat, z = k := ⟨z.toNat, by omega⟩
      have ch := chr_ok ⟨k, by omega⟩
      simp only at ch
      refine ⟨zI ((t : Int) + 1), up3 (up3 M 0 4 t (zI k)) 0 3 0 (zI ((t : Int) + 1)), up3 (up3 S 0 5 t (zI k)) 0 0 6 (zI ((t : Int) + 1)), ?_, ?_, a, n, h, W, R.same (fun k _ => by simp (disch := omega) only [up3_cell]), Q.same (by simp (disch := omega) only [up3_cell]), H.same (by simp (disch := omega) only [up3_cell]) (fun g k hg => by simp (disch := omega) only [up3_cell]), q.same (by simp (disch := omega) only [up3_cell, up3_slot]) (by simp (disch := omega) only [up3_cell]), t + 1, by omega, up3_at _ _ _ _ _, up3_at _ _ _ _ _, ?_⟩
      · unfold f_X3_append f_X3_append_b29
        simp (disch := omega) only [zl_0, zl_1, zl_2, zl_3, zl_4, zl_5, zl_6, zl_7, zl_8, zl_9, zl_10, zl_11, zl_12, zl_13, zl_14, zl_15, zl_16, zl_17, zl_18, zl_19, zl_20, zl_23, zl_24, zl_31, zl_32, zl_48, zl_50, zl_53, zl_57, zl_59, zl_60, zl_99, zl_100, zl_104, zl_112, zl_114, zl_119, zl_126, zl_127, zl_181, zl_200, zl_500, zl_543, zl_724, zl_999, zl_1000, zl_5000, zl_65536, zl_100000, zl_1000001, zl_1000002, zl_1000003, zl_1000004, zl_2143289344, zI_neg, zI_add, zI_sub, zI_mul, zI_le, zI_lt, zI_eq, ck_ib, ix_nat, ixz_0, ixz_1, ixz_2, ixz_3, ixz_4, ixz_5, ixz_6, ixz_7, ixz_8, ixz_9, ixz_10, ixz_11, ixz_12, ob_some, lt_of, ck_bP, bP_z, bP_o, ite_bP, Int.reduceToNat, Nat.reduceAdd, Nat.reduceMul, Int.reduceAdd, Int.reduceSub, Int.reduceMul, Int.reduceNeg, Int.reduceEq, Int.reduceLT, Int.reduceLE, ↓reduceIte, not_true_eq_false, not_false_eq_true, x2, e1, e3, up3_cell, up3_at]
      · rw [ch]
        simp (disch := omega) only [zl_0, zl_1, zl_2, zl_3, zl_4, zl_5, zl_6, zl_7, zl_8, zl_9, zl_10, zl_11, zl_12, zl_13, zl_14, zl_15, zl_16, zl_17, zl_18, zl_19, zl_20, zl_23, zl_24, zl_31, zl_32, zl_48, zl_50, zl_53, zl_57, zl_59, zl_60, zl_99, zl_100, zl_104, zl_112, zl_114, zl_119, zl_126, zl_127, zl_181, zl_200, zl_500, zl_543, zl_724, zl_999, zl_1000, zl_5000, zl_65536, zl_100000, zl_1000001, zl_1000002, zl_1000003, zl_1000004, zl_2143289344, zI_neg, zI_add, zI_sub, zI_mul, zI_le, zI_lt, zI_eq, ck_ib, ix_nat, ixz_0, ixz_1, ixz_2, ixz_3, ixz_4, ixz_5, ixz_6, ixz_7, ixz_8, ixz_9, ixz_10, ixz_11, ixz_12, ob_some, lt_of, ck_bP, bP_z, bP_o, ite_bP, Int.reduceToNat, Nat.reduceAdd, Nat.reduceMul, Int.reduceAdd, Int.reduceSub, Int.reduceMul, Int.reduceNeg, Int.reduceEq, Int.reduceLT, Int.reduceLE, ↓reduceIte, not_true_eq_false, not_false_eq_true, x3, e2, up3_cell, up3_at]
      · intro i hi
        simp (disch := omega) only [up3_cell]
        by_cases f : i = t
        · subst f
          exact ⟨k, by omega, by omega, up3_at _ _ _ _ _, up3_at _ _ _ _ _⟩
        · rw [up3_slot _ _ f, up3_slot _ _ f]
          exact x4 i (by omega)
  · rw [bP_f c, if_pos (show zI 0 = 0 by decide), if_pos (show zI 0 = 0 by decide)]
    exact ⟨_, M, S, rfl, rfl, I0⟩
end
