/-! the changes of the class, told by the rows -/
section
variable {g : Nat} {M N P : Mem} {a b c : Row} {ns n : Nat} {h : Nat → Row}
theorem hv_og (H : HV N ns n h) (hP : OG 1 N P) : HV P ns n h := H.same (hP 0 1 (by omega)) (fun g k hg => hP g k (by omega))
/-- a change: the answer, and the new row behind what was recorded -/
def DN (x : Option ((Int32 × Nat) × Mem)) (r : Int) (n : Nat) (h : Nat → Row) (a c : Row) : Prop := ∃ (ns' : Nat) (P : Mem), x = some ((zI r, ns'), P) ∧ RC 1 P c ∧ HV P ns' (phn n) (phh n h a)
theorem b_take (W : WF a) (R : RC 1 M a) (H : HV M ns n h) {p : Nat} (hp : p < np a) (c1 : ¬ ((p : Int) = a 8 ∨ pa a p 6 = 1)) (c4 : a 7 + a 5 ≤ 100000) : DN (f_X7_take ns (zI p) M) (a 8 + 1) n h a (swr a p) := by
  have ws := W.sc
  have c : 0 ≤ (p : Int) ∧ (p : Int) < (np a : Int) := by omega
  unfold f_X7_take
  rw [ob_of (k_X4_has W R (by omega) (by omega))]
  rw [bP_t c, if_neg (show ¬ (zI 1 = 0) by decide), ob_of (k_errorOfTaking W R hp), if_neg c1, if_pos c4, if_pos (show zI 0 = 0 by decide)]
  obtain ⟨ns', N, n1, n2, n3⟩ := k_record W R H
  obtain ⟨P, p1, p2, p3⟩ := k_swapTo W (n3.rc R) c4 p
  rw [ob_of n1, ob_of p1, zl_1, zI_add, Int.add_comm]
  exact ⟨ns', P, rfl, p2, hv_og n2 p3⟩
theorem b_take_no (W : WF a) (R : RC 1 M a) {p : Nat} (hp : p < np a) (c1 : (p : Int) = a 8 ∨ pa a p 6 = 1) : f_X7_take ns (zI p) M = some ((zI (-1000002), ns), M) := by
  have ws := W.sc
  have c : 0 ≤ (p : Int) ∧ (p : Int) < (np a : Int) := by omega
  unfold f_X7_take
  rw [ob_of (k_X4_has W R (by omega) (by omega))]
  rw [bP_t c, if_neg (show ¬ (zI 1 = 0) by decide), ob_of (k_errorOfTaking W R hp), if_pos c1, if_neg (show ¬ (zI (-1000002) = 0) by decide)]
theorem b_waits (W : WF a) (R : RC 1 M a) (H : HV M ns n h) {z : Int} (c : 1 ≤ z ∧ z ≤ 200) (c4 : a 7 + z ≤ 100000) : DN (f_X7_waits ns (zI z) M) (a 7 + z) n h a (pss a z) := by
  have ws := W.sc
  have ce : ¬ ¬ (1 ≤ z ∧ z ≤ 200) := fun q => q c
  unfold f_X7_waits
  rw [ob_of (k_errorOfWaiting W R (by omega) (by omega)), if_neg ce, if_pos c4, if_pos (show zI 0 = 0 by decide)]
  obtain ⟨ns', N, n1, n2, n3⟩ := k_record W R H
  obtain ⟨P, p1, p2, p3⟩ := k_passIdly W (n3.rc R) (show 0 ≤ z by omega) c4
  rw [ob_of n1, ob_of p1, p2.t3, pss_7]
  exact ⟨ns', P, rfl, p2, hv_og n2 p3⟩
theorem b_clean (W : WF a) (R : RC 1 M a) (H : HV M ns n h) (c : 0 ≤ a 8) (c4 : a 7 + a 6 ≤ 100000) : DN (f_X7_clean ns M) (pa a (a 8).toNat 4) n h a (clr a) := by
  have ws := W.sc
  have ce : ¬ ¬ (0 ≤ a 8) := fun q => q c
  unfold f_X7_clean
  rw [ob_of (k_errorOfCleaning W R), if_neg ce, if_pos c4, if_pos (show zI 0 = 0 by decide)]
  obtain ⟨ns', N, n1, n2, n3⟩ := k_record W R H
  obtain ⟨P, p1, p2, p3⟩ := k_cleanHand W (n3.rc R) c c4
  rw [ob_of n1, ob_of p1]
  exact ⟨ns', P, rfl, p2, hv_og n2 p3⟩
theorem b_clean_no (W : WF a) (R : RC 1 M a) (c : ¬ 0 ≤ a 8) : f_X7_clean ns M = some ((zI (-1000002), ns), M) := by
  unfold f_X7_clean
  rw [ob_of (k_errorOfCleaning W R), if_pos c, if_neg (show ¬ (zI (-1000002) = 0) by decide)]
theorem b_draw (W : WF a) (R : RC 1 M a) (H : HV M ns n h) {l p : Nat} (hl : l < nl a) {v : Int} (d : 0 ≤ v ∧ v ≤ 1) (e : rsn a l v 0 = 0) (hp : a 8 = p) : DN (f_X7_draw ns (zI l) (zI v) M) (a 7 + (dst (a 9) (a 10) (bX a l v) (bY a l v) + len a l)) n h a (drw a l p v) := by
  have ws := W.sc
  have c : 0 ≤ (l : Int) ∧ (l : Int) < (nl a : Int) := by omega
  have ki : f_X7_isIn (zI v) 0 1 M = some (zI (bP (0 ≤ v ∧ v ≤ 1)), M) := by
    rw [zl_0, zl_1]; exact k_isIn (by omega) (by omega) (by omega) (by omega) (by omega) (by omega)
  have kr := k_reasonAgainst W R hl d.1 d.2 (t := 0) (by omega) (by omega)
  obtain ⟨q, p1, p2, p3, p4⟩ := rsn_ok W e
  obtain rfl : q = p := by omega
  unfold f_X7_draw f_X7_draw_b23
  rw [ob_of (k_X2_has W R (by omega) (by omega)), bP_t c, if_neg (show ¬ (zI 1 = 0) by decide), ob_of ki, bP_t d, if_neg (show ¬ (zI 1 = 0) by decide), zl_0, ob_of kr, e, if_pos (show zI 0 = zI 0 from rfl)]
  obtain ⟨ns', N, n1, n2, n3⟩ := k_record W R H
  obtain ⟨P, o1, o2, o3⟩ := k_drawByHand W (n3.rc R) hl d.1 d.2 p1 p2 p3 p4
  rw [ob_of n1, ob_of o1, o2.t3, drw_7]
  exact ⟨ns', P, rfl, o2, hv_og n2 o3⟩
theorem b_draw_no (W : WF a) (R : RC 1 M a) {l : Nat} (hl : l < nl a) {v : Int} (d : 0 ≤ v ∧ v ≤ 1) (e : rsn a l v 0 ≠ 0) : f_X7_draw ns (zI l) (zI v) M = some ((zI (-1000002), ns), M) := by
  have ws := W.sc
  have c : 0 ≤ (l : Int) ∧ (l : Int) < (nl a : Int) := by omega
  have ki : f_X7_isIn (zI v) 0 1 M = some (zI (bP (0 ≤ v ∧ v ≤ 1)), M) := by
    rw [zl_0, zl_1]; exact k_isIn (by omega) (by omega) (by omega) (by omega) (by omega) (by omega)
  have kr := k_reasonAgainst W R hl d.1 d.2 (t := 0) (by omega) (by omega)
  have rr := rsn_rg (a := a) l v 0
  unfold f_X7_draw f_X7_draw_b23
  rw [ob_of (k_X2_has W R (by omega) (by omega)), bP_t c, if_neg (show ¬ (zI 1 = 0) by decide), ob_of ki, bP_t d, if_neg (show ¬ (zI 1 = 0) by decide), zl_0, ob_of kr, if_neg (show ¬ (zI (rsn a l v 0) = zI 0) by rw [zI_eq (by omega) (by omega) (by omega) (by omega)]; exact e)]
  rfl
theorem b_erase (W : WF a) (R : RC 1 M a) (H : HV M ns n h) {l : Nat} (hl : l < nl a) (hd : la a l 4 ≠ -1) : DN (f_X7_erase ns (zI l) M) (la a l 4) n h a (uz a (53 + 8 * l + 4) (-1)) := by
  have ws := W.sc
  have v := W.line hl
  have c : 0 ≤ (l : Int) ∧ (l : Int) < (nl a : Int) := by omega
  unfold f_X7_erase
  rw [ob_of (k_X2_has W R (by omega) (by omega)), bP_t c, if_neg (show ¬ (zI 1 = 0) by decide), ob_of (k_X2_drt W R hl hd), if_neg (show ¬ (zI 1 = 0) by decide)]
  obtain ⟨ns', N, n1, n2, n3⟩ := k_record W R H
  have RN := n3.rc R
  rw [ob_of n1]
  refine ⟨ns', up3 N 1 17 l (zI (-1)), ?_, RC.e17 W RN hl, hv_og n2 OG.up⟩
  simp (disch := omega) only [zl_21, zl_22, zl_25, zl_40, zl_64, zl_150, zl_400, zl_1000000, zl_1065353216, zl_25214903, zl_2147483647, zl_32768, zl_1024, zl_0, zl_1, zl_2, zl_3, zl_4, zl_5, zl_6, zl_7, zl_8, zl_9, zl_10, zl_11, zl_12, zl_13, zl_14, zl_15, zl_16, zl_17, zl_18, zl_19, zl_20, zl_23, zl_24, zl_31, zl_32, zl_48, zl_50, zl_53, zl_57, zl_59, zl_60, zl_99, zl_100, zl_104, zl_112, zl_114, zl_119, zl_126, zl_127, zl_181, zl_200, zl_500, zl_543, zl_724, zl_999, zl_1000, zl_5000, zl_65536, zl_100000, zl_1000001, zl_1000002, zl_1000003, zl_1000004, zl_2143289344, zI_neg, zI_add, zI_sub, zI_mul, zI_le, zI_lt, zI_eq, ck_ib, ix_nat, ixz_0, ixz_1, ixz_2, ixz_3, ixz_4, ixz_5, ixz_6, ixz_7, ixz_8, ixz_9, ixz_10, ixz_11, ixz_12, ob_some, lt_of, ck_bP, bP_z, bP_o, ite_bP, Int.reduceToNat, Nat.reduceAdd, Nat.reduceMul, Int.reduceAdd, Int.reduceSub, Int.reduceMul, Int.reduceNeg, Int.reduceEq, Int.reduceLT, Int.reduceLE, ↓reduceIte, not_true_eq_false, not_false_eq_true, RN.l17]
theorem b_erase_no (W : WF a) (R : RC 1 M a) {l : Nat} (hl : l < nl a) (hd : la a l 4 = -1) : f_X7_erase ns (zI l) M = some ((zI (-1000002), ns), M) := by
  have ws := W.sc
  have c : 0 ≤ (l : Int) ∧ (l : Int) < (nl a : Int) := by omega
  unfold f_X7_erase
  rw [ob_of (k_X2_has W R (by omega) (by omega)), bP_t c, if_neg (show ¬ (zI 1 = 0) by decide), ob_of (k_X2_drf W R hl hd), if_pos (show zI 0 = 0 by decide)]
  rfl
theorem b_refill (W : WF a) (R : RC 1 M a) (H : HV M ns n h) {p : Nat} (hp : p < np a) (e : ¬ pa a p 1 - pa a p 2 = 0) : DN (f_X7_refill ns (zI p) M) (pa a p 1 - pa a p 2) n h a (uz a (13 + 8 * p + 2) (pa a p 1)) := by
  have ws := W.sc
  have v := W.pen hp
  have c : 0 ≤ (p : Int) ∧ (p : Int) < (np a : Int) := by omega
  unfold f_X7_refill
  rw [ob_of (k_X4_has W R (by omega) (by omega)), bP_t c, if_neg (show ¬ (zI 1 = 0) by decide)]
  obtain ⟨ns', N, n1, n2, n3⟩ := k_record W R H
  have RN := n3.rc R
  refine ⟨ns', up3 N 1 6 p (zI (pa a p 1)), ?_, RN.q2 hp (by omega) _, hv_og n2 OG.up⟩
  simp (disch := omega) only [zl_21, zl_22, zl_25, zl_40, zl_64, zl_150, zl_400, zl_1000000, zl_1065353216, zl_25214903, zl_2147483647, zl_32768, zl_1024, zl_0, zl_1, zl_2, zl_3, zl_4, zl_5, zl_6, zl_7, zl_8, zl_9, zl_10, zl_11, zl_12, zl_13, zl_14, zl_15, zl_16, zl_17, zl_18, zl_19, zl_20, zl_23, zl_24, zl_31, zl_32, zl_48, zl_50, zl_53, zl_57, zl_59, zl_60, zl_99, zl_100, zl_104, zl_112, zl_114, zl_119, zl_126, zl_127, zl_181, zl_200, zl_500, zl_543, zl_724, zl_999, zl_1000, zl_5000, zl_65536, zl_100000, zl_1000001, zl_1000002, zl_1000003, zl_1000004, zl_2143289344, zI_neg, zI_add, zI_sub, zI_mul, zI_le, zI_lt, zI_eq, ck_ib, ix_nat, ixz_0, ixz_1, ixz_2, ixz_3, ixz_4, ixz_5, ixz_6, ixz_7, ixz_8, ixz_9, ixz_10, ixz_11, ixz_12, ob_some, lt_of, ck_bP, bP_z, bP_o, ite_bP, Int.reduceToNat, Nat.reduceAdd, Nat.reduceMul, Int.reduceAdd, Int.reduceSub, Int.reduceMul, Int.reduceNeg, Int.reduceEq, Int.reduceLT, Int.reduceLE, ↓reduceIte, not_true_eq_false, not_false_eq_true, R.p4, R.p6, e, n1, RN.p4]
theorem b_refill_no (W : WF a) (R : RC 1 M a) {p : Nat} (hp : p < np a) (e : pa a p 1 - pa a p 2 = 0) : f_X7_refill ns (zI p) M = some ((zI (-1000002), ns), M) := by
  have ws := W.sc
  have v := W.pen hp
  have c : 0 ≤ (p : Int) ∧ (p : Int) < (np a : Int) := by omega
  unfold f_X7_refill
  rw [ob_of (k_X4_has W R (by omega) (by omega)), bP_t c, if_neg (show ¬ (zI 1 = 0) by decide)]
  simp (disch := omega) only [zl_21, zl_22, zl_25, zl_40, zl_64, zl_150, zl_400, zl_1000000, zl_1065353216, zl_25214903, zl_2147483647, zl_32768, zl_1024, zl_0, zl_1, zl_2, zl_3, zl_4, zl_5, zl_6, zl_7, zl_8, zl_9, zl_10, zl_11, zl_12, zl_13, zl_14, zl_15, zl_16, zl_17, zl_18, zl_19, zl_20, zl_23, zl_24, zl_31, zl_32, zl_48, zl_50, zl_53, zl_57, zl_59, zl_60, zl_99, zl_100, zl_104, zl_112, zl_114, zl_119, zl_126, zl_127, zl_181, zl_200, zl_500, zl_543, zl_724, zl_999, zl_1000, zl_5000, zl_65536, zl_100000, zl_1000001, zl_1000002, zl_1000003, zl_1000004, zl_2143289344, zI_neg, zI_add, zI_sub, zI_mul, zI_le, zI_lt, zI_eq, ck_ib, ix_nat, ixz_0, ixz_1, ixz_2, ixz_3, ixz_4, ixz_5, ixz_6, ixz_7, ixz_8, ixz_9, ixz_10, ixz_11, ixz_12, ob_some, lt_of, ck_bP, bP_z, bP_o, ite_bP, Int.reduceToNat, Nat.reduceAdd, Nat.reduceMul, Int.reduceAdd, Int.reduceSub, Int.reduceMul, Int.reduceNeg, Int.reduceEq, Int.reduceLT, Int.reduceLE, ↓reduceIte, not_true_eq_false, not_false_eq_true, R.p4, R.p6, e]
theorem b_leave (W : WF a) (R : RC 1 M a) (H : HV M ns n h) {p : Nat} (hp : p < np a) {v : Int} (d : 0 ≤ v ∧ v ≤ 1) (e : ¬ pa a p 6 = v) (f : ¬ a 8 = p) : ∃ r : Int, 0 ≤ r ∧ r ≤ 5 ∧ DN (f_X7_leave ns (zI p) (zI v) M) r n h a (uz a (13 + 8 * p + 6) v) := by
  have ws := W.sc
  have u := W.pen hp
  have c : 0 ≤ (p : Int) ∧ (p : Int) < (np a : Int) := by omega
  have ki : f_X7_isIn (zI v) 0 1 M = some (zI (bP (0 ≤ v ∧ v ≤ 1)), M) := by
    rw [zl_0, zl_1]; exact k_isIn (by omega) (by omega) (by omega) (by omega) (by omega) (by omega)
  unfold f_X7_leave f_X7_leave_b23 f_X7_leave_b53
  rw [ob_of (k_X4_has W R (by omega) (by omega)), bP_t c, if_neg (show ¬ (zI 1 = 0) by decide), ob_of ki, bP_t d, if_neg (show ¬ (zI 1 = 0) by decide)]
  obtain ⟨ns', N, n1, n2, n3⟩ := k_record W R H
  have RN := n3.rc R
  have Wb : WF (uz a (13 + 8 * p + 6) v) := W.q6 hp (by omega)
  have Rb := RN.q6 hp (by omega) v
  have kn := k_howManyPresent Wb Rb
  have pr := prs_rg Wb (Nat.le_refl (np (uz a (13 + 8 * p + 6) v)))
  have wb := Wb.sc
  generalize prs (uz a (13 + 8 * p + 6) v) (np (uz a (13 + 8 * p + 6) v)) = r at kn pr
  refine ⟨r, by omega, by omega, ns', up3 N 1 9 p (zI v), ?_, Rb, hv_og n2 OG.up⟩
  simp (disch := omega) only [zl_21, zl_22, zl_25, zl_40, zl_64, zl_150, zl_400, zl_1000000, zl_1065353216, zl_25214903, zl_2147483647, zl_32768, zl_1024, zl_0, zl_1, zl_2, zl_3, zl_4, zl_5, zl_6, zl_7, zl_8, zl_9, zl_10, zl_11, zl_12, zl_13, zl_14, zl_15, zl_16, zl_17, zl_18, zl_19, zl_20, zl_23, zl_24, zl_31, zl_32, zl_48, zl_50, zl_53, zl_57, zl_59, zl_60, zl_99, zl_100, zl_104, zl_112, zl_114, zl_119, zl_126, zl_127, zl_181, zl_200, zl_500, zl_543, zl_724, zl_999, zl_1000, zl_5000, zl_65536, zl_100000, zl_1000001, zl_1000002, zl_1000003, zl_1000004, zl_2143289344, zI_neg, zI_add, zI_sub, zI_mul, zI_le, zI_lt, zI_eq, ck_ib, ix_nat, ixz_0, ixz_1, ixz_2, ixz_3, ixz_4, ixz_5, ixz_6, ixz_7, ixz_8, ixz_9, ixz_10, ixz_11, ixz_12, ob_some, lt_of, ck_bP, bP_z, bP_o, ite_bP, Int.reduceToNat, Nat.reduceAdd, Nat.reduceMul, Int.reduceAdd, Int.reduceSub, Int.reduceMul, Int.reduceNeg, Int.reduceEq, Int.reduceLT, Int.reduceLE, ↓reduceIte, not_true_eq_false, not_false_eq_true, R.p9, R.t4, e, f, n1, kn]
theorem b_leave_no (W : WF a) (R : RC 1 M a) {p : Nat} (hp : p < np a) {v : Int} (d : 0 ≤ v ∧ v ≤ 1) (e : ¬ pa a p 6 = v) (f : a 8 = p) : f_X7_leave ns (zI p) (zI v) M = some ((zI (-1000002), ns), M) := by
  have ws := W.sc
  have u := W.pen hp
  have c : 0 ≤ (p : Int) ∧ (p : Int) < (np a : Int) := by omega
  have ki : f_X7_isIn (zI v) 0 1 M = some (zI (bP (0 ≤ v ∧ v ≤ 1)), M) := by
    rw [zl_0, zl_1]; exact k_isIn (by omega) (by omega) (by omega) (by omega) (by omega) (by omega)
  unfold f_X7_leave f_X7_leave_b23 f_X7_leave_b53
  rw [ob_of (k_X4_has W R (by omega) (by omega)), bP_t c, if_neg (show ¬ (zI 1 = 0) by decide), ob_of ki, bP_t d, if_neg (show ¬ (zI 1 = 0) by decide)]
  simp (disch := omega) only [zl_21, zl_22, zl_25, zl_40, zl_64, zl_150, zl_400, zl_1000000, zl_1065353216, zl_25214903, zl_2147483647, zl_32768, zl_1024, zl_0, zl_1, zl_2, zl_3, zl_4, zl_5, zl_6, zl_7, zl_8, zl_9, zl_10, zl_11, zl_12, zl_13, zl_14, zl_15, zl_16, zl_17, zl_18, zl_19, zl_20, zl_23, zl_24, zl_31, zl_32, zl_48, zl_50, zl_53, zl_57, zl_59, zl_60, zl_99, zl_100, zl_104, zl_112, zl_114, zl_119, zl_126, zl_127, zl_181, zl_200, zl_500, zl_543, zl_724, zl_999, zl_1000, zl_5000, zl_65536, zl_100000, zl_1000001, zl_1000002, zl_1000003, zl_1000004, zl_2143289344, zI_neg, zI_add, zI_sub, zI_mul, zI_le, zI_lt, zI_eq, ck_ib, ix_nat, ixz_0, ixz_1, ixz_2, ixz_3, ixz_4, ixz_5, ixz_6, ixz_7, ixz_8, ixz_9, ixz_10, ixz_11, ixz_12, ob_some, lt_of, ck_bP, bP_z, bP_o, ite_bP, Int.reduceToNat, Nat.reduceAdd, Nat.reduceMul, Int.reduceAdd, Int.reduceSub, Int.reduceMul, Int.reduceNeg, Int.reduceEq, Int.reduceLT, Int.reduceLE, ↓reduceIte, not_true_eq_false, not_false_eq_true, R.p9, R.t4, e, f]
theorem b_set (W : WF a) (R : RC 1 M a) (H : HV M ns n h) {i : Nat} (hi : i < 5) {v : Int} (d : lo5 i ≤ v ∧ v ≤ hi5 i) : DN (f_X7_set ns (zI i) (zI v) M) (a (2 + i)) n h a (uz a (2 + i) v) := by
  have ws := W.sc
  have c : 0 ≤ (i : Int) ∧ (i : Int) ≤ 4 := by omega
  have ki : f_X7_isIn (zI i) 0 4 M = some (zI (bP (0 ≤ (i : Int) ∧ (i : Int) ≤ 4)), M) := by
    rw [zl_0, zl_4]; exact k_isIn (by omega) (by omega) (by omega) (by omega) (by omega) (by omega)
  have tl := tab_lo ⟨i, hi⟩
  have th := tab_hi ⟨i, hi⟩
  simp only at tl th
  have lr := lo5_rg hi
  unfold f_X7_set f_X7_set_b26
  rw [ob_of ki, bP_t c, if_neg (show ¬ (zI 1 = 0) by decide), ix_nat (by omega), ck_ib (by omega) (by omega) (by omega), ck_ib (by omega) (by omega) (by omega), tl, th, ob_of (k_isIn (by omega) (by omega) (by omega) (by omega) (by omega) (by omega)), bP_t d, if_neg (show ¬ (zI 1 = 0) by decide)]
  obtain ⟨ns', N, n1, n2, n3⟩ := k_record W R H
  have RN := n3.rc R
  refine ⟨ns', up3 N 1 1 i (zI v), ?_, RN.s1 hi v, hv_og n2 OG.up⟩
  simp (disch := omega) only [zl_21, zl_22, zl_25, zl_40, zl_64, zl_150, zl_400, zl_1000000, zl_1065353216, zl_25214903, zl_2147483647, zl_32768, zl_1024, zl_0, zl_1, zl_2, zl_3, zl_4, zl_5, zl_6, zl_7, zl_8, zl_9, zl_10, zl_11, zl_12, zl_13, zl_14, zl_15, zl_16, zl_17, zl_18, zl_19, zl_20, zl_23, zl_24, zl_31, zl_32, zl_48, zl_50, zl_53, zl_57, zl_59, zl_60, zl_99, zl_100, zl_104, zl_112, zl_114, zl_119, zl_126, zl_127, zl_181, zl_200, zl_500, zl_543, zl_724, zl_999, zl_1000, zl_5000, zl_65536, zl_100000, zl_1000001, zl_1000002, zl_1000003, zl_1000004, zl_2143289344, zI_neg, zI_add, zI_sub, zI_mul, zI_le, zI_lt, zI_eq, ck_ib, ix_nat, ixz_0, ixz_1, ixz_2, ixz_3, ixz_4, ixz_5, ixz_6, ixz_7, ixz_8, ixz_9, ixz_10, ixz_11, ixz_12, ob_some, lt_of, ck_bP, bP_z, bP_o, ite_bP, Int.reduceToNat, Nat.reduceAdd, Nat.reduceMul, Int.reduceAdd, Int.reduceSub, Int.reduceMul, Int.reduceNeg, Int.reduceEq, Int.reduceLT, Int.reduceLE, ↓reduceIte, not_true_eq_false, not_false_eq_true, n1, RN.rset]
theorem b_undo (H : HV M ns (n + 1) h) : ∃ P, f_X7_undo ns M = some (zI n, P) ∧ HV P ns n h ∧ RC 1 P (h n) ∧ WF (h n) := by
  have H0 := H
  obtain ⟨q1, q2, nx, q3, q4, q5, q6, q7⟩ := H
  have ne : ¬ (zI ((n + 1 : Nat) : Int) = zI 0) := by rw [zI_eq (by omega) (by omega) (by omega) (by omega)]; omega
  unfold f_X7_undo
  rw [q5, zl_0, if_neg ne]
  obtain ⟨P, n1, n2, n3, n4, n5, n6⟩ := k_restoreTo H0
  rw [ob_of n1, n6]
  exact ⟨P, rfl, n2, n3, n4⟩
theorem b_pen (W : WF a) (R : RC 1 M a) (H : HV M ns n h) (hn : np a < 5) {kd cp hd sl : Int} (c1 : 0 ≤ kd ∧ kd ≤ 1) (c2 : 10 ≤ cp ∧ cp ≤ 5000) (c3 : 0 ≤ hd ∧ hd ≤ 2) (c4 : 0 ≤ sl ∧ sl ≤ 1) (d1 : hd = 2 ∨ hd = kd) (d2 : ¬ hasPl a (10 * hd + sl)) : DN (f_X7_pen ns (zI kd) (zI cp) (zI hd) (zI sl) M) (np a) n h a (pnr a kd cp (10 * hd + sl)) := by
  have ws := W.sc
  have i1 : f_X7_isIn (zI kd) 0 1 M = some (zI 1, M) := by
    rw [zl_0, zl_1, k_isIn (by omega) (by omega) (by omega) (by omega) (by omega) (by omega), bP_t c1]
  have i2 : f_X7_isIn (zI cp) 10 5000 M = some (zI 1, M) := by
    rw [zl_10, zl_5000, k_isIn (by omega) (by omega) (by omega) (by omega) (by omega) (by omega), bP_t c2]
  have i3 : f_X7_isIn (zI hd) 0 2 M = some (zI 1, M) := by
    rw [zl_0, zl_2, k_isIn (by omega) (by omega) (by omega) (by omega) (by omega) (by omega), bP_t c3]
  have i4 : f_X7_isIn (zI sl) 0 1 M = some (zI 1, M) := by
    rw [zl_0, zl_1, k_isIn (by omega) (by omega) (by omega) (by omega) (by omega) (by omega), bP_t c4]
  have n0 : ¬ (zI 1 = 0) := by decide
  have p0 : zI 0 = 0 := by decide
  have zz : (zI 10 * zI hd + zI sl) = zI (10 * hd + sl) := by rw [zI_mul, zI_add]
  have ht : f_X7_holderTakes (zI hd) (zI kd) M = some (zI 1, M) := by
    unfold f_X7_holderTakes f_X7_holderTakes_b13 f_X7_holderTakes_b24 f_X7_holderTakes_b29
    rcases (by omega : hd = 0 ∨ hd = 1 ∨ hd = 2) with rfl | rfl | rfl <;> rcases (by omega : kd = 0 ∨ kd = 1) with rfl | rfl <;> first | rfl | (exfalso; omega)
  have f1 : zI (np a) < 5 := by rw [zl_5, zI_lt (by omega) (by omega) (by omega) (by omega)]; omega
  unfold f_X7_pen f_X7_pen_b40 f_X7_pen_b75
  rw [ob_of i1, if_neg n0, ob_of i2, if_neg n0, ob_of i3, if_neg n0, ob_of i4, if_neg n0, zl_10, zz, lt_of, ob_of ht, if_neg n0, ob_of (k_isPlaceOfAny W R (by omega) (by omega)), bP_f d2, if_pos p0, R.rnp, if_pos f1]
  obtain ⟨ns', N, n1, n2, n3⟩ := k_record W R H
  obtain ⟨P, p1, p2, p3⟩ := k_X4_add W (n3.rc R) hn kd cp (10 * hd + sl)
  rw [ob_of n1, ob_of p1]
  exact ⟨ns', P, rfl, p2, hv_og n2 p3⟩
theorem b_pen_slot (W : WF a) (R : RC 1 M a) {kd cp : Int} (c1 : 0 ≤ kd ∧ kd ≤ 1) (c2 : 10 ≤ cp ∧ cp ≤ 5000) : f_X7_pen ns (zI kd) (zI cp) (zI 2) (zI 2) M = some ((zI (-1000001), ns), M) := by
  have i1 : f_X7_isIn (zI kd) 0 1 M = some (zI 1, M) := by
    rw [zl_0, zl_1, k_isIn (by omega) (by omega) (by omega) (by omega) (by omega) (by omega), bP_t c1]
  have i2 : f_X7_isIn (zI cp) 10 5000 M = some (zI 1, M) := by
    rw [zl_10, zl_5000, k_isIn (by omega) (by omega) (by omega) (by omega) (by omega) (by omega), bP_t c2]
  have i3 : f_X7_isIn (zI 2) 0 2 M = some (zI 1, M) := by
    rw [zl_0, zl_2, k_isIn (by omega) (by omega) (by omega) (by omega) (by omega) (by omega), bP_t (by omega)]
  have i4 : f_X7_isIn (zI 2) 0 1 M = some (zI 0, M) := by
    rw [zl_0, zl_1, k_isIn (by omega) (by omega) (by omega) (by omega) (by omega) (by omega), bP_f (by omega)]
  have n0 : ¬ (zI 1 = 0) := by decide
  have p0 : zI 0 = 0 := by decide
  unfold f_X7_pen f_X7_pen_b40 f_X7_pen_b75
  rw [ob_of i1, if_neg n0, ob_of i2, if_neg n0, ob_of i3, if_neg n0, ob_of i4, if_pos p0]
  rfl
theorem b_pen_kind (W : WF a) (R : RC 1 M a) : f_X7_pen ns (zI 0) (zI 50) (zI 1) (zI 1) M = some ((zI (-1000002), ns), M) := by
  have i1 : f_X7_isIn (zI 0) 0 1 M = some (zI 1, M) := by
    rw [zl_0, zl_1, k_isIn (by omega) (by omega) (by omega) (by omega) (by omega) (by omega), bP_t (by omega)]
  have i2 : f_X7_isIn (zI 50) 10 5000 M = some (zI 1, M) := by
    rw [zl_10, zl_5000, k_isIn (by omega) (by omega) (by omega) (by omega) (by omega) (by omega), bP_t (by omega)]
  have i3 : f_X7_isIn (zI 1) 0 2 M = some (zI 1, M) := by
    rw [zl_0, zl_2, k_isIn (by omega) (by omega) (by omega) (by omega) (by omega) (by omega), bP_t (by omega)]
  have i4 : f_X7_isIn (zI 1) 0 1 M = some (zI 1, M) := by
    rw [zl_0, zl_1, k_isIn (by omega) (by omega) (by omega) (by omega) (by omega) (by omega), bP_t (by omega)]
  have n0 : ¬ (zI 1 = 0) := by decide
  have p0 : zI 0 = 0 := by decide
  have ht : f_X7_holderTakes (zI 1) (zI 0) M = some (zI 0, M) := by
    unfold f_X7_holderTakes f_X7_holderTakes_b13 f_X7_holderTakes_b24 f_X7_holderTakes_b29
    rfl
  unfold f_X7_pen f_X7_pen_b40 f_X7_pen_b75
  rw [ob_of i1, if_neg n0, ob_of i2, if_neg n0, ob_of i3, if_neg n0, ob_of i4, if_neg n0, lt_of, ob_of ht, if_pos p0]
  rfl
theorem b_line (W : WF a) (R : RC 1 M a) (H : HV M ns n h) (hn : nl a < 16) {x y x2 y2 : Int} (h1 : 0 ≤ x ∧ x ≤ 99) (h2 : 0 ≤ y ∧ y ≤ 99) (h3 : 0 ≤ x2 ∧ x2 ≤ 99) (h4 : 0 ≤ y2 ∧ y2 ≤ 99) (hd : x ≠ x2) : DN (f_X7_line ns (zI x) (zI y) (zI x2) (zI y2) M) (nl a) n h a (lnr a x y x2 y2) := by
  have ws := W.sc
  have n0 : ¬ (zI 1 = 0) := by decide
  have f1 : zI (nl a) < 16 := by rw [zl_16, zI_lt (by omega) (by omega) (by omega) (by omega)]; omega
  have e1 : ¬ zI x = zI x2 := by rw [zI_eq (by omega) (by omega) (by omega) (by omega)]; exact hd
  unfold f_X7_line f_X7_line_b28 f_X7_line_b31
  rw [ob_of (k_isPoint (by omega) (by omega) (by omega) (by omega)), bP_t ⟨h1, h2⟩, if_neg n0, ob_of (k_isPoint (by omega) (by omega) (by omega) (by omega)), bP_t ⟨h3, h4⟩, if_neg n0, if_neg e1, R.rnl, if_pos f1]
  obtain ⟨ns', N, n1, n2, n3⟩ := k_record W R H
  obtain ⟨P, p1, p2, p3⟩ := k_X2_add W (n3.rc R) hn h1 h2 h3 h4 (fun t => hd t.1)
  rw [ob_of n1, ob_of p1]
  exact ⟨ns', P, rfl, p2, hv_og n2 p3⟩
end
