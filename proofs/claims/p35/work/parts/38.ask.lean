/-! questions of both, that change nothing -/
section
variable {g : Nat} {M S : Mem} {a : Row}
/-- both give one answer and change nothing -/
def Q2 (x y : Option (Int32 × Mem)) (M S : Mem) : Prop := ∃ r : Int32, x = some (r, M) ∧ y = some (r, S)
theorem k_shadeOf (W : WF a) (R : RC g M a) {l : Nat} (h : l < nl a) (hd : la a l 4 ≠ -1) : ∃ E T : Nat, f_X5_shadeOf g (zI l) M = some (xb E T, M) ∧ zI (la a l 7) = (xb E T).toInt32 ∧ 114 ≤ E ∧ E ≤ 127 ∧ T < 8388608 ∧ (E = 127 → T = 0) := by
  have ws := W.sc
  have v := W.line h
  obtain ⟨p, hp⟩ : ∃ p : Nat, la a l 4 = p := ⟨(la a l 4).toNat, by omega⟩
  have hpn : p < np a := by omega
  have u := W.pen hpn
  obtain ⟨k, k1, k2, k3, k4⟩ := R.rshade h hd
  rw [hp] at k2 k4
  simp only [Int.toNat_natCast] at k2 k4
  obtain ⟨E, T, s1, s2, s3, s4, s5⟩ := shade_val (k := k) (c := pa a p 1) k1 k2 (by omega)
  refine ⟨E, T, ?_, ?_, s2, s3, s4, s5⟩
  · have c2 : (0 : Int) ≤ (p : Int) ∧ (p : Int) < (np a : Int) := by omega
    unfold f_X5_shadeOf f_X5_shadeOf_b34 f_X5_shadeOf_b56
    simp (disch := omega) only [zl_21, zl_22, zl_25, zl_40, zl_64, zl_150, zl_400, zl_1000000, zl_1065353216, zl_25214903, zl_2147483647, zl_32768, zl_1024, zl_0, zl_1, zl_2, zl_3, zl_4, zl_5, zl_6, zl_7, zl_8, zl_9, zl_10, zl_11, zl_12, zl_13, zl_14, zl_15, zl_16, zl_17, zl_18, zl_19, zl_20, zl_23, zl_24, zl_31, zl_32, zl_48, zl_50, zl_53, zl_57, zl_59, zl_60, zl_99, zl_100, zl_104, zl_112, zl_114, zl_119, zl_126, zl_127, zl_181, zl_200, zl_500, zl_543, zl_724, zl_999, zl_1000, zl_5000, zl_65536, zl_100000, zl_1000001, zl_1000002, zl_1000003, zl_1000004, zl_2143289344, zI_neg, zI_add, zI_sub, zI_mul, zI_le, zI_lt, zI_eq, ck_ib, ix_nat, ixz_0, ixz_1, ixz_2, ixz_3, ixz_4, ixz_5, ixz_6, ixz_7, ixz_8, ixz_9, ixz_10, ixz_11, ixz_12, ob_some, lt_of, ck_bP, bP_z, bP_o, ite_bP, Int.reduceToNat, Nat.reduceAdd, Nat.reduceMul, Int.reduceAdd, Int.reduceSub, Int.reduceMul, Int.reduceNeg, Int.reduceEq, Int.reduceLT, Int.reduceLE, ↓reduceIte, not_true_eq_false, not_false_eq_true, R.l17, hp, k_X4_has W R, c2, and_self, R.p4, k3, s1]
    rw [if_neg (by omega)]
    exact ck_of (fok_xb (by omega) s4)
  · rw [k4, ← s1]
    exact zI_of _
theorem k_bitsOf (W : WF a) (R : RC g M a) {l : Nat} (h : l < nl a) (hd : la a l 4 ≠ -1) : (ob (f_X5_shadeOf g (zI l) M) fun r N => ob (f_X7_bitsOf r N) fun q O => some (q, O)) = some (zI (la a l 7), M) := by
  obtain ⟨E, T, e, f, s1, s2, s3, s4⟩ := k_shadeOf W R h hd
  rw [ob_of e, ob_of (bits_of (by omega) s2 s3 M), f]
theorem k_lo_in (W : WF a) (R : RC 1 M a) {l : Nat} (h : l < nl a) {v : Int} (h3 : 0 ≤ v) (h4 : v ≤ 9) : f_X7_lineOf (zI l) (zI v) M = if zI v = 6 then f_X7_lineOf_b45 (zI l) (zI v) M else if zI v = 7 then f_X7_lineOf_b45 (zI l) (zI v) M else if zI v = 9 then f_X7_lineOf_b45 (zI l) (zI v) M else f_X7_lineOf_b50 (zI l) (zI v) 0 M := by
  have ws := W.sc
  unfold f_X7_lineOf
  rw [ob_of (k_X2_has W R (by omega) (by omega)), bP_t (by omega), if_neg (by decide), show (0 : Int32) = zI 0 from zl_0, zl_9, ob_of (k_isIn (by omega) (by omega) (by decide) (by decide) (by decide) (by decide)), bP_t ⟨h3, h4⟩, if_neg (by decide)]
/-- the spread over a table of the pens -/
theorem k_spreadOf_l (W : WF a) (R : RC g M a) {ga ka : Nat} {v : Nat → Int} {B : Int} (hB : 0 ≤ B) (hB2 : B < 1000000) (hv : ∀ p, p < np a → 0 ≤ v p ∧ v p ≤ B) (hm : ∀ p, p < np a → M ga ka p = zI (v p)) : ∀ d k fu, k + d = np a → d < fu → f_X4_spreadOf_b7 g ga ka 5 fu (zI (lst a v (-1) k)) (zI (mst a v k)) (zI k) M = some (zI (if lst a v (-1) (np a) = -1 then -1000004 else mst a v (np a) - lst a v (-1) (np a)), M) := by
  intro d
  have ws := W.sc
  have e5 : Int32.ofNat 5 = zI 5 := by decide
  induction d with
  | zero =>
    intro k fu hk hf
    obtain ⟨fu, rfl⟩ : ∃ f, fu = f + 1 := ⟨fu - 1, by omega⟩
    obtain rfl : k = np a := by omega
    have c0 : ((np a : Nat) : Int) ≤ ((np a : Nat) : Int) := Int.le_refl _
    have i := lst_rg (a := a) hB hv (-1) (np a) (by omega)
    rw [f_X4_spreadOf_b7.eq_2]
    simp (disch := omega) only [zl_21, zl_22, zl_25, zl_40, zl_64, zl_150, zl_400, zl_1000000, zl_1065353216, zl_25214903, zl_2147483647, zl_32768, zl_1024, zl_0, zl_1, zl_2, zl_3, zl_4, zl_5, zl_6, zl_7, zl_8, zl_9, zl_10, zl_11, zl_12, zl_13, zl_14, zl_15, zl_16, zl_17, zl_18, zl_19, zl_20, zl_23, zl_24, zl_31, zl_32, zl_48, zl_50, zl_53, zl_57, zl_59, zl_60, zl_99, zl_100, zl_104, zl_112, zl_114, zl_119, zl_126, zl_127, zl_181, zl_200, zl_500, zl_543, zl_724, zl_999, zl_1000, zl_5000, zl_65536, zl_100000, zl_1000001, zl_1000002, zl_1000003, zl_1000004, zl_2143289344, zI_neg, zI_add, zI_sub, zI_mul, zI_le, zI_lt, zI_eq, ck_ib, ix_nat, ixz_0, ixz_1, ixz_2, ixz_3, ixz_4, ixz_5, ixz_6, ixz_7, ixz_8, ixz_9, ixz_10, ixz_11, ixz_12, ob_some, lt_of, ck_bP, bP_z, bP_o, ite_bP, Int.reduceToNat, Nat.reduceAdd, Nat.reduceMul, Int.reduceAdd, Int.reduceSub, Int.reduceMul, Int.reduceNeg, Int.reduceEq, Int.reduceLT, Int.reduceLE, ↓reduceIte, not_true_eq_false, not_false_eq_true, R.rnp, c0, f_X4_spreadOf_b68, f_X4_spreadOf_b81]
    split <;> rfl
  | succ d ih =>
    intro k fu hk hf
    obtain ⟨fu, rfl⟩ : ∃ f, fu = f + 1 := ⟨fu - 1, by omega⟩
    have kk : k < np a := by omega
    have c0 : ¬ ((np a : Int) ≤ (k : Int)) := by omega
    have e := ih (k + 1) fu (by omega) (by omega)
    simp only [nc1] at e
    have i := lst_rg (a := a) hB hv (-1) k (by omega)
    have j := mst_rg (a := a) hB hv k (by omega)
    have u := hv k kk
    have y := W.pen kk
    have hk := hm k kk
    have c1 : ¬ ((5 : Int) ≤ (k : Int)) := by omega
    rw [f_X4_spreadOf_b7.eq_2]
    simp only [lst, mst] at e
    by_cases d1 : pa a k 6 = 1
    · rw [if_neg (by omega), if_neg (by omega)] at e
      simp (disch := omega) only [zl_21, zl_22, zl_25, zl_40, zl_64, zl_150, zl_400, zl_1000000, zl_1065353216, zl_25214903, zl_2147483647, zl_32768, zl_1024, zl_0, zl_1, zl_2, zl_3, zl_4, zl_5, zl_6, zl_7, zl_8, zl_9, zl_10, zl_11, zl_12, zl_13, zl_14, zl_15, zl_16, zl_17, zl_18, zl_19, zl_20, zl_23, zl_24, zl_31, zl_32, zl_48, zl_50, zl_53, zl_57, zl_59, zl_60, zl_99, zl_100, zl_104, zl_112, zl_114, zl_119, zl_126, zl_127, zl_181, zl_200, zl_500, zl_543, zl_724, zl_999, zl_1000, zl_5000, zl_65536, zl_100000, zl_1000001, zl_1000002, zl_1000003, zl_1000004, zl_2143289344, zI_neg, zI_add, zI_sub, zI_mul, zI_le, zI_lt, zI_eq, ck_ib, ix_nat, ixz_0, ixz_1, ixz_2, ixz_3, ixz_4, ixz_5, ixz_6, ixz_7, ixz_8, ixz_9, ixz_10, ixz_11, ixz_12, ob_some, lt_of, ck_bP, bP_z, bP_o, ite_bP, Int.reduceToNat, Nat.reduceAdd, Nat.reduceMul, Int.reduceAdd, Int.reduceSub, Int.reduceMul, Int.reduceNeg, Int.reduceEq, Int.reduceLT, Int.reduceLE, ↓reduceIte, not_true_eq_false, not_false_eq_true, R.rnp, c0, e5, c1, k_X4_isAway W R kk, d1, f_X4_spreadOf_b62]
      exact e
    · have dd : pa a k 6 = 0 := by omega
      simp (disch := omega) only [zl_21, zl_22, zl_25, zl_40, zl_64, zl_150, zl_400, zl_1000000, zl_1065353216, zl_25214903, zl_2147483647, zl_32768, zl_1024, zl_0, zl_1, zl_2, zl_3, zl_4, zl_5, zl_6, zl_7, zl_8, zl_9, zl_10, zl_11, zl_12, zl_13, zl_14, zl_15, zl_16, zl_17, zl_18, zl_19, zl_20, zl_23, zl_24, zl_31, zl_32, zl_48, zl_50, zl_53, zl_57, zl_59, zl_60, zl_99, zl_100, zl_104, zl_112, zl_114, zl_119, zl_126, zl_127, zl_181, zl_200, zl_500, zl_543, zl_724, zl_999, zl_1000, zl_5000, zl_65536, zl_100000, zl_1000001, zl_1000002, zl_1000003, zl_1000004, zl_2143289344, zI_neg, zI_add, zI_sub, zI_mul, zI_le, zI_lt, zI_eq, ck_ib, ix_nat, ixz_0, ixz_1, ixz_2, ixz_3, ixz_4, ixz_5, ixz_6, ixz_7, ixz_8, ixz_9, ixz_10, ixz_11, ixz_12, ob_some, lt_of, ck_bP, bP_z, bP_o, ite_bP, Int.reduceToNat, Nat.reduceAdd, Nat.reduceMul, Int.reduceAdd, Int.reduceSub, Int.reduceMul, Int.reduceNeg, Int.reduceEq, Int.reduceLT, Int.reduceLE, ↓reduceIte, not_true_eq_false, not_false_eq_true, R.rnp, c0, e5, c1, k_X4_isAway W R kk, d1, f_X4_spreadOf_b62, f_X4_spreadOf_b52, hk, mx_zI, mn_zI]
      rw [show (if pa a k 6 = 0 ∧ mst a v k < v k then v k else mst a v k) = max (mst a v k) (v k) by split <;> omega] at e
      split
      · rw [if_pos (by omega)] at e
        exact e
      · rw [show (if pa a k 6 = 0 ∧ (k : Int) ≠ -1 ∧ (lst a v (-1) k = -1 ∨ v k < lst a v (-1) k) then v k else lst a v (-1) k) = min (lst a v (-1) k) (v k) by split <;> omega] at e
        exact e
theorem k_spreadOf (W : WF a) (R : RC g M a) {ga ka : Nat} {v : Nat → Int} {B : Int} (hB : 0 ≤ B) (hB2 : B < 1000000) (hv : ∀ p, p < np a → 0 ≤ v p ∧ v p ≤ B) (hm : ∀ p, p < np a → M ga ka p = zI (v p)) : f_X4_spreadOf g ga ka 5 M = some (zI (if lst a v (-1) (np a) = -1 then -1000004 else mst a v (np a) - lst a v (-1) (np a)), M) := k_spreadOf_l W R hB hB2 hv hm (np a) 0 1000 (by omega) (by have w := W.sc; omega)
theorem tch_self {l : Nat} : tch a l l := geo_tm geo_self
end
