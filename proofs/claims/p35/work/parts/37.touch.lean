/-! touching, wet lines, why a line cannot be drawn, of both -/
section
variable {g : Nat} {M S : Mem} {a : Row}
theorem mul_rg {x y : Int} (h1 : x.natAbs ≤ 99) (h2 : y.natAbs ≤ 99) : -9801 ≤ x * y ∧ x * y ≤ 9801 := by
  have h : (x * y).natAbs ≤ 99 * 99 := by rw [Int.natAbs_mul]; exact Nat.mul_le_mul h1 h2
  omega
theorem crs_rg {ax ay bx b2 px py : Int} (h1 : 0 ≤ ax ∧ ax ≤ 99) (h2 : 0 ≤ ay ∧ ay ≤ 99) (h3 : 0 ≤ bx ∧ bx ≤ 99) (h4 : 0 ≤ b2 ∧ b2 ≤ 99) (h5 : 0 ≤ px ∧ px ≤ 99) (h6 : 0 ≤ py ∧ py ≤ 99) : -20000 ≤ crs ax ay bx b2 px py ∧ crs ax ay bx b2 px py ≤ 20000 := by
  have u := mul_rg (x := bx - ax) (y := py - ay) (by omega) (by omega)
  have v := mul_rg (x := b2 - ay) (y := px - ax) (by omega) (by omega)
  unfold crs
  omega
theorem crs_mul {u v : Int} (h1 : -20000 ≤ u ∧ u ≤ 20000) (h2 : -20000 ≤ v ∧ v ≤ 20000) : -400000000 ≤ u * v ∧ u * v ≤ 400000000 := by
  have h : (u * v).natAbs ≤ 20000 * 20000 := by rw [Int.natAbs_mul]; exact Nat.mul_le_mul (by omega) (by omega)
  omega
def sg (v : Int) : Int := if v < 0 then -1 else if 0 < v then 1 else 0
theorem sg_mul {u v : Int} : sg u * sg v < 0 ↔ u * v < 0 := by
  have key : ∀ x y : Int, 0 < x → 0 < y → 0 < x * y := fun x y h1 h2 => Int.mul_pos h1 h2
  rcases (by omega : u < 0 ∨ u = 0 ∨ 0 < u) with h | h | h
  · rcases (by omega : v < 0 ∨ v = 0 ∨ 0 < v) with k | k | k
    · have e := key (-u) (-v) (by omega) (by omega)
      have e2 : -u * -v = u * v := by rw [Int.neg_mul_neg]
      unfold sg
      rw [if_pos h, if_pos k]
      omega
    · subst k; unfold sg; simp
    · have e := key (-u) v (by omega) (by omega)
      have e2 : -u * v = -(u * v) := by rw [Int.neg_mul]
      unfold sg
      rw [if_pos h, if_neg (by omega), if_pos k]
      omega
  · subst h; unfold sg; simp
  · rcases (by omega : v < 0 ∨ v = 0 ∨ 0 < v) with k | k | k
    · have e := key u (-v) (by omega) (by omega)
      have e2 : u * -v = -(u * v) := by rw [Int.mul_neg]
      unfold sg
      rw [if_pos k, if_neg (show ¬ u < 0 by omega), if_pos h]
      omega
    · subst k; unfold sg; simp
    · have e := key u v h k
      unfold sg
      rw [if_neg (show ¬ u < 0 by omega), if_pos h, if_neg (show ¬ v < 0 by omega), if_pos k]
      omega
theorem sg_zero {v : Int} : sg v = 0 ↔ v = 0 := by
  unfold sg
  (repeat' split) <;> omega
theorem sg_rg (v : Int) : -1 ≤ sg v ∧ sg v ≤ 1 := by
  unfold sg
  (repeat' split) <;> omega
/-! sets of lines as bits -/
def bt (o : Nat) : Int32 := zI 1 <<< (zI o &&& zI 31)
theorem i32_or0 (x : Int32) : x ||| zI 0 = x := by
  have e : zI 0 = 0 := by decide
  rw [e]
  exact Int32.or_zero
theorem i32_0or (x : Int32) : zI 0 ||| x = x := by
  have e : zI 0 = 0 := by decide
  rw [e]
  exact Int32.zero_or
theorem i32_oror (x : Int32) : x ||| x = x := Int32.or_self
theorem i32_0and (x : Int32) : zI 0 &&& x = zI 0 := by
  have e : zI 0 = 0 := by decide
  rw [e]
  exact Int32.zero_and
theorem i32_dist (x y z : Int32) : (x ||| y) &&& z = (x &&& z) ||| (y &&& z) := by
  apply Int32.toBitVec_inj.1
  simp only [Int32.toBitVec_and, Int32.toBitVec_or]
  apply BitVec.eq_of_getLsbD_eq
  intro i hi
  simp only [BitVec.getLsbD_and, BitVec.getLsbD_or, Bool.and_or_distrib_right]
theorem bt_and : ∀ n : Fin 16, ∀ o : Fin 16, bt n.val &&& bt o.val = if n.val = o.val then bt o.val else zI 0 := by decide +kernel
theorem bt_ne : ∀ n : Fin 16, bt n.val ≠ zI 0 := by decide +kernel
theorem tsI_and (l o : Nat) (ho : o < 16) : ∀ n, n ≤ 16 → tsI a l n &&& bt o = @ite Int32 (o < n ∧ o ≠ l ∧ tch a l o) (Classical.propDecidable _) (bt o) (zI 0) := by
  intro n
  induction n with
  | zero =>
    intro _
    rw [if_neg (by omega)]
    exact i32_0and _
  | succ n ih =>
    intro h
    have i := ih (by omega)
    have b := bt_and ⟨n, by omega⟩ ⟨o, ho⟩
    simp only at b
    simp only [tsI]
    by_cases c : n ≠ l ∧ tch a l n
    · rw [if_pos c, show zI 1 <<< (zI n &&& zI 31) = bt n from rfl, i32_dist, i, b]
      by_cases d : n = o
      · subst d
        rw [if_pos rfl, if_neg (by omega), if_pos ⟨by omega, c.1, c.2⟩, i32_0or]
      · rw [if_neg d, i32_or0]
        by_cases q : o ≠ l ∧ tch a l o
        · by_cases r : o < n
          · rw [if_pos ⟨r, q.1, q.2⟩, if_pos ⟨by omega, q.1, q.2⟩]
          · rw [if_neg (fun t => r t.1), if_neg (fun t => by omega)]
        · rw [if_neg (fun t => q t.2), if_neg (fun t => q t.2)]
    · rw [if_neg c, i]
      by_cases q : o ≠ l ∧ tch a l o
      · by_cases r : o < n
        · rw [if_pos ⟨r, q.1, q.2⟩, if_pos ⟨by omega, q.1, q.2⟩]
        · have : o ≠ n := fun t => c (t ▸ q)
          rw [if_neg (fun t => r t.1), if_neg (fun t => by omega)]
      · rw [if_neg (fun t => q t.2), if_neg (fun t => q t.2)]
theorem k_isTouching (W : WF a) (R : RC g M a) {l o : Nat} (h : l < nl a) (k : o < nl a) : f_X2_isTouching g (zI l) (zI o) M = some (zI (bP (o ≠ l ∧ tch a l o)), M) := by
  have ws := W.sc
  have i := tsI_and (a := a) l o (by omega) (nl a) (by omega)
  have b := bt_ne ⟨o, by omega⟩
  simp only at b
  unfold f_X2_isTouching f_X2_isTouching_b18
  simp (disch := omega) only [zl_21, zl_22, zl_25, zl_40, zl_64, zl_150, zl_400, zl_1000000, zl_1065353216, zl_25214903, zl_2147483647, zl_32768, zl_1024, zl_0, zl_1, zl_2, zl_3, zl_4, zl_5, zl_6, zl_7, zl_8, zl_9, zl_10, zl_11, zl_12, zl_13, zl_14, zl_15, zl_16, zl_17, zl_18, zl_19, zl_20, zl_23, zl_24, zl_31, zl_32, zl_48, zl_50, zl_53, zl_57, zl_59, zl_60, zl_99, zl_100, zl_104, zl_112, zl_114, zl_119, zl_126, zl_127, zl_181, zl_200, zl_500, zl_543, zl_724, zl_999, zl_1000, zl_5000, zl_65536, zl_100000, zl_1000001, zl_1000002, zl_1000003, zl_1000004, zl_2143289344, zI_neg, zI_add, zI_sub, zI_mul, zI_le, zI_lt, zI_eq, ck_ib, ix_nat, ixz_0, ixz_1, ixz_2, ixz_3, ixz_4, ixz_5, ixz_6, ixz_7, ixz_8, ixz_9, ixz_10, ixz_11, ixz_12, ob_some, lt_of, ck_bP, bP_z, bP_o, ite_bP, Int.reduceToNat, Nat.reduceAdd, Nat.reduceMul, Int.reduceAdd, Int.reduceSub, Int.reduceMul, Int.reduceNeg, Int.reduceEq, Int.reduceLT, Int.reduceLE, R.l16]
  rw [show zI 1 <<< (zI o &&& zI 31) = bt o from rfl, i]
  by_cases c : o ≠ l ∧ tch a l o
  · rw [if_pos (show o < nl a ∧ o ≠ l ∧ tch a l o from ⟨k, c.1, c.2⟩), if_neg b, bP_t c]
    exact ck_bl1 _
  · rw [if_neg (show ¬ (o < nl a ∧ o ≠ l ∧ tch a l o) from fun t => c t.2), if_pos rfl, bP_f c]
    exact ck_bl0 _
/-- strikers as bits -/
noncomputable def stb (a : Row) : Nat → Int32
  | 0 => zI 0
  | k + 1 => @ite Int32 (strk a k) (Classical.propDecidable _) (stb a k ||| (zI 1 <<< (zI k &&& zI 31))) (stb a k)
theorem k_strikers_l (W : WF a) (R : RC 1 M a) : ∀ d k fu, k + d = np a → d < fu → f_X7_strikers_b4 fu (stb a k) (zI k) M = some (stb a (np a), M) := by
  intro d
  have ws := W.sc
  induction d with
  | zero =>
    intro k fu hk hf
    obtain ⟨fu, rfl⟩ : ∃ f, fu = f + 1 := ⟨fu - 1, by omega⟩
    obtain rfl : k = np a := by omega
    have c0 : ((np a : Nat) : Int) ≤ ((np a : Nat) : Int) := Int.le_refl _
    rw [f_X7_strikers_b4.eq_2]
    simp (disch := omega) only [zl_21, zl_22, zl_25, zl_40, zl_64, zl_150, zl_400, zl_1000000, zl_1065353216, zl_25214903, zl_2147483647, zl_32768, zl_1024, zl_0, zl_1, zl_2, zl_3, zl_4, zl_5, zl_6, zl_7, zl_8, zl_9, zl_10, zl_11, zl_12, zl_13, zl_14, zl_15, zl_16, zl_17, zl_18, zl_19, zl_20, zl_23, zl_24, zl_31, zl_32, zl_48, zl_50, zl_53, zl_57, zl_59, zl_60, zl_99, zl_100, zl_104, zl_112, zl_114, zl_119, zl_126, zl_127, zl_181, zl_200, zl_500, zl_543, zl_724, zl_999, zl_1000, zl_5000, zl_65536, zl_100000, zl_1000001, zl_1000002, zl_1000003, zl_1000004, zl_2143289344, zI_neg, zI_add, zI_sub, zI_mul, zI_le, zI_lt, zI_eq, ck_ib, ix_nat, ixz_0, ixz_1, ixz_2, ixz_3, ixz_4, ixz_5, ixz_6, ixz_7, ixz_8, ixz_9, ixz_10, ixz_11, ixz_12, ob_some, lt_of, ck_bP, bP_z, bP_o, ite_bP, Int.reduceToNat, Nat.reduceAdd, Nat.reduceMul, Int.reduceAdd, Int.reduceSub, Int.reduceMul, Int.reduceNeg, Int.reduceEq, Int.reduceLT, Int.reduceLE, ↓reduceIte, not_true_eq_false, not_false_eq_true, R.rnp, c0]
  | succ d ih =>
    intro k fu hk hf
    obtain ⟨fu, rfl⟩ : ∃ f, fu = f + 1 := ⟨fu - 1, by omega⟩
    have kk : k < np a := by omega
    have c0 : ¬ ((np a : Int) ≤ (k : Int)) := by omega
    have e := ih (k + 1) fu (by omega) (by omega)
    simp only [nc1] at e
    rw [f_X7_strikers_b4.eq_2]
    simp only [stb] at e
    by_cases t : strk a k
    · rw [if_pos t] at e
      simp (disch := omega) only [zl_21, zl_22, zl_25, zl_40, zl_64, zl_150, zl_400, zl_1000000, zl_1065353216, zl_25214903, zl_2147483647, zl_32768, zl_1024, zl_0, zl_1, zl_2, zl_3, zl_4, zl_5, zl_6, zl_7, zl_8, zl_9, zl_10, zl_11, zl_12, zl_13, zl_14, zl_15, zl_16, zl_17, zl_18, zl_19, zl_20, zl_23, zl_24, zl_31, zl_32, zl_48, zl_50, zl_53, zl_57, zl_59, zl_60, zl_99, zl_100, zl_104, zl_112, zl_114, zl_119, zl_126, zl_127, zl_181, zl_200, zl_500, zl_543, zl_724, zl_999, zl_1000, zl_5000, zl_65536, zl_100000, zl_1000001, zl_1000002, zl_1000003, zl_1000004, zl_2143289344, zI_neg, zI_add, zI_sub, zI_mul, zI_le, zI_lt, zI_eq, ck_ib, ix_nat, ixz_0, ixz_1, ixz_2, ixz_3, ixz_4, ixz_5, ixz_6, ixz_7, ixz_8, ixz_9, ixz_10, ixz_11, ixz_12, ob_some, lt_of, ck_bP, bP_z, bP_o, ite_bP, Int.reduceToNat, Nat.reduceAdd, Nat.reduceMul, Int.reduceAdd, Int.reduceSub, Int.reduceMul, Int.reduceNeg, Int.reduceEq, Int.reduceLT, Int.reduceLE, ↓reduceIte, not_true_eq_false, not_false_eq_true, R.rnp, c0, k_isStriking W R kk, t, f_X7_strikers_b35]
      exact e
    · rw [if_neg t] at e
      simp (disch := omega) only [zl_21, zl_22, zl_25, zl_40, zl_64, zl_150, zl_400, zl_1000000, zl_1065353216, zl_25214903, zl_2147483647, zl_32768, zl_1024, zl_0, zl_1, zl_2, zl_3, zl_4, zl_5, zl_6, zl_7, zl_8, zl_9, zl_10, zl_11, zl_12, zl_13, zl_14, zl_15, zl_16, zl_17, zl_18, zl_19, zl_20, zl_23, zl_24, zl_31, zl_32, zl_48, zl_50, zl_53, zl_57, zl_59, zl_60, zl_99, zl_100, zl_104, zl_112, zl_114, zl_119, zl_126, zl_127, zl_181, zl_200, zl_500, zl_543, zl_724, zl_999, zl_1000, zl_5000, zl_65536, zl_100000, zl_1000001, zl_1000002, zl_1000003, zl_1000004, zl_2143289344, zI_neg, zI_add, zI_sub, zI_mul, zI_le, zI_lt, zI_eq, ck_ib, ix_nat, ixz_0, ixz_1, ixz_2, ixz_3, ixz_4, ixz_5, ixz_6, ixz_7, ixz_8, ixz_9, ixz_10, ixz_11, ixz_12, ob_some, lt_of, ck_bP, bP_z, bP_o, ite_bP, Int.reduceToNat, Nat.reduceAdd, Nat.reduceMul, Int.reduceAdd, Int.reduceSub, Int.reduceMul, Int.reduceNeg, Int.reduceEq, Int.reduceLT, Int.reduceLE, ↓reduceIte, not_true_eq_false, not_false_eq_true, R.rnp, c0, k_isStriking W R kk, t, f_X7_strikers_b35]
      exact e
/-- from when on no line of another pen that touches this one is wet -/
noncomputable def dry (a : Row) (l : Nat) : Nat → Int
  | 0 => 0
  | k + 1 => @ite Int (la a k 4 ≠ -1 ∧ la a k 4 ≠ a 8 ∧ k ≠ l ∧ tch a l k) (Classical.propDecidable _) (max (dry a l k) (la a k 6)) (dry a l k)
theorem dry_rg (W : WF a) (l : Nat) : ∀ k, k ≤ nl a → 0 ≤ dry a l k ∧ dry a l k ≤ 100100 := by
  intro k
  induction k with
  | zero => intro _; simp only [dry]; omega
  | succ k ih =>
    intro h
    have i := ih (by omega)
    simp only [dry]
    split
    · rename_i c
      have u := W.drawn (show k < nl a by omega) c.1
      omega
    · exact i
theorem k_dry_l (W : WF a) (R : RC g M a) {l : Nat} (h : l < nl a) : ∀ d k fu, k + d = nl a → d < fu → f_X5_dryTimeFor_b4 g fu (zI l) (zI (dry a l k)) (zI k) M = some (zI (dry a l (nl a)), M) := by
  intro d
  have ws := W.sc
  induction d with
  | zero =>
    intro k fu hk hf
    obtain ⟨fu, rfl⟩ : ∃ f, fu = f + 1 := ⟨fu - 1, by omega⟩
    obtain rfl : k = nl a := by omega
    have c0 : ((nl a : Nat) : Int) ≤ ((nl a : Nat) : Int) := Int.le_refl _
    rw [f_X5_dryTimeFor_b4.eq_2]
    simp (disch := omega) only [zl_21, zl_22, zl_25, zl_40, zl_64, zl_150, zl_400, zl_1000000, zl_1065353216, zl_25214903, zl_2147483647, zl_32768, zl_1024, zl_0, zl_1, zl_2, zl_3, zl_4, zl_5, zl_6, zl_7, zl_8, zl_9, zl_10, zl_11, zl_12, zl_13, zl_14, zl_15, zl_16, zl_17, zl_18, zl_19, zl_20, zl_23, zl_24, zl_31, zl_32, zl_48, zl_50, zl_53, zl_57, zl_59, zl_60, zl_99, zl_100, zl_104, zl_112, zl_114, zl_119, zl_126, zl_127, zl_181, zl_200, zl_500, zl_543, zl_724, zl_999, zl_1000, zl_5000, zl_65536, zl_100000, zl_1000001, zl_1000002, zl_1000003, zl_1000004, zl_2143289344, zI_neg, zI_add, zI_sub, zI_mul, zI_le, zI_lt, zI_eq, ck_ib, ix_nat, ixz_0, ixz_1, ixz_2, ixz_3, ixz_4, ixz_5, ixz_6, ixz_7, ixz_8, ixz_9, ixz_10, ixz_11, ixz_12, ob_some, lt_of, ck_bP, bP_z, bP_o, ite_bP, Int.reduceToNat, Nat.reduceAdd, Nat.reduceMul, Int.reduceAdd, Int.reduceSub, Int.reduceMul, Int.reduceNeg, Int.reduceEq, Int.reduceLT, Int.reduceLE, ↓reduceIte, not_true_eq_false, not_false_eq_true, R.rnl, c0]
  | succ d ih =>
    intro k fu hk hf
    obtain ⟨fu, rfl⟩ : ∃ f, fu = f + 1 := ⟨fu - 1, by omega⟩
    have kk : k < nl a := by omega
    have c0 : ¬ ((nl a : Int) ≤ (k : Int)) := by omega
    have e := ih (k + 1) fu (by omega) (by omega)
    simp only [nc1] at e
    have v := W.line kk
    have i := dry_rg W l k (by omega)
    rw [f_X5_dryTimeFor_b4.eq_2]
    simp only [dry] at e
    by_cases hd : la a k 4 ≠ -1
    · have u := W.drawn kk hd
      by_cases c : la a k 4 = a 8
      · rw [if_neg (fun t => t.2.1 c)] at e
        simp (disch := omega) only [zl_21, zl_22, zl_25, zl_40, zl_64, zl_150, zl_400, zl_1000000, zl_1065353216, zl_25214903, zl_2147483647, zl_32768, zl_1024, zl_0, zl_1, zl_2, zl_3, zl_4, zl_5, zl_6, zl_7, zl_8, zl_9, zl_10, zl_11, zl_12, zl_13, zl_14, zl_15, zl_16, zl_17, zl_18, zl_19, zl_20, zl_23, zl_24, zl_31, zl_32, zl_48, zl_50, zl_53, zl_57, zl_59, zl_60, zl_99, zl_100, zl_104, zl_112, zl_114, zl_119, zl_126, zl_127, zl_181, zl_200, zl_500, zl_543, zl_724, zl_999, zl_1000, zl_5000, zl_65536, zl_100000, zl_1000001, zl_1000002, zl_1000003, zl_1000004, zl_2143289344, zI_neg, zI_add, zI_sub, zI_mul, zI_le, zI_lt, zI_eq, ck_ib, ix_nat, ixz_0, ixz_1, ixz_2, ixz_3, ixz_4, ixz_5, ixz_6, ixz_7, ixz_8, ixz_9, ixz_10, ixz_11, ixz_12, ob_some, lt_of, ck_bP, bP_z, bP_o, ite_bP, Int.reduceToNat, Nat.reduceAdd, Nat.reduceMul, Int.reduceAdd, Int.reduceSub, Int.reduceMul, Int.reduceNeg, Int.reduceEq, Int.reduceLT, Int.reduceLE, ↓reduceIte, not_true_eq_false, not_false_eq_true, R.rnl, c0, k_X2_drt W R kk hd, R.l17, R.t4, c, f_X5_dryTimeFor_b68]
        exact e
      · by_cases t : k ≠ l ∧ tch a l k
        · rw [if_pos (show la a k 4 ≠ -1 ∧ la a k 4 ≠ a 8 ∧ k ≠ l ∧ tch a l k from ⟨hd, c, t⟩)] at e
          simp (disch := omega) only [zl_21, zl_22, zl_25, zl_40, zl_64, zl_150, zl_400, zl_1000000, zl_1065353216, zl_25214903, zl_2147483647, zl_32768, zl_1024, zl_0, zl_1, zl_2, zl_3, zl_4, zl_5, zl_6, zl_7, zl_8, zl_9, zl_10, zl_11, zl_12, zl_13, zl_14, zl_15, zl_16, zl_17, zl_18, zl_19, zl_20, zl_23, zl_24, zl_31, zl_32, zl_48, zl_50, zl_53, zl_57, zl_59, zl_60, zl_99, zl_100, zl_104, zl_112, zl_114, zl_119, zl_126, zl_127, zl_181, zl_200, zl_500, zl_543, zl_724, zl_999, zl_1000, zl_5000, zl_65536, zl_100000, zl_1000001, zl_1000002, zl_1000003, zl_1000004, zl_2143289344, zI_neg, zI_add, zI_sub, zI_mul, zI_le, zI_lt, zI_eq, ck_ib, ix_nat, ixz_0, ixz_1, ixz_2, ixz_3, ixz_4, ixz_5, ixz_6, ixz_7, ixz_8, ixz_9, ixz_10, ixz_11, ixz_12, ob_some, lt_of, ck_bP, bP_z, bP_o, ite_bP, Int.reduceToNat, Nat.reduceAdd, Nat.reduceMul, Int.reduceAdd, Int.reduceSub, Int.reduceMul, Int.reduceNeg, Int.reduceEq, Int.reduceLT, Int.reduceLE, ↓reduceIte, not_true_eq_false, not_false_eq_true, R.rnl, c0, k_X2_drt W R kk hd, R.l17, R.t4, c, k_isTouching W R h kk, bP_t t, R.l19 kk hd, mx_zI, f_X5_dryTimeFor_b68]
          exact e
        · rw [if_neg (show ¬ (la a k 4 ≠ -1 ∧ la a k 4 ≠ a 8 ∧ k ≠ l ∧ tch a l k) from fun q => t q.2.2)] at e
          simp (disch := omega) only [zl_21, zl_22, zl_25, zl_40, zl_64, zl_150, zl_400, zl_1000000, zl_1065353216, zl_25214903, zl_2147483647, zl_32768, zl_1024, zl_0, zl_1, zl_2, zl_3, zl_4, zl_5, zl_6, zl_7, zl_8, zl_9, zl_10, zl_11, zl_12, zl_13, zl_14, zl_15, zl_16, zl_17, zl_18, zl_19, zl_20, zl_23, zl_24, zl_31, zl_32, zl_48, zl_50, zl_53, zl_57, zl_59, zl_60, zl_99, zl_100, zl_104, zl_112, zl_114, zl_119, zl_126, zl_127, zl_181, zl_200, zl_500, zl_543, zl_724, zl_999, zl_1000, zl_5000, zl_65536, zl_100000, zl_1000001, zl_1000002, zl_1000003, zl_1000004, zl_2143289344, zI_neg, zI_add, zI_sub, zI_mul, zI_le, zI_lt, zI_eq, ck_ib, ix_nat, ixz_0, ixz_1, ixz_2, ixz_3, ixz_4, ixz_5, ixz_6, ixz_7, ixz_8, ixz_9, ixz_10, ixz_11, ixz_12, ob_some, lt_of, ck_bP, bP_z, bP_o, ite_bP, Int.reduceToNat, Nat.reduceAdd, Nat.reduceMul, Int.reduceAdd, Int.reduceSub, Int.reduceMul, Int.reduceNeg, Int.reduceEq, Int.reduceLT, Int.reduceLE, ↓reduceIte, not_true_eq_false, not_false_eq_true, R.rnl, c0, k_X2_drt W R kk hd, R.l17, R.t4, c, k_isTouching W R h kk, bP_f t, f_X5_dryTimeFor_b68]
          exact e
    · rw [if_neg (fun q => hd q.1)] at e
      simp (disch := omega) only [zl_21, zl_22, zl_25, zl_40, zl_64, zl_150, zl_400, zl_1000000, zl_1065353216, zl_25214903, zl_2147483647, zl_32768, zl_1024, zl_0, zl_1, zl_2, zl_3, zl_4, zl_5, zl_6, zl_7, zl_8, zl_9, zl_10, zl_11, zl_12, zl_13, zl_14, zl_15, zl_16, zl_17, zl_18, zl_19, zl_20, zl_23, zl_24, zl_31, zl_32, zl_48, zl_50, zl_53, zl_57, zl_59, zl_60, zl_99, zl_100, zl_104, zl_112, zl_114, zl_119, zl_126, zl_127, zl_181, zl_200, zl_500, zl_543, zl_724, zl_999, zl_1000, zl_5000, zl_65536, zl_100000, zl_1000001, zl_1000002, zl_1000003, zl_1000004, zl_2143289344, zI_neg, zI_add, zI_sub, zI_mul, zI_le, zI_lt, zI_eq, ck_ib, ix_nat, ixz_0, ixz_1, ixz_2, ixz_3, ixz_4, ixz_5, ixz_6, ixz_7, ixz_8, ixz_9, ixz_10, ixz_11, ixz_12, ob_some, lt_of, ck_bP, bP_z, bP_o, ite_bP, Int.reduceToNat, Nat.reduceAdd, Nat.reduceMul, Int.reduceAdd, Int.reduceSub, Int.reduceMul, Int.reduceNeg, Int.reduceEq, Int.reduceLT, Int.reduceLE, ↓reduceIte, not_true_eq_false, not_false_eq_true, R.rnl, c0, k_X2_drf W R kk (by omega), f_X5_dryTimeFor_b68]
      exact e
theorem k_dryTimeFor (W : WF a) (R : RC g M a) {l : Nat} (h : l < nl a) : f_X5_dryTimeFor g (zI l) M = some (zI (dry a l (nl a)), M) := k_dry_l W R h (nl a) 0 1000 (by omega) (by have w := W.sc; omega)
/-- a wet line of another pen touches this one at that time -/
def wbs (a : Row) (l : Nat) (t : Int) (k : Nat) : Prop := ∃ o, o < k ∧ la a o 4 ≠ -1 ∧ t < la a o 6 ∧ la a o 4 ≠ a 8 ∧ tch a l o
theorem wbs_dry {l : Nat} {t : Int} (hd : la a l 4 = -1) (ht : 0 ≤ t) : ∀ k, wbs a l t k ↔ t < dry a l k := by
  intro k
  induction k with
  | zero => exact ⟨fun ⟨o, h, _⟩ => by omega, fun h => by simp only [dry] at h; omega⟩
  | succ k ih =>
    simp only [dry]
    constructor
    · rintro ⟨o, h1, h2, h3, h4, h5⟩
      by_cases c : o = k
      · subst c
        rw [if_pos ⟨h2, h4, fun q => h2 (q ▸ hd), h5⟩]
        omega
      · have := ih.1 ⟨o, by omega, h2, h3, h4, h5⟩
        split <;> omega
    · intro h
      split at h
      · rename_i c
        by_cases q : t < dry a l k
        · obtain ⟨o, h1, h2⟩ := ih.2 q
          exact ⟨o, by omega, h2⟩
        · exact ⟨k, by omega, c.1, by omega, c.2.1, c.2.2.2⟩
      · obtain ⟨o, h1, h2⟩ := ih.2 h
        exact ⟨o, by omega, h2⟩
theorem wbs_succ {l : Nat} {t : Int} (k : Nat) : wbs a l t (k + 1) ↔ (wbs a l t k ∨ (la a k 4 ≠ -1 ∧ t < la a k 6 ∧ la a k 4 ≠ a 8 ∧ tch a l k)) := by
  constructor
  · rintro ⟨o, h1, h2⟩
    by_cases c : o = k
    · subst c; exact .inr h2
    · exact .inl ⟨o, by omega, h2⟩
  · rintro (⟨o, h1, h2⟩ | h)
    · exact ⟨o, by omega, h2⟩
    · exact ⟨k, by omega, h⟩
/-- why a line cannot be drawn behind so many ticks -/
noncomputable def rsn (a : Row) (l : Nat) (w t : Int) : Int :=
  if ¬ 0 ≤ a 8 then 1 else if la a l 4 ≠ -1 then 2 else
  @ite Int (strk a (a 8).toNat) (Classical.propDecidable _) 3 <|
  if pa a (a 8).toNat 2 < ik a (a 8).toNat l then 4 else
  if a 3 < pa a (a 8).toNat 4 + (t + dst (a 9) (a 10) (bX a l w) (bY a l w)) then 5 else
  if a 7 + (t + dst (a 9) (a 10) (bX a l w) (bY a l w)) < dry a l (nl a) then 6 else
  if 100000 < a 7 + (t + dst (a 9) (a 10) (bX a l w) (bY a l w)) + len a l then 7 else 0
theorem rsn_rg (l : Nat) (w t : Int) : 0 ≤ rsn a l w t ∧ rsn a l w t ≤ 7 := by
  unfold rsn
  (repeat' split) <;> omega
theorem rsn_zero (l : Nat) (w t : Int) : rsn a l w t = 0 ↔ (0 ≤ a 8 ∧ la a l 4 = -1 ∧ ¬ strk a (a 8).toNat ∧ ik a (a 8).toNat l ≤ pa a (a 8).toNat 2 ∧ pa a (a 8).toNat 4 + (t + dst (a 9) (a 10) (bX a l w) (bY a l w)) ≤ a 3 ∧ dry a l (nl a) ≤ a 7 + (t + dst (a 9) (a 10) (bX a l w) (bY a l w)) ∧ a 7 + (t + dst (a 9) (a 10) (bX a l w) (bY a l w)) + len a l ≤ 100000) := by
  unfold rsn
  by_cases c : strk a (a 8).toNat
  · rw [if_pos c]
    constructor
    · intro h
      exfalso
      revert h
      (repeat' split) <;> omega
    · exact fun h => absurd c h.2.2.1
  · rw [if_neg c]
    simp only [c, not_false_eq_true, true_and]
    (repeat' split) <;> omega
theorem k_reasonAgainst (W : WF a) (R : RC g M a) {l : Nat} (h : l < nl a) {w t : Int} (h0 : 0 ≤ w) (h2 : w ≤ 1) (h3 : 0 ≤ t) (h4 : t < 1000000) : f_X5_reasonAgainst g (zI l) (zI w) (zI t) M = some (zI (rsn a l w t), M) := by
  have ws := W.sc
  have v := W.line h
  have dr := dst_rg (x := a 9) (y := a 10) (by omega) (by omega) (bX_rg W h w) (bY_rg W h w)
  have yr := dry_rg W l (nl a) (by omega)
  unfold f_X5_reasonAgainst
  by_cases c1 : 0 ≤ a 8
  · obtain ⟨p, hp⟩ : ∃ p : Nat, a 8 = p := ⟨(a 8).toNat, by omega⟩
    have hpn : p < np a := by omega
    have u := W.pen hpn
    have ir := ik_rg W (p := p) h
    have et : (a 8).toNat = p := by omega
    have c2 : (0 : Int) ≤ (p : Int) ∧ (p : Int) < (np a : Int) := by omega
    unfold rsn
    rw [et, if_neg (by omega)]
    by_cases cs : strk a p
    · rw [if_pos cs]
      simp (disch := omega) only [zl_21, zl_22, zl_25, zl_40, zl_64, zl_150, zl_400, zl_1000000, zl_1065353216, zl_25214903, zl_2147483647, zl_32768, zl_1024, zl_0, zl_1, zl_2, zl_3, zl_4, zl_5, zl_6, zl_7, zl_8, zl_9, zl_10, zl_11, zl_12, zl_13, zl_14, zl_15, zl_16, zl_17, zl_18, zl_19, zl_20, zl_23, zl_24, zl_31, zl_32, zl_48, zl_50, zl_53, zl_57, zl_59, zl_60, zl_99, zl_100, zl_104, zl_112, zl_114, zl_119, zl_126, zl_127, zl_181, zl_200, zl_500, zl_543, zl_724, zl_999, zl_1000, zl_5000, zl_65536, zl_100000, zl_1000001, zl_1000002, zl_1000003, zl_1000004, zl_2143289344, zI_neg, zI_add, zI_sub, zI_mul, zI_le, zI_lt, zI_eq, ck_ib, ix_nat, ixz_0, ixz_1, ixz_2, ixz_3, ixz_4, ixz_5, ixz_6, ixz_7, ixz_8, ixz_9, ixz_10, ixz_11, ixz_12, ob_some, lt_of, ck_bP, bP_z, bP_o, ite_bP, Int.reduceToNat, Nat.reduceAdd, Nat.reduceMul, Int.reduceAdd, Int.reduceSub, Int.reduceMul, Int.reduceNeg, Int.reduceEq, Int.reduceLT, Int.reduceLE, ↓reduceIte, not_true_eq_false, not_false_eq_true, R.t4, R.t3, hp, k_X4_has W R, c2, and_self, k_X2_isDrawn W R h, k_isStriking W R hpn, cs]
      (repeat' split) <;> first | rfl | (exfalso; omega)
    · rw [if_neg cs]
      simp (disch := omega) only [zl_21, zl_22, zl_25, zl_40, zl_64, zl_150, zl_400, zl_1000000, zl_1065353216, zl_25214903, zl_2147483647, zl_32768, zl_1024, zl_0, zl_1, zl_2, zl_3, zl_4, zl_5, zl_6, zl_7, zl_8, zl_9, zl_10, zl_11, zl_12, zl_13, zl_14, zl_15, zl_16, zl_17, zl_18, zl_19, zl_20, zl_23, zl_24, zl_31, zl_32, zl_48, zl_50, zl_53, zl_57, zl_59, zl_60, zl_99, zl_100, zl_104, zl_112, zl_114, zl_119, zl_126, zl_127, zl_181, zl_200, zl_500, zl_543, zl_724, zl_999, zl_1000, zl_5000, zl_65536, zl_100000, zl_1000001, zl_1000002, zl_1000003, zl_1000004, zl_2143289344, zI_neg, zI_add, zI_sub, zI_mul, zI_le, zI_lt, zI_eq, ck_ib, ix_nat, ixz_0, ixz_1, ixz_2, ixz_3, ixz_4, ixz_5, ixz_6, ixz_7, ixz_8, ixz_9, ixz_10, ixz_11, ixz_12, ob_some, lt_of, ck_bP, bP_z, bP_o, ite_bP, Int.reduceToNat, Nat.reduceAdd, Nat.reduceMul, Int.reduceAdd, Int.reduceSub, Int.reduceMul, Int.reduceNeg, Int.reduceEq, Int.reduceLT, Int.reduceLE, ↓reduceIte, not_true_eq_false, not_false_eq_true, R.t4, R.t3, hp, k_X4_has W R, c2, and_self, k_X2_isDrawn W R h, k_isStriking W R hpn, cs, k_inkFor W R hpn h, R.p6, R.p8, k_X5_travelTo W R h h0 h2, R.rset, Nat.reduceAdd, k_dryTimeFor W R h, R.l15]
      (repeat' split) <;> first | rfl | (exfalso; omega)
  · have c2 : ¬ ((0 : Int) ≤ a 8 ∧ a 8 < (np a : Int)) := by omega
    simp (disch := omega) only [zl_21, zl_22, zl_25, zl_40, zl_64, zl_150, zl_400, zl_1000000, zl_1065353216, zl_25214903, zl_2147483647, zl_32768, zl_1024, zl_0, zl_1, zl_2, zl_3, zl_4, zl_5, zl_6, zl_7, zl_8, zl_9, zl_10, zl_11, zl_12, zl_13, zl_14, zl_15, zl_16, zl_17, zl_18, zl_19, zl_20, zl_23, zl_24, zl_31, zl_32, zl_48, zl_50, zl_53, zl_57, zl_59, zl_60, zl_99, zl_100, zl_104, zl_112, zl_114, zl_119, zl_126, zl_127, zl_181, zl_200, zl_500, zl_543, zl_724, zl_999, zl_1000, zl_5000, zl_65536, zl_100000, zl_1000001, zl_1000002, zl_1000003, zl_1000004, zl_2143289344, zI_neg, zI_add, zI_sub, zI_mul, zI_le, zI_lt, zI_eq, ck_ib, ix_nat, ixz_0, ixz_1, ixz_2, ixz_3, ixz_4, ixz_5, ixz_6, ixz_7, ixz_8, ixz_9, ixz_10, ixz_11, ixz_12, ob_some, lt_of, ck_bP, bP_z, bP_o, ite_bP, Int.reduceToNat, Nat.reduceAdd, Nat.reduceMul, Int.reduceAdd, Int.reduceSub, Int.reduceMul, Int.reduceNeg, Int.reduceEq, Int.reduceLT, Int.reduceLE, ↓reduceIte, not_true_eq_false, not_false_eq_true, R.t4, k_X4_has W R, c2]
    unfold rsn
    rw [if_pos c1]
end
