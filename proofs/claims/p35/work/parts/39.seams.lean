/-! seams and the mean of the shades, of both -/
section
variable {g : Nat} {M S : Mem} {a : Row}
/-- a drawn line has an end there -/
def Ae (a : Row) (l : Nat) (x y : Int) : Prop := la a l 4 ≠ -1 ∧ ((la a l 0 = x ∧ la a l 1 = y) ∨ (la a l 2 = x ∧ la a l 3 = y))
theorem k_isDrawnWithEnd (W : WF a) (R : RC g M a) {l : Nat} (h : l < nl a) {x y : Int} (h3 : 0 ≤ x ∧ x ≤ 99) (h4 : 0 ≤ y ∧ y ≤ 99) : f_X2_isDrawnWithEnd g (zI l) (zI x) (zI y) M = some (zI (bP (Ae a l x y)), M) := by
  have ws := W.sc
  have v := W.line h
  unfold f_X2_isDrawnWithEnd f_X2_isDrawnWithEnd_b28 f_X2_isDrawnWithEnd_b52 f_X2_isDrawnWithEnd_b48 f_X2_isDrawnWithEnd_b53
  by_cases hd : la a l 4 = -1
  · simp (disch := omega) only [zl_21, zl_22, zl_25, zl_40, zl_64, zl_150, zl_400, zl_1000000, zl_1065353216, zl_25214903, zl_2147483647, zl_32768, zl_1024, zl_0, zl_1, zl_2, zl_3, zl_4, zl_5, zl_6, zl_7, zl_8, zl_9, zl_10, zl_11, zl_12, zl_13, zl_14, zl_15, zl_16, zl_17, zl_18, zl_19, zl_20, zl_23, zl_24, zl_31, zl_32, zl_48, zl_50, zl_53, zl_57, zl_59, zl_60, zl_99, zl_100, zl_104, zl_112, zl_114, zl_119, zl_126, zl_127, zl_181, zl_200, zl_500, zl_543, zl_724, zl_999, zl_1000, zl_5000, zl_65536, zl_100000, zl_1000001, zl_1000002, zl_1000003, zl_1000004, zl_2143289344, zI_neg, zI_add, zI_sub, zI_mul, zI_le, zI_lt, zI_eq, ck_ib, ix_nat, ixz_0, ixz_1, ixz_2, ixz_3, ixz_4, ixz_5, ixz_6, ixz_7, ixz_8, ixz_9, ixz_10, ixz_11, ixz_12, ob_some, lt_of, ck_bP, bP_z, bP_o, ite_bP, Int.reduceToNat, Nat.reduceAdd, Nat.reduceMul, Int.reduceAdd, Int.reduceSub, Int.reduceMul, Int.reduceNeg, Int.reduceEq, Int.reduceLT, Int.reduceLE, ↓reduceIte, not_true_eq_false, not_false_eq_true, k_X2_drf W R h hd, ck_bl0]
    exact sm_f (fun q => q.1 hd) _
  · simp (disch := omega) only [zl_21, zl_22, zl_25, zl_40, zl_64, zl_150, zl_400, zl_1000000, zl_1065353216, zl_25214903, zl_2147483647, zl_32768, zl_1024, zl_0, zl_1, zl_2, zl_3, zl_4, zl_5, zl_6, zl_7, zl_8, zl_9, zl_10, zl_11, zl_12, zl_13, zl_14, zl_15, zl_16, zl_17, zl_18, zl_19, zl_20, zl_23, zl_24, zl_31, zl_32, zl_48, zl_50, zl_53, zl_57, zl_59, zl_60, zl_99, zl_100, zl_104, zl_112, zl_114, zl_119, zl_126, zl_127, zl_181, zl_200, zl_500, zl_543, zl_724, zl_999, zl_1000, zl_5000, zl_65536, zl_100000, zl_1000001, zl_1000002, zl_1000003, zl_1000004, zl_2143289344, zI_neg, zI_add, zI_sub, zI_mul, zI_le, zI_lt, zI_eq, ck_ib, ix_nat, ixz_0, ixz_1, ixz_2, ixz_3, ixz_4, ixz_5, ixz_6, ixz_7, ixz_8, ixz_9, ixz_10, ixz_11, ixz_12, ob_some, lt_of, ck_bP, bP_z, bP_o, ite_bP, Int.reduceToNat, Nat.reduceAdd, Nat.reduceMul, Int.reduceAdd, Int.reduceSub, Int.reduceMul, Int.reduceNeg, Int.reduceEq, Int.reduceLT, Int.reduceLE, ↓reduceIte, not_true_eq_false, not_false_eq_true, k_X2_drt W R h hd, R.l11, R.l12, R.l13, R.l14, ck_bl0, ck_bl1]
    (repeat' split) <;> first | exact sm_f (by unfold Ae; omega) _ | exact sm_t (by unfold Ae; omega) _
theorem k_first_l (W : WF a) (R : RC g M a) {x y : Int} (h3 : 0 ≤ x ∧ x ≤ 99) (h4 : 0 ≤ y ∧ y ≤ 99) : ∀ (d k fu : Nat), k + d = nl a → d < fu → (∃ l, k ≤ l ∧ l < nl a ∧ Ae a l x y ∧ (∀ o, k ≤ o → o < l → ¬ Ae a o x y) ∧ f_X2_firstDrawnWithEnd_b2 g fu (zI x) (zI y) (zI k) M = some (zI l, M)) ∨ ((∀ o, k ≤ o → o < nl a → ¬ Ae a o x y) ∧ f_X2_firstDrawnWithEnd_b2 g fu (zI x) (zI y) (zI k) M = some (zI (-1), M)) := by
  intro d
  have ws := W.sc
  induction d with
  | zero =>
    intro k fu hk hf
    obtain ⟨fu, rfl⟩ : ∃ f, fu = f + 1 := ⟨fu - 1, by omega⟩
    obtain rfl : k = nl a := by omega
    have c0 : ((nl a : Nat) : Int) ≤ ((nl a : Nat) : Int) := Int.le_refl _
    refine .inr ⟨fun o h1 h2 => by omega, ?_⟩
    rw [f_X2_firstDrawnWithEnd_b2.eq_2]
    simp (disch := omega) only [zl_21, zl_22, zl_25, zl_40, zl_64, zl_150, zl_400, zl_1000000, zl_1065353216, zl_25214903, zl_2147483647, zl_32768, zl_1024, zl_0, zl_1, zl_2, zl_3, zl_4, zl_5, zl_6, zl_7, zl_8, zl_9, zl_10, zl_11, zl_12, zl_13, zl_14, zl_15, zl_16, zl_17, zl_18, zl_19, zl_20, zl_23, zl_24, zl_31, zl_32, zl_48, zl_50, zl_53, zl_57, zl_59, zl_60, zl_99, zl_100, zl_104, zl_112, zl_114, zl_119, zl_126, zl_127, zl_181, zl_200, zl_500, zl_543, zl_724, zl_999, zl_1000, zl_5000, zl_65536, zl_100000, zl_1000001, zl_1000002, zl_1000003, zl_1000004, zl_2143289344, zI_neg, zI_add, zI_sub, zI_mul, zI_le, zI_lt, zI_eq, ck_ib, ix_nat, ixz_0, ixz_1, ixz_2, ixz_3, ixz_4, ixz_5, ixz_6, ixz_7, ixz_8, ixz_9, ixz_10, ixz_11, ixz_12, ob_some, lt_of, ck_bP, bP_z, bP_o, ite_bP, Int.reduceToNat, Nat.reduceAdd, Nat.reduceMul, Int.reduceAdd, Int.reduceSub, Int.reduceMul, Int.reduceNeg, Int.reduceEq, Int.reduceLT, Int.reduceLE, ↓reduceIte, not_true_eq_false, not_false_eq_true, R.rnl, c0]
  | succ d ih =>
    intro k fu hk hf
    obtain ⟨fu, rfl⟩ : ∃ f, fu = f + 1 := ⟨fu - 1, by omega⟩
    have kk : k < nl a := by omega
    have c0 : ¬ ((nl a : Int) ≤ (k : Int)) := by omega
    have e := ih (k + 1) fu (by omega) (by omega)
    simp only [nc1] at e
    have kd := k_isDrawnWithEnd W R kk h3 h4
    by_cases c : Ae a k x y
    · rw [bP_t c] at kd
      refine .inl ⟨k, Nat.le_refl k, kk, c, fun o h1 h2 => by omega, ?_⟩
      rw [f_X2_firstDrawnWithEnd_b2.eq_2]
      simp (disch := omega) only [zl_21, zl_22, zl_25, zl_40, zl_64, zl_150, zl_400, zl_1000000, zl_1065353216, zl_25214903, zl_2147483647, zl_32768, zl_1024, zl_0, zl_1, zl_2, zl_3, zl_4, zl_5, zl_6, zl_7, zl_8, zl_9, zl_10, zl_11, zl_12, zl_13, zl_14, zl_15, zl_16, zl_17, zl_18, zl_19, zl_20, zl_23, zl_24, zl_31, zl_32, zl_48, zl_50, zl_53, zl_57, zl_59, zl_60, zl_99, zl_100, zl_104, zl_112, zl_114, zl_119, zl_126, zl_127, zl_181, zl_200, zl_500, zl_543, zl_724, zl_999, zl_1000, zl_5000, zl_65536, zl_100000, zl_1000001, zl_1000002, zl_1000003, zl_1000004, zl_2143289344, zI_neg, zI_add, zI_sub, zI_mul, zI_le, zI_lt, zI_eq, ck_ib, ix_nat, ixz_0, ixz_1, ixz_2, ixz_3, ixz_4, ixz_5, ixz_6, ixz_7, ixz_8, ixz_9, ixz_10, ixz_11, ixz_12, ob_some, lt_of, ck_bP, bP_z, bP_o, ite_bP, Int.reduceToNat, Nat.reduceAdd, Nat.reduceMul, Int.reduceAdd, Int.reduceSub, Int.reduceMul, Int.reduceNeg, Int.reduceEq, Int.reduceLT, Int.reduceLE, ↓reduceIte, not_true_eq_false, not_false_eq_true, R.rnl, c0, kd]
    · rw [bP_f c] at kd
      rcases e with ⟨l, e1, e2, e3, e4, e5⟩ | ⟨e1, e2⟩
      · refine .inl ⟨l, by omega, e2, e3, fun o h1 h2 => ?_, ?_⟩
        · by_cases q : o = k
          · subst q; exact c
          · exact e4 o (by omega) h2
        · rw [f_X2_firstDrawnWithEnd_b2.eq_2]
          simp (disch := omega) only [zl_21, zl_22, zl_25, zl_40, zl_64, zl_150, zl_400, zl_1000000, zl_1065353216, zl_25214903, zl_2147483647, zl_32768, zl_1024, zl_0, zl_1, zl_2, zl_3, zl_4, zl_5, zl_6, zl_7, zl_8, zl_9, zl_10, zl_11, zl_12, zl_13, zl_14, zl_15, zl_16, zl_17, zl_18, zl_19, zl_20, zl_23, zl_24, zl_31, zl_32, zl_48, zl_50, zl_53, zl_57, zl_59, zl_60, zl_99, zl_100, zl_104, zl_112, zl_114, zl_119, zl_126, zl_127, zl_181, zl_200, zl_500, zl_543, zl_724, zl_999, zl_1000, zl_5000, zl_65536, zl_100000, zl_1000001, zl_1000002, zl_1000003, zl_1000004, zl_2143289344, zI_neg, zI_add, zI_sub, zI_mul, zI_le, zI_lt, zI_eq, ck_ib, ix_nat, ixz_0, ixz_1, ixz_2, ixz_3, ixz_4, ixz_5, ixz_6, ixz_7, ixz_8, ixz_9, ixz_10, ixz_11, ixz_12, ob_some, lt_of, ck_bP, bP_z, bP_o, ite_bP, Int.reduceToNat, Nat.reduceAdd, Nat.reduceMul, Int.reduceAdd, Int.reduceSub, Int.reduceMul, Int.reduceNeg, Int.reduceEq, Int.reduceLT, Int.reduceLE, ↓reduceIte, not_true_eq_false, not_false_eq_true, R.rnl, c0, kd]
          exact e5
      · refine .inr ⟨fun o h1 h2 => ?_, ?_⟩
        · by_cases q : o = k
          · subst q; exact c
          · exact e1 o (by omega) h2
        · rw [f_X2_firstDrawnWithEnd_b2.eq_2]
          simp (disch := omega) only [zl_21, zl_22, zl_25, zl_40, zl_64, zl_150, zl_400, zl_1000000, zl_1065353216, zl_25214903, zl_2147483647, zl_32768, zl_1024, zl_0, zl_1, zl_2, zl_3, zl_4, zl_5, zl_6, zl_7, zl_8, zl_9, zl_10, zl_11, zl_12, zl_13, zl_14, zl_15, zl_16, zl_17, zl_18, zl_19, zl_20, zl_23, zl_24, zl_31, zl_32, zl_48, zl_50, zl_53, zl_57, zl_59, zl_60, zl_99, zl_100, zl_104, zl_112, zl_114, zl_119, zl_126, zl_127, zl_181, zl_200, zl_500, zl_543, zl_724, zl_999, zl_1000, zl_5000, zl_65536, zl_100000, zl_1000001, zl_1000002, zl_1000003, zl_1000004, zl_2143289344, zI_neg, zI_add, zI_sub, zI_mul, zI_le, zI_lt, zI_eq, ck_ib, ix_nat, ixz_0, ixz_1, ixz_2, ixz_3, ixz_4, ixz_5, ixz_6, ixz_7, ixz_8, ixz_9, ixz_10, ixz_11, ixz_12, ob_some, lt_of, ck_bP, bP_z, bP_o, ite_bP, Int.reduceToNat, Nat.reduceAdd, Nat.reduceMul, Int.reduceAdd, Int.reduceSub, Int.reduceMul, Int.reduceNeg, Int.reduceEq, Int.reduceLT, Int.reduceLE, ↓reduceIte, not_true_eq_false, not_false_eq_true, R.rnl, c0, kd]
          exact e2
theorem k_first (W : WF a) (R : RC g M a) {x y : Int} (h3 : 0 ≤ x ∧ x ≤ 99) (h4 : 0 ≤ y ∧ y ≤ 99) : (∃ l, l < nl a ∧ Ae a l x y ∧ (∀ o, o < l → ¬ Ae a o x y) ∧ f_X2_firstDrawnWithEnd g (zI x) (zI y) M = some (zI (l : Nat), M)) ∨ ((∀ o, o < nl a → ¬ Ae a o x y) ∧ f_X2_firstDrawnWithEnd g (zI x) (zI y) M = some (zI (-1), M)) := by
  have ws := W.sc
  rcases k_first_l W R h3 h4 (nl a) 0 1000 (by omega) (by omega) with ⟨l, e1, e2, e3, e4, e5⟩ | ⟨e1, e2⟩
  · exact .inl ⟨l, e2, e3, fun o h => e4 o (Nat.zero_le o) h, e5⟩
  · exact .inr ⟨fun o h => e1 o (Nat.zero_le o) h, e2⟩
theorem k_ends_l (W : WF a) (R : RC g M a) {x y p : Int} (h3 : 0 ≤ x ∧ x ≤ 99) (h4 : 0 ≤ y ∧ y ≤ 99) (h5 : -1 ≤ p ∧ p ≤ 5) : ∀ (d k fu : Nat), k + d = nl a → d < fu → f_X2_endsThereByAnother_b3 g fu (zI x) (zI y) (zI p) (zI k) M = some (zI (bP (∃ l, k ≤ l ∧ l < nl a ∧ Ae a l x y ∧ la a l 4 ≠ p)), M) := by
  intro d
  have ws := W.sc
  induction d with
  | zero =>
    intro k fu hk hf
    obtain ⟨fu, rfl⟩ : ∃ f, fu = f + 1 := ⟨fu - 1, by omega⟩
    obtain rfl : k = nl a := by omega
    have c0 : ((nl a : Nat) : Int) ≤ ((nl a : Nat) : Int) := Int.le_refl _
    rw [bP_f (fun ⟨l, h1, h2, _⟩ => by omega), f_X2_endsThereByAnother_b3.eq_2]
    simp (disch := omega) only [zl_21, zl_22, zl_25, zl_40, zl_64, zl_150, zl_400, zl_1000000, zl_1065353216, zl_25214903, zl_2147483647, zl_32768, zl_1024, zl_0, zl_1, zl_2, zl_3, zl_4, zl_5, zl_6, zl_7, zl_8, zl_9, zl_10, zl_11, zl_12, zl_13, zl_14, zl_15, zl_16, zl_17, zl_18, zl_19, zl_20, zl_23, zl_24, zl_31, zl_32, zl_48, zl_50, zl_53, zl_57, zl_59, zl_60, zl_99, zl_100, zl_104, zl_112, zl_114, zl_119, zl_126, zl_127, zl_181, zl_200, zl_500, zl_543, zl_724, zl_999, zl_1000, zl_5000, zl_65536, zl_100000, zl_1000001, zl_1000002, zl_1000003, zl_1000004, zl_2143289344, zI_neg, zI_add, zI_sub, zI_mul, zI_le, zI_lt, zI_eq, ck_ib, ix_nat, ixz_0, ixz_1, ixz_2, ixz_3, ixz_4, ixz_5, ixz_6, ixz_7, ixz_8, ixz_9, ixz_10, ixz_11, ixz_12, ob_some, lt_of, ck_bP, bP_z, bP_o, ite_bP, Int.reduceToNat, Nat.reduceAdd, Nat.reduceMul, Int.reduceAdd, Int.reduceSub, Int.reduceMul, Int.reduceNeg, Int.reduceEq, Int.reduceLT, Int.reduceLE, ↓reduceIte, not_true_eq_false, not_false_eq_true, R.rnl, c0]
  | succ d ih =>
    intro k fu hk hf
    obtain ⟨fu, rfl⟩ : ∃ f, fu = f + 1 := ⟨fu - 1, by omega⟩
    have kk : k < nl a := by omega
    have c0 : ¬ ((nl a : Int) ≤ (k : Int)) := by omega
    have e := ih (k + 1) fu (by omega) (by omega)
    simp only [nc1] at e
    have v := W.line kk
    have kd := k_isDrawnWithEnd W R kk h3 h4
    by_cases c : Ae a k x y
    · rw [bP_t c] at kd
      by_cases c2 : la a k 4 = p
      · have q : (∃ l, k + 1 ≤ l ∧ l < nl a ∧ Ae a l x y ∧ la a l 4 ≠ p) ↔ (∃ l, k ≤ l ∧ l < nl a ∧ Ae a l x y ∧ la a l 4 ≠ p) := by
          constructor
          · rintro ⟨l, q1, q2⟩
            exact ⟨l, by omega, q2⟩
          · rintro ⟨l, q1, q2, q3, q4⟩
            have : l ≠ k := fun t => q4 (t ▸ c2)
            exact ⟨l, by omega, q2, q3, q4⟩
        rw [bP_c q] at e
        rw [f_X2_endsThereByAnother_b3.eq_2]
        simp (disch := omega) only [zl_21, zl_22, zl_25, zl_40, zl_64, zl_150, zl_400, zl_1000000, zl_1065353216, zl_25214903, zl_2147483647, zl_32768, zl_1024, zl_0, zl_1, zl_2, zl_3, zl_4, zl_5, zl_6, zl_7, zl_8, zl_9, zl_10, zl_11, zl_12, zl_13, zl_14, zl_15, zl_16, zl_17, zl_18, zl_19, zl_20, zl_23, zl_24, zl_31, zl_32, zl_48, zl_50, zl_53, zl_57, zl_59, zl_60, zl_99, zl_100, zl_104, zl_112, zl_114, zl_119, zl_126, zl_127, zl_181, zl_200, zl_500, zl_543, zl_724, zl_999, zl_1000, zl_5000, zl_65536, zl_100000, zl_1000001, zl_1000002, zl_1000003, zl_1000004, zl_2143289344, zI_neg, zI_add, zI_sub, zI_mul, zI_le, zI_lt, zI_eq, ck_ib, ix_nat, ixz_0, ixz_1, ixz_2, ixz_3, ixz_4, ixz_5, ixz_6, ixz_7, ixz_8, ixz_9, ixz_10, ixz_11, ixz_12, ob_some, lt_of, ck_bP, bP_z, bP_o, ite_bP, Int.reduceToNat, Nat.reduceAdd, Nat.reduceMul, Int.reduceAdd, Int.reduceSub, Int.reduceMul, Int.reduceNeg, Int.reduceEq, Int.reduceLT, Int.reduceLE, ↓reduceIte, not_true_eq_false, not_false_eq_true, R.rnl, c0, kd, R.l17, c2, f_X2_endsThereByAnother_b36]
        exact e
      · rw [bP_t ⟨k, Nat.le_refl k, kk, c, c2⟩, f_X2_endsThereByAnother_b3.eq_2]
        simp (disch := omega) only [zl_21, zl_22, zl_25, zl_40, zl_64, zl_150, zl_400, zl_1000000, zl_1065353216, zl_25214903, zl_2147483647, zl_32768, zl_1024, zl_0, zl_1, zl_2, zl_3, zl_4, zl_5, zl_6, zl_7, zl_8, zl_9, zl_10, zl_11, zl_12, zl_13, zl_14, zl_15, zl_16, zl_17, zl_18, zl_19, zl_20, zl_23, zl_24, zl_31, zl_32, zl_48, zl_50, zl_53, zl_57, zl_59, zl_60, zl_99, zl_100, zl_104, zl_112, zl_114, zl_119, zl_126, zl_127, zl_181, zl_200, zl_500, zl_543, zl_724, zl_999, zl_1000, zl_5000, zl_65536, zl_100000, zl_1000001, zl_1000002, zl_1000003, zl_1000004, zl_2143289344, zI_neg, zI_add, zI_sub, zI_mul, zI_le, zI_lt, zI_eq, ck_ib, ix_nat, ixz_0, ixz_1, ixz_2, ixz_3, ixz_4, ixz_5, ixz_6, ixz_7, ixz_8, ixz_9, ixz_10, ixz_11, ixz_12, ob_some, lt_of, ck_bP, bP_z, bP_o, ite_bP, Int.reduceToNat, Nat.reduceAdd, Nat.reduceMul, Int.reduceAdd, Int.reduceSub, Int.reduceMul, Int.reduceNeg, Int.reduceEq, Int.reduceLT, Int.reduceLE, ↓reduceIte, not_true_eq_false, not_false_eq_true, R.rnl, c0, kd, R.l17, c2, f_X2_endsThereByAnother_b36]
    · rw [bP_f c] at kd
      have q : (∃ l, k + 1 ≤ l ∧ l < nl a ∧ Ae a l x y ∧ la a l 4 ≠ p) ↔ (∃ l, k ≤ l ∧ l < nl a ∧ Ae a l x y ∧ la a l 4 ≠ p) := by
        constructor
        · rintro ⟨l, q1, q2⟩
          exact ⟨l, by omega, q2⟩
        · rintro ⟨l, q1, q2, q3, q4⟩
          have : l ≠ k := fun t => c (t ▸ q3)
          exact ⟨l, by omega, q2, q3, q4⟩
      rw [bP_c q] at e
      rw [f_X2_endsThereByAnother_b3.eq_2]
      simp (disch := omega) only [zl_21, zl_22, zl_25, zl_40, zl_64, zl_150, zl_400, zl_1000000, zl_1065353216, zl_25214903, zl_2147483647, zl_32768, zl_1024, zl_0, zl_1, zl_2, zl_3, zl_4, zl_5, zl_6, zl_7, zl_8, zl_9, zl_10, zl_11, zl_12, zl_13, zl_14, zl_15, zl_16, zl_17, zl_18, zl_19, zl_20, zl_23, zl_24, zl_31, zl_32, zl_48, zl_50, zl_53, zl_57, zl_59, zl_60, zl_99, zl_100, zl_104, zl_112, zl_114, zl_119, zl_126, zl_127, zl_181, zl_200, zl_500, zl_543, zl_724, zl_999, zl_1000, zl_5000, zl_65536, zl_100000, zl_1000001, zl_1000002, zl_1000003, zl_1000004, zl_2143289344, zI_neg, zI_add, zI_sub, zI_mul, zI_le, zI_lt, zI_eq, ck_ib, ix_nat, ixz_0, ixz_1, ixz_2, ixz_3, ixz_4, ixz_5, ixz_6, ixz_7, ixz_8, ixz_9, ixz_10, ixz_11, ixz_12, ob_some, lt_of, ck_bP, bP_z, bP_o, ite_bP, Int.reduceToNat, Nat.reduceAdd, Nat.reduceMul, Int.reduceAdd, Int.reduceSub, Int.reduceMul, Int.reduceNeg, Int.reduceEq, Int.reduceLT, Int.reduceLE, ↓reduceIte, not_true_eq_false, not_false_eq_true, R.rnl, c0, kd, f_X2_endsThereByAnother_b36]
      exact e
/-- a line of another pen has an end there -/
def Eo (a : Row) (x y p : Int) : Prop := ∃ l, l < nl a ∧ Ae a l x y ∧ la a l 4 ≠ p
theorem k_ends (W : WF a) (R : RC g M a) {x y p : Int} (h3 : 0 ≤ x ∧ x ≤ 99) (h4 : 0 ≤ y ∧ y ≤ 99) (h5 : -1 ≤ p ∧ p ≤ 5) : f_X2_endsThereByAnother g (zI x) (zI y) (zI p) M = some (zI (bP (Eo a x y p)), M) := by
  have ws := W.sc
  have e := k_ends_l W R h3 h4 h5 (nl a) 0 1000 (by omega) (by omega)
  have q : (∃ l, 0 ≤ l ∧ l < nl a ∧ Ae a l x y ∧ la a l 4 ≠ p) ↔ Eo a x y p := ⟨fun ⟨l, _, h⟩ => ⟨l, h⟩, fun ⟨l, h⟩ => ⟨l, Nat.zero_le l, h⟩⟩
  rw [bP_c q] at e
  exact e
/-- a seam is there -/
def Sm (a : Row) (x y : Int) : Prop := ∃ l o, l < nl a ∧ o < nl a ∧ Ae a l x y ∧ Ae a o x y ∧ la a l 4 ≠ la a o 4
theorem k_isSeam (W : WF a) (R : RC g M a) {x y : Int} (h3 : 0 ≤ x ∧ x ≤ 99) (h4 : 0 ≤ y ∧ y ≤ 99) : f_X2_isSeam g (zI x) (zI y) M = some (zI (bP (Sm a x y)), M) := by
  have ws := W.sc
  unfold f_X2_isSeam
  rcases k_first W R h3 h4 with ⟨l, e2, e3, e4, e5⟩ | ⟨e1, e2⟩
  · have v := W.line e2
    have q : Eo a x y (la a l 4) ↔ Sm a x y := by
      constructor
      · rintro ⟨o, q1, q2, q3⟩
        exact ⟨o, l, q1, e2, q2, e3, q3⟩
      · rintro ⟨u, o, q1, q2, q3, q4, q5⟩
        by_cases r : la a u 4 = la a l 4
        · exact ⟨o, q2, q4, fun t => q5 (r.trans t.symm)⟩
        · exact ⟨u, q1, q3, r⟩
    have ke := k_ends W R h3 h4 (p := la a l 4) (by omega)
    have hn : ¬ ((l : Int) = -1) := by omega
    rw [bP_c q] at ke
    by_cases c : Sm a x y
    · rw [bP_t c] at ke
      rw [bP_t c]
      simp (disch := omega) only [zl_21, zl_22, zl_25, zl_40, zl_64, zl_150, zl_400, zl_1000000, zl_1065353216, zl_25214903, zl_2147483647, zl_32768, zl_1024, zl_0, zl_1, zl_2, zl_3, zl_4, zl_5, zl_6, zl_7, zl_8, zl_9, zl_10, zl_11, zl_12, zl_13, zl_14, zl_15, zl_16, zl_17, zl_18, zl_19, zl_20, zl_23, zl_24, zl_31, zl_32, zl_48, zl_50, zl_53, zl_57, zl_59, zl_60, zl_99, zl_100, zl_104, zl_112, zl_114, zl_119, zl_126, zl_127, zl_181, zl_200, zl_500, zl_543, zl_724, zl_999, zl_1000, zl_5000, zl_65536, zl_100000, zl_1000001, zl_1000002, zl_1000003, zl_1000004, zl_2143289344, zI_neg, zI_add, zI_sub, zI_mul, zI_le, zI_lt, zI_eq, ck_ib, ix_nat, ixz_0, ixz_1, ixz_2, ixz_3, ixz_4, ixz_5, ixz_6, ixz_7, ixz_8, ixz_9, ixz_10, ixz_11, ixz_12, ob_some, lt_of, ck_bP, bP_z, bP_o, ite_bP, Int.reduceToNat, Nat.reduceAdd, Nat.reduceMul, Int.reduceAdd, Int.reduceSub, Int.reduceMul, Int.reduceNeg, Int.reduceEq, Int.reduceLT, Int.reduceLE, ↓reduceIte, not_true_eq_false, not_false_eq_true, e5, R.l17, ke, hn, f_X2_isSeam_b32, f_X2_isSeam_b31, ck_bl0, ck_bl1]
    · rw [bP_f c] at ke
      rw [bP_f c]
      simp (disch := omega) only [zl_21, zl_22, zl_25, zl_40, zl_64, zl_150, zl_400, zl_1000000, zl_1065353216, zl_25214903, zl_2147483647, zl_32768, zl_1024, zl_0, zl_1, zl_2, zl_3, zl_4, zl_5, zl_6, zl_7, zl_8, zl_9, zl_10, zl_11, zl_12, zl_13, zl_14, zl_15, zl_16, zl_17, zl_18, zl_19, zl_20, zl_23, zl_24, zl_31, zl_32, zl_48, zl_50, zl_53, zl_57, zl_59, zl_60, zl_99, zl_100, zl_104, zl_112, zl_114, zl_119, zl_126, zl_127, zl_181, zl_200, zl_500, zl_543, zl_724, zl_999, zl_1000, zl_5000, zl_65536, zl_100000, zl_1000001, zl_1000002, zl_1000003, zl_1000004, zl_2143289344, zI_neg, zI_add, zI_sub, zI_mul, zI_le, zI_lt, zI_eq, ck_ib, ix_nat, ixz_0, ixz_1, ixz_2, ixz_3, ixz_4, ixz_5, ixz_6, ixz_7, ixz_8, ixz_9, ixz_10, ixz_11, ixz_12, ob_some, lt_of, ck_bP, bP_z, bP_o, ite_bP, Int.reduceToNat, Nat.reduceAdd, Nat.reduceMul, Int.reduceAdd, Int.reduceSub, Int.reduceMul, Int.reduceNeg, Int.reduceEq, Int.reduceLT, Int.reduceLE, ↓reduceIte, not_true_eq_false, not_false_eq_true, e5, R.l17, ke, hn, f_X2_isSeam_b32, f_X2_isSeam_b31, ck_bl0, ck_bl1]
  · rw [bP_f (fun ⟨u, o, q1, q2, q3, _⟩ => e1 u q1 q3)]
    simp (disch := omega) only [zl_21, zl_22, zl_25, zl_40, zl_64, zl_150, zl_400, zl_1000000, zl_1065353216, zl_25214903, zl_2147483647, zl_32768, zl_1024, zl_0, zl_1, zl_2, zl_3, zl_4, zl_5, zl_6, zl_7, zl_8, zl_9, zl_10, zl_11, zl_12, zl_13, zl_14, zl_15, zl_16, zl_17, zl_18, zl_19, zl_20, zl_23, zl_24, zl_31, zl_32, zl_48, zl_50, zl_53, zl_57, zl_59, zl_60, zl_99, zl_100, zl_104, zl_112, zl_114, zl_119, zl_126, zl_127, zl_181, zl_200, zl_500, zl_543, zl_724, zl_999, zl_1000, zl_5000, zl_65536, zl_100000, zl_1000001, zl_1000002, zl_1000003, zl_1000004, zl_2143289344, zI_neg, zI_add, zI_sub, zI_mul, zI_le, zI_lt, zI_eq, ck_ib, ix_nat, ixz_0, ixz_1, ixz_2, ixz_3, ixz_4, ixz_5, ixz_6, ixz_7, ixz_8, ixz_9, ixz_10, ixz_11, ixz_12, ob_some, lt_of, ck_bP, bP_z, bP_o, ite_bP, Int.reduceToNat, Nat.reduceAdd, Nat.reduceMul, Int.reduceAdd, Int.reduceSub, Int.reduceMul, Int.reduceNeg, Int.reduceEq, Int.reduceLT, Int.reduceLE, ↓reduceIte, not_true_eq_false, not_false_eq_true, e2, f_X2_isSeam_b32, f_X2_isSeam_b31, ck_bl0, ck_bl1]
/-- a seam is there, and no line ahead of this one ends there -/
def Fm (a : Row) (l : Nat) (x y : Int) : Prop := la a l 4 ≠ -1 ∧ (∀ o, o < l → ¬ Ae a o x y) ∧ Sm a x y
theorem k_fm (W : WF a) (R : RC g M a) {l : Nat} (h : l < nl a) {x y : Int} (h3 : 0 ≤ x ∧ x ≤ 99) (h4 : 0 ≤ y ∧ y ≤ 99) (he : (la a l 0 = x ∧ la a l 1 = y) ∨ (la a l 2 = x ∧ la a l 3 = y)) : ∃ r : Int, -1 ≤ r ∧ r ≤ 16 ∧ f_X2_firstDrawnWithEnd g (zI x) (zI y) M = some (zI r, M) ∧ ((r = l ∧ Sm a x y) ↔ Fm a l x y) := by
  have ws := W.sc
  rcases k_first W R h3 h4 with ⟨o, e2, e3, e4, e5⟩ | ⟨e1, e2⟩
  · refine ⟨o, by omega, by omega, e5, ⟨fun q => ?_, fun q => ⟨?_, q.2.2⟩⟩⟩
    · obtain rfl : o = l := by omega
      exact ⟨e3.1, e4, q.2⟩
    · have u : Ae a l x y := ⟨q.1, he⟩
      have t1 : ¬ l < o := fun t => e4 l t u
      have t2 : ¬ o < l := fun t => q.2.1 o t e3
      omega
  · refine ⟨-1, by omega, by omega, e2, ⟨fun q => by omega, fun q => absurd ⟨q.1, he⟩ (e1 l h)⟩⟩
theorem k_sfma_b (W : WF a) (R : RC g M a) {l : Nat} (h : l < nl a) (P : Prop) : f_X2_seamsFirstMetAt_b44 g (zI l) (zI (bP P)) M = some (zI (bP P + bP (Fm a l (la a l 2) (la a l 3))), M) := by
  have ws := W.sc
  have v := W.line h
  obtain ⟨r, r1, r2, r3, r4⟩ := k_fm W R h (x := la a l 2) (y := la a l 3) (by omega) (by omega) (.inr ⟨rfl, rfl⟩)
  have ks := k_isSeam W R (x := la a l 2) (y := la a l 3) (by omega) (by omega)
  unfold f_X2_seamsFirstMetAt_b44
  by_cases c : r = l
  · by_cases c2 : Sm a (la a l 2) (la a l 3)
    · rw [bP_t c2] at ks
      rw [bP_t (r4.1 ⟨c, c2⟩)]
      subst c
      simp (disch := omega) only [zl_21, zl_22, zl_25, zl_40, zl_64, zl_150, zl_400, zl_1000000, zl_1065353216, zl_25214903, zl_2147483647, zl_32768, zl_1024, zl_0, zl_1, zl_2, zl_3, zl_4, zl_5, zl_6, zl_7, zl_8, zl_9, zl_10, zl_11, zl_12, zl_13, zl_14, zl_15, zl_16, zl_17, zl_18, zl_19, zl_20, zl_23, zl_24, zl_31, zl_32, zl_48, zl_50, zl_53, zl_57, zl_59, zl_60, zl_99, zl_100, zl_104, zl_112, zl_114, zl_119, zl_126, zl_127, zl_181, zl_200, zl_500, zl_543, zl_724, zl_999, zl_1000, zl_5000, zl_65536, zl_100000, zl_1000001, zl_1000002, zl_1000003, zl_1000004, zl_2143289344, zI_neg, zI_add, zI_sub, zI_mul, zI_le, zI_lt, zI_eq, ck_ib, ix_nat, ixz_0, ixz_1, ixz_2, ixz_3, ixz_4, ixz_5, ixz_6, ixz_7, ixz_8, ixz_9, ixz_10, ixz_11, ixz_12, ob_some, lt_of, ck_bP, bP_z, bP_o, ite_bP, Int.reduceToNat, Nat.reduceAdd, Nat.reduceMul, Int.reduceAdd, Int.reduceSub, Int.reduceMul, Int.reduceNeg, Int.reduceEq, Int.reduceLT, Int.reduceLE, ↓reduceIte, not_true_eq_false, not_false_eq_true, k_asBit, R.l13, R.l14, r3, ks, f_X2_seamsFirstMetAt_b90, f_X2_seamsFirstMetAt_b91, k_asBit1, k_asBit0]
    · rw [bP_f c2] at ks
      rw [bP_f (fun q => c2 (r4.2 q).2)]
      subst c
      simp (disch := omega) only [zl_21, zl_22, zl_25, zl_40, zl_64, zl_150, zl_400, zl_1000000, zl_1065353216, zl_25214903, zl_2147483647, zl_32768, zl_1024, zl_0, zl_1, zl_2, zl_3, zl_4, zl_5, zl_6, zl_7, zl_8, zl_9, zl_10, zl_11, zl_12, zl_13, zl_14, zl_15, zl_16, zl_17, zl_18, zl_19, zl_20, zl_23, zl_24, zl_31, zl_32, zl_48, zl_50, zl_53, zl_57, zl_59, zl_60, zl_99, zl_100, zl_104, zl_112, zl_114, zl_119, zl_126, zl_127, zl_181, zl_200, zl_500, zl_543, zl_724, zl_999, zl_1000, zl_5000, zl_65536, zl_100000, zl_1000001, zl_1000002, zl_1000003, zl_1000004, zl_2143289344, zI_neg, zI_add, zI_sub, zI_mul, zI_le, zI_lt, zI_eq, ck_ib, ix_nat, ixz_0, ixz_1, ixz_2, ixz_3, ixz_4, ixz_5, ixz_6, ixz_7, ixz_8, ixz_9, ixz_10, ixz_11, ixz_12, ob_some, lt_of, ck_bP, bP_z, bP_o, ite_bP, Int.reduceToNat, Nat.reduceAdd, Nat.reduceMul, Int.reduceAdd, Int.reduceSub, Int.reduceMul, Int.reduceNeg, Int.reduceEq, Int.reduceLT, Int.reduceLE, ↓reduceIte, not_true_eq_false, not_false_eq_true, k_asBit, R.l13, R.l14, r3, ks, f_X2_seamsFirstMetAt_b90, f_X2_seamsFirstMetAt_b91, k_asBit1, k_asBit0]
  · rw [bP_f (fun q => c (r4.2 q).1)]
    simp (disch := omega) only [zl_21, zl_22, zl_25, zl_40, zl_64, zl_150, zl_400, zl_1000000, zl_1065353216, zl_25214903, zl_2147483647, zl_32768, zl_1024, zl_0, zl_1, zl_2, zl_3, zl_4, zl_5, zl_6, zl_7, zl_8, zl_9, zl_10, zl_11, zl_12, zl_13, zl_14, zl_15, zl_16, zl_17, zl_18, zl_19, zl_20, zl_23, zl_24, zl_31, zl_32, zl_48, zl_50, zl_53, zl_57, zl_59, zl_60, zl_99, zl_100, zl_104, zl_112, zl_114, zl_119, zl_126, zl_127, zl_181, zl_200, zl_500, zl_543, zl_724, zl_999, zl_1000, zl_5000, zl_65536, zl_100000, zl_1000001, zl_1000002, zl_1000003, zl_1000004, zl_2143289344, zI_neg, zI_add, zI_sub, zI_mul, zI_le, zI_lt, zI_eq, ck_ib, ix_nat, ixz_0, ixz_1, ixz_2, ixz_3, ixz_4, ixz_5, ixz_6, ixz_7, ixz_8, ixz_9, ixz_10, ixz_11, ixz_12, ob_some, lt_of, ck_bP, bP_z, bP_o, ite_bP, Int.reduceToNat, Nat.reduceAdd, Nat.reduceMul, Int.reduceAdd, Int.reduceSub, Int.reduceMul, Int.reduceNeg, Int.reduceEq, Int.reduceLT, Int.reduceLE, ↓reduceIte, not_true_eq_false, not_false_eq_true, k_asBit, R.l13, R.l14, r3, c, f_X2_seamsFirstMetAt_b90, f_X2_seamsFirstMetAt_b91, k_asBit1, k_asBit0]
theorem k_seamsFirstMetAt (W : WF a) (R : RC g M a) {l : Nat} (h : l < nl a) : f_X2_seamsFirstMetAt g (zI l) M = some (zI (bP (Fm a l (la a l 0) (la a l 1)) + bP (Fm a l (la a l 2) (la a l 3))), M) := by
  have ws := W.sc
  have v := W.line h
  obtain ⟨r, r1, r2, r3, r4⟩ := k_fm W R h (x := la a l 0) (y := la a l 1) (by omega) (by omega) (.inl ⟨rfl, rfl⟩)
  have ks := k_isSeam W R (x := la a l 0) (y := la a l 1) (by omega) (by omega)
  have kb := k_sfma_b W R h (Fm a l (la a l 0) (la a l 1))
  unfold f_X2_seamsFirstMetAt f_X2_seamsFirstMetAt_b43
  rw [← kb]
  by_cases c : r = l
  · by_cases c2 : Sm a (la a l 0) (la a l 1)
    · rw [bP_t c2] at ks
      rw [bP_t (r4.1 ⟨c, c2⟩)]
      subst c
      simp (disch := omega) only [zl_21, zl_22, zl_25, zl_40, zl_64, zl_150, zl_400, zl_1000000, zl_1065353216, zl_25214903, zl_2147483647, zl_32768, zl_1024, zl_0, zl_1, zl_2, zl_3, zl_4, zl_5, zl_6, zl_7, zl_8, zl_9, zl_10, zl_11, zl_12, zl_13, zl_14, zl_15, zl_16, zl_17, zl_18, zl_19, zl_20, zl_23, zl_24, zl_31, zl_32, zl_48, zl_50, zl_53, zl_57, zl_59, zl_60, zl_99, zl_100, zl_104, zl_112, zl_114, zl_119, zl_126, zl_127, zl_181, zl_200, zl_500, zl_543, zl_724, zl_999, zl_1000, zl_5000, zl_65536, zl_100000, zl_1000001, zl_1000002, zl_1000003, zl_1000004, zl_2143289344, zI_neg, zI_add, zI_sub, zI_mul, zI_le, zI_lt, zI_eq, ck_ib, ix_nat, ixz_0, ixz_1, ixz_2, ixz_3, ixz_4, ixz_5, ixz_6, ixz_7, ixz_8, ixz_9, ixz_10, ixz_11, ixz_12, ob_some, lt_of, ck_bP, bP_z, bP_o, ite_bP, Int.reduceToNat, Nat.reduceAdd, Nat.reduceMul, Int.reduceAdd, Int.reduceSub, Int.reduceMul, Int.reduceNeg, Int.reduceEq, Int.reduceLT, Int.reduceLE, ↓reduceIte, not_true_eq_false, not_false_eq_true, R.l11, R.l12, r3, ks]
    · rw [bP_f c2] at ks
      rw [bP_f (fun q => c2 (r4.2 q).2)]
      subst c
      simp (disch := omega) only [zl_21, zl_22, zl_25, zl_40, zl_64, zl_150, zl_400, zl_1000000, zl_1065353216, zl_25214903, zl_2147483647, zl_32768, zl_1024, zl_0, zl_1, zl_2, zl_3, zl_4, zl_5, zl_6, zl_7, zl_8, zl_9, zl_10, zl_11, zl_12, zl_13, zl_14, zl_15, zl_16, zl_17, zl_18, zl_19, zl_20, zl_23, zl_24, zl_31, zl_32, zl_48, zl_50, zl_53, zl_57, zl_59, zl_60, zl_99, zl_100, zl_104, zl_112, zl_114, zl_119, zl_126, zl_127, zl_181, zl_200, zl_500, zl_543, zl_724, zl_999, zl_1000, zl_5000, zl_65536, zl_100000, zl_1000001, zl_1000002, zl_1000003, zl_1000004, zl_2143289344, zI_neg, zI_add, zI_sub, zI_mul, zI_le, zI_lt, zI_eq, ck_ib, ix_nat, ixz_0, ixz_1, ixz_2, ixz_3, ixz_4, ixz_5, ixz_6, ixz_7, ixz_8, ixz_9, ixz_10, ixz_11, ixz_12, ob_some, lt_of, ck_bP, bP_z, bP_o, ite_bP, Int.reduceToNat, Nat.reduceAdd, Nat.reduceMul, Int.reduceAdd, Int.reduceSub, Int.reduceMul, Int.reduceNeg, Int.reduceEq, Int.reduceLT, Int.reduceLE, ↓reduceIte, not_true_eq_false, not_false_eq_true, R.l11, R.l12, r3, ks]
  · rw [bP_f (fun q => c (r4.2 q).1)]
    simp (disch := omega) only [zl_21, zl_22, zl_25, zl_40, zl_64, zl_150, zl_400, zl_1000000, zl_1065353216, zl_25214903, zl_2147483647, zl_32768, zl_1024, zl_0, zl_1, zl_2, zl_3, zl_4, zl_5, zl_6, zl_7, zl_8, zl_9, zl_10, zl_11, zl_12, zl_13, zl_14, zl_15, zl_16, zl_17, zl_18, zl_19, zl_20, zl_23, zl_24, zl_31, zl_32, zl_48, zl_50, zl_53, zl_57, zl_59, zl_60, zl_99, zl_100, zl_104, zl_112, zl_114, zl_119, zl_126, zl_127, zl_181, zl_200, zl_500, zl_543, zl_724, zl_999, zl_1000, zl_5000, zl_65536, zl_100000, zl_1000001, zl_1000002, zl_1000003, zl_1000004, zl_2143289344, zI_neg, zI_add, zI_sub, zI_mul, zI_le, zI_lt, zI_eq, ck_ib, ix_nat, ixz_0, ixz_1, ixz_2, ixz_3, ixz_4, ixz_5, ixz_6, ixz_7, ixz_8, ixz_9, ixz_10, ixz_11, ixz_12, ob_some, lt_of, ck_bP, bP_z, bP_o, ite_bP, Int.reduceToNat, Nat.reduceAdd, Nat.reduceMul, Int.reduceAdd, Int.reduceSub, Int.reduceMul, Int.reduceNeg, Int.reduceEq, Int.reduceLT, Int.reduceLE, ↓reduceIte, not_true_eq_false, not_false_eq_true, R.l11, R.l12, r3, c]
/-- how many seams are first met at the lines ahead -/
noncomputable def smn (a : Row) : Nat → Int
  | 0 => 0
  | k + 1 => smn a k + (bP (Fm a k (la a k 0) (la a k 1)) + bP (Fm a k (la a k 2) (la a k 3)))
theorem k_seams_l (W : WF a) (R : RC 1 M a) : ∀ (d k fu : Nat), k + d = nl a → d < fu → f_X7_seams_b4 fu (zI (smn a k)) (zI k) M = some (zI (smn a (nl a)), M) := by
  intro d
  have ws := W.sc
  induction d with
  | zero =>
    intro k fu hk hf
    obtain ⟨fu, rfl⟩ : ∃ f, fu = f + 1 := ⟨fu - 1, by omega⟩
    obtain rfl : k = nl a := by omega
    have c0 : ((nl a : Nat) : Int) ≤ ((nl a : Nat) : Int) := Int.le_refl _
    rw [f_X7_seams_b4.eq_2]
    simp (disch := omega) only [zl_21, zl_22, zl_25, zl_40, zl_64, zl_150, zl_400, zl_1000000, zl_1065353216, zl_25214903, zl_2147483647, zl_32768, zl_1024, zl_0, zl_1, zl_2, zl_3, zl_4, zl_5, zl_6, zl_7, zl_8, zl_9, zl_10, zl_11, zl_12, zl_13, zl_14, zl_15, zl_16, zl_17, zl_18, zl_19, zl_20, zl_23, zl_24, zl_31, zl_32, zl_48, zl_50, zl_53, zl_57, zl_59, zl_60, zl_99, zl_100, zl_104, zl_112, zl_114, zl_119, zl_126, zl_127, zl_181, zl_200, zl_500, zl_543, zl_724, zl_999, zl_1000, zl_5000, zl_65536, zl_100000, zl_1000001, zl_1000002, zl_1000003, zl_1000004, zl_2143289344, zI_neg, zI_add, zI_sub, zI_mul, zI_le, zI_lt, zI_eq, ck_ib, ix_nat, ixz_0, ixz_1, ixz_2, ixz_3, ixz_4, ixz_5, ixz_6, ixz_7, ixz_8, ixz_9, ixz_10, ixz_11, ixz_12, ob_some, lt_of, ck_bP, bP_z, bP_o, ite_bP, Int.reduceToNat, Nat.reduceAdd, Nat.reduceMul, Int.reduceAdd, Int.reduceSub, Int.reduceMul, Int.reduceNeg, Int.reduceEq, Int.reduceLT, Int.reduceLE, ↓reduceIte, not_true_eq_false, not_false_eq_true, R.rnl, c0]
  | succ d ih =>
    intro k fu hk hf
    obtain ⟨fu, rfl⟩ : ∃ f, fu = f + 1 := ⟨fu - 1, by omega⟩
    have kk : k < nl a := by omega
    have c0 : ¬ ((nl a : Int) ≤ (k : Int)) := by omega
    have e := ih (k + 1) fu (by omega) (by omega)
    simp only [nc1] at e
    rw [f_X7_seams_b4.eq_2]
    simp (disch := omega) only [zl_21, zl_22, zl_25, zl_40, zl_64, zl_150, zl_400, zl_1000000, zl_1065353216, zl_25214903, zl_2147483647, zl_32768, zl_1024, zl_0, zl_1, zl_2, zl_3, zl_4, zl_5, zl_6, zl_7, zl_8, zl_9, zl_10, zl_11, zl_12, zl_13, zl_14, zl_15, zl_16, zl_17, zl_18, zl_19, zl_20, zl_23, zl_24, zl_31, zl_32, zl_48, zl_50, zl_53, zl_57, zl_59, zl_60, zl_99, zl_100, zl_104, zl_112, zl_114, zl_119, zl_126, zl_127, zl_181, zl_200, zl_500, zl_543, zl_724, zl_999, zl_1000, zl_5000, zl_65536, zl_100000, zl_1000001, zl_1000002, zl_1000003, zl_1000004, zl_2143289344, zI_neg, zI_add, zI_sub, zI_mul, zI_le, zI_lt, zI_eq, ck_ib, ix_nat, ixz_0, ixz_1, ixz_2, ixz_3, ixz_4, ixz_5, ixz_6, ixz_7, ixz_8, ixz_9, ixz_10, ixz_11, ixz_12, ob_some, lt_of, ck_bP, bP_z, bP_o, ite_bP, Int.reduceToNat, Nat.reduceAdd, Nat.reduceMul, Int.reduceAdd, Int.reduceSub, Int.reduceMul, Int.reduceNeg, Int.reduceEq, Int.reduceLT, Int.reduceLE, ↓reduceIte, not_true_eq_false, not_false_eq_true, R.rnl, c0, k_seamsFirstMetAt W R kk]
    exact e
/-! the reference's ends, two a line -/
theorem zI_half : ∀ k : Fin 64, zI (k.val : Nat) / zI 2 = zI ((k.val / 2 : Nat) : Int) := by decide +kernel
def ex (a : Row) (k : Nat) : Int := la a (k / 2) (2 * (k % 2))
def ey (a : Row) (k : Nat) : Int := la a (k / 2) (2 * (k % 2) + 1)
theorem ex_rg (W : WF a) {k : Nat} (h : k < 2 * nl a) : 0 ≤ ex a k ∧ ex a k ≤ 99 ∧ 0 ≤ ey a k ∧ ey a k ≤ 99 := by
  have v := W.line (show k / 2 < nl a by omega)
  unfold ex ey
  rcases (by omega : k % 2 = 0 ∨ k % 2 = 1) with q | q
  · rw [q]; exact ⟨v.1, v.2.1, v.2.2.1, v.2.2.2.1⟩
  · rw [q]; exact ⟨v.2.2.2.2.1, v.2.2.2.2.2.1, v.2.2.2.2.2.2.1, v.2.2.2.2.2.2.2.1⟩
/-- the k-th end is there, of a drawn line -/
def Ej (a : Row) (k : Nat) (x y : Int) : Prop := la a (k / 2) 4 ≠ -1 ∧ ex a k = x ∧ ey a k = y
theorem Ej_Ae {n : Nat} {x y : Int} (P : Nat → Prop) : (∃ k, k < 2 * n ∧ Ej a k x y ∧ P (k / 2)) ↔ ∃ l, l < n ∧ Ae a l x y ∧ P l := by
  constructor
  · rintro ⟨k, h1, ⟨h2, h3, h4⟩, h5⟩
    refine ⟨k / 2, by omega, ⟨h2, ?_⟩, h5⟩
    unfold ex at h3
    unfold ey at h4
    rcases (by omega : k % 2 = 0 ∨ k % 2 = 1) with q | q
    · rw [q] at h3 h4; exact .inl ⟨h3, h4⟩
    · rw [q] at h3 h4; exact .inr ⟨h3, h4⟩
  · rintro ⟨l, h1, ⟨h2, h3⟩, h4⟩
    rcases h3 with h3 | h3
    · refine ⟨2 * l, by omega, ⟨?_, ?_, ?_⟩, ?_⟩
      · rw [show 2 * l / 2 = l by omega]; exact h2
      · unfold ex; rw [show 2 * l / 2 = l by omega, show 2 * l % 2 = 0 by omega]; exact h3.1
      · unfold ey; rw [show 2 * l / 2 = l by omega, show 2 * l % 2 = 0 by omega]; exact h3.2
      · rw [show 2 * l / 2 = l by omega]; exact h4
    · refine ⟨2 * l + 1, by omega, ⟨?_, ?_, ?_⟩, ?_⟩
      · rw [show (2 * l + 1) / 2 = l by omega]; exact h2
      · unfold ex; rw [show (2 * l + 1) / 2 = l by omega, show (2 * l + 1) % 2 = 1 by omega]; exact h3.1
      · unfold ey; rw [show (2 * l + 1) / 2 = l by omega, show (2 * l + 1) % 2 = 1 by omega]; exact h3.2
      · rw [show (2 * l + 1) / 2 = l by omega]; exact h4
/-! sets of pens as bits -/
theorem pb_or : ∀ s : Fin 32, ∀ p : Fin 5, zI (s.val : Nat) ||| (zI 1 <<< (zI (p.val : Nat) &&& zI 31)) = zI ((s.val ||| 2 ^ p.val : Nat) : Int) ∧ s.val ||| 2 ^ p.val < 32 := by decide +kernel
theorem pb_test : ∀ s : Fin 32, ∀ p q : Fin 5, (s.val ||| 2 ^ p.val).testBit q.val = (s.val.testBit q.val || decide (p.val = q.val)) := by decide +kernel
theorem pb_some : ∀ s : Fin 32, (zI (s.val : Nat) &&& (zI (s.val : Nat) - zI 1) = zI 0) ↔ ¬ ∃ p q : Fin 5, p ≠ q ∧ s.val.testBit p.val = true ∧ s.val.testBit q.val = true := by decide +kernel
theorem sm_some (W : WF a) {x y : Int} {t : Nat} (h : ∀ p : Nat, p < 5 → (t.testBit p = true ↔ ∃ l, l < nl a ∧ Ae a l x y ∧ la a l 4 = p)) : (∃ p q : Nat, p < 5 ∧ q < 5 ∧ p ≠ q ∧ t.testBit p = true ∧ t.testBit q = true) ↔ Sm a x y := by
  have ws := W.sc
  constructor
  · rintro ⟨p, q, h1, h2, h3, h4, h5⟩
    obtain ⟨l, l1, l2, l3⟩ := (h p h1).1 h4
    obtain ⟨o, o1, o2, o3⟩ := (h q h2).1 h5
    exact ⟨l, o, l1, o1, l2, o2, by omega⟩
  · rintro ⟨l, o, l1, o1, l2, o2, h3⟩
    have v := W.line l1
    have u := W.line o1
    have v2 := l2.1
    have u2 := o2.1
    refine ⟨(la a l 4).toNat, (la a o 4).toNat, by omega, by omega, by omega, (h _ (by omega)).2 ⟨l, l1, l2, by omega⟩, (h _ (by omega)).2 ⟨o, o1, o2, by omega⟩⟩
/-- the k-th end is a seam, and the first end there -/
def Fe (a : Row) (k : Nat) : Prop := (la a (k / 2) 4 ≠ -1 ∧ Sm a (ex a k) (ey a k)) ∧ ∀ j, j < k → ¬ Ej a j (ex a k) (ey a k)
noncomputable def srw (a : Row) : Nat → Int
  | 0 => 0
  | k + 1 => srw a k + bP (Fe a k)
theorem fe_even (l : Nat) : Fe a (2 * l) ↔ Fm a l (la a l 0) (la a l 1) := by
  unfold Fe Fm ex ey
  rw [show 2 * l / 2 = l by omega, show 2 * l % 2 = 0 by omega]
  have q := Ej_Ae (a := a) (n := l) (x := la a l 0) (y := la a l 1) (fun _ => True)
  constructor
  · rintro ⟨⟨h1, h2⟩, h3⟩
    refine ⟨h1, fun o ho h => ?_, h2⟩
    obtain ⟨k, k1, k2, _⟩ := q.2 ⟨o, ho, h, trivial⟩
    exact h3 k k1 k2
  · rintro ⟨h1, h2, h3⟩
    refine ⟨⟨h1, h3⟩, fun j hj h => ?_⟩
    obtain ⟨o, o1, o2, _⟩ := q.1 ⟨j, hj, h, trivial⟩
    exact h2 o o1 o2
theorem fe_odd (W : WF a) {l : Nat} (hl : l < nl a) : Fe a (2 * l + 1) ↔ Fm a l (la a l 2) (la a l 3) := by
  unfold Fe Fm ex ey
  rw [show (2 * l + 1) / 2 = l by omega, show (2 * l + 1) % 2 = 1 by omega]
  have q := Ej_Ae (a := a) (n := l) (x := la a l 2) (y := la a l 3) (fun _ => True)
  have v := W.line hl
  constructor
  · rintro ⟨⟨h1, h2⟩, h3⟩
    refine ⟨h1, fun o ho h => ?_, h2⟩
    obtain ⟨k, k1, k2, _⟩ := q.2 ⟨o, ho, h, trivial⟩
    exact h3 k (by omega) k2
  · rintro ⟨h1, h2, h3⟩
    refine ⟨⟨h1, h3⟩, fun j hj h => ?_⟩
    by_cases c : j = 2 * l
    · subst c
      obtain ⟨_, q2, q3⟩ := h
      unfold ex at q2
      unfold ey at q3
      rw [show 2 * l / 2 = l by omega, show 2 * l % 2 = 0 by omega] at q2 q3
      simp only [Nat.mul_zero, Nat.zero_add, Nat.mul_one] at q2 q3
      exact v.2.2.2.2.2.2.2.2.1 ⟨q2, q3⟩
    · obtain ⟨o, o1, o2, _⟩ := q.1 ⟨j, by omega, h, trivial⟩
      exact h2 o o1 o2
theorem srw_smn (W : WF a) : ∀ l, l ≤ nl a → srw a (2 * l) = smn a l := by
  intro l
  induction l with
  | zero => intro _; rfl
  | succ l ih =>
    intro h
    have i := ih (by omega)
    rw [show 2 * (l + 1) = 2 * l + 1 + 1 by omega]
    simp only [srw, smn]
    rw [i, bP_c (fe_even l), bP_c (fe_odd W (show l < nl a by omega))]
    omega
/-- what the reference counts at one end -/
theorem by_some (W : WF a) {x y : Int} {t p : Nat} (hp : p < 5) (ht : t < 32) (h : ∀ p : Nat, p < 5 → (t.testBit p = true ↔ ∃ l, l < nl a ∧ Ae a l x y ∧ la a l 4 = p)) (hs : ¬ Sm a x y) : (∃ u q : Nat, u < 5 ∧ q < 5 ∧ u ≠ q ∧ (t ||| 2 ^ p).testBit u = true ∧ (t ||| 2 ^ p).testBit q = true) ↔ Eo a x y p := by
  have ws := W.sc
  have key : ∀ u, u < 5 → u ≠ p → (t ||| 2 ^ p).testBit u = true → Eo a x y p := by
    intro u hu hn hb
    have pt := pb_test ⟨t, ht⟩ ⟨p, hp⟩ ⟨u, hu⟩
    simp only at pt
    rw [pt, Bool.or_eq_true, decide_eq_true_eq] at hb
    rcases hb with hb | hb
    · obtain ⟨l, l1, l2, l3⟩ := (h u hu).1 hb
      exact ⟨l, l1, l2, by omega⟩
    · exact absurd hb.symm hn
  constructor
  · rintro ⟨u, q, h1, h2, h3, h4, h5⟩
    by_cases c : u = p
    · exact key q h2 (fun z => h3 (c.trans z.symm)) h5
    · exact key u h1 c h4
  · rintro ⟨l, l1, l2, l3⟩
    have v := W.line l1
    have v2 := l2.1
    have pt := pb_test ⟨t, ht⟩ ⟨p, hp⟩ ⟨(la a l 4).toNat, by omega⟩
    have pp := pb_test ⟨t, ht⟩ ⟨p, hp⟩ ⟨p, hp⟩
    simp only at pt pp
    refine ⟨(la a l 4).toNat, p, by omega, hp, by omega, ?_, ?_⟩
    · rw [pt, Bool.or_eq_true]
      exact .inl ((h _ (by omega)).2 ⟨l, l1, l2, by omega⟩)
    · rw [pp]
      simp
theorem xu_rg {E T : Nat} (h1 : 114 ≤ E) (h2 : E ≤ 127) (hT : T < 8388608) (h3 : E = 127 → T = 0) : 8388608 ≤ xu E T ∧ xu E T ≤ 68719476736 := by
  unfold xu
  rcases (by omega : E = 114 ∨ E = 115 ∨ E = 116 ∨ E = 117 ∨ E = 118 ∨ E = 119 ∨ E = 120 ∨ E = 121 ∨ E = 122 ∨ E = 123 ∨ E = 124 ∨ E = 125 ∨ E = 126 ∨ E = 127) with rfl | rfl | rfl | rfl | rfl | rfl | rfl | rfl | rfl | rfl | rfl | rfl | rfl | rfl
  all_goals (simp only [Nat.reduceSub, Nat.reducePow]; omega)
end
