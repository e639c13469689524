/-! seams and the mean of the shades, of both -/
section
variable {g : Nat} {M S : Mem} {a : Row}
/-- a drawn line has an end there -/
def Ae (a : Row) (l : Nat) (x y : Int) : Prop := la a l 4 ≠ -1 ∧ ((la a l 0 = x ∧ la a l 1 = y) ∨ (la a l 2 = x ∧ la a l 3 = y))
theorem k_isDrawnWithEnd (W : WF a) (R : RC g M a) {l : Nat} (h : l < nl a) {x y : Int} (h3 : 0 ≤ x ∧ x ≤ 99) (h4 : 0 ≤ y ∧ y ≤ 99) : f_X2_isDrawnWithEnd g (zI l) (zI x) (zI y) M = some (zI (bP (Ae a l x y)), M) := by
  have ws := W.sc
  have v := W.line h
  unfold f_X2_isDrawnWithEnd f_X2_isDrawnWithEnd_b28 f_X2_isDrawnWithEnd_b52 f_X2_isDrawnWithEnd_b48 f_X2_isDrawnWithEnd_b53
  by_cases hd : la a l 4 = -1
  · simp (disch := omega) only [zl_0, zl_1, zl_2, zl_3, zl_4, zl_5, zl_6, zl_7, zl_8, zl_9, zl_10, zl_11, zl_12, zl_13, zl_14, zl_15, zl_16, zl_17, zl_18, zl_19, zl_20, zl_23, zl_24, zl_31, zl_32, zl_48, zl_50, zl_53, zl_57, zl_59, zl_60, zl_99, zl_100, zl_104, zl_112, zl_114, zl_119, zl_126, zl_127, zl_181, zl_200, zl_500, zl_543, zl_724, zl_999, zl_1000, zl_5000, zl_65536, zl_100000, zl_1000001, zl_1000002, zl_1000003, zl_1000004, zl_2143289344, zI_neg, zI_add, zI_sub, zI_mul, zI_le, zI_lt, zI_eq, ck_ib, ix_nat, ixz_0, ixz_1, ixz_2, ixz_3, ixz_4, ixz_5, ixz_6, ixz_7, ixz_8, ixz_9, ixz_10, ixz_11, ixz_12, ob_some, lt_of, ck_bP, bP_z, bP_o, ite_bP, Int.reduceToNat, Nat.reduceAdd, Nat.reduceMul, Int.reduceAdd, Int.reduceSub, Int.reduceMul, Int.reduceNeg, Int.reduceEq, Int.reduceLT, Int.reduceLE, ↓reduceIte, not_true_eq_false, not_false_eq_true, k_X2_drf W R h hd, ck_bl0]
    exact sm_f (fun q => q.1 hd) _
  · simp (disch := omega) only [zl_0, zl_1, zl_2, zl_3, zl_4, zl_5, zl_6, zl_7, zl_8, zl_9, zl_10, zl_11, zl_12, zl_13, zl_14, zl_15, zl_16, zl_17, zl_18, zl_19, zl_20, zl_23, zl_24, zl_31, zl_32, zl_48, zl_50, zl_53, zl_57, zl_59, zl_60, zl_99, zl_100, zl_104, zl_112, zl_114, zl_119, zl_126, zl_127, zl_181, zl_200, zl_500, zl_543, zl_724, zl_999, zl_1000, zl_5000, zl_65536, zl_100000, zl_1000001, zl_1000002, zl_1000003, zl_1000004, zl_2143289344, zI_neg, zI_add, zI_sub, zI_mul, zI_le, zI_lt, zI_eq, ck_ib, ix_nat, ixz_0, ixz_1, ixz_2, ixz_3, ixz_4, ixz_5, ixz_6, ixz_7, ixz_8, ixz_9, ixz_10, ixz_11, ixz_12, ob_some, lt_of, ck_bP, bP_z, bP_o, ite_bP, Int.reduceToNat, Nat.reduceAdd, Nat.reduceMul, Int.reduceAdd, Int.reduceSub, Int.reduceMul, Int.reduceNeg, Int.reduceEq, Int.reduceLT, Int.reduceLE, ↓reduceIte, not_true_eq_false, not_false_eq_true, k_X2_drt W R h hd, R.l11, R.l12, R.l13, R.l14, ck_bl0, ck_bl1]
    (repeat' split) <;> first | exact sm_f (by unfold Ae; omega) _ | exact sm_t (by unfold Ae; omega) _
theorem k_first_l (W : WF a) (R : RC g M a) {x y : Int} (h3 : 0 ≤ x ∧ x ≤ 99) (h4 : 0 ≤ y ∧ y ≤ 99) : ∀ (d k fu : Nat), k + d = nl a → d < fu → (∃ l, k ≤ l ∧ l < nl a ∧ Ae a l x y ∧ (∀ o, k ≤ o → o < l → ¬ Ae a o x y) ∧ f_X2_firstDrawnWithEnd_b2 g fu (zI x) (zI y) (zI k) M = some (zI l, M)) ∨ ((∀ o, k ≤ o → o < nl a → ¬ Ae a o x y) ∧ f_X2_firstDrawnWithEnd_b2 g fu (zI x) (zI y) (zI k) M = some (zI (-1), M)) := by
  intro d
  have ws := W.sc
  induction d with
  | zero =>
    intro k fu hk hf
    obtain ⟨fu, rfl⟩ : ∃ f, fu = f + 1 := ⟨fu - 1, by omega⟩
    obtain rfl : k = nl a := by omega
    have c0 : ((nl a : Nat) : Int) ≤ ((nl a : Nat) : Int) := Int.le_refl _
    refine .inr ⟨fun o h1 h2 => by omega, ?_⟩
    rw [f_X2_firstDrawnWithEnd_b2.eq_2]
    simp (disch := omega) only [zl_0, zl_1, zl_2, zl_3, zl_4, zl_5, zl_6, zl_7, zl_8, zl_9, zl_10, zl_11, zl_12, zl_13, zl_14, zl_15, zl_16, zl_17, zl_18, zl_19, zl_20, zl_23, zl_24, zl_31, zl_32, zl_48, zl_50, zl_53, zl_57, zl_59, zl_60, zl_99, zl_100, zl_104, zl_112, zl_114, zl_119, zl_126, zl_127, zl_181, zl_200, zl_500, zl_543, zl_724, zl_999, zl_1000, zl_5000, zl_65536, zl_100000, zl_1000001, zl_1000002, zl_1000003, zl_1000004, zl_2143289344, zI_neg, zI_add, zI_sub, zI_mul, zI_le, zI_lt, zI_eq, ck_ib, ix_nat, ixz_0, ixz_1, ixz_2, ixz_3, ixz_4, ixz_5, ixz_6, ixz_7, ixz_8, ixz_9, ixz_10, ixz_11, ixz_12, ob_some, lt_of, ck_bP, bP_z, bP_o, ite_bP, Int.reduceToNat, Nat.reduceAdd, Nat.reduceMul, Int.reduceAdd, Int.reduceSub, Int.reduceMul, Int.reduceNeg, Int.reduceEq, Int.reduceLT, Int.reduceLE, ↓reduceIte, not_true_eq_false, not_false_eq_true, R.rnl, c0]
  | succ d ih =>
    intro k fu hk hf
    obtain ⟨fu, rfl⟩ : ∃ f, fu = f + 1 := ⟨fu - 1, by omega⟩
    have kk : k < nl a := by omega
    have c0 : ¬ ((nl a : Int) ≤ (k : Int)) := by omega
    have e := ih (k + 1) fu (by omega) (by omega)
    simp only [nc1] at e
    have kd := k_isDrawnWithEnd W R kk h3 h4
    by_cases c : Ae a k x y
    · rw [bP_t c] at kd
      refine .inl ⟨k, Nat.le_refl k, kk, c, fun o h1 h2 => by omega, ?_⟩
      rw [f_X2_firstDrawnWithEnd_b2.eq_2]
      simp (disch := omega) only [zl_0, zl_1, zl_2, zl_3, zl_4, zl_5, zl_6, zl_7, zl_8, zl_9, zl_10, zl_11, zl_12, zl_13, zl_14, zl_15, zl_16, zl_17, zl_18, zl_19, zl_20, zl_23, zl_24, zl_31, zl_32, zl_48, zl_50, zl_53, zl_57, zl_59, zl_60, zl_99, zl_100, zl_104, zl_112, zl_114, zl_119, zl_126, zl_127, zl_181, zl_200, zl_500, zl_543, zl_724, zl_999, zl_1000, zl_5000, zl_65536, zl_100000, zl_1000001, zl_1000002, zl_1000003, zl_1000004, zl_2143289344, zI_neg, zI_add, zI_sub, zI_mul, zI_le, zI_lt, zI_eq, ck_ib, ix_nat, ixz_0, ixz_1, ixz_2, ixz_3, ixz_4, ixz_5, ixz_6, ixz_7, ixz_8, ixz_9, ixz_10, ixz_11, ixz_12, ob_some, lt_of, ck_bP, bP_z, bP_o, ite_bP, Int.reduceToNat, Nat.reduceAdd, Nat.reduceMul, Int.reduceAdd, Int.reduceSub, Int.reduceMul, Int.reduceNeg, Int.reduceEq, Int.reduceLT, Int.reduceLE, ↓reduceIte, not_true_eq_false, not_false_eq_true, R.rnl, c0, kd]
    · rw [bP_f c] at kd
      rcases e with ⟨l, e1, e2, e3, e4, e5⟩ | ⟨e1, e2⟩
      · refine .inl ⟨l, by omega, e2, e3, fun o h1 h2 => ?_, ?_⟩
        · by_cases q : o = k
          · subst q; exact c
          · exact e4 o (by omega) h2
        · rw [f_X2_firstDrawnWithEnd_b2.eq_2]
          simp (disch := omega) only [zl_0, zl_1, zl_2, zl_3, zl_4, zl_5, zl_6, zl_7, zl_8, zl_9, zl_10, zl_11, zl_12, zl_13, zl_14, zl_15, zl_16, zl_17, zl_18, zl_19, zl_20, zl_23, zl_24, zl_31, zl_32, zl_48, zl_50, zl_53, zl_57, zl_59, zl_60, zl_99, zl_100, zl_104, zl_112, zl_114, zl_119, zl_126, zl_127, zl_181, zl_200, zl_500, zl_543, zl_724, zl_999, zl_1000, zl_5000, zl_65536, zl_100000, zl_1000001, zl_1000002, zl_1000003, zl_1000004, zl_2143289344, zI_neg, zI_add, zI_sub, zI_mul, zI_le, zI_lt, zI_eq, ck_ib, ix_nat, ixz_0, ixz_1, ixz_2, ixz_3, ixz_4, ixz_5, ixz_6, ixz_7, ixz_8, ixz_9, ixz_10, ixz_11, ixz_12, ob_some, lt_of, ck_bP, bP_z, bP_o, ite_bP, Int.reduceToNat, Nat.reduceAdd, Nat.reduceMul, Int.reduceAdd, Int.reduceSub, Int.reduceMul, Int.reduceNeg, Int.reduceEq, Int.reduceLT, Int.reduceLE, ↓reduceIte, not_true_eq_false, not_false_eq_true, R.rnl, c0, kd]
          exact e5
      · refine .inr ⟨fun o h1 h2 => ?_, ?_⟩
        · by_cases q : o = k
          · subst q; exact c
          · exact e1 o (by omega) h2
        · rw [f_X2_firstDrawnWithEnd_b2.eq_2]
          simp (disch := omega) only [zl_0, zl_1, zl_2, zl_3, zl_4, zl_5, zl_6, zl_7, zl_8, zl_9, zl_10, zl_11, zl_12, zl_13, zl_14, zl_15, zl_16, zl_17, zl_18, zl_19, zl_20, zl_23, zl_24, zl_31, zl_32, zl_48, zl_50, zl_53, zl_57, zl_59, zl_60, zl_99, zl_100, zl_104, zl_112, zl_114, zl_119, zl_126, zl_127, zl_181, zl_200, zl_500, zl_543, zl_724, zl_999, zl_1000, zl_5000, zl_65536, zl_100000, zl_1000001, zl_1000002, zl_1000003, zl_1000004, zl_2143289344, zI_neg, zI_add, zI_sub, zI_mul, zI_le, zI_lt, zI_eq, ck_ib, ix_nat, ixz_0, ixz_1, ixz_2, ixz_3, ixz_4, ixz_5, ixz_6, ixz_7, ixz_8, ixz_9, ixz_10, ixz_11, ixz_12, ob_some, lt_of, ck_bP, bP_z, bP_o, ite_bP, Int.reduceToNat, Nat.reduceAdd, Nat.reduceMul, Int.reduceAdd, Int.reduceSub, Int.reduceMul, Int.reduceNeg, Int.reduceEq, Int.reduceLT, Int.reduceLE, ↓reduceIte, not_true_eq_false, not_false_eq_true, R.rnl, c0, kd]
          exact e2
theorem k_first (W : WF a) (R : RC g M a) {x y : Int} (h3 : 0 ≤ x ∧ x ≤ 99) (h4 : 0 ≤ y ∧ y ≤ 99) : (∃ l, l < nl a ∧ Ae a l x y ∧ (∀ o, o < l → ¬ Ae a o x y) ∧ f_X2_firstDrawnWithEnd g (zI x) (zI y) M = some (zI (l : Nat), M)) ∨ ((∀ o, o < nl a → ¬ Ae a o x y) ∧ f_X2_firstDrawnWithEnd g (zI x) (zI y) M = some (zI (-1), M)) := by
  have ws := W.sc
  rcases k_first_l W R h3 h4 (nl a) 0 1000 (by omega) (by omega) with ⟨l, e1, e2, e3, e4, e5⟩ | ⟨e1, e2⟩
  · exact .inl ⟨l, e2, e3, fun o h => e4 o (Nat.zero_le o) h, e5⟩
  · exact .inr ⟨fun o h => e1 o (Nat.zero_le o) h, e2⟩
theorem k_ends_l (W : WF a) (R : RC g M a) {x y p : Int} (h3 : 0 ≤ x ∧ x ≤ 99) (h4 : 0 ≤ y ∧ y ≤ 99) (h5 : -1 ≤ p ∧ p ≤ 5) : ∀ (d k fu : Nat), k + d = nl a → d < fu → f_X2_endsThereByAnother_b3 g fu (zI x) (zI y) (zI p) (zI k) M = some (zI (bP (∃ l, k ≤ l ∧ l < nl a ∧ Ae a l x y ∧ la a l 4 ≠ p)), M) := by
  intro d
  have ws := W.sc
  induction d with
  | zero =>
    intro k fu hk hf
    obtain ⟨fu, rfl⟩ : ∃ f, fu = f + 1 := ⟨fu - 1, by omega⟩
    obtain rfl : k = nl a := by omega
    have c0 : ((nl a : Nat) : Int) ≤ ((nl a : Nat) : Int) := Int.le_refl _
    rw [bP_f (fun ⟨l, h1, h2, _⟩ => by omega), f_X2_endsThereByAnother_b3.eq_2]
    simp (disch := omega) only [zl_0, zl_1, zl_2, zl_3, zl_4, zl_5, zl_6, zl_7, zl_8, zl_9, zl_10, zl_11, zl_12, zl_13, zl_14, zl_15, zl_16, zl_17, zl_18, zl_19, zl_20, zl_23, zl_24, zl_31, zl_32, zl_48, zl_50, zl_53, zl_57, zl_59, zl_60, zl_99, zl_100, zl_104, zl_112, zl_114, zl_119, zl_126, zl_127, zl_181, zl_200, zl_500, zl_543, zl_724, zl_999, zl_1000, zl_5000, zl_65536, zl_100000, zl_1000001, zl_1000002, zl_1000003, zl_1000004, zl_2143289344, zI_neg, zI_add, zI_sub, zI_mul, zI_le, zI_lt, zI_eq, ck_ib, ix_nat, ixz_0, ixz_1, ixz_2, ixz_3, ixz_4, ixz_5, ixz_6, ixz_7, ixz_8, ixz_9, ixz_10, ixz_11, ixz_12, ob_some, lt_of, ck_bP, bP_z, bP_o, ite_bP, Int.reduceToNat, Nat.reduceAdd, Nat.reduceMul, Int.reduceAdd, Int.reduceSub, Int.reduceMul, Int.reduceNeg, Int.reduceEq, Int.reduceLT, Int.reduceLE, ↓reduceIte, not_true_eq_false, not_false_eq_true, R.rnl, c0]
  | succ d ih =>
    intro k fu hk hf
    obtain ⟨fu, rfl⟩ : ∃ f, fu = f + 1 := ⟨fu - 1, by omega⟩
    have kk : k < nl a := by omega
    have c0 : ¬ ((nl a : Int) ≤ (k : Int)) := by omega
    have e := ih (k + 1) fu (by omega) (by omega)
    simp only [nc1] at e
    have v := W.line kk
    have kd := k_isDrawnWithEnd W R kk h3 h4
    by_cases c : Ae a k x y
    · rw [bP_t c] at kd
      by_cases c2 : la a k 4 = p
      · have q : (∃ l, k + 1 ≤ l ∧ l < nl a ∧ Ae a l x y ∧ la a l 4 ≠ p) ↔ (∃ l, k ≤ l ∧ l < nl a ∧ Ae a l x y ∧ la a l 4 ≠ p) := by
          constructor
          · rintro ⟨l, q1, q2⟩
            exact ⟨l, by omega, q2⟩
          · rintro ⟨l, q1, q2, q3, q4⟩
            have : l ≠ k := fun t => q4 (t ▸ c2)
            exact ⟨l, by omega, q2, q3, q4⟩
        rw [bP_c q] at e
        rw [f_X2_endsThereByAnother_b3.eq_2]
        simp (disch := omega) only [zl_0, zl_1, zl_2, zl_3, zl_4, zl_5, zl_6, zl_7, zl_8, zl_9, zl_10, zl_11, zl_12, zl_13, zl_14, zl_15, zl_16, zl_17, zl_18, zl_19, zl_20, zl_23, zl_24, zl_31, zl_32, zl_48, zl_50, zl_53, zl_57, zl_59, zl_60, zl_99, zl_100, zl_104, zl_112, zl_114, zl_119, zl_126, zl_127, zl_181, zl_200, zl_500, zl_543, zl_724, zl_999, zl_1000, zl_5000, zl_65536, zl_100000, zl_1000001, zl_1000002, zl_1000003, zl_1000004, zl_2143289344, zI_neg, zI_add, zI_sub, zI_mul, zI_le, zI_lt, zI_eq, ck_ib, ix_nat, ixz_0, ixz_1, ixz_2, ixz_3, ixz_4, ixz_5, ixz_6, ixz_7, ixz_8, ixz_9, ixz_10, ixz_11, ixz_12, ob_some, lt_of, ck_bP, bP_z, bP_o, ite_bP, Int.reduceToNat, Nat.reduceAdd, Nat.reduceMul, Int.reduceAdd, Int.reduceSub, Int.reduceMul, Int.reduceNeg, Int.reduceEq, Int.reduceLT, Int.reduceLE, ↓reduceIte, not_true_eq_false, not_false_eq_true, R.rnl, c0, kd, R.l17, c2, f_X2_endsThereByAnother_b36]
        exact e
      · rw [bP_t ⟨k, Nat.le_refl k, kk, c, c2⟩, f_X2_endsThereByAnother_b3.eq_2]
        simp (disch := omega) only [zl_0, zl_1, zl_2, zl_3, zl_4, zl_5, zl_6, zl_7, zl_8, zl_9, zl_10, zl_11, zl_12, zl_13, zl_14, zl_15, zl_16, zl_17, zl_18, zl_19, zl_20, zl_23, zl_24, zl_31, zl_32, zl_48, zl_50, zl_53, zl_57, zl_59, zl_60, zl_99, zl_100, zl_104, zl_112, zl_114, zl_119, zl_126, zl_127, zl_181, zl_200, zl_500, zl_543, zl_724, zl_999, zl_1000, zl_5000, zl_65536, zl_100000, zl_1000001, zl_1000002, zl_1000003, zl_1000004, zl_2143289344, zI_neg, zI_add, zI_sub, zI_mul, zI_le, zI_lt, zI_eq, ck_ib, ix_nat, ixz_0, ixz_1, ixz_2, ixz_3, ixz_4, ixz_5, ixz_6, ixz_7, ixz_8, ixz_9, ixz_10, ixz_11, ixz_12, ob_some, lt_of, ck_bP, bP_z, bP_o, ite_bP, Int.reduceToNat, Nat.reduceAdd, Nat.reduceMul, Int.reduceAdd, Int.reduceSub, Int.reduceMul, Int.reduceNeg, Int.reduceEq, Int.reduceLT, Int.reduceLE, ↓reduceIte, not_true_eq_false, not_false_eq_true, R.rnl, c0, kd, R.l17, c2, f_X2_endsThereByAnother_b36]
    · rw [bP_f c] at kd
      have q : (∃ l, k + 1 ≤ l ∧ l < nl a ∧ Ae a l x y ∧ la a l 4 ≠ p) ↔ (∃ l, k ≤ l ∧ l < nl a ∧ Ae a l x y ∧ la a l 4 ≠ p) := by
        constructor
        · rintro ⟨l, q1, q2⟩
          exact ⟨l, by omega, q2⟩
        · rintro ⟨l, q1, q2, q3, q4⟩
          have : l ≠ k := fun t => c (t ▸ q3)
          exact ⟨l, by omega, q2, q3, q4⟩
      rw [bP_c q] at e
      rw [f_X2_endsThereByAnother_b3.eq_2]
      simp (disch := omega) only [zl_0, zl_1, zl_2, zl_3, zl_4, zl_5, zl_6, zl_7, zl_8, zl_9, zl_10, zl_11, zl_12, zl_13, zl_14, zl_15, zl_16, zl_17, zl_18, zl_19, zl_20, zl_23, zl_24, zl_31, zl_32, zl_48, zl_50, zl_53, zl_57, zl_59, zl_60, zl_99, zl_100, zl_104, zl_112, zl_114, zl_119, zl_126, zl_127, zl_181, zl_200, zl_500, zl_543, zl_724, zl_999, zl_1000, zl_5000, zl_65536, zl_100000, zl_1000001, zl_1000002, zl_1000003, zl_1000004, zl_2143289344, zI_neg, zI_add, zI_sub, zI_mul, zI_le, zI_lt, zI_eq, ck_ib, ix_nat, ixz_0, ixz_1, ixz_2, ixz_3, ixz_4, ixz_5, ixz_6, ixz_7, ixz_8, ixz_9, ixz_10, ixz_11, ixz_12, ob_some, lt_of, ck_bP, bP_z, bP_o, ite_bP, Int.reduceToNat, Nat.reduceAdd, Nat.reduceMul, Int.reduceAdd, Int.reduceSub, Int.reduceMul, Int.reduceNeg, Int.reduceEq, Int.reduceLT, Int.reduceLE, ↓reduceIte, not_true_eq_false, not_false_eq_true, R.rnl, c0, kd, f_X2_endsThereByAnother_b36]
      exact e
/-- a line of another pen has an end there -/
def Eo (a : Row) (x y p : Int) : Prop := ∃ l, l < nl a ∧ Ae a l x y ∧ la a l 4 ≠ p
theorem k_ends (W : WF a) (R : RC g M a) {x y p : Int} (h3 : 0 ≤ x ∧ x ≤ 99) (h4 : 0 ≤ y ∧ y ≤ 99) (h5 : -1 ≤ p ∧ p ≤ 5) : f_X2_endsThereByAnother g (zI x) (zI y) (zI p) M = some (zI (bP (Eo a x y p)), M) := by
  have ws := W.sc
  have e := k_ends_l W R h3 h4 h5 (nl a) 0 1000 (by omega) (by omega)
  have q : (∃ l, 0 ≤ l ∧ l < nl a ∧ Ae a l x y ∧ la a l 4 ≠ p) ↔ Eo a x y p := ⟨fun ⟨l, _, h⟩ => ⟨l, h⟩, fun ⟨l, h⟩ => ⟨l, Nat.zero_le l, h⟩⟩
  rw [bP_c q] at e
  exact e
/-- a seam is there -/
def Sm (a : Row) (x y : Int) : Prop := ∃ l o, l < nl a ∧ o < nl a ∧ Ae a l x y ∧ Ae a o x y ∧ la a l 4 ≠ la a o 4
theorem k_isSeam (W : WF a) (R : RC g M a) {x y : Int} (h3 : 0 ≤ x ∧ x ≤ 99) (h4 : 0 ≤ y ∧ y ≤ 99) : f_X2_isSeam g (zI x) (zI y) M = some (zI (bP (Sm a x y)), M) := by
  have ws := W.sc
  unfold f_X2_isSeam
  rcases k_first W R h3 h4 with ⟨l, e2, e3, e4, e5⟩ | ⟨e1, e2⟩
  · have v := W.line e2
    have q : Eo a x y (la a l 4) ↔ Sm a x y := by
      constructor
      · rintro ⟨o, q1, q2, q3⟩
        exact ⟨o, l, q1, e2, q2, e3, q3⟩
      · rintro ⟨u, o, q1, q2, q3, q4, q5⟩
        by_cases r : la a u 4 = la a l 4
        · exact ⟨o, q2, q4, fun t => q5 (r.trans t.symm)⟩
        · exact ⟨u, q1, q3, r⟩
    have ke := k_ends W R h3 h4 (p := la a l 4) (by omega)
    have hn : ¬ ((l : Int) = -1) := by omega
    rw [bP_c q] at ke
    by_cases c : Sm a x y
    · rw [bP_t c] at ke
      rw [bP_t c]
      simp (disch := omega) only [zl_0, zl_1, zl_2, zl_3, zl_4, zl_5, zl_6, zl_7, zl_8, zl_9, zl_10, zl_11, zl_12, zl_13, zl_14, zl_15, zl_16, zl_17, zl_18, zl_19, zl_20, zl_23, zl_24, zl_31, zl_32, zl_48, zl_50, zl_53, zl_57, zl_59, zl_60, zl_99, zl_100, zl_104, zl_112, zl_114, zl_119, zl_126, zl_127, zl_181, zl_200, zl_500, zl_543, zl_724, zl_999, zl_1000, zl_5000, zl_65536, zl_100000, zl_1000001, zl_1000002, zl_1000003, zl_1000004, zl_2143289344, zI_neg, zI_add, zI_sub, zI_mul, zI_le, zI_lt, zI_eq, ck_ib, ix_nat, ixz_0, ixz_1, ixz_2, ixz_3, ixz_4, ixz_5, ixz_6, ixz_7, ixz_8, ixz_9, ixz_10, ixz_11, ixz_12, ob_some, lt_of, ck_bP, bP_z, bP_o, ite_bP, Int.reduceToNat, Nat.reduceAdd, Nat.reduceMul, Int.reduceAdd, Int.reduceSub, Int.reduceMul, Int.reduceNeg, Int.reduceEq, Int.reduceLT, Int.reduceLE, ↓reduceIte, not_true_eq_false, not_false_eq_true, e5, R.l17, ke, hn, f_X2_isSeam_b32, f_X2_isSeam_b31, ck_bl0, ck_bl1]
    · rw [bP_f c] at ke
      rw [bP_f c]
      simp (disch := omega) only [zl_0, zl_1, zl_2, zl_3, zl_4, zl_5, zl_6, zl_7, zl_8, zl_9, zl_10, zl_11, zl_12, zl_13, zl_14, zl_15, zl_16, zl_17, zl_18, zl_19, zl_20, zl_23, zl_24, zl_31, zl_32, zl_48, zl_50, zl_53, zl_57, zl_59, zl_60, zl_99, zl_100, zl_104, zl_112, zl_114, zl_119, zl_126, zl_127, zl_181, zl_200, zl_500, zl_543, zl_724, zl_999, zl_1000, zl_5000, zl_65536, zl_100000, zl_1000001, zl_1000002, zl_1000003, zl_1000004, zl_2143289344, zI_neg, zI_add, zI_sub, zI_mul, zI_le, zI_lt, zI_eq, ck_ib, ix_nat, ixz_0, ixz_1, ixz_2, ixz_3, ixz_4, ixz_5, ixz_6, ixz_7, ixz_8, ixz_9, ixz_10, ixz_11, ixz_12, ob_some, lt_of, ck_bP, bP_z, bP_o, ite_bP, Int.reduceToNat, Nat.reduceAdd, Nat.reduceMul, Int.reduceAdd, Int.reduceSub, Int.reduceMul, Int.reduceNeg, Int.reduceEq, Int.reduceLT, Int.reduceLE, ↓reduceIte, not_true_eq_false, not_false_eq_true, e5, R.l17, ke, hn, f_X2_isSeam_b32, f_X2_isSeam_b31, ck_bl0, ck_bl1]
  · rw [bP_f (fun ⟨u, o, q1, q2, q3, _⟩ => e1 u q1 q3)]
    simp (disch := omega) only [zl_0, zl_1, zl_2, zl_3, zl_4, zl_5, zl_6, zl_7, zl_8, zl_9, zl_10, zl_11, zl_12, zl_13, zl_14, zl_15, zl_16, zl_17, zl_18, zl_19, zl_20, zl_23, zl_24, zl_31, zl_32, zl_48, zl_50, zl_53, zl_57, zl_59, zl_60, zl_99, zl_100, zl_104, zl_112, zl_114, zl_119, zl_126, zl_127, zl_181, zl_200, zl_500, zl_543, zl_724, zl_999, zl_1000, zl_5000, zl_65536, zl_100000, zl_1000001, zl_1000002, zl_1000003, zl_1000004, zl_2143289344, zI_neg, zI_add, zI_sub, zI_mul, zI_le, zI_lt, zI_eq, ck_ib, ix_nat, ixz_0, ixz_1, ixz_2, ixz_3, ixz_4, ixz_5, ixz_6, ixz_7, ixz_8, ixz_9, ixz_10, ixz_11, ixz_12, ob_some, lt_of, ck_bP, bP_z, bP_o, ite_bP, Int.reduceToNat, Nat.reduceAdd, Nat.reduceMul, Int.reduceAdd, Int.reduceSub, Int.reduceMul, Int.reduceNeg, Int.reduceEq, Int.reduceLT, Int.reduceLE, ↓reduceIte, not_true_eq_false, not_false_eq_true, e2, f_X2_isSeam_b32, f_X2_isSeam_b31, ck_bl0, ck_bl1]
theorem k_wouldBecomeSeam (W : WF a) (R : RC g M a) {x y p : Int} (h3 : 0 ≤ x ∧ x ≤ 99) (h4 : 0 ≤ y ∧ y ≤ 99) (h5 : -1 ≤ p ∧ p ≤ 5) : f_X2_wouldBecomeSeam g (zI x) (zI y) (zI p) M = some (zI (bP (¬ Sm a x y ∧ Eo a x y p)), M) := by
  have k1 := k_isSeam W R h3 h4
  have k2 := k_ends W R h3 h4 h5
  unfold f_X2_wouldBecomeSeam
  by_cases c1 : Sm a x y
  · rw [bP_t c1] at k1
    rw [bP_f (fun q => q.1 c1)]
    simp (disch := omega) only [zl_0, zl_1, zl_2, zl_3, zl_4, zl_5, zl_6, zl_7, zl_8, zl_9, zl_10, zl_11, zl_12, zl_13, zl_14, zl_15, zl_16, zl_17, zl_18, zl_19, zl_20, zl_23, zl_24, zl_31, zl_32, zl_48, zl_50, zl_53, zl_57, zl_59, zl_60, zl_99, zl_100, zl_104, zl_112, zl_114, zl_119, zl_126, zl_127, zl_181, zl_200, zl_500, zl_543, zl_724, zl_999, zl_1000, zl_5000, zl_65536, zl_100000, zl_1000001, zl_1000002, zl_1000003, zl_1000004, zl_2143289344, zI_neg, zI_add, zI_sub, zI_mul, zI_le, zI_lt, zI_eq, ck_ib, ix_nat, ixz_0, ixz_1, ixz_2, ixz_3, ixz_4, ixz_5, ixz_6, ixz_7, ixz_8, ixz_9, ixz_10, ixz_11, ixz_12, ob_some, lt_of, ck_bP, bP_z, bP_o, ite_bP, Int.reduceToNat, Nat.reduceAdd, Nat.reduceMul, Int.reduceAdd, Int.reduceSub, Int.reduceMul, Int.reduceNeg, Int.reduceEq, Int.reduceLT, Int.reduceLE, ↓reduceIte, not_true_eq_false, not_false_eq_true, k1, f_X2_wouldBecomeSeam_b23, f_X2_wouldBecomeSeam_b24, ck_bl0]
  · rw [bP_f c1] at k1
    by_cases c2 : Eo a x y p
    · rw [bP_t c2] at k2
      rw [bP_t ⟨c1, c2⟩]
      simp (disch := omega) only [zl_0, zl_1, zl_2, zl_3, zl_4, zl_5, zl_6, zl_7, zl_8, zl_9, zl_10, zl_11, zl_12, zl_13, zl_14, zl_15, zl_16, zl_17, zl_18, zl_19, zl_20, zl_23, zl_24, zl_31, zl_32, zl_48, zl_50, zl_53, zl_57, zl_59, zl_60, zl_99, zl_100, zl_104, zl_112, zl_114, zl_119, zl_126, zl_127, zl_181, zl_200, zl_500, zl_543, zl_724, zl_999, zl_1000, zl_5000, zl_65536, zl_100000, zl_1000001, zl_1000002, zl_1000003, zl_1000004, zl_2143289344, zI_neg, zI_add, zI_sub, zI_mul, zI_le, zI_lt, zI_eq, ck_ib, ix_nat, ixz_0, ixz_1, ixz_2, ixz_3, ixz_4, ixz_5, ixz_6, ixz_7, ixz_8, ixz_9, ixz_10, ixz_11, ixz_12, ob_some, lt_of, ck_bP, bP_z, bP_o, ite_bP, Int.reduceToNat, Nat.reduceAdd, Nat.reduceMul, Int.reduceAdd, Int.reduceSub, Int.reduceMul, Int.reduceNeg, Int.reduceEq, Int.reduceLT, Int.reduceLE, ↓reduceIte, not_true_eq_false, not_false_eq_true, k1, k2, f_X2_wouldBecomeSeam_b23, f_X2_wouldBecomeSeam_b24, ck_bl1]
    · rw [bP_f c2] at k2
      rw [bP_f (fun q => c2 q.2)]
      simp (disch := omega) only [zl_0, zl_1, zl_2, zl_3, zl_4, zl_5, zl_6, zl_7, zl_8, zl_9, zl_10, zl_11, zl_12, zl_13, zl_14, zl_15, zl_16, zl_17, zl_18, zl_19, zl_20, zl_23, zl_24, zl_31, zl_32, zl_48, zl_50, zl_53, zl_57, zl_59, zl_60, zl_99, zl_100, zl_104, zl_112, zl_114, zl_119, zl_126, zl_127, zl_181, zl_200, zl_500, zl_543, zl_724, zl_999, zl_1000, zl_5000, zl_65536, zl_100000, zl_1000001, zl_1000002, zl_1000003, zl_1000004, zl_2143289344, zI_neg, zI_add, zI_sub, zI_mul, zI_le, zI_lt, zI_eq, ck_ib, ix_nat, ixz_0, ixz_1, ixz_2, ixz_3, ixz_4, ixz_5, ixz_6, ixz_7, ixz_8, ixz_9, ixz_10, ixz_11, ixz_12, ob_some, lt_of, ck_bP, bP_z, bP_o, ite_bP, Int.reduceToNat, Nat.reduceAdd, Nat.reduceMul, Int.reduceAdd, Int.reduceSub, Int.reduceMul, Int.reduceNeg, Int.reduceEq, Int.reduceLT, Int.reduceLE, ↓reduceIte, not_true_eq_false, not_false_eq_true, k1, k2, f_X2_wouldBecomeSeam_b23, f_X2_wouldBecomeSeam_b24, ck_bl0]
/-- a seam is there, and no line ahead of this one ends there -/
def Fm (a : Row) (l : Nat) (x y : Int) : Prop := la a l 4 ≠ -1 ∧ (∀ o, o < l → ¬ Ae a o x y) ∧ Sm a x y
theorem k_fm (W : WF a) (R : RC g M a) {l : Nat} (h : l < nl a) {x y : Int} (h3 : 0 ≤ x ∧ x ≤ 99) (h4 : 0 ≤ y ∧ y ≤ 99) (he : (la a l 0 = x ∧ la a l 1 = y) ∨ (la a l 2 = x ∧ la a l 3 = y)) : ∃ r : Int, -1 ≤ r ∧ r ≤ 16 ∧ f_X2_firstDrawnWithEnd g (zI x) (zI y) M = some (zI r, M) ∧ ((r = l ∧ Sm a x y) ↔ Fm a l x y) := by
  have ws := W.sc
  rcases k_first W R h3 h4 with ⟨o, e2, e3, e4, e5⟩ | ⟨e1, e2⟩
  · refine ⟨o, by omega, by omega, e5, ⟨fun q => ?_, fun q => ⟨?_, q.2.2⟩⟩⟩
    · obtain rfl : o = l := by omega
      exact ⟨e3.1, e4, q.2⟩
    · have u : Ae a l x y := ⟨q.1, he⟩
      have t1 : ¬ l < o := fun t => e4 l t u
      have t2 : ¬ o < l := fun t => q.2.1 o t e3
      omega
  · refine ⟨-1, by omega, by omega, e2, ⟨fun q => by omega, fun q => absurd ⟨q.1, he⟩ (e1 l h)⟩⟩
theorem k_sfma_b (W : WF a) (R : RC g M a) {l : Nat} (h : l < nl a) (P : Prop) : f_X2_seamsFirstMetAt_b44 g (zI l) (zI (bP P)) M = some (zI (bP P + bP (Fm a l (la a l 2) (la a l 3))), M) := by
  have ws := W.sc
  have v := W.line h
  obtain ⟨r, r1, r2, r3, r4⟩ := k_fm W R h (x := la a l 2) (y := la a l 3) (by omega) (by omega) (.inr ⟨rfl, rfl⟩)
  have ks := k_isSeam W R (x := la a l 2) (y := la a l 3) (by omega) (by omega)
  unfold f_X2_seamsFirstMetAt_b44
  by_cases c : r = l
  · by_cases c2 : Sm a (la a l 2) (la a l 3)
    · rw [bP_t c2] at ks
      rw [bP_t (r4.1 ⟨c, c2⟩)]
      subst c
      simp (disch := omega) only [zl_0, zl_1, zl_2, zl_3, zl_4, zl_5, zl_6, zl_7, zl_8, zl_9, zl_10, zl_11, zl_12, zl_13, zl_14, zl_15, zl_16, zl_17, zl_18, zl_19, zl_20, zl_23, zl_24, zl_31, zl_32, zl_48, zl_50, zl_53, zl_57, zl_59, zl_60, zl_99, zl_100, zl_104, zl_112, zl_114, zl_119, zl_126, zl_127, zl_181, zl_200, zl_500, zl_543, zl_724, zl_999, zl_1000, zl_5000, zl_65536, zl_100000, zl_1000001, zl_1000002, zl_1000003, zl_1000004, zl_2143289344, zI_neg, zI_add, zI_sub, zI_mul, zI_le, zI_lt, zI_eq, ck_ib, ix_nat, ixz_0, ixz_1, ixz_2, ixz_3, ixz_4, ixz_5, ixz_6, ixz_7, ixz_8, ixz_9, ixz_10, ixz_11, ixz_12, ob_some, lt_of, ck_bP, bP_z, bP_o, ite_bP, Int.reduceToNat, Nat.reduceAdd, Nat.reduceMul, Int.reduceAdd, Int.reduceSub, Int.reduceMul, Int.reduceNeg, Int.reduceEq, Int.reduceLT, Int.reduceLE, ↓reduceIte, not_true_eq_false, not_false_eq_true, k_asBit, R.l13, R.l14, r3, ks, f_X2_seamsFirstMetAt_b90, f_X2_seamsFirstMetAt_b91, k_asBit1, k_asBit0]
    · rw [bP_f c2] at ks
      rw [bP_f (fun q => c2 (r4.2 q).2)]
      subst c
      simp (disch := omega) only [zl_0, zl_1, zl_2, zl_3, zl_4, zl_5, zl_6, zl_7, zl_8, zl_9, zl_10, zl_11, zl_12, zl_13, zl_14, zl_15, zl_16, zl_17, zl_18, zl_19, zl_20, zl_23, zl_24, zl_31, zl_32, zl_48, zl_50, zl_53, zl_57, zl_59, zl_60, zl_99, zl_100, zl_104, zl_112, zl_114, zl_119, zl_126, zl_127, zl_181, zl_200, zl_500, zl_543, zl_724, zl_999, zl_1000, zl_5000, zl_65536, zl_100000, zl_1000001, zl_1000002, zl_1000003, zl_1000004, zl_2143289344, zI_neg, zI_add, zI_sub, zI_mul, zI_le, zI_lt, zI_eq, ck_ib, ix_nat, ixz_0, ixz_1, ixz_2, ixz_3, ixz_4, ixz_5, ixz_6, ixz_7, ixz_8, ixz_9, ixz_10, ixz_11, ixz_12, ob_some, lt_of, ck_bP, bP_z, bP_o, ite_bP, Int.reduceToNat, Nat.reduceAdd, Nat.reduceMul, Int.reduceAdd, Int.reduceSub, Int.reduceMul, Int.reduceNeg, Int.reduceEq, Int.reduceLT, Int.reduceLE, ↓reduceIte, not_true_eq_false, not_false_eq_true, k_asBit, R.l13, R.l14, r3, ks, f_X2_seamsFirstMetAt_b90, f_X2_seamsFirstMetAt_b91, k_asBit1, k_asBit0]
  · rw [bP_f (fun q => c (r4.2 q).1)]
    simp (disch := omega) only [zl_0, zl_1, zl_2, zl_3, zl_4, zl_5, zl_6, zl_7, zl_8, zl_9, zl_10, zl_11, zl_12, zl_13, zl_14, zl_15, zl_16, zl_17, zl_18, zl_19, zl_20, zl_23, zl_24, zl_31, zl_32, zl_48, zl_50, zl_53, zl_57, zl_59, zl_60, zl_99, zl_100, zl_104, zl_112, zl_114, zl_119, zl_126, zl_127, zl_181, zl_200, zl_500, zl_543, zl_724, zl_999, zl_1000, zl_5000, zl_65536, zl_100000, zl_1000001, zl_1000002, zl_1000003, zl_1000004, zl_2143289344, zI_neg, zI_add, zI_sub, zI_mul, zI_le, zI_lt, zI_eq, ck_ib, ix_nat, ixz_0, ixz_1, ixz_2, ixz_3, ixz_4, ixz_5, ixz_6, ixz_7, ixz_8, ixz_9, ixz_10, ixz_11, ixz_12, ob_some, lt_of, ck_bP, bP_z, bP_o, ite_bP, Int.reduceToNat, Nat.reduceAdd, Nat.reduceMul, Int.reduceAdd, Int.reduceSub, Int.reduceMul, Int.reduceNeg, Int.reduceEq, Int.reduceLT, Int.reduceLE, ↓reduceIte, not_true_eq_false, not_false_eq_true, k_asBit, R.l13, R.l14, r3, c, f_X2_seamsFirstMetAt_b90, f_X2_seamsFirstMetAt_b91, k_asBit1, k_asBit0]
theorem k_seamsFirstMetAt (W : WF a) (R : RC g M a) {l : Nat} (h : l < nl a) : f_X2_seamsFirstMetAt g (zI l) M = some (zI (bP (Fm a l (la a l 0) (la a l 1)) + bP (Fm a l (la a l 2) (la a l 3))), M) := by
  have ws := W.sc
  have v := W.line h
  obtain ⟨r, r1, r2, r3, r4⟩ := k_fm W R h (x := la a l 0) (y := la a l 1) (by omega) (by omega) (.inl ⟨rfl, rfl⟩)
  have ks := k_isSeam W R (x := la a l 0) (y := la a l 1) (by omega) (by omega)
  have kb := k_sfma_b W R h (Fm a l (la a l 0) (la a l 1))
  unfold f_X2_seamsFirstMetAt f_X2_seamsFirstMetAt_b43
  rw [← kb]
  by_cases c : r = l
  · by_cases c2 : Sm a (la a l 0) (la a l 1)
    · rw [bP_t c2] at ks
      rw [bP_t (r4.1 ⟨c, c2⟩)]
      subst c
      simp (disch := omega) only [zl_0, zl_1, zl_2, zl_3, zl_4, zl_5, zl_6, zl_7, zl_8, zl_9, zl_10, zl_11, zl_12, zl_13, zl_14, zl_15, zl_16, zl_17, zl_18, zl_19, zl_20, zl_23, zl_24, zl_31, zl_32, zl_48, zl_50, zl_53, zl_57, zl_59, zl_60, zl_99, zl_100, zl_104, zl_112, zl_114, zl_119, zl_126, zl_127, zl_181, zl_200, zl_500, zl_543, zl_724, zl_999, zl_1000, zl_5000, zl_65536, zl_100000, zl_1000001, zl_1000002, zl_1000003, zl_1000004, zl_2143289344, zI_neg, zI_add, zI_sub, zI_mul, zI_le, zI_lt, zI_eq, ck_ib, ix_nat, ixz_0, ixz_1, ixz_2, ixz_3, ixz_4, ixz_5, ixz_6, ixz_7, ixz_8, ixz_9, ixz_10, ixz_11, ixz_12, ob_some, lt_of, ck_bP, bP_z, bP_o, ite_bP, Int.reduceToNat, Nat.reduceAdd, Nat.reduceMul, Int.reduceAdd, Int.reduceSub, Int.reduceMul, Int.reduceNeg, Int.reduceEq, Int.reduceLT, Int.reduceLE, ↓reduceIte, not_true_eq_false, not_false_eq_true, R.l11, R.l12, r3, ks]
    · rw [bP_f c2] at ks
      rw [bP_f (fun q => c2 (r4.2 q).2)]
      subst c
      simp (disch := omega) only [zl_0, zl_1, zl_2, zl_3, zl_4, zl_5, zl_6, zl_7, zl_8, zl_9, zl_10, zl_11, zl_12, zl_13, zl_14, zl_15, zl_16, zl_17, zl_18, zl_19, zl_20, zl_23, zl_24, zl_31, zl_32, zl_48, zl_50, zl_53, zl_57, zl_59, zl_60, zl_99, zl_100, zl_104, zl_112, zl_114, zl_119, zl_126, zl_127, zl_181, zl_200, zl_500, zl_543, zl_724, zl_999, zl_1000, zl_5000, zl_65536, zl_100000, zl_1000001, zl_1000002, zl_1000003, zl_1000004, zl_2143289344, zI_neg, zI_add, zI_sub, zI_mul, zI_le, zI_lt, zI_eq, ck_ib, ix_nat, ixz_0, ixz_1, ixz_2, ixz_3, ixz_4, ixz_5, ixz_6, ixz_7, ixz_8, ixz_9, ixz_10, ixz_11, ixz_12, ob_some, lt_of, ck_bP, bP_z, bP_o, ite_bP, Int.reduceToNat, Nat.reduceAdd, Nat.reduceMul, Int.reduceAdd, Int.reduceSub, Int.reduceMul, Int.reduceNeg, Int.reduceEq, Int.reduceLT, Int.reduceLE, ↓reduceIte, not_true_eq_false, not_false_eq_true, R.l11, R.l12, r3, ks]
  · rw [bP_f (fun q => c (r4.2 q).1)]
    simp (disch := omega) only [zl_0, zl_1, zl_2, zl_3, zl_4, zl_5, zl_6, zl_7, zl_8, zl_9, zl_10, zl_11, zl_12, zl_13, zl_14, zl_15, zl_16, zl_17, zl_18, zl_19, zl_20, zl_23, zl_24, zl_31, zl_32, zl_48, zl_50, zl_53, zl_57, zl_59, zl_60, zl_99, zl_100, zl_104, zl_112, zl_114, zl_119, zl_126, zl_127, zl_181, zl_200, zl_500, zl_543, zl_724, zl_999, zl_1000, zl_5000, zl_65536, zl_100000, zl_1000001, zl_1000002, zl_1000003, zl_1000004, zl_2143289344, zI_neg, zI_add, zI_sub, zI_mul, zI_le, zI_lt, zI_eq, ck_ib, ix_nat, ixz_0, ixz_1, ixz_2, ixz_3, ixz_4, ixz_5, ixz_6, ixz_7, ixz_8, ixz_9, ixz_10, ixz_11, ixz_12, ob_some, lt_of, ck_bP, bP_z, bP_o, ite_bP, Int.reduceToNat, Nat.reduceAdd, Nat.reduceMul, Int.reduceAdd, Int.reduceSub, Int.reduceMul, Int.reduceNeg, Int.reduceEq, Int.reduceLT, Int.reduceLE, ↓reduceIte, not_true_eq_false, not_false_eq_true, R.l11, R.l12, r3, c]
/-- how many seams are first met at the lines ahead -/
noncomputable def smn (a : Row) : Nat → Int
  | 0 => 0
  | k + 1 => smn a k + (bP (Fm a k (la a k 0) (la a k 1)) + bP (Fm a k (la a k 2) (la a k 3)))
theorem k_seams_l (W : WF a) (R : RC 1 M a) : ∀ (d k fu : Nat), k + d = nl a → d < fu → f_X7_seams_b4 fu (zI (smn a k)) (zI k) M = some (zI (smn a (nl a)), M) := by
  intro d
  have ws := W.sc
  induction d with
  | zero =>
    intro k fu hk hf
    obtain ⟨fu, rfl⟩ : ∃ f, fu = f + 1 := ⟨fu - 1, by omega⟩
    obtain rfl : k = nl a := by omega
    have c0 : ((nl a : Nat) : Int) ≤ ((nl a : Nat) : Int) := Int.le_refl _
    rw [f_X7_seams_b4.eq_2]
    simp (disch := omega) only [zl_0, zl_1, zl_2, zl_3, zl_4, zl_5, zl_6, zl_7, zl_8, zl_9, zl_10, zl_11, zl_12, zl_13, zl_14, zl_15, zl_16, zl_17, zl_18, zl_19, zl_20, zl_23, zl_24, zl_31, zl_32, zl_48, zl_50, zl_53, zl_57, zl_59, zl_60, zl_99, zl_100, zl_104, zl_112, zl_114, zl_119, zl_126, zl_127, zl_181, zl_200, zl_500, zl_543, zl_724, zl_999, zl_1000, zl_5000, zl_65536, zl_100000, zl_1000001, zl_1000002, zl_1000003, zl_1000004, zl_2143289344, zI_neg, zI_add, zI_sub, zI_mul, zI_le, zI_lt, zI_eq, ck_ib, ix_nat, ixz_0, ixz_1, ixz_2, ixz_3, ixz_4, ixz_5, ixz_6, ixz_7, ixz_8, ixz_9, ixz_10, ixz_11, ixz_12, ob_some, lt_of, ck_bP, bP_z, bP_o, ite_bP, Int.reduceToNat, Nat.reduceAdd, Nat.reduceMul, Int.reduceAdd, Int.reduceSub, Int.reduceMul, Int.reduceNeg, Int.reduceEq, Int.reduceLT, Int.reduceLE, ↓reduceIte, not_true_eq_false, not_false_eq_true, R.rnl, c0]
  | succ d ih =>
    intro k fu hk hf
    obtain ⟨fu, rfl⟩ : ∃ f, fu = f + 1 := ⟨fu - 1, by omega⟩
    have kk : k < nl a := by omega
    have c0 : ¬ ((nl a : Int) ≤ (k : Int)) := by omega
    have e := ih (k + 1) fu (by omega) (by omega)
    simp only [nc1] at e
    rw [f_X7_seams_b4.eq_2]
    simp (disch := omega) only [zl_0, zl_1, zl_2, zl_3, zl_4, zl_5, zl_6, zl_7, zl_8, zl_9, zl_10, zl_11, zl_12, zl_13, zl_14, zl_15, zl_16, zl_17, zl_18, zl_19, zl_20, zl_23, zl_24, zl_31, zl_32, zl_48, zl_50, zl_53, zl_57, zl_59, zl_60, zl_99, zl_100, zl_104, zl_112, zl_114, zl_119, zl_126, zl_127, zl_181, zl_200, zl_500, zl_543, zl_724, zl_999, zl_1000, zl_5000, zl_65536, zl_100000, zl_1000001, zl_1000002, zl_1000003, zl_1000004, zl_2143289344, zI_neg, zI_add, zI_sub, zI_mul, zI_le, zI_lt, zI_eq, ck_ib, ix_nat, ixz_0, ixz_1, ixz_2, ixz_3, ixz_4, ixz_5, ixz_6, ixz_7, ixz_8, ixz_9, ixz_10, ixz_11, ixz_12, ob_some, lt_of, ck_bP, bP_z, bP_o, ite_bP, Int.reduceToNat, Nat.reduceAdd, Nat.reduceMul, Int.reduceAdd, Int.reduceSub, Int.reduceMul, Int.reduceNeg, Int.reduceEq, Int.reduceLT, Int.reduceLE, ↓reduceIte, not_true_eq_false, not_false_eq_true, R.rnl, c0, k_seamsFirstMetAt W R kk]
    exact e
/-! the reference's ends, two a line -/
theorem zI_half : ∀ k : Fin 64, zI (k.val : Nat) / zI 2 = zI ((k.val / 2 : Nat) : Int) := by decide +kernel
def ex (a : Row) (k : Nat) : Int := la a (k / 2) (2 * (k % 2))
def ey (a : Row) (k : Nat) : Int := la a (k / 2) (2 * (k % 2) + 1)
theorem k_ex (W : WF a) (R : RM S a) {k : Nat} (h : k < 2 * nl a) : f_X8_ln (zI k / zI 2) (zI 2 * (zI k - zI k / zI 2 * zI 2)) S = some (zI (ex a k), S) := by
  have ws := W.sc
  have z := zI_half ⟨k, by omega⟩
  simp only at z
  rw [z, zI_mul, zI_sub, zI_mul, k_ln R (by omega) (by omega) (by omega)]
  unfold ex
  rw [show (2 * ((k : Int) - ((k / 2 : Nat) : Int) * 2)).toNat = 2 * (k % 2) by omega]
theorem k_ey (W : WF a) (R : RM S a) {k : Nat} (h : k < 2 * nl a) : f_X8_ln (zI k / zI 2) (zI 2 * (zI k - zI k / zI 2 * zI 2) + zI 1) S = some (zI (ey a k), S) := by
  have ws := W.sc
  have z := zI_half ⟨k, by omega⟩
  simp only at z
  rw [z, zI_mul, zI_sub, zI_mul, zI_add, k_ln R (by omega) (by omega) (by omega)]
  unfold ey
  rw [show (2 * ((k : Int) - ((k / 2 : Nat) : Int) * 2) + 1).toNat = 2 * (k % 2) + 1 by omega]
theorem k_eby (W : WF a) (R : RM S a) {k : Nat} (h : k < 2 * nl a) : f_X8_ln (zI k / zI 2) (zI 4) S = some (zI (la a (k / 2) 4), S) := by
  have ws := W.sc
  have z := zI_half ⟨k, by omega⟩
  simp only at z
  rw [z, k_ln R (by omega) (by omega) (by omega)]
  rfl
theorem k_edr (W : WF a) (R : RM S a) {k : Nat} (h : k < 2 * nl a) : f_X8_isDrawn (zI k / zI 2) S = some (zI (bP (la a (k / 2) 4 ≠ -1)), S) := by
  have ws := W.sc
  have z := zI_half ⟨k, by omega⟩
  simp only at z
  rw [z, k_isDrawn W R (by omega)]
theorem ex_rg (W : WF a) {k : Nat} (h : k < 2 * nl a) : 0 ≤ ex a k ∧ ex a k ≤ 99 ∧ 0 ≤ ey a k ∧ ey a k ≤ 99 := by
  have v := W.line (show k / 2 < nl a by omega)
  unfold ex ey
  rcases (by omega : k % 2 = 0 ∨ k % 2 = 1) with q | q
  · rw [q]; exact ⟨v.1, v.2.1, v.2.2.1, v.2.2.2.1⟩
  · rw [q]; exact ⟨v.2.2.2.2.1, v.2.2.2.2.2.1, v.2.2.2.2.2.2.1, v.2.2.2.2.2.2.2.1⟩
/-- the k-th end is there, of a drawn line -/
def Ej (a : Row) (k : Nat) (x y : Int) : Prop := la a (k / 2) 4 ≠ -1 ∧ ex a k = x ∧ ey a k = y
theorem Ej_Ae {n : Nat} {x y : Int} (P : Nat → Prop) : (∃ k, k < 2 * n ∧ Ej a k x y ∧ P (k / 2)) ↔ ∃ l, l < n ∧ Ae a l x y ∧ P l := by
  constructor
  · rintro ⟨k, h1, ⟨h2, h3, h4⟩, h5⟩
    refine ⟨k / 2, by omega, ⟨h2, ?_⟩, h5⟩
    unfold ex at h3
    unfold ey at h4
    rcases (by omega : k % 2 = 0 ∨ k % 2 = 1) with q | q
    · rw [q] at h3 h4; exact .inl ⟨h3, h4⟩
    · rw [q] at h3 h4; exact .inr ⟨h3, h4⟩
  · rintro ⟨l, h1, ⟨h2, h3⟩, h4⟩
    rcases h3 with h3 | h3
    · refine ⟨2 * l, by omega, ⟨?_, ?_, ?_⟩, ?_⟩
      · rw [show 2 * l / 2 = l by omega]; exact h2
      · unfold ex; rw [show 2 * l / 2 = l by omega, show 2 * l % 2 = 0 by omega]; exact h3.1
      · unfold ey; rw [show 2 * l / 2 = l by omega, show 2 * l % 2 = 0 by omega]; exact h3.2
      · rw [show 2 * l / 2 = l by omega]; exact h4
    · refine ⟨2 * l + 1, by omega, ⟨?_, ?_, ?_⟩, ?_⟩
      · rw [show (2 * l + 1) / 2 = l by omega]; exact h2
      · unfold ex; rw [show (2 * l + 1) / 2 = l by omega, show (2 * l + 1) % 2 = 1 by omega]; exact h3.1
      · unfold ey; rw [show (2 * l + 1) / 2 = l by omega, show (2 * l + 1) % 2 = 1 by omega]; exact h3.2
      · rw [show (2 * l + 1) / 2 = l by omega]; exact h4
/-! sets of pens as bits -/
theorem pb_or : ∀ s : Fin 32, ∀ p : Fin 5, zI (s.val : Nat) ||| (zI 1 <<< (zI (p.val : Nat) &&& zI 31)) = zI ((s.val ||| 2 ^ p.val : Nat) : Int) ∧ s.val ||| 2 ^ p.val < 32 := by decide +kernel
theorem pb_test : ∀ s : Fin 32, ∀ p q : Fin 5, (s.val ||| 2 ^ p.val).testBit q.val = (s.val.testBit q.val || decide (p.val = q.val)) := by decide +kernel
theorem pb_some : ∀ s : Fin 32, (zI (s.val : Nat) &&& (zI (s.val : Nat) - zI 1) = zI 0) ↔ ¬ ∃ p q : Fin 5, p ≠ q ∧ s.val.testBit p.val = true ∧ s.val.testBit q.val = true := by decide +kernel
theorem k_pensAt_l (W : WF a) (R : RM S a) {x y : Int} (h3 : 0 ≤ x ∧ x ≤ 99) (h4 : 0 ≤ y ∧ y ≤ 99) : ∀ (d k fu s : Nat), k + d = 2 * nl a → d < fu → s < 32 → (∀ p : Nat, p < 5 → (s.testBit p = true ↔ ∃ j, j < k ∧ Ej a j x y ∧ la a (j / 2) 4 = p)) → ∃ t : Nat, t < 32 ∧ (∀ p : Nat, p < 5 → (t.testBit p = true ↔ ∃ j, j < 2 * nl a ∧ Ej a j x y ∧ la a (j / 2) 4 = p)) ∧ f_X8_pensAt_b5 fu (zI x) (zI y) (zI s) (zI k) S = some (zI t, S) := by
  intro d
  have ws := W.sc
  have tn : 2 * (nl a : Int) = ((2 * nl a : Nat) : Int) := by omega
  induction d with
  | zero =>
    intro k fu s hk hf hs ht
    obtain ⟨fu, rfl⟩ : ∃ f, fu = f + 1 := ⟨fu - 1, by omega⟩
    obtain rfl : k = 2 * nl a := by omega
    refine ⟨s, hs, ht, ?_⟩
    rw [f_X8_pensAt_b5.eq_2]
    simp (disch := omega) only [zl_0, zl_1, zl_2, zl_3, zl_4, zl_5, zl_6, zl_7, zl_8, zl_9, zl_10, zl_11, zl_12, zl_13, zl_14, zl_15, zl_16, zl_17, zl_18, zl_19, zl_20, zl_23, zl_24, zl_31, zl_32, zl_48, zl_50, zl_53, zl_57, zl_59, zl_60, zl_99, zl_100, zl_104, zl_112, zl_114, zl_119, zl_126, zl_127, zl_181, zl_200, zl_500, zl_543, zl_724, zl_999, zl_1000, zl_5000, zl_65536, zl_100000, zl_1000001, zl_1000002, zl_1000003, zl_1000004, zl_2143289344, zI_neg, zI_add, zI_sub, zI_mul, zI_le, zI_lt, zI_eq, ck_ib, ix_nat, ixz_0, ixz_1, ixz_2, ixz_3, ixz_4, ixz_5, ixz_6, ixz_7, ixz_8, ixz_9, ixz_10, ixz_11, ixz_12, ob_some, lt_of, ck_bP, bP_z, bP_o, ite_bP, Int.reduceToNat, Nat.reduceAdd, Nat.reduceMul, Int.reduceAdd, Int.reduceSub, Int.reduceMul, Int.reduceNeg, Int.reduceEq, Int.reduceLT, Int.reduceLE, ↓reduceIte, not_true_eq_false, not_false_eq_true, RM.at R, ws.1.2.2.1, tn, Int.le_refl]
  | succ d ih =>
    intro k fu s hk hf hs ht
    obtain ⟨fu, rfl⟩ : ∃ f, fu = f + 1 := ⟨fu - 1, by omega⟩
    have kk : k < 2 * nl a := by omega
    have c0 : ¬ (((2 * nl a : Nat) : Int) ≤ (k : Int)) := by omega
    have kd := k_edr W R kk
    have er := ex_rg W kk
    have kx := k_ex W R kk
    have ky := k_ey W R kk
    have kb := k_eby W R kk
    by_cases c : Ej a k x y
    · obtain ⟨c1, c2, c3⟩ := c
      have v := W.line (show k / 2 < nl a by omega)
      obtain ⟨p, hp⟩ : ∃ p : Nat, la a (k / 2) 4 = p := ⟨(la a (k / 2) 4).toNat, by omega⟩
      have po := pb_or ⟨s, hs⟩ ⟨p, by omega⟩
      simp only at po
      obtain ⟨t, t1, t2, t3⟩ := ih (k + 1) fu (s ||| 2 ^ p) (by omega) (by omega) po.2 (by
        intro q hq
        have pt := pb_test ⟨s, hs⟩ ⟨p, by omega⟩ ⟨q, hq⟩
        simp only at pt
        rw [pt, Bool.or_eq_true, decide_eq_true_eq, ht q hq]
        constructor
        · rintro (⟨j, j1, j2⟩ | rfl)
          · exact ⟨j, by omega, j2⟩
          · exact ⟨k, by omega, ⟨c1, c2, c3⟩, hp⟩
        · rintro ⟨j, j1, j2, j3⟩
          by_cases e : j = k
          · subst e; exact .inr (by omega)
          · exact .inl ⟨j, by omega, j2, j3⟩)
      refine ⟨t, t1, t2, ?_⟩
      rw [bP_t c1] at kd
      rw [c2] at kx
      rw [c3] at ky
      rw [hp] at kb
      rw [f_X8_pensAt_b5.eq_2]
      simp (disch := omega) only [zl_0, zl_1, zl_2, zl_3, zl_4, zl_5, zl_6, zl_7, zl_8, zl_9, zl_10, zl_11, zl_12, zl_13, zl_14, zl_15, zl_16, zl_17, zl_18, zl_19, zl_20, zl_23, zl_24, zl_31, zl_32, zl_48, zl_50, zl_53, zl_57, zl_59, zl_60, zl_99, zl_100, zl_104, zl_112, zl_114, zl_119, zl_126, zl_127, zl_181, zl_200, zl_500, zl_543, zl_724, zl_999, zl_1000, zl_5000, zl_65536, zl_100000, zl_1000001, zl_1000002, zl_1000003, zl_1000004, zl_2143289344, zI_neg, zI_add, zI_sub, zI_mul, zI_le, zI_lt, zI_eq, ck_ib, ix_nat, ixz_0, ixz_1, ixz_2, ixz_3, ixz_4, ixz_5, ixz_6, ixz_7, ixz_8, ixz_9, ixz_10, ixz_11, ixz_12, ob_some, lt_of, ck_bP, bP_z, bP_o, ite_bP, Int.reduceToNat, Nat.reduceAdd, Nat.reduceMul, Int.reduceAdd, Int.reduceSub, Int.reduceMul, Int.reduceNeg, Int.reduceEq, Int.reduceLT, Int.reduceLE, ↓reduceIte, not_true_eq_false, not_false_eq_true, RM.at R, ws.1.2.2.1, tn, c0, kd, kx, ky, kb, f_X8_pensAt_b72, f_X8_pensAt_b95, po.1]
      exact t3
    · obtain ⟨t, t1, t2, t3⟩ := ih (k + 1) fu s (by omega) (by omega) hs (by
        intro q hq
        rw [ht q hq]
        constructor
        · rintro ⟨j, j1, j2⟩
          exact ⟨j, by omega, j2⟩
        · rintro ⟨j, j1, j2, j3⟩
          by_cases e : j = k
          · subst e; exact absurd j2 c
          · exact ⟨j, by omega, j2, j3⟩)
      refine ⟨t, t1, t2, ?_⟩
      rw [f_X8_pensAt_b5.eq_2]
      by_cases c1 : la a (k / 2) 4 ≠ -1
      · rw [bP_t c1] at kd
        by_cases c2 : ex a k = x
        · have c3 : ¬ ey a k = y := fun q => c ⟨c1, c2, q⟩
          simp (disch := omega) only [zl_0, zl_1, zl_2, zl_3, zl_4, zl_5, zl_6, zl_7, zl_8, zl_9, zl_10, zl_11, zl_12, zl_13, zl_14, zl_15, zl_16, zl_17, zl_18, zl_19, zl_20, zl_23, zl_24, zl_31, zl_32, zl_48, zl_50, zl_53, zl_57, zl_59, zl_60, zl_99, zl_100, zl_104, zl_112, zl_114, zl_119, zl_126, zl_127, zl_181, zl_200, zl_500, zl_543, zl_724, zl_999, zl_1000, zl_5000, zl_65536, zl_100000, zl_1000001, zl_1000002, zl_1000003, zl_1000004, zl_2143289344, zI_neg, zI_add, zI_sub, zI_mul, zI_le, zI_lt, zI_eq, ck_ib, ix_nat, ixz_0, ixz_1, ixz_2, ixz_3, ixz_4, ixz_5, ixz_6, ixz_7, ixz_8, ixz_9, ixz_10, ixz_11, ixz_12, ob_some, lt_of, ck_bP, bP_z, bP_o, ite_bP, Int.reduceToNat, Nat.reduceAdd, Nat.reduceMul, Int.reduceAdd, Int.reduceSub, Int.reduceMul, Int.reduceNeg, Int.reduceEq, Int.reduceLT, Int.reduceLE, ↓reduceIte, not_true_eq_false, not_false_eq_true, RM.at R, ws.1.2.2.1, tn, c0, kd, kx, ky, c2, c3, f_X8_pensAt_b71, f_X8_pensAt_b72, f_X8_pensAt_b95, i32_or0]
          exact t3
        · simp (disch := omega) only [zl_0, zl_1, zl_2, zl_3, zl_4, zl_5, zl_6, zl_7, zl_8, zl_9, zl_10, zl_11, zl_12, zl_13, zl_14, zl_15, zl_16, zl_17, zl_18, zl_19, zl_20, zl_23, zl_24, zl_31, zl_32, zl_48, zl_50, zl_53, zl_57, zl_59, zl_60, zl_99, zl_100, zl_104, zl_112, zl_114, zl_119, zl_126, zl_127, zl_181, zl_200, zl_500, zl_543, zl_724, zl_999, zl_1000, zl_5000, zl_65536, zl_100000, zl_1000001, zl_1000002, zl_1000003, zl_1000004, zl_2143289344, zI_neg, zI_add, zI_sub, zI_mul, zI_le, zI_lt, zI_eq, ck_ib, ix_nat, ixz_0, ixz_1, ixz_2, ixz_3, ixz_4, ixz_5, ixz_6, ixz_7, ixz_8, ixz_9, ixz_10, ixz_11, ixz_12, ob_some, lt_of, ck_bP, bP_z, bP_o, ite_bP, Int.reduceToNat, Nat.reduceAdd, Nat.reduceMul, Int.reduceAdd, Int.reduceSub, Int.reduceMul, Int.reduceNeg, Int.reduceEq, Int.reduceLT, Int.reduceLE, ↓reduceIte, not_true_eq_false, not_false_eq_true, RM.at R, ws.1.2.2.1, tn, c0, kd, kx, c2, f_X8_pensAt_b71, f_X8_pensAt_b72, f_X8_pensAt_b95, i32_or0]
          exact t3
      · rw [bP_f c1] at kd
        simp (disch := omega) only [zl_0, zl_1, zl_2, zl_3, zl_4, zl_5, zl_6, zl_7, zl_8, zl_9, zl_10, zl_11, zl_12, zl_13, zl_14, zl_15, zl_16, zl_17, zl_18, zl_19, zl_20, zl_23, zl_24, zl_31, zl_32, zl_48, zl_50, zl_53, zl_57, zl_59, zl_60, zl_99, zl_100, zl_104, zl_112, zl_114, zl_119, zl_126, zl_127, zl_181, zl_200, zl_500, zl_543, zl_724, zl_999, zl_1000, zl_5000, zl_65536, zl_100000, zl_1000001, zl_1000002, zl_1000003, zl_1000004, zl_2143289344, zI_neg, zI_add, zI_sub, zI_mul, zI_le, zI_lt, zI_eq, ck_ib, ix_nat, ixz_0, ixz_1, ixz_2, ixz_3, ixz_4, ixz_5, ixz_6, ixz_7, ixz_8, ixz_9, ixz_10, ixz_11, ixz_12, ob_some, lt_of, ck_bP, bP_z, bP_o, ite_bP, Int.reduceToNat, Nat.reduceAdd, Nat.reduceMul, Int.reduceAdd, Int.reduceSub, Int.reduceMul, Int.reduceNeg, Int.reduceEq, Int.reduceLT, Int.reduceLE, ↓reduceIte, not_true_eq_false, not_false_eq_true, RM.at R, ws.1.2.2.1, tn, c0, kd, f_X8_pensAt_b71, f_X8_pensAt_b72, f_X8_pensAt_b95, i32_or0]
        exact t3
theorem k_pensAt (W : WF a) (R : RM S a) {x y : Int} (h3 : 0 ≤ x ∧ x ≤ 99) (h4 : 0 ≤ y ∧ y ≤ 99) : ∃ t : Nat, t < 32 ∧ (∀ p : Nat, p < 5 → (t.testBit p = true ↔ ∃ l, l < nl a ∧ Ae a l x y ∧ la a l 4 = p)) ∧ f_X8_pensAt (zI x) (zI y) S = some (zI t, S) := by
  have ws := W.sc
  obtain ⟨t, t1, t2, t3⟩ := k_pensAt_l W R h3 h4 (2 * nl a) 0 1000 0 (by omega) (by omega) (by omega) (by
    intro p hp
    rw [Nat.zero_testBit]
    exact ⟨fun q => absurd q (by decide), fun ⟨j, h, _⟩ => by omega⟩)
  refine ⟨t, t1, fun p hp => ?_, t3⟩
  rw [t2 p hp]
  exact Ej_Ae (fun l => la a l 4 = p)
theorem k_isSome {t : Nat} (h : t < 32) : f_X8_isSome (zI t) S = some (zI (bP (∃ p q : Nat, p < 5 ∧ q < 5 ∧ p ≠ q ∧ t.testBit p = true ∧ t.testBit q = true)), S) := by
  have s := pb_some ⟨t, h⟩
  simp only at s
  unfold f_X8_isSome f_X8_isSome_b13
  rw [zl_1, zl_0]
  by_cases c : (∃ p q : Nat, p < 5 ∧ q < 5 ∧ p ≠ q ∧ t.testBit p = true ∧ t.testBit q = true)
  · rw [bP_t c, if_neg ?_, ck_bl1]
    obtain ⟨p, q, h1, h2, h3, h4, h5⟩ := c
    intro z
    exact s.1 z ⟨⟨p, h1⟩, ⟨q, h2⟩, fun z => h3 (Fin.mk.inj z), h4, h5⟩
  · rw [bP_f c, if_pos ?_, ck_bl0]
    refine s.2 (fun ⟨p, q, h1, h2, h3⟩ => c ⟨p.val, q.val, p.isLt, q.isLt, fun z => h1 (Fin.ext z), h2, h3⟩)
theorem sm_some (W : WF a) {x y : Int} {t : Nat} (h : ∀ p : Nat, p < 5 → (t.testBit p = true ↔ ∃ l, l < nl a ∧ Ae a l x y ∧ la a l 4 = p)) : (∃ p q : Nat, p < 5 ∧ q < 5 ∧ p ≠ q ∧ t.testBit p = true ∧ t.testBit q = true) ↔ Sm a x y := by
  have ws := W.sc
  constructor
  · rintro ⟨p, q, h1, h2, h3, h4, h5⟩
    obtain ⟨l, l1, l2, l3⟩ := (h p h1).1 h4
    obtain ⟨o, o1, o2, o3⟩ := (h q h2).1 h5
    exact ⟨l, o, l1, o1, l2, o2, by omega⟩
  · rintro ⟨l, o, l1, o1, l2, o2, h3⟩
    have v := W.line l1
    have u := W.line o1
    have v2 := l2.1
    have u2 := o2.1
    refine ⟨(la a l 4).toNat, (la a o 4).toNat, by omega, by omega, by omega, (h _ (by omega)).2 ⟨l, l1, l2, by omega⟩, (h _ (by omega)).2 ⟨o, o1, o2, by omega⟩⟩
/-- the k-th end is a seam, and the first end there -/
def Fe (a : Row) (k : Nat) : Prop := (la a (k / 2) 4 ≠ -1 ∧ Sm a (ex a k) (ey a k)) ∧ ∀ j, j < k → ¬ Ej a j (ex a k) (ey a k)
theorem k_seams_in (W : WF a) (R : RM S a) (L : Int32 → Int32 → Mem → Option (Int32 × Mem)) {x y v : Int} (h3 : 0 ≤ x ∧ x ≤ 99) (h4 : 0 ≤ y ∧ y ≤ 99) {k : Nat} (hk : k < 2 * nl a) (P : Prop) : ∀ (d j fu : Nat), j + d = k → d < fu → f_X8_seams_b78 L fu (zI v) (zI k) (zI x) (zI y) (zI (bP (P ∧ ∀ i, i < j → ¬ Ej a i x y))) (zI j) S = L (zI (v + bP (P ∧ ∀ i, i < k → ¬ Ej a i x y))) (zI ((k : Int) + 1)) S := by
  intro d
  have ws := W.sc
  induction d with
  | zero =>
    intro j fu hj hf
    obtain ⟨fu, rfl⟩ : ∃ f, fu = f + 1 := ⟨fu - 1, by omega⟩
    obtain rfl : j = k := by omega
    rw [f_X8_seams_b78.eq_2]
    by_cases c : (P ∧ ∀ i, i < j → ¬ Ej a i x y)
    · rw [bP_t c]
      simp (disch := omega) only [zl_0, zl_1, zl_2, zl_3, zl_4, zl_5, zl_6, zl_7, zl_8, zl_9, zl_10, zl_11, zl_12, zl_13, zl_14, zl_15, zl_16, zl_17, zl_18, zl_19, zl_20, zl_23, zl_24, zl_31, zl_32, zl_48, zl_50, zl_53, zl_57, zl_59, zl_60, zl_99, zl_100, zl_104, zl_112, zl_114, zl_119, zl_126, zl_127, zl_181, zl_200, zl_500, zl_543, zl_724, zl_999, zl_1000, zl_5000, zl_65536, zl_100000, zl_1000001, zl_1000002, zl_1000003, zl_1000004, zl_2143289344, zI_neg, zI_add, zI_sub, zI_mul, zI_le, zI_lt, zI_eq, ck_ib, ix_nat, ixz_0, ixz_1, ixz_2, ixz_3, ixz_4, ixz_5, ixz_6, ixz_7, ixz_8, ixz_9, ixz_10, ixz_11, ixz_12, ob_some, lt_of, ck_bP, bP_z, bP_o, ite_bP, Int.reduceToNat, Nat.reduceAdd, Nat.reduceMul, Int.reduceAdd, Int.reduceSub, Int.reduceMul, Int.reduceNeg, Int.reduceEq, Int.reduceLT, Int.reduceLE, ↓reduceIte, not_true_eq_false, not_false_eq_true, Int.le_refl, f_X8_seams_b163]
    · rw [bP_f c]
      simp (disch := omega) only [zl_0, zl_1, zl_2, zl_3, zl_4, zl_5, zl_6, zl_7, zl_8, zl_9, zl_10, zl_11, zl_12, zl_13, zl_14, zl_15, zl_16, zl_17, zl_18, zl_19, zl_20, zl_23, zl_24, zl_31, zl_32, zl_48, zl_50, zl_53, zl_57, zl_59, zl_60, zl_99, zl_100, zl_104, zl_112, zl_114, zl_119, zl_126, zl_127, zl_181, zl_200, zl_500, zl_543, zl_724, zl_999, zl_1000, zl_5000, zl_65536, zl_100000, zl_1000001, zl_1000002, zl_1000003, zl_1000004, zl_2143289344, zI_neg, zI_add, zI_sub, zI_mul, zI_le, zI_lt, zI_eq, ck_ib, ix_nat, ixz_0, ixz_1, ixz_2, ixz_3, ixz_4, ixz_5, ixz_6, ixz_7, ixz_8, ixz_9, ixz_10, ixz_11, ixz_12, ob_some, lt_of, ck_bP, bP_z, bP_o, ite_bP, Int.reduceToNat, Nat.reduceAdd, Nat.reduceMul, Int.reduceAdd, Int.reduceSub, Int.reduceMul, Int.reduceNeg, Int.reduceEq, Int.reduceLT, Int.reduceLE, ↓reduceIte, not_true_eq_false, not_false_eq_true, Int.le_refl, f_X8_seams_b163]
  | succ d ih =>
    intro j fu hj hf
    obtain ⟨fu, rfl⟩ : ∃ f, fu = f + 1 := ⟨fu - 1, by omega⟩
    have kk : j < 2 * nl a := by omega
    have c0 : ¬ ((k : Int) ≤ (j : Int)) := by omega
    have kd := k_edr W R kk
    have er := ex_rg W kk
    have kx := k_ex W R kk
    have ky := k_ey W R kk
    have e := ih (j + 1) fu (by omega) (by omega)
    simp only [nc1] at e
    rw [f_X8_seams_b78.eq_2]
    by_cases c : (P ∧ ∀ i, i < j → ¬ Ej a i x y)
    · rw [bP_t c]
      by_cases c4 : Ej a j x y
      · rw [bP_f (fun q => q.2 j (by omega) c4)] at e
        obtain ⟨c1, c2, c3⟩ := c4
        rw [bP_t c1] at kd
        simp (disch := omega) only [zl_0, zl_1, zl_2, zl_3, zl_4, zl_5, zl_6, zl_7, zl_8, zl_9, zl_10, zl_11, zl_12, zl_13, zl_14, zl_15, zl_16, zl_17, zl_18, zl_19, zl_20, zl_23, zl_24, zl_31, zl_32, zl_48, zl_50, zl_53, zl_57, zl_59, zl_60, zl_99, zl_100, zl_104, zl_112, zl_114, zl_119, zl_126, zl_127, zl_181, zl_200, zl_500, zl_543, zl_724, zl_999, zl_1000, zl_5000, zl_65536, zl_100000, zl_1000001, zl_1000002, zl_1000003, zl_1000004, zl_2143289344, zI_neg, zI_add, zI_sub, zI_mul, zI_le, zI_lt, zI_eq, ck_ib, ix_nat, ixz_0, ixz_1, ixz_2, ixz_3, ixz_4, ixz_5, ixz_6, ixz_7, ixz_8, ixz_9, ixz_10, ixz_11, ixz_12, ob_some, lt_of, ck_bP, bP_z, bP_o, ite_bP, Int.reduceToNat, Nat.reduceAdd, Nat.reduceMul, Int.reduceAdd, Int.reduceSub, Int.reduceMul, Int.reduceNeg, Int.reduceEq, Int.reduceLT, Int.reduceLE, ↓reduceIte, not_true_eq_false, not_false_eq_true, c0, kd, kx, ky, c2, c3, f_X8_seams_b143, f_X8_seams_b144]
        exact e
      · rw [bP_t (show P ∧ ∀ i, i < j + 1 → ¬ Ej a i x y from ⟨c.1, fun i hi => by
          by_cases q : i = j
          · subst q; exact c4
          · exact c.2 i (by omega)⟩)] at e
        by_cases c1 : la a (j / 2) 4 ≠ -1
        · rw [bP_t c1] at kd
          by_cases c2 : ex a j = x
          · have c3 : ¬ ey a j = y := fun q => c4 ⟨c1, c2, q⟩
            simp (disch := omega) only [zl_0, zl_1, zl_2, zl_3, zl_4, zl_5, zl_6, zl_7, zl_8, zl_9, zl_10, zl_11, zl_12, zl_13, zl_14, zl_15, zl_16, zl_17, zl_18, zl_19, zl_20, zl_23, zl_24, zl_31, zl_32, zl_48, zl_50, zl_53, zl_57, zl_59, zl_60, zl_99, zl_100, zl_104, zl_112, zl_114, zl_119, zl_126, zl_127, zl_181, zl_200, zl_500, zl_543, zl_724, zl_999, zl_1000, zl_5000, zl_65536, zl_100000, zl_1000001, zl_1000002, zl_1000003, zl_1000004, zl_2143289344, zI_neg, zI_add, zI_sub, zI_mul, zI_le, zI_lt, zI_eq, ck_ib, ix_nat, ixz_0, ixz_1, ixz_2, ixz_3, ixz_4, ixz_5, ixz_6, ixz_7, ixz_8, ixz_9, ixz_10, ixz_11, ixz_12, ob_some, lt_of, ck_bP, bP_z, bP_o, ite_bP, Int.reduceToNat, Nat.reduceAdd, Nat.reduceMul, Int.reduceAdd, Int.reduceSub, Int.reduceMul, Int.reduceNeg, Int.reduceEq, Int.reduceLT, Int.reduceLE, ↓reduceIte, not_true_eq_false, not_false_eq_true, c0, kd, kx, ky, c2, c3, f_X8_seams_b139, f_X8_seams_b144]
            exact e
          · simp (disch := omega) only [zl_0, zl_1, zl_2, zl_3, zl_4, zl_5, zl_6, zl_7, zl_8, zl_9, zl_10, zl_11, zl_12, zl_13, zl_14, zl_15, zl_16, zl_17, zl_18, zl_19, zl_20, zl_23, zl_24, zl_31, zl_32, zl_48, zl_50, zl_53, zl_57, zl_59, zl_60, zl_99, zl_100, zl_104, zl_112, zl_114, zl_119, zl_126, zl_127, zl_181, zl_200, zl_500, zl_543, zl_724, zl_999, zl_1000, zl_5000, zl_65536, zl_100000, zl_1000001, zl_1000002, zl_1000003, zl_1000004, zl_2143289344, zI_neg, zI_add, zI_sub, zI_mul, zI_le, zI_lt, zI_eq, ck_ib, ix_nat, ixz_0, ixz_1, ixz_2, ixz_3, ixz_4, ixz_5, ixz_6, ixz_7, ixz_8, ixz_9, ixz_10, ixz_11, ixz_12, ob_some, lt_of, ck_bP, bP_z, bP_o, ite_bP, Int.reduceToNat, Nat.reduceAdd, Nat.reduceMul, Int.reduceAdd, Int.reduceSub, Int.reduceMul, Int.reduceNeg, Int.reduceEq, Int.reduceLT, Int.reduceLE, ↓reduceIte, not_true_eq_false, not_false_eq_true, c0, kd, kx, c2, f_X8_seams_b139, f_X8_seams_b144]
            exact e
        · rw [bP_f c1] at kd
          simp (disch := omega) only [zl_0, zl_1, zl_2, zl_3, zl_4, zl_5, zl_6, zl_7, zl_8, zl_9, zl_10, zl_11, zl_12, zl_13, zl_14, zl_15, zl_16, zl_17, zl_18, zl_19, zl_20, zl_23, zl_24, zl_31, zl_32, zl_48, zl_50, zl_53, zl_57, zl_59, zl_60, zl_99, zl_100, zl_104, zl_112, zl_114, zl_119, zl_126, zl_127, zl_181, zl_200, zl_500, zl_543, zl_724, zl_999, zl_1000, zl_5000, zl_65536, zl_100000, zl_1000001, zl_1000002, zl_1000003, zl_1000004, zl_2143289344, zI_neg, zI_add, zI_sub, zI_mul, zI_le, zI_lt, zI_eq, ck_ib, ix_nat, ixz_0, ixz_1, ixz_2, ixz_3, ixz_4, ixz_5, ixz_6, ixz_7, ixz_8, ixz_9, ixz_10, ixz_11, ixz_12, ob_some, lt_of, ck_bP, bP_z, bP_o, ite_bP, Int.reduceToNat, Nat.reduceAdd, Nat.reduceMul, Int.reduceAdd, Int.reduceSub, Int.reduceMul, Int.reduceNeg, Int.reduceEq, Int.reduceLT, Int.reduceLE, ↓reduceIte, not_true_eq_false, not_false_eq_true, c0, kd, f_X8_seams_b139, f_X8_seams_b144]
          exact e
    · rw [bP_f c]
      rw [bP_f (show ¬ (P ∧ ∀ i, i < j + 1 → ¬ Ej a i x y) from fun q => c ⟨q.1, fun i hi => q.2 i (by omega)⟩)] at e
      simp (disch := omega) only [zl_0, zl_1, zl_2, zl_3, zl_4, zl_5, zl_6, zl_7, zl_8, zl_9, zl_10, zl_11, zl_12, zl_13, zl_14, zl_15, zl_16, zl_17, zl_18, zl_19, zl_20, zl_23, zl_24, zl_31, zl_32, zl_48, zl_50, zl_53, zl_57, zl_59, zl_60, zl_99, zl_100, zl_104, zl_112, zl_114, zl_119, zl_126, zl_127, zl_181, zl_200, zl_500, zl_543, zl_724, zl_999, zl_1000, zl_5000, zl_65536, zl_100000, zl_1000001, zl_1000002, zl_1000003, zl_1000004, zl_2143289344, zI_neg, zI_add, zI_sub, zI_mul, zI_le, zI_lt, zI_eq, ck_ib, ix_nat, ixz_0, ixz_1, ixz_2, ixz_3, ixz_4, ixz_5, ixz_6, ixz_7, ixz_8, ixz_9, ixz_10, ixz_11, ixz_12, ob_some, lt_of, ck_bP, bP_z, bP_o, ite_bP, Int.reduceToNat, Nat.reduceAdd, Nat.reduceMul, Int.reduceAdd, Int.reduceSub, Int.reduceMul, Int.reduceNeg, Int.reduceEq, Int.reduceLT, Int.reduceLE, ↓reduceIte, not_true_eq_false, not_false_eq_true, c0, f_X8_seams_b143, f_X8_seams_b144]
      exact e
noncomputable def srw (a : Row) : Nat → Int
  | 0 => 0
  | k + 1 => srw a k + bP (Fe a k)
theorem k_seams8_l (W : WF a) (R : RM S a) : ∀ (d k fu : Nat), k + d = 2 * nl a → d < fu → f_X8_seams_b4 fu (zI (srw a k)) (zI k) S = some (zI (srw a (2 * nl a)), S) := by
  intro d
  have ws := W.sc
  have tn : 2 * (nl a : Int) = ((2 * nl a : Nat) : Int) := by omega
  induction d with
  | zero =>
    intro k fu hk hf
    obtain ⟨fu, rfl⟩ : ∃ f, fu = f + 1 := ⟨fu - 1, by omega⟩
    obtain rfl : k = 2 * nl a := by omega
    rw [f_X8_seams_b4.eq_2]
    simp (disch := omega) only [zl_0, zl_1, zl_2, zl_3, zl_4, zl_5, zl_6, zl_7, zl_8, zl_9, zl_10, zl_11, zl_12, zl_13, zl_14, zl_15, zl_16, zl_17, zl_18, zl_19, zl_20, zl_23, zl_24, zl_31, zl_32, zl_48, zl_50, zl_53, zl_57, zl_59, zl_60, zl_99, zl_100, zl_104, zl_112, zl_114, zl_119, zl_126, zl_127, zl_181, zl_200, zl_500, zl_543, zl_724, zl_999, zl_1000, zl_5000, zl_65536, zl_100000, zl_1000001, zl_1000002, zl_1000003, zl_1000004, zl_2143289344, zI_neg, zI_add, zI_sub, zI_mul, zI_le, zI_lt, zI_eq, ck_ib, ix_nat, ixz_0, ixz_1, ixz_2, ixz_3, ixz_4, ixz_5, ixz_6, ixz_7, ixz_8, ixz_9, ixz_10, ixz_11, ixz_12, ob_some, lt_of, ck_bP, bP_z, bP_o, ite_bP, Int.reduceToNat, Nat.reduceAdd, Nat.reduceMul, Int.reduceAdd, Int.reduceSub, Int.reduceMul, Int.reduceNeg, Int.reduceEq, Int.reduceLT, Int.reduceLE, ↓reduceIte, not_true_eq_false, not_false_eq_true, RM.at R, ws.1.2.2.1, tn, Int.le_refl]
  | succ d ih =>
    intro k fu hk hf
    obtain ⟨fu, rfl⟩ : ∃ f, fu = f + 1 := ⟨fu - 1, by omega⟩
    have kk : k < 2 * nl a := by omega
    have c0 : ¬ (((2 * nl a : Nat) : Int) ≤ (k : Int)) := by omega
    have kd := k_edr W R kk
    have er := ex_rg W kk
    have kx := k_ex W R kk
    have ky := k_ey W R kk
    have e := ih (k + 1) fu (by omega) (by omega)
    simp only [nc1, srw] at e
    have z : ∀ P : Prop, (P ∧ ∀ i, i < 0 → ¬ Ej a i (ex a k) (ey a k)) ↔ P := fun P => ⟨fun q => q.1, fun q => ⟨q, fun i hi => absurd hi (Nat.not_lt_zero i)⟩⟩
    have ki := k_seams_in W R (f_X8_seams_b4 fu) (v := srw a k) (x := ex a k) (y := ey a k) (by omega) (by omega) kk (la a (k / 2) 4 ≠ -1 ∧ Sm a (ex a k) (ey a k)) k 0 1000 (by omega) (by omega)
    rw [bP_c (z _)] at ki
    have kf : f_X8_seams_b78 (f_X8_seams_b4 fu) 1000 (zI (srw a k)) (zI k) (zI (ex a k)) (zI (ey a k)) (zI (bP (la a (k / 2) 4 ≠ -1 ∧ Sm a (ex a k) (ey a k)))) (zI 0) S = some (zI (srw a (2 * nl a)), S) := ki.trans e
    rw [f_X8_seams_b4.eq_2]
    by_cases c1 : la a (k / 2) 4 ≠ -1
    · rw [bP_t c1] at kd
      obtain ⟨t, t1, t2, t3⟩ := k_pensAt W R (x := ex a k) (y := ey a k) (by omega) (by omega)
      have ks := k_isSome (S := S) t1
      rw [bP_c (sm_some W t2)] at ks
      by_cases c2 : Sm a (ex a k) (ey a k)
      · rw [bP_t c2] at ks
        rw [bP_t ⟨c1, c2⟩] at kf
        simp (disch := omega) only [zl_0, zl_1, zl_2, zl_3, zl_4, zl_5, zl_6, zl_7, zl_8, zl_9, zl_10, zl_11, zl_12, zl_13, zl_14, zl_15, zl_16, zl_17, zl_18, zl_19, zl_20, zl_23, zl_24, zl_31, zl_32, zl_48, zl_50, zl_53, zl_57, zl_59, zl_60, zl_99, zl_100, zl_104, zl_112, zl_114, zl_119, zl_126, zl_127, zl_181, zl_200, zl_500, zl_543, zl_724, zl_999, zl_1000, zl_5000, zl_65536, zl_100000, zl_1000001, zl_1000002, zl_1000003, zl_1000004, zl_2143289344, zI_neg, zI_add, zI_sub, zI_mul, zI_le, zI_lt, zI_eq, ck_ib, ix_nat, ixz_0, ixz_1, ixz_2, ixz_3, ixz_4, ixz_5, ixz_6, ixz_7, ixz_8, ixz_9, ixz_10, ixz_11, ixz_12, ob_some, lt_of, ck_bP, bP_z, bP_o, ite_bP, Int.reduceToNat, Nat.reduceAdd, Nat.reduceMul, Int.reduceAdd, Int.reduceSub, Int.reduceMul, Int.reduceNeg, Int.reduceEq, Int.reduceLT, Int.reduceLE, ↓reduceIte, not_true_eq_false, not_false_eq_true, RM.at R, ws.1.2.2.1, tn, c0, kd, kx, ky, t3, ks, f_X8_seams_b73]
        exact kf
      · rw [bP_f c2] at ks
        rw [bP_f (fun q => c2 q.2)] at kf
        simp (disch := omega) only [zl_0, zl_1, zl_2, zl_3, zl_4, zl_5, zl_6, zl_7, zl_8, zl_9, zl_10, zl_11, zl_12, zl_13, zl_14, zl_15, zl_16, zl_17, zl_18, zl_19, zl_20, zl_23, zl_24, zl_31, zl_32, zl_48, zl_50, zl_53, zl_57, zl_59, zl_60, zl_99, zl_100, zl_104, zl_112, zl_114, zl_119, zl_126, zl_127, zl_181, zl_200, zl_500, zl_543, zl_724, zl_999, zl_1000, zl_5000, zl_65536, zl_100000, zl_1000001, zl_1000002, zl_1000003, zl_1000004, zl_2143289344, zI_neg, zI_add, zI_sub, zI_mul, zI_le, zI_lt, zI_eq, ck_ib, ix_nat, ixz_0, ixz_1, ixz_2, ixz_3, ixz_4, ixz_5, ixz_6, ixz_7, ixz_8, ixz_9, ixz_10, ixz_11, ixz_12, ob_some, lt_of, ck_bP, bP_z, bP_o, ite_bP, Int.reduceToNat, Nat.reduceAdd, Nat.reduceMul, Int.reduceAdd, Int.reduceSub, Int.reduceMul, Int.reduceNeg, Int.reduceEq, Int.reduceLT, Int.reduceLE, ↓reduceIte, not_true_eq_false, not_false_eq_true, RM.at R, ws.1.2.2.1, tn, c0, kd, kx, ky, t3, ks, f_X8_seams_b72, f_X8_seams_b73]
        exact kf
    · rw [bP_f c1] at kd
      rw [bP_f (fun q => c1 q.1)] at kf
      simp (disch := omega) only [zl_0, zl_1, zl_2, zl_3, zl_4, zl_5, zl_6, zl_7, zl_8, zl_9, zl_10, zl_11, zl_12, zl_13, zl_14, zl_15, zl_16, zl_17, zl_18, zl_19, zl_20, zl_23, zl_24, zl_31, zl_32, zl_48, zl_50, zl_53, zl_57, zl_59, zl_60, zl_99, zl_100, zl_104, zl_112, zl_114, zl_119, zl_126, zl_127, zl_181, zl_200, zl_500, zl_543, zl_724, zl_999, zl_1000, zl_5000, zl_65536, zl_100000, zl_1000001, zl_1000002, zl_1000003, zl_1000004, zl_2143289344, zI_neg, zI_add, zI_sub, zI_mul, zI_le, zI_lt, zI_eq, ck_ib, ix_nat, ixz_0, ixz_1, ixz_2, ixz_3, ixz_4, ixz_5, ixz_6, ixz_7, ixz_8, ixz_9, ixz_10, ixz_11, ixz_12, ob_some, lt_of, ck_bP, bP_z, bP_o, ite_bP, Int.reduceToNat, Nat.reduceAdd, Nat.reduceMul, Int.reduceAdd, Int.reduceSub, Int.reduceMul, Int.reduceNeg, Int.reduceEq, Int.reduceLT, Int.reduceLE, ↓reduceIte, not_true_eq_false, not_false_eq_true, RM.at R, ws.1.2.2.1, tn, c0, kd, kx, ky, f_X8_seams_b72, f_X8_seams_b73]
      exact kf
theorem fe_even (l : Nat) : Fe a (2 * l) ↔ Fm a l (la a l 0) (la a l 1) := by
  unfold Fe Fm ex ey
  rw [show 2 * l / 2 = l by omega, show 2 * l % 2 = 0 by omega]
  have q := Ej_Ae (a := a) (n := l) (x := la a l 0) (y := la a l 1) (fun _ => True)
  constructor
  · rintro ⟨⟨h1, h2⟩, h3⟩
    refine ⟨h1, fun o ho h => ?_, h2⟩
    obtain ⟨k, k1, k2, _⟩ := q.2 ⟨o, ho, h, trivial⟩
    exact h3 k k1 k2
  · rintro ⟨h1, h2, h3⟩
    refine ⟨⟨h1, h3⟩, fun j hj h => ?_⟩
    obtain ⟨o, o1, o2, _⟩ := q.1 ⟨j, hj, h, trivial⟩
    exact h2 o o1 o2
theorem fe_odd (W : WF a) {l : Nat} (hl : l < nl a) : Fe a (2 * l + 1) ↔ Fm a l (la a l 2) (la a l 3) := by
  unfold Fe Fm ex ey
  rw [show (2 * l + 1) / 2 = l by omega, show (2 * l + 1) % 2 = 1 by omega]
  have q := Ej_Ae (a := a) (n := l) (x := la a l 2) (y := la a l 3) (fun _ => True)
  have v := W.line hl
  constructor
  · rintro ⟨⟨h1, h2⟩, h3⟩
    refine ⟨h1, fun o ho h => ?_, h2⟩
    obtain ⟨k, k1, k2, _⟩ := q.2 ⟨o, ho, h, trivial⟩
    exact h3 k (by omega) k2
  · rintro ⟨h1, h2, h3⟩
    refine ⟨⟨h1, h3⟩, fun j hj h => ?_⟩
    by_cases c : j = 2 * l
    · subst c
      obtain ⟨_, q2, q3⟩ := h
      unfold ex at q2
      unfold ey at q3
      rw [show 2 * l / 2 = l by omega, show 2 * l % 2 = 0 by omega] at q2 q3
      simp only [Nat.mul_zero, Nat.zero_add, Nat.mul_one] at q2 q3
      exact v.2.2.2.2.2.2.2.2.1 ⟨q2, q3⟩
    · obtain ⟨o, o1, o2, _⟩ := q.1 ⟨j, by omega, h, trivial⟩
      exact h2 o o1 o2
theorem srw_smn (W : WF a) : ∀ l, l ≤ nl a → srw a (2 * l) = smn a l := by
  intro l
  induction l with
  | zero => intro _; rfl
  | succ l ih =>
    intro h
    have i := ih (by omega)
    rw [show 2 * (l + 1) = 2 * l + 1 + 1 by omega]
    simp only [srw, smn]
    rw [i, bP_c (fe_even l), bP_c (fe_odd W (show l < nl a by omega))]
    omega
theorem q_seams (W : WF a) (R : RC 1 M a) (Q : RM S a) : Q2 (f_X7_seams M) (f_X8_seams S) M S := by
  have ws := W.sc
  refine ⟨zI (smn a (nl a)), k_seams_l W R (nl a) 0 1000 (by omega) (by omega), ?_⟩
  rw [← srw_smn W (nl a) (Nat.le_refl _)]
  exact k_seams8_l W Q (2 * nl a) 0 1000 (by omega) (by omega)
/-- what the reference counts at one end -/
theorem by_some (W : WF a) {x y : Int} {t p : Nat} (hp : p < 5) (ht : t < 32) (h : ∀ p : Nat, p < 5 → (t.testBit p = true ↔ ∃ l, l < nl a ∧ Ae a l x y ∧ la a l 4 = p)) (hs : ¬ Sm a x y) : (∃ u q : Nat, u < 5 ∧ q < 5 ∧ u ≠ q ∧ (t ||| 2 ^ p).testBit u = true ∧ (t ||| 2 ^ p).testBit q = true) ↔ Eo a x y p := by
  have ws := W.sc
  have key : ∀ u, u < 5 → u ≠ p → (t ||| 2 ^ p).testBit u = true → Eo a x y p := by
    intro u hu hn hb
    have pt := pb_test ⟨t, ht⟩ ⟨p, hp⟩ ⟨u, hu⟩
    simp only at pt
    rw [pt, Bool.or_eq_true, decide_eq_true_eq] at hb
    rcases hb with hb | hb
    · obtain ⟨l, l1, l2, l3⟩ := (h u hu).1 hb
      exact ⟨l, l1, l2, by omega⟩
    · exact absurd hb.symm hn
  constructor
  · rintro ⟨u, q, h1, h2, h3, h4, h5⟩
    by_cases c : u = p
    · exact key q h2 (fun z => h3 (c.trans z.symm)) h5
    · exact key u h1 c h4
  · rintro ⟨l, l1, l2, l3⟩
    have v := W.line l1
    have v2 := l2.1
    have pt := pb_test ⟨t, ht⟩ ⟨p, hp⟩ ⟨(la a l 4).toNat, by omega⟩
    have pp := pb_test ⟨t, ht⟩ ⟨p, hp⟩ ⟨p, hp⟩
    simp only at pt pp
    refine ⟨(la a l 4).toNat, p, by omega, hp, by omega, ?_, ?_⟩
    · rw [pt, Bool.or_eq_true]
      exact .inl ((h _ (by omega)).2 ⟨l, l1, l2, by omega⟩)
    · rw [pp]
      simp
theorem k_by1 (W : WF a) (Q : RM S a) {x y : Int} (h3 : 0 ≤ x ∧ x ≤ 99) (h4 : 0 ≤ y ∧ y ≤ 99) {p : Nat} (hp : p < 5) : ∃ t u : Nat, f_X8_pensAt (zI x) (zI y) S = some (zI t, S) ∧ f_X8_isSome (zI t) S = some (zI (bP (Sm a x y)), S) ∧ zI t ||| (zI 1 <<< (zI p &&& zI 31)) = zI u ∧ (¬ Sm a x y → f_X8_isSome (zI u) S = some (zI (bP (Eo a x y p)), S)) := by
  obtain ⟨t, t1, t2, t3⟩ := k_pensAt W Q h3 h4
  have ks := k_isSome (S := S) t1
  rw [bP_c (sm_some W t2)] at ks
  have po := pb_or ⟨t, t1⟩ ⟨p, hp⟩
  simp only at po
  refine ⟨t, t ||| 2 ^ p, t3, ks, po.1, fun c => ?_⟩
  rw [k_isSome po.2, bP_c (by_some W hp t1 t2 c)]
theorem q_seamsBy (W : WF a) (R : RC 1 M a) (Q : RM S a) (x y : Int32) : Q2 (f_X7_seamsBy x y M) (f_X8_seamsBy x y S) M S := by
  obtain ⟨z, h1, h2, rfl⟩ := zI_ex x
  obtain ⟨v, h3, h4, rfl⟩ := zI_ex y
  have ws := W.sc
  unfold f_X7_seamsBy f_X7_seamsBy_b28 f_X8_seamsBy f_X8_seamsBy_b16
  rw [ob_of (k_X2_has W R h1 h2), ob_of (k_isLine W Q h1 h2)]
  by_cases c : 0 ≤ z ∧ z < nl a
  · rw [bP_t c, if_neg (by decide), if_neg (by decide), ob_of (k_X4_has W R h3 h4), ob_of (k_isPen W Q h3 h4)]
    obtain ⟨l, rfl⟩ : ∃ p : Nat, z = p := ⟨z.toNat, by omega⟩
    have hl : l < nl a := by omega
    have u := W.line hl
    by_cases d : 0 ≤ v ∧ v < np a
    · rw [bP_t d, if_neg (by decide), if_neg (by decide)]
      obtain ⟨p, rfl⟩ : ∃ p : Nat, v = p := ⟨v.toNat, by omega⟩
      have hp : p < np a := by omega
      by_cases hd : la a l 4 = -1
      · rw [ob_of (k_X2_drf W R hl hd), ob_of (k_drf W Q hl hd), if_pos (by decide), if_pos (by decide)]
        have w1 := k_wouldBecomeSeam W R (x := la a l 0) (y := la a l 1) (p := p) (by omega) (by omega) (by omega)
        have w2 := k_wouldBecomeSeam W R (x := la a l 2) (y := la a l 3) (p := p) (by omega) (by omega) (by omega)
        obtain ⟨t, o, t1, t2, t3, t4⟩ := k_by1 W Q (x := la a l 0) (y := la a l 1) (by omega) (by omega) (show p < 5 by omega)
        obtain ⟨t', o', u1, u2, u3, u4⟩ := k_by1 W Q (x := la a l 2) (y := la a l 3) (by omega) (by omega) (show p < 5 by omega)
        refine ⟨zI (bP (¬ Sm a (la a l 0) (la a l 1) ∧ Eo a (la a l 0) (la a l 1) p) + bP (¬ Sm a (la a l 2) (la a l 3) ∧ Eo a (la a l 2) (la a l 3) p)), ?_, ?_⟩
        · simp (disch := omega) only [zl_0, zl_1, zl_2, zl_3, zl_4, zl_5, zl_6, zl_7, zl_8, zl_9, zl_10, zl_11, zl_12, zl_13, zl_14, zl_15, zl_16, zl_17, zl_18, zl_19, zl_20, zl_23, zl_24, zl_31, zl_32, zl_48, zl_50, zl_53, zl_57, zl_59, zl_60, zl_99, zl_100, zl_104, zl_112, zl_114, zl_119, zl_126, zl_127, zl_181, zl_200, zl_500, zl_543, zl_724, zl_999, zl_1000, zl_5000, zl_65536, zl_100000, zl_1000001, zl_1000002, zl_1000003, zl_1000004, zl_2143289344, zI_neg, zI_add, zI_sub, zI_mul, zI_le, zI_lt, zI_eq, ck_ib, ix_nat, ixz_0, ixz_1, ixz_2, ixz_3, ixz_4, ixz_5, ixz_6, ixz_7, ixz_8, ixz_9, ixz_10, ixz_11, ixz_12, ob_some, lt_of, ck_bP, bP_z, bP_o, ite_bP, Int.reduceToNat, Nat.reduceAdd, Nat.reduceMul, Int.reduceAdd, Int.reduceSub, Int.reduceMul, Int.reduceNeg, Int.reduceEq, Int.reduceLT, Int.reduceLE, ↓reduceIte, not_true_eq_false, not_false_eq_true, R.l11, R.l12, R.l13, R.l14, w1, w2, k_asBit]
        · have a1 : ∀ (V : Int32) (fu : Nat), f_X8_seamsBy_b35 (fu + 1) (zI l) (zI p) V (zI 0) S = f_X8_seamsBy_b35 fu (zI l) (zI p) (V + zI (bP (¬ Sm a (la a l 0) (la a l 1) ∧ Eo a (la a l 0) (la a l 1) p))) (zI 1) S := by
            intro V fu
            rw [f_X8_seamsBy_b35.eq_2]
            by_cases c1 : Sm a (la a l 0) (la a l 1)
            · rw [bP_t c1] at t2
              rw [bP_f (fun q => q.1 c1)]
              simp (disch := omega) only [zl_0, zl_1, zl_2, zl_3, zl_4, zl_5, zl_6, zl_7, zl_8, zl_9, zl_10, zl_11, zl_12, zl_13, zl_14, zl_15, zl_16, zl_17, zl_18, zl_19, zl_20, zl_23, zl_24, zl_31, zl_32, zl_48, zl_50, zl_53, zl_57, zl_59, zl_60, zl_99, zl_100, zl_104, zl_112, zl_114, zl_119, zl_126, zl_127, zl_181, zl_200, zl_500, zl_543, zl_724, zl_999, zl_1000, zl_5000, zl_65536, zl_100000, zl_1000001, zl_1000002, zl_1000003, zl_1000004, zl_2143289344, zI_neg, zI_add, zI_sub, zI_mul, zI_le, zI_lt, zI_eq, ck_ib, ix_nat, ixz_0, ixz_1, ixz_2, ixz_3, ixz_4, ixz_5, ixz_6, ixz_7, ixz_8, ixz_9, ixz_10, ixz_11, ixz_12, ob_some, lt_of, ck_bP, bP_z, bP_o, ite_bP, Int.reduceToNat, Nat.reduceAdd, Nat.reduceMul, Int.reduceAdd, Int.reduceSub, Int.reduceMul, Int.reduceNeg, Int.reduceEq, Int.reduceLT, Int.reduceLE, ↓reduceIte, not_true_eq_false, not_false_eq_true, k_ln Q, t1, t2, f_X8_seamsBy_b92, f_X8_seamsBy_b93]
            · rw [bP_f c1] at t2
              have t5 := t4 c1
              by_cases c2 : Eo a (la a l 0) (la a l 1) p
              · rw [bP_t c2] at t5
                rw [bP_t ⟨c1, c2⟩]
                simp (disch := omega) only [zl_0, zl_1, zl_2, zl_3, zl_4, zl_5, zl_6, zl_7, zl_8, zl_9, zl_10, zl_11, zl_12, zl_13, zl_14, zl_15, zl_16, zl_17, zl_18, zl_19, zl_20, zl_23, zl_24, zl_31, zl_32, zl_48, zl_50, zl_53, zl_57, zl_59, zl_60, zl_99, zl_100, zl_104, zl_112, zl_114, zl_119, zl_126, zl_127, zl_181, zl_200, zl_500, zl_543, zl_724, zl_999, zl_1000, zl_5000, zl_65536, zl_100000, zl_1000001, zl_1000002, zl_1000003, zl_1000004, zl_2143289344, zI_neg, zI_add, zI_sub, zI_mul, zI_le, zI_lt, zI_eq, ck_ib, ix_nat, ixz_0, ixz_1, ixz_2, ixz_3, ixz_4, ixz_5, ixz_6, ixz_7, ixz_8, ixz_9, ixz_10, ixz_11, ixz_12, ob_some, lt_of, ck_bP, bP_z, bP_o, ite_bP, Int.reduceToNat, Nat.reduceAdd, Nat.reduceMul, Int.reduceAdd, Int.reduceSub, Int.reduceMul, Int.reduceNeg, Int.reduceEq, Int.reduceLT, Int.reduceLE, ↓reduceIte, not_true_eq_false, not_false_eq_true, k_ln Q, t1, t2, t3, t5, f_X8_seamsBy_b92, f_X8_seamsBy_b93]
              · rw [bP_f c2] at t5
                rw [bP_f (fun q => c2 q.2)]
                simp (disch := omega) only [zl_0, zl_1, zl_2, zl_3, zl_4, zl_5, zl_6, zl_7, zl_8, zl_9, zl_10, zl_11, zl_12, zl_13, zl_14, zl_15, zl_16, zl_17, zl_18, zl_19, zl_20, zl_23, zl_24, zl_31, zl_32, zl_48, zl_50, zl_53, zl_57, zl_59, zl_60, zl_99, zl_100, zl_104, zl_112, zl_114, zl_119, zl_126, zl_127, zl_181, zl_200, zl_500, zl_543, zl_724, zl_999, zl_1000, zl_5000, zl_65536, zl_100000, zl_1000001, zl_1000002, zl_1000003, zl_1000004, zl_2143289344, zI_neg, zI_add, zI_sub, zI_mul, zI_le, zI_lt, zI_eq, ck_ib, ix_nat, ixz_0, ixz_1, ixz_2, ixz_3, ixz_4, ixz_5, ixz_6, ixz_7, ixz_8, ixz_9, ixz_10, ixz_11, ixz_12, ob_some, lt_of, ck_bP, bP_z, bP_o, ite_bP, Int.reduceToNat, Nat.reduceAdd, Nat.reduceMul, Int.reduceAdd, Int.reduceSub, Int.reduceMul, Int.reduceNeg, Int.reduceEq, Int.reduceLT, Int.reduceLE, ↓reduceIte, not_true_eq_false, not_false_eq_true, k_ln Q, t1, t2, t3, t5, f_X8_seamsBy_b92, f_X8_seamsBy_b93]
          have a2 : ∀ (V : Int32) (fu : Nat), f_X8_seamsBy_b35 (fu + 1) (zI l) (zI p) V (zI 1) S = f_X8_seamsBy_b35 fu (zI l) (zI p) (V + zI (bP (¬ Sm a (la a l 2) (la a l 3) ∧ Eo a (la a l 2) (la a l 3) p))) (zI 2) S := by
            intro V fu
            rw [f_X8_seamsBy_b35.eq_2]
            by_cases c1 : Sm a (la a l 2) (la a l 3)
            · rw [bP_t c1] at u2
              rw [bP_f (fun q => q.1 c1)]
              simp (disch := omega) only [zl_0, zl_1, zl_2, zl_3, zl_4, zl_5, zl_6, zl_7, zl_8, zl_9, zl_10, zl_11, zl_12, zl_13, zl_14, zl_15, zl_16, zl_17, zl_18, zl_19, zl_20, zl_23, zl_24, zl_31, zl_32, zl_48, zl_50, zl_53, zl_57, zl_59, zl_60, zl_99, zl_100, zl_104, zl_112, zl_114, zl_119, zl_126, zl_127, zl_181, zl_200, zl_500, zl_543, zl_724, zl_999, zl_1000, zl_5000, zl_65536, zl_100000, zl_1000001, zl_1000002, zl_1000003, zl_1000004, zl_2143289344, zI_neg, zI_add, zI_sub, zI_mul, zI_le, zI_lt, zI_eq, ck_ib, ix_nat, ixz_0, ixz_1, ixz_2, ixz_3, ixz_4, ixz_5, ixz_6, ixz_7, ixz_8, ixz_9, ixz_10, ixz_11, ixz_12, ob_some, lt_of, ck_bP, bP_z, bP_o, ite_bP, Int.reduceToNat, Nat.reduceAdd, Nat.reduceMul, Int.reduceAdd, Int.reduceSub, Int.reduceMul, Int.reduceNeg, Int.reduceEq, Int.reduceLT, Int.reduceLE, ↓reduceIte, not_true_eq_false, not_false_eq_true, k_ln Q, u1, u2, f_X8_seamsBy_b92, f_X8_seamsBy_b93]
            · rw [bP_f c1] at u2
              have t5 := u4 c1
              by_cases c2 : Eo a (la a l 2) (la a l 3) p
              · rw [bP_t c2] at t5
                rw [bP_t ⟨c1, c2⟩]
                simp (disch := omega) only [zl_0, zl_1, zl_2, zl_3, zl_4, zl_5, zl_6, zl_7, zl_8, zl_9, zl_10, zl_11, zl_12, zl_13, zl_14, zl_15, zl_16, zl_17, zl_18, zl_19, zl_20, zl_23, zl_24, zl_31, zl_32, zl_48, zl_50, zl_53, zl_57, zl_59, zl_60, zl_99, zl_100, zl_104, zl_112, zl_114, zl_119, zl_126, zl_127, zl_181, zl_200, zl_500, zl_543, zl_724, zl_999, zl_1000, zl_5000, zl_65536, zl_100000, zl_1000001, zl_1000002, zl_1000003, zl_1000004, zl_2143289344, zI_neg, zI_add, zI_sub, zI_mul, zI_le, zI_lt, zI_eq, ck_ib, ix_nat, ixz_0, ixz_1, ixz_2, ixz_3, ixz_4, ixz_5, ixz_6, ixz_7, ixz_8, ixz_9, ixz_10, ixz_11, ixz_12, ob_some, lt_of, ck_bP, bP_z, bP_o, ite_bP, Int.reduceToNat, Nat.reduceAdd, Nat.reduceMul, Int.reduceAdd, Int.reduceSub, Int.reduceMul, Int.reduceNeg, Int.reduceEq, Int.reduceLT, Int.reduceLE, ↓reduceIte, not_true_eq_false, not_false_eq_true, k_ln Q, u1, u2, u3, t5, f_X8_seamsBy_b92, f_X8_seamsBy_b93]
              · rw [bP_f c2] at t5
                rw [bP_f (fun q => c2 q.2)]
                simp (disch := omega) only [zl_0, zl_1, zl_2, zl_3, zl_4, zl_5, zl_6, zl_7, zl_8, zl_9, zl_10, zl_11, zl_12, zl_13, zl_14, zl_15, zl_16, zl_17, zl_18, zl_19, zl_20, zl_23, zl_24, zl_31, zl_32, zl_48, zl_50, zl_53, zl_57, zl_59, zl_60, zl_99, zl_100, zl_104, zl_112, zl_114, zl_119, zl_126, zl_127, zl_181, zl_200, zl_500, zl_543, zl_724, zl_999, zl_1000, zl_5000, zl_65536, zl_100000, zl_1000001, zl_1000002, zl_1000003, zl_1000004, zl_2143289344, zI_neg, zI_add, zI_sub, zI_mul, zI_le, zI_lt, zI_eq, ck_ib, ix_nat, ixz_0, ixz_1, ixz_2, ixz_3, ixz_4, ixz_5, ixz_6, ixz_7, ixz_8, ixz_9, ixz_10, ixz_11, ixz_12, ob_some, lt_of, ck_bP, bP_z, bP_o, ite_bP, Int.reduceToNat, Nat.reduceAdd, Nat.reduceMul, Int.reduceAdd, Int.reduceSub, Int.reduceMul, Int.reduceNeg, Int.reduceEq, Int.reduceLT, Int.reduceLE, ↓reduceIte, not_true_eq_false, not_false_eq_true, k_ln Q, u1, u2, u3, t5, f_X8_seamsBy_b92, f_X8_seamsBy_b93]
          have a3 : ∀ (V : Int32) (fu : Nat), f_X8_seamsBy_b35 (fu + 1) (zI l) (zI p) V (zI 2) S = some (V, S) := by
            intro V fu
            rw [f_X8_seamsBy_b35.eq_2]
            exact if_pos (by decide)
          have e := (a1 (zI 0) 999).trans ((a2 _ 998).trans (a3 _ 997))
          rw [zI_add, zI_add, Int.zero_add] at e
          exact e
      · rw [ob_of (k_X2_drt W R hl hd), ob_of (k_drt W Q hl hd), if_neg (by decide), if_neg (by decide)]
        exact ⟨_, rfl, rfl⟩
    · rw [bP_f d, if_pos (by decide), if_pos (by decide)]
      exact ⟨_, rfl, rfl⟩
  · rw [bP_f c, if_pos (by decide), if_pos (by decide)]
    exact ⟨_, rfl, rfl⟩
theorem xu_rg {E T : Nat} (h1 : 114 ≤ E) (h2 : E ≤ 127) (hT : T < 8388608) (h3 : E = 127 → T = 0) : 8388608 ≤ xu E T ∧ xu E T ≤ 68719476736 := by
  unfold xu
  rcases (by omega : E = 114 ∨ E = 115 ∨ E = 116 ∨ E = 117 ∨ E = 118 ∨ E = 119 ∨ E = 120 ∨ E = 121 ∨ E = 122 ∨ E = 123 ∨ E = 124 ∨ E = 125 ∨ E = 126 ∨ E = 127) with rfl | rfl | rfl | rfl | rfl | rfl | rfl | rfl | rfl | rfl | rfl | rfl | rfl | rfl
  all_goals (simp only [Nat.reduceSub, Nat.reducePow]; omega)
theorem k_mean_s (W : WF a) (R : RC 1 M a) (Q : RM S a) {k : Nat} (kk : k < nl a) (hd : la a k 4 ≠ -1) {F : UInt32} (s1 : f_X5_shadeOf 1 (zI k) M = some (F, M)) (s2 : S 0 1 (53 + 8 * k + 7) = F.toInt32) (sn : (!(vn_sni2f F.toInt32)) = true) (x : UInt64) (o1 : dok (FP.f2d F) = true) (o2 : dok (FP.dadd x (FP.f2d F)) = true) (fu n : Nat) : f_X7_meanShade_b7 (fu + 1) x (zI n) (zI k) M = f_X7_meanShade_b7 fu (FP.dadd x (FP.f2d F)) (zI ((n : Int) + 1)) (zI ((k : Int) + 1)) M ∧ f_X8_meanShade_b7 (fu + 1) x (zI n) (zI k) S = f_X8_meanShade_b7 fu (FP.dadd x (FP.f2d F)) (zI ((n : Int) + 1)) (zI ((k : Int) + 1)) S := by
  have ws := W.sc
  have c0 : ¬ ((nl a : Int) ≤ (k : Int)) := by omega
  have l7 : f_X8_ln (zI k) (zI 7) S = some (F.toInt32, S) := by
    rw [k_ln Q (by omega) (by decide) (by decide), ← s2, Q _ (by omega)]
    rfl
  have t : F.toInt32.toUInt32 = F := UInt32.toUInt32_toInt32 F
  constructor
  · rw [f_X7_meanShade_b7.eq_2]
    simp (disch := omega) only [zl_0, zl_1, zl_2, zl_3, zl_4, zl_5, zl_6, zl_7, zl_8, zl_9, zl_10, zl_11, zl_12, zl_13, zl_14, zl_15, zl_16, zl_17, zl_18, zl_19, zl_20, zl_23, zl_24, zl_31, zl_32, zl_48, zl_50, zl_53, zl_57, zl_59, zl_60, zl_99, zl_100, zl_104, zl_112, zl_114, zl_119, zl_126, zl_127, zl_181, zl_200, zl_500, zl_543, zl_724, zl_999, zl_1000, zl_5000, zl_65536, zl_100000, zl_1000001, zl_1000002, zl_1000003, zl_1000004, zl_2143289344, zI_neg, zI_add, zI_sub, zI_mul, zI_le, zI_lt, zI_eq, ck_ib, ix_nat, ixz_0, ixz_1, ixz_2, ixz_3, ixz_4, ixz_5, ixz_6, ixz_7, ixz_8, ixz_9, ixz_10, ixz_11, ixz_12, ob_some, lt_of, ck_bP, bP_z, bP_o, ite_bP, Int.reduceToNat, Nat.reduceAdd, Nat.reduceMul, Int.reduceAdd, Int.reduceSub, Int.reduceMul, Int.reduceNeg, Int.reduceEq, Int.reduceLT, Int.reduceLE, ↓reduceIte, not_true_eq_false, not_false_eq_true, R.rnl, c0, k_X2_drt W R kk hd, s1, f_X7_meanShade_b53, ck_of o1, ck_of o2]
  · rw [f_X8_meanShade_b7.eq_2]
    simp (disch := omega) only [zl_0, zl_1, zl_2, zl_3, zl_4, zl_5, zl_6, zl_7, zl_8, zl_9, zl_10, zl_11, zl_12, zl_13, zl_14, zl_15, zl_16, zl_17, zl_18, zl_19, zl_20, zl_23, zl_24, zl_31, zl_32, zl_48, zl_50, zl_53, zl_57, zl_59, zl_60, zl_99, zl_100, zl_104, zl_112, zl_114, zl_119, zl_126, zl_127, zl_181, zl_200, zl_500, zl_543, zl_724, zl_999, zl_1000, zl_5000, zl_65536, zl_100000, zl_1000001, zl_1000002, zl_1000003, zl_1000004, zl_2143289344, zI_neg, zI_add, zI_sub, zI_mul, zI_le, zI_lt, zI_eq, ck_ib, ix_nat, ixz_0, ixz_1, ixz_2, ixz_3, ixz_4, ixz_5, ixz_6, ixz_7, ixz_8, ixz_9, ixz_10, ixz_11, ixz_12, ob_some, lt_of, ck_bP, bP_z, bP_o, ite_bP, Int.reduceToNat, Nat.reduceAdd, Nat.reduceMul, Int.reduceAdd, Int.reduceSub, Int.reduceMul, Int.reduceNeg, Int.reduceEq, Int.reduceLT, Int.reduceLE, ↓reduceIte, not_true_eq_false, not_false_eq_true, RM.at Q, ws.1.2.2.1, c0, k_drt W Q kk hd, l7, f_X8_meanShade_b45, ck_of sn]
    rw [t]
    simp only [ck_of o1, ck_of o2]
theorem k_mean_l (W : WF a) (R : RC 1 M a) (Q : RM S a) {A B : Nat} (hA : A = 8388608) (hB : B = 68719476736) : ∀ (d k fu n U : Nat) (x : UInt64), k + d = nl a → d < fu → n ≤ k → DV x U → n * A ≤ U → U ≤ n * B → Q2 (f_X7_meanShade_b7 fu x (zI n) (zI k) M) (f_X8_meanShade_b7 fu x (zI n) (zI k) S) M S := by
  intro d
  have ws := W.sc
  induction d with
  | zero =>
    intro k fu n U x hk hf hn hx h1 h2
    obtain ⟨fu, rfl⟩ : ∃ f, fu = f + 1 := ⟨fu - 1, by omega⟩
    obtain rfl : k = nl a := by omega
    have c0 : ((nl a : Nat) : Int) ≤ ((nl a : Nat) : Int) := Int.le_refl _
    rw [f_X7_meanShade_b7.eq_2, f_X8_meanShade_b7.eq_2]
    by_cases c : n = 0
    · have c2 : ((n : Int) = 0) := by omega
      refine ⟨zI (-1000004), ?_, ?_⟩
      · simp (disch := omega) only [zl_0, zl_1, zl_2, zl_3, zl_4, zl_5, zl_6, zl_7, zl_8, zl_9, zl_10, zl_11, zl_12, zl_13, zl_14, zl_15, zl_16, zl_17, zl_18, zl_19, zl_20, zl_23, zl_24, zl_31, zl_32, zl_48, zl_50, zl_53, zl_57, zl_59, zl_60, zl_99, zl_100, zl_104, zl_112, zl_114, zl_119, zl_126, zl_127, zl_181, zl_200, zl_500, zl_543, zl_724, zl_999, zl_1000, zl_5000, zl_65536, zl_100000, zl_1000001, zl_1000002, zl_1000003, zl_1000004, zl_2143289344, zI_neg, zI_add, zI_sub, zI_mul, zI_le, zI_lt, zI_eq, ck_ib, ix_nat, ixz_0, ixz_1, ixz_2, ixz_3, ixz_4, ixz_5, ixz_6, ixz_7, ixz_8, ixz_9, ixz_10, ixz_11, ixz_12, ob_some, lt_of, ck_bP, bP_z, bP_o, ite_bP, Int.reduceToNat, Nat.reduceAdd, Nat.reduceMul, Int.reduceAdd, Int.reduceSub, Int.reduceMul, Int.reduceNeg, Int.reduceEq, Int.reduceLT, Int.reduceLE, ↓reduceIte, not_true_eq_false, not_false_eq_true, R.rnl, c0, c2]
      · simp (disch := omega) only [zl_0, zl_1, zl_2, zl_3, zl_4, zl_5, zl_6, zl_7, zl_8, zl_9, zl_10, zl_11, zl_12, zl_13, zl_14, zl_15, zl_16, zl_17, zl_18, zl_19, zl_20, zl_23, zl_24, zl_31, zl_32, zl_48, zl_50, zl_53, zl_57, zl_59, zl_60, zl_99, zl_100, zl_104, zl_112, zl_114, zl_119, zl_126, zl_127, zl_181, zl_200, zl_500, zl_543, zl_724, zl_999, zl_1000, zl_5000, zl_65536, zl_100000, zl_1000001, zl_1000002, zl_1000003, zl_1000004, zl_2143289344, zI_neg, zI_add, zI_sub, zI_mul, zI_le, zI_lt, zI_eq, ck_ib, ix_nat, ixz_0, ixz_1, ixz_2, ixz_3, ixz_4, ixz_5, ixz_6, ixz_7, ixz_8, ixz_9, ixz_10, ixz_11, ixz_12, ob_some, lt_of, ck_bP, bP_z, bP_o, ite_bP, Int.reduceToNat, Nat.reduceAdd, Nat.reduceMul, Int.reduceAdd, Int.reduceSub, Int.reduceMul, Int.reduceNeg, Int.reduceEq, Int.reduceLT, Int.reduceLE, ↓reduceIte, not_true_eq_false, not_false_eq_true, RM.at Q, ws.1.2.2.1, c0, c2, f_X8_meanShade_b68]
    · obtain ⟨m1, E, T, m2, m3, m4, m5, m6⟩ := mean_val (x := x) (S := U) (n := (n : Int)) hx (by omega) (by omega) (by rw [Int.toNat_natCast, ← hA]; exact h1) (by rw [Int.toNat_natCast, ← hB]; exact h2)
      have c2 : ¬ ((n : Int) = 0) := by omega
      refine ⟨(xb E T).toInt32, ?_, ?_⟩
      · simp (disch := omega) only [zl_0, zl_1, zl_2, zl_3, zl_4, zl_5, zl_6, zl_7, zl_8, zl_9, zl_10, zl_11, zl_12, zl_13, zl_14, zl_15, zl_16, zl_17, zl_18, zl_19, zl_20, zl_23, zl_24, zl_31, zl_32, zl_48, zl_50, zl_53, zl_57, zl_59, zl_60, zl_99, zl_100, zl_104, zl_112, zl_114, zl_119, zl_126, zl_127, zl_181, zl_200, zl_500, zl_543, zl_724, zl_999, zl_1000, zl_5000, zl_65536, zl_100000, zl_1000001, zl_1000002, zl_1000003, zl_1000004, zl_2143289344, zI_neg, zI_add, zI_sub, zI_mul, zI_le, zI_lt, zI_eq, ck_ib, ix_nat, ixz_0, ixz_1, ixz_2, ixz_3, ixz_4, ixz_5, ixz_6, ixz_7, ixz_8, ixz_9, ixz_10, ixz_11, ixz_12, ob_some, lt_of, ck_bP, bP_z, bP_o, ite_bP, Int.reduceToNat, Nat.reduceAdd, Nat.reduceMul, Int.reduceAdd, Int.reduceSub, Int.reduceMul, Int.reduceNeg, Int.reduceEq, Int.reduceLT, Int.reduceLE, ↓reduceIte, not_true_eq_false, not_false_eq_true, R.rnl, c0, c2]
        rw [ck_of m1, m2, ck_of (fok_xb (by omega) m5), ob_of (bits_of (by omega) m4 m5 M)]
      · simp (disch := omega) only [zl_0, zl_1, zl_2, zl_3, zl_4, zl_5, zl_6, zl_7, zl_8, zl_9, zl_10, zl_11, zl_12, zl_13, zl_14, zl_15, zl_16, zl_17, zl_18, zl_19, zl_20, zl_23, zl_24, zl_31, zl_32, zl_48, zl_50, zl_53, zl_57, zl_59, zl_60, zl_99, zl_100, zl_104, zl_112, zl_114, zl_119, zl_126, zl_127, zl_181, zl_200, zl_500, zl_543, zl_724, zl_999, zl_1000, zl_5000, zl_65536, zl_100000, zl_1000001, zl_1000002, zl_1000003, zl_1000004, zl_2143289344, zI_neg, zI_add, zI_sub, zI_mul, zI_le, zI_lt, zI_eq, ck_ib, ix_nat, ixz_0, ixz_1, ixz_2, ixz_3, ixz_4, ixz_5, ixz_6, ixz_7, ixz_8, ixz_9, ixz_10, ixz_11, ixz_12, ob_some, lt_of, ck_bP, bP_z, bP_o, ite_bP, Int.reduceToNat, Nat.reduceAdd, Nat.reduceMul, Int.reduceAdd, Int.reduceSub, Int.reduceMul, Int.reduceNeg, Int.reduceEq, Int.reduceLT, Int.reduceLE, ↓reduceIte, not_true_eq_false, not_false_eq_true, RM.at Q, ws.1.2.2.1, c0, c2, f_X8_meanShade_b68]
        rw [ck_of m1, m2, ck_of (fok_xb (by omega) m5), ob_of (jbits_of (by omega) m4 m5 S)]
  | succ d ih =>
    intro k fu n U x hk hf hn hx h1 h2
    obtain ⟨fu, rfl⟩ : ∃ f, fu = f + 1 := ⟨fu - 1, by omega⟩
    have kk : k < nl a := by omega
    have c0 : ¬ ((nl a : Int) ≤ (k : Int)) := by omega
    by_cases hd : la a k 4 = -1
    · rw [f_X7_meanShade_b7.eq_2, f_X8_meanShade_b7.eq_2]
      have e := ih (k + 1) fu n U x (by omega) (by omega) (by omega) hx h1 h2
      simp only [nc1] at e
      simp (disch := omega) only [zl_0, zl_1, zl_2, zl_3, zl_4, zl_5, zl_6, zl_7, zl_8, zl_9, zl_10, zl_11, zl_12, zl_13, zl_14, zl_15, zl_16, zl_17, zl_18, zl_19, zl_20, zl_23, zl_24, zl_31, zl_32, zl_48, zl_50, zl_53, zl_57, zl_59, zl_60, zl_99, zl_100, zl_104, zl_112, zl_114, zl_119, zl_126, zl_127, zl_181, zl_200, zl_500, zl_543, zl_724, zl_999, zl_1000, zl_5000, zl_65536, zl_100000, zl_1000001, zl_1000002, zl_1000003, zl_1000004, zl_2143289344, zI_neg, zI_add, zI_sub, zI_mul, zI_le, zI_lt, zI_eq, ck_ib, ix_nat, ixz_0, ixz_1, ixz_2, ixz_3, ixz_4, ixz_5, ixz_6, ixz_7, ixz_8, ixz_9, ixz_10, ixz_11, ixz_12, ob_some, lt_of, ck_bP, bP_z, bP_o, ite_bP, Int.reduceToNat, Nat.reduceAdd, Nat.reduceMul, Int.reduceAdd, Int.reduceSub, Int.reduceMul, Int.reduceNeg, Int.reduceEq, Int.reduceLT, Int.reduceLE, ↓reduceIte, not_true_eq_false, not_false_eq_true, R.rnl, RM.at Q, ws.1.2.2.1, c0, k_X2_drf W R kk hd, k_drf W Q kk hd, f_X7_meanShade_b53, f_X8_meanShade_b45]
      exact e
    · obtain ⟨E, T, s1, s2, s3, s4, s5, s6⟩ := k_shadeOf W R kk hd
      have xr : A ≤ xu E T ∧ xu E T ≤ B := by rw [hA, hB]; exact xu_rg s3 s4 s5 s6
      have dv := dv_shade s3 s4 s5
      generalize xu E T = X at xr dv
      have n15 : n ≤ 15 := by omega
      have u1 : U ≤ 15 * B := Nat.le_trans h2 (Nat.mul_le_mul_right _ n15)
      have da := dv_add hx dv (Nat.lt_of_lt_of_le (by rw [hA]; decide +kernel) xr.1) (Nat.lt_of_le_of_lt (Nat.add_le_add u1 xr.2) (by rw [hB]; decide +kernel))
      have e := ih (k + 1) fu (n + 1) (U + X) _ (by omega) (by omega) (by omega) da (by rw [Nat.add_mul, Nat.one_mul]; exact Nat.add_le_add h1 xr.1) (by rw [Nat.add_mul, Nat.one_mul]; exact Nat.add_le_add h2 xr.2)
      simp only [nc1] at e
      obtain ⟨c1, q1, d1, _⟩ := id dv
      obtain ⟨c2, q2, d2, _⟩ := id da
      have o1 := dok_of d1
      have o2 := dok_of d2
      have sn : (!(vn_sni2f (xb E T).toInt32)) = true := by rw [sn_xb s4 s5]; rfl
      have s7 : S 0 1 (53 + 8 * k + 7) = (xb E T).toInt32 := by rw [Q _ (by omega), ← s2]; rfl
      have st := k_mean_s W R Q kk hd s1 s7 sn x o1 o2 fu n
      rw [st.1, st.2]
      exact e
theorem q_meanShade (W : WF a) (R : RC 1 M a) (Q : RM S a) : Q2 (f_X7_meanShade M) (f_X8_meanShade S) M S :=
  k_mean_l W R Q rfl rfl (nl a) 0 1000 0 0 FP.dconst0 (by omega) (by have := W.sc; omega) (Nat.le_refl 0) dv_0 (by rw [Nat.zero_mul]; exact Nat.le_refl 0) (by rw [Nat.zero_mul]; exact Nat.le_refl 0)
end
