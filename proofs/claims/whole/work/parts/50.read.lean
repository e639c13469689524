/-! an order is read, by both -/
section
variable {g : Nat} {M N S T : Mem} {a b : Row} {c : Nat → Int} {t p : Nat}
def TC1 (M : Mem) (t : Nat) (c : Nat → Int) : Prop := M 0 3 0 = zI t ∧ ∀ i, i < t → M 0 4 i = zI (c i)
def TR1 (S : Mem) (t : Nat) (c : Nat → Int) : Prop := S 0 0 6 = zI t ∧ ∀ i, i < t → S 0 5 i = zI (c i)
def TOk (t : Nat) (c : Nat → Int) : Prop := t ≤ 60 ∧ ∀ i, i < t → 32 ≤ c i ∧ c i ≤ 126
abbrev wn (x : Int) : Prop := x = 112 ∨ x = 100 ∨ x = 114 ∨ x = 119
abbrev dg (c : Nat → Int) (t i : Nat) : Prop := i < t ∧ 48 ≤ c i ∧ c i ≤ 57
def nd3 (c : Nat → Int) (t p : Nat) : Nat := if dg c t (p + 1) then (if dg c t (p + 1 + 1) then (if dg c t (p + 1 + 2) then 3 else 2) else 1) else 0
def fitc (c : Nat → Int) (t p : Nat) : Nat := if c p = 104 ∨ c p = 99 then 1 else if wn (c p) then 1 + nd3 c t p else 0
def cls (c : Nat → Int) (t p : Nat) : Prop := (if wn (c p) then 2 else 1) ≤ fitc c t p ∧ p + fitc c t p < t ∧ c (p + fitc c t p) = 59
def numv (c : Nat → Int) (p : Nat) : Nat → Int
  | 0 => 0
  | k + 1 => 10 * numv c p k + c (p + 1 + k) - 48
theorem nd3_le : nd3 c t p ≤ 3 := by
  unfold nd3
  (repeat' split) <;> omega
theorem nd3_dg {j : Nat} (h : j < nd3 c t p) : dg c t (p + 1 + j) := by
  unfold nd3 at h
  by_cases c0 : dg c t (p + 1)
  · rw [if_pos c0] at h
    by_cases c1 : dg c t (p + 1 + 1)
    · rw [if_pos c1] at h
      by_cases c2 : dg c t (p + 1 + 2)
      · rw [if_pos c2] at h
        rcases (by omega : j = 0 ∨ j = 1 ∨ j = 2) with rfl | rfl | rfl
        · exact c0
        · exact c1
        · exact c2
      · rw [if_neg c2] at h
        rcases (by omega : j = 0 ∨ j = 1) with rfl | rfl
        · exact c0
        · exact c1
    · rw [if_neg c1] at h
      obtain rfl : j = 0 := by omega
      exact c0
  · rw [if_neg c0] at h
    omega
theorem nd3_at {k : Nat} (hk : k ≤ 3) (h : ∀ j, j < k → dg c t (p + 1 + j)) (hn : k = 3 ∨ ¬ dg c t (p + 1 + k)) : nd3 c t p = k := by
  unfold nd3
  rcases (by omega : k = 0 ∨ k = 1 ∨ k = 2 ∨ k = 3) with rfl | rfl | rfl | rfl
  · rw [if_neg (hn.resolve_left (by omega))]
  · rw [if_pos (h 0 (by omega)), if_neg (hn.resolve_left (by omega))]
  · rw [if_pos (h 0 (by omega)), if_pos (h 1 (by omega)), if_neg (hn.resolve_left (by omega))]
  · rw [if_pos (h 0 (by omega)), if_pos (h 1 (by omega)), if_pos (h 2 (by omega))]
theorem numv_rg {k : Nat} (hk : k ≤ 3) (h : ∀ j, j < k → dg c t (p + 1 + j)) : 0 ≤ numv c p k ∧ numv c p k ≤ 999 := by
  have h0 := h 0
  have h1 := h 1
  have h2 := h 2
  rcases (by omega : k = 0 ∨ k = 1 ∨ k = 2 ∨ k = 3) with rfl | rfl | rfl | rfl
  · exact ⟨Int.le_refl _, by show (0 : Int) ≤ 999; omega⟩
  · have d0 := h0 (by omega)
    simp only [numv]
    omega
  · have d0 := h0 (by omega)
    have d1 := h1 (by omega)
    simp only [numv]
    omega
  · have d0 := h0 (by omega)
    have d1 := h1 (by omega)
    have d2 := h2 (by omega)
    simp only [numv]
    omega
theorem k_isWithNumber {x : Int} (h1 : -2147483648 ≤ x) (h2 : x < 2147483648) : f_X3_isWithNumber (zI x) M = some (zI (bP (wn x)), M) := by
  unfold f_X3_isWithNumber f_X3_isWithNumber_b24 f_X3_isWithNumber_b29
  simp (disch := omega) only [zl_0, zl_1, zl_2, zl_3, zl_4, zl_5, zl_6, zl_7, zl_8, zl_9, zl_10, zl_11, zl_12, zl_13, zl_14, zl_15, zl_16, zl_17, zl_18, zl_19, zl_20, zl_23, zl_24, zl_31, zl_32, zl_48, zl_50, zl_53, zl_57, zl_59, zl_60, zl_99, zl_100, zl_104, zl_112, zl_114, zl_119, zl_126, zl_127, zl_181, zl_200, zl_500, zl_543, zl_724, zl_999, zl_1000, zl_5000, zl_65536, zl_100000, zl_1000001, zl_1000002, zl_1000003, zl_1000004, zl_2143289344, zI_neg, zI_add, zI_sub, zI_mul, zI_le, zI_lt, zI_eq, ck_ib, ix_nat, ixz_0, ixz_1, ixz_2, ixz_3, ixz_4, ixz_5, ixz_6, ixz_7, ixz_8, ixz_9, ixz_10, ixz_11, ixz_12, ob_some, lt_of, ck_bP, bP_z, bP_o, ite_bP, Int.reduceToNat, Nat.reduceAdd, Nat.reduceMul, Int.reduceAdd, Int.reduceSub, Int.reduceMul, Int.reduceNeg, Int.reduceEq, Int.reduceLT, Int.reduceLE, ↓reduceIte, not_true_eq_false, not_false_eq_true, ck_bl0, ck_bl1]
  (repeat' split) <;> first | exact sm_f (by omega) _ | exact sm_t (by omega) _
theorem k_isDigitAt (O : TOk t c) (C : TC1 M t c) {i : Nat} (hi : i < 100) : f_X3_isDigitAt (zI i) M = some (zI (bP (dg c t i)), M) := by
  obtain ⟨o1, o2⟩ := O
  unfold f_X3_isDigitAt f_X3_isDigitAt_b28 f_X3_isDigitAt_b29
  by_cases c1 : i < t
  · have v := o2 i c1
    have e := C.2 i c1
    have n1 : ¬ ((t : Int) ≤ (i : Int)) := by omega
    by_cases d : 48 ≤ c i ∧ c i ≤ 57
    · rw [bP_t ⟨c1, d⟩]
      simp (disch := omega) only [zl_0, zl_1, zl_2, zl_3, zl_4, zl_5, zl_6, zl_7, zl_8, zl_9, zl_10, zl_11, zl_12, zl_13, zl_14, zl_15, zl_16, zl_17, zl_18, zl_19, zl_20, zl_23, zl_24, zl_31, zl_32, zl_48, zl_50, zl_53, zl_57, zl_59, zl_60, zl_99, zl_100, zl_104, zl_112, zl_114, zl_119, zl_126, zl_127, zl_181, zl_200, zl_500, zl_543, zl_724, zl_999, zl_1000, zl_5000, zl_65536, zl_100000, zl_1000001, zl_1000002, zl_1000003, zl_1000004, zl_2143289344, zI_neg, zI_add, zI_sub, zI_mul, zI_le, zI_lt, zI_eq, ck_ib, ix_nat, ixz_0, ixz_1, ixz_2, ixz_3, ixz_4, ixz_5, ixz_6, ixz_7, ixz_8, ixz_9, ixz_10, ixz_11, ixz_12, ob_some, lt_of, ck_bP, bP_z, bP_o, ite_bP, Int.reduceToNat, Nat.reduceAdd, Nat.reduceMul, Int.reduceAdd, Int.reduceSub, Int.reduceMul, Int.reduceNeg, Int.reduceEq, Int.reduceLT, Int.reduceLE, ↓reduceIte, not_true_eq_false, not_false_eq_true, C.1, n1, e, k_isIn, d, and_self, ck_bl1]
    · rw [bP_f (fun q => d q.2)]
      simp (disch := omega) only [zl_0, zl_1, zl_2, zl_3, zl_4, zl_5, zl_6, zl_7, zl_8, zl_9, zl_10, zl_11, zl_12, zl_13, zl_14, zl_15, zl_16, zl_17, zl_18, zl_19, zl_20, zl_23, zl_24, zl_31, zl_32, zl_48, zl_50, zl_53, zl_57, zl_59, zl_60, zl_99, zl_100, zl_104, zl_112, zl_114, zl_119, zl_126, zl_127, zl_181, zl_200, zl_500, zl_543, zl_724, zl_999, zl_1000, zl_5000, zl_65536, zl_100000, zl_1000001, zl_1000002, zl_1000003, zl_1000004, zl_2143289344, zI_neg, zI_add, zI_sub, zI_mul, zI_le, zI_lt, zI_eq, ck_ib, ix_nat, ixz_0, ixz_1, ixz_2, ixz_3, ixz_4, ixz_5, ixz_6, ixz_7, ixz_8, ixz_9, ixz_10, ixz_11, ixz_12, ob_some, lt_of, ck_bP, bP_z, bP_o, ite_bP, Int.reduceToNat, Nat.reduceAdd, Nat.reduceMul, Int.reduceAdd, Int.reduceSub, Int.reduceMul, Int.reduceNeg, Int.reduceEq, Int.reduceLT, Int.reduceLE, ↓reduceIte, not_true_eq_false, not_false_eq_true, C.1, n1, e, k_isIn, d, ck_bl0]
  · have n1 : ((t : Int) ≤ (i : Int)) := by omega
    rw [bP_f (fun q => c1 q.1)]
    simp (disch := omega) only [zl_0, zl_1, zl_2, zl_3, zl_4, zl_5, zl_6, zl_7, zl_8, zl_9, zl_10, zl_11, zl_12, zl_13, zl_14, zl_15, zl_16, zl_17, zl_18, zl_19, zl_20, zl_23, zl_24, zl_31, zl_32, zl_48, zl_50, zl_53, zl_57, zl_59, zl_60, zl_99, zl_100, zl_104, zl_112, zl_114, zl_119, zl_126, zl_127, zl_181, zl_200, zl_500, zl_543, zl_724, zl_999, zl_1000, zl_5000, zl_65536, zl_100000, zl_1000001, zl_1000002, zl_1000003, zl_1000004, zl_2143289344, zI_neg, zI_add, zI_sub, zI_mul, zI_le, zI_lt, zI_eq, ck_ib, ix_nat, ixz_0, ixz_1, ixz_2, ixz_3, ixz_4, ixz_5, ixz_6, ixz_7, ixz_8, ixz_9, ixz_10, ixz_11, ixz_12, ob_some, lt_of, ck_bP, bP_z, bP_o, ite_bP, Int.reduceToNat, Nat.reduceAdd, Nat.reduceMul, Int.reduceAdd, Int.reduceSub, Int.reduceMul, Int.reduceNeg, Int.reduceEq, Int.reduceLT, Int.reduceLE, ↓reduceIte, not_true_eq_false, not_false_eq_true, C.1, n1, ck_bl0]
theorem k_fit_l (O : TOk t c) (C : TC1 M t c) (hp : p < t) (h2 : M 0 3 2 = zI p) : ∀ (d k fu : Nat), k + d = 3 → d < fu → (∀ j, j < k → dg c t (p + 1 + j)) → f_X3_fittingSigns_b35 fu (zI k) M = some (zI ((1 + nd3 c t p : Nat) : Int), M) := by
  intro d
  have o1 := O.1
  induction d with
  | zero =>
    intro k fu hk hf h
    obtain ⟨fu, rfl⟩ : ∃ f, fu = f + 1 := ⟨fu - 1, by omega⟩
    obtain rfl : k = 3 := by omega
    rw [nd3_at (by omega) h (.inl rfl), f_X3_fittingSigns_b35.eq_2]
    refine (if_pos (by decide)).trans ?_
    unfold f_X3_fittingSigns_b61
    rfl
  | succ d ih =>
    intro k fu hk hf h
    obtain ⟨fu, rfl⟩ : ∃ f, fu = f + 1 := ⟨fu - 1, by omega⟩
    have c0 : ¬ ((3 : Int) ≤ (k : Int)) := by omega
    have kd := k_isDigitAt O C (i := p + 1 + k) (by omega)
    have e : ((p : Int) + 1 + k) = ((p + 1 + k : Nat) : Int) := by omega
    rw [f_X3_fittingSigns_b35.eq_2]
    by_cases q : dg c t (p + 1 + k)
    · rw [bP_t q] at kd
      have i := ih (k + 1) fu (by omega) (by omega) (fun j hj => by
        by_cases z : j = k
        · subst z; exact q
        · exact h j (by omega))
      simp only [nc1] at i
      simp (disch := omega) only [zl_0, zl_1, zl_2, zl_3, zl_4, zl_5, zl_6, zl_7, zl_8, zl_9, zl_10, zl_11, zl_12, zl_13, zl_14, zl_15, zl_16, zl_17, zl_18, zl_19, zl_20, zl_23, zl_24, zl_31, zl_32, zl_48, zl_50, zl_53, zl_57, zl_59, zl_60, zl_99, zl_100, zl_104, zl_112, zl_114, zl_119, zl_126, zl_127, zl_181, zl_200, zl_500, zl_543, zl_724, zl_999, zl_1000, zl_5000, zl_65536, zl_100000, zl_1000001, zl_1000002, zl_1000003, zl_1000004, zl_2143289344, zI_neg, zI_add, zI_sub, zI_mul, zI_le, zI_lt, zI_eq, ck_ib, ix_nat, ixz_0, ixz_1, ixz_2, ixz_3, ixz_4, ixz_5, ixz_6, ixz_7, ixz_8, ixz_9, ixz_10, ixz_11, ixz_12, ob_some, lt_of, ck_bP, bP_z, bP_o, ite_bP, Int.reduceToNat, Nat.reduceAdd, Nat.reduceMul, Int.reduceAdd, Int.reduceSub, Int.reduceMul, Int.reduceNeg, Int.reduceEq, Int.reduceLT, Int.reduceLE, ↓reduceIte, not_true_eq_false, not_false_eq_true, c0, h2, e, kd]
      exact i
    · rw [bP_f q] at kd
      have z : ((1 + k : Nat) : Int) = 1 + (k : Int) := by omega
      rw [nd3_at (by omega) h (.inr q), z]
      simp (disch := omega) only [zl_0, zl_1, zl_2, zl_3, zl_4, zl_5, zl_6, zl_7, zl_8, zl_9, zl_10, zl_11, zl_12, zl_13, zl_14, zl_15, zl_16, zl_17, zl_18, zl_19, zl_20, zl_23, zl_24, zl_31, zl_32, zl_48, zl_50, zl_53, zl_57, zl_59, zl_60, zl_99, zl_100, zl_104, zl_112, zl_114, zl_119, zl_126, zl_127, zl_181, zl_200, zl_500, zl_543, zl_724, zl_999, zl_1000, zl_5000, zl_65536, zl_100000, zl_1000001, zl_1000002, zl_1000003, zl_1000004, zl_2143289344, zI_neg, zI_add, zI_sub, zI_mul, zI_le, zI_lt, zI_eq, ck_ib, ix_nat, ixz_0, ixz_1, ixz_2, ixz_3, ixz_4, ixz_5, ixz_6, ixz_7, ixz_8, ixz_9, ixz_10, ixz_11, ixz_12, ob_some, lt_of, ck_bP, bP_z, bP_o, ite_bP, Int.reduceToNat, Nat.reduceAdd, Nat.reduceMul, Int.reduceAdd, Int.reduceSub, Int.reduceMul, Int.reduceNeg, Int.reduceEq, Int.reduceLT, Int.reduceLE, ↓reduceIte, not_true_eq_false, not_false_eq_true, c0, h2, e, kd, f_X3_fittingSigns_b61]
theorem fitc_le : fitc c t p ≤ 4 := by
  have := nd3_le (c := c) (t := t) (p := p)
  unfold fitc
  (repeat' split) <;> omega
theorem zc0 : ((0 : Nat) : Int) = 0 := rfl
theorem zc1 : ((1 : Nat) : Int) = 1 := rfl
theorem k_fit_0 (O : TOk t c) (C : TC1 M t c) (hp : p < t) (h2 : M 0 3 2 = zI p) : f_X3_fittingSigns_b35 1000 (zI 0) M = some (zI ((1 + nd3 c t p : Nat) : Int), M) := by
  have kf := k_fit_l O C hp h2 3 0 1000 (by omega) (by omega) (fun j h => absurd h (Nat.not_lt_zero j))
  rw [zc0] at kf
  exact kf
theorem k_fitting (O : TOk t c) (C : TC1 M t c) (hp : p < t) (h2 : M 0 3 2 = zI p) : f_X3_fittingSigns M = some (zI (fitc c t p), M) := by
  obtain ⟨o1, o2⟩ := id O
  have v := o2 p hp
  have e := C.2 p hp
  have kw := k_isWithNumber (M := M) (x := c p) (by omega) (by omega)
  have kf2 := k_fit_0 O C hp h2
  unfold f_X3_fittingSigns f_X3_fittingSigns_b22
  by_cases c1 : c p = 104
  · have fit : fitc c t p = 1 := by unfold fitc; rw [if_pos (.inl c1)]
    rw [fit]
    simp (disch := omega) only [zl_0, zl_1, zl_2, zl_3, zl_4, zl_5, zl_6, zl_7, zl_8, zl_9, zl_10, zl_11, zl_12, zl_13, zl_14, zl_15, zl_16, zl_17, zl_18, zl_19, zl_20, zl_23, zl_24, zl_31, zl_32, zl_48, zl_50, zl_53, zl_57, zl_59, zl_60, zl_99, zl_100, zl_104, zl_112, zl_114, zl_119, zl_126, zl_127, zl_181, zl_200, zl_500, zl_543, zl_724, zl_999, zl_1000, zl_5000, zl_65536, zl_100000, zl_1000001, zl_1000002, zl_1000003, zl_1000004, zl_2143289344, zI_neg, zI_add, zI_sub, zI_mul, zI_le, zI_lt, zI_eq, ck_ib, ix_nat, ixz_0, ixz_1, ixz_2, ixz_3, ixz_4, ixz_5, ixz_6, ixz_7, ixz_8, ixz_9, ixz_10, ixz_11, ixz_12, ob_some, lt_of, ck_bP, bP_z, bP_o, ite_bP, Int.reduceToNat, Nat.reduceAdd, Nat.reduceMul, Int.reduceAdd, Int.reduceSub, Int.reduceMul, Int.reduceNeg, Int.reduceEq, Int.reduceLT, Int.reduceLE, ↓reduceIte, not_true_eq_false, not_false_eq_true, h2, e, c1, zc1]
  · by_cases c2 : c p = 99
    · have fit : fitc c t p = 1 := by unfold fitc; rw [if_pos (.inr c2)]
      rw [fit]
      simp (disch := omega) only [zl_0, zl_1, zl_2, zl_3, zl_4, zl_5, zl_6, zl_7, zl_8, zl_9, zl_10, zl_11, zl_12, zl_13, zl_14, zl_15, zl_16, zl_17, zl_18, zl_19, zl_20, zl_23, zl_24, zl_31, zl_32, zl_48, zl_50, zl_53, zl_57, zl_59, zl_60, zl_99, zl_100, zl_104, zl_112, zl_114, zl_119, zl_126, zl_127, zl_181, zl_200, zl_500, zl_543, zl_724, zl_999, zl_1000, zl_5000, zl_65536, zl_100000, zl_1000001, zl_1000002, zl_1000003, zl_1000004, zl_2143289344, zI_neg, zI_add, zI_sub, zI_mul, zI_le, zI_lt, zI_eq, ck_ib, ix_nat, ixz_0, ixz_1, ixz_2, ixz_3, ixz_4, ixz_5, ixz_6, ixz_7, ixz_8, ixz_9, ixz_10, ixz_11, ixz_12, ob_some, lt_of, ck_bP, bP_z, bP_o, ite_bP, Int.reduceToNat, Nat.reduceAdd, Nat.reduceMul, Int.reduceAdd, Int.reduceSub, Int.reduceMul, Int.reduceNeg, Int.reduceEq, Int.reduceLT, Int.reduceLE, ↓reduceIte, not_true_eq_false, not_false_eq_true, h2, e, c2, zc1]
    · by_cases c3 : wn (c p)
      · rw [bP_t c3] at kw
        have fit : fitc c t p = 1 + nd3 c t p := by unfold fitc; rw [if_neg (fun q => q.elim c1 c2), if_pos c3]
        rw [fit]
        have n1 : ¬ (zI (c p) = 104) := by rw [zl_104, zI_eq (by omega) (by omega) (by omega) (by omega)]; exact c1
        have n2 : ¬ (zI (c p) = 99) := by rw [zl_99, zI_eq (by omega) (by omega) (by omega) (by omega)]; exact c2
        generalize zI ((1 + nd3 c t p : Nat) : Int) = r at kf2
        rw [h2, ck_ib (by omega) (by omega) (by omega), ix_nat (by omega), e, lt_of, if_neg n1, if_neg n2, ob_of kw, if_neg (show ¬ (zI 1 = 0) by decide), zl_0]
        exact kf2
      · rw [bP_f c3] at kw
        have fit : fitc c t p = 0 := by unfold fitc; rw [if_neg (fun q => q.elim c1 c2), if_neg c3]
        rw [fit]
        simp (disch := omega) only [zl_0, zl_1, zl_2, zl_3, zl_4, zl_5, zl_6, zl_7, zl_8, zl_9, zl_10, zl_11, zl_12, zl_13, zl_14, zl_15, zl_16, zl_17, zl_18, zl_19, zl_20, zl_23, zl_24, zl_31, zl_32, zl_48, zl_50, zl_53, zl_57, zl_59, zl_60, zl_99, zl_100, zl_104, zl_112, zl_114, zl_119, zl_126, zl_127, zl_181, zl_200, zl_500, zl_543, zl_724, zl_999, zl_1000, zl_5000, zl_65536, zl_100000, zl_1000001, zl_1000002, zl_1000003, zl_1000004, zl_2143289344, zI_neg, zI_add, zI_sub, zI_mul, zI_le, zI_lt, zI_eq, ck_ib, ix_nat, ixz_0, ixz_1, ixz_2, ixz_3, ixz_4, ixz_5, ixz_6, ixz_7, ixz_8, ixz_9, ixz_10, ixz_11, ixz_12, ob_some, lt_of, ck_bP, bP_z, bP_o, ite_bP, Int.reduceToNat, Nat.reduceAdd, Nat.reduceMul, Int.reduceAdd, Int.reduceSub, Int.reduceMul, Int.reduceNeg, Int.reduceEq, Int.reduceLT, Int.reduceLE, ↓reduceIte, not_true_eq_false, not_false_eq_true, h2, e, c1, c2, kw, zc0]
theorem k_closed (O : TOk t c) (C : TC1 M t c) (hp : p < t) (h2 : M 0 3 2 = zI p) : f_X3_isClosedBehind (zI (fitc c t p)) M = some (zI (bP (cls c t p)), M) := by
  obtain ⟨o1, o2⟩ := id O
  have v := o2 p hp
  have e := C.2 p hp
  have fl := fitc_le (c := c) (t := t) (p := p)
  have kw := k_isWithNumber (M := M) (x := c p) (by omega) (by omega)
  have key : ∀ s : Int, s = (if wn (c p) then 2 else 1 : Nat) → f_X3_isClosedBehind_b20 (zI (fitc c t p)) (zI s) M = some (zI (bP (cls c t p)), M) := by
    intro s hs
    unfold f_X3_isClosedBehind_b20 f_X3_isClosedBehind_b56 f_X3_isClosedBehind_b57
    have ei : ((p : Int) + (fitc c t p : Nat)) = ((p + fitc c t p : Nat) : Int) := by omega
    have sr : 1 ≤ s ∧ s ≤ 2 := by rw [hs]; split <;> omega
    by_cases d1 : (fitc c t p : Int) < s
    · rw [bP_f (fun q => by have := q.1; omega)]
      simp (disch := omega) only [zl_0, zl_1, zl_2, zl_3, zl_4, zl_5, zl_6, zl_7, zl_8, zl_9, zl_10, zl_11, zl_12, zl_13, zl_14, zl_15, zl_16, zl_17, zl_18, zl_19, zl_20, zl_23, zl_24, zl_31, zl_32, zl_48, zl_50, zl_53, zl_57, zl_59, zl_60, zl_99, zl_100, zl_104, zl_112, zl_114, zl_119, zl_126, zl_127, zl_181, zl_200, zl_500, zl_543, zl_724, zl_999, zl_1000, zl_5000, zl_65536, zl_100000, zl_1000001, zl_1000002, zl_1000003, zl_1000004, zl_2143289344, zI_neg, zI_add, zI_sub, zI_mul, zI_le, zI_lt, zI_eq, ck_ib, ix_nat, ixz_0, ixz_1, ixz_2, ixz_3, ixz_4, ixz_5, ixz_6, ixz_7, ixz_8, ixz_9, ixz_10, ixz_11, ixz_12, ob_some, lt_of, ck_bP, bP_z, bP_o, ite_bP, Int.reduceToNat, Nat.reduceAdd, Nat.reduceMul, Int.reduceAdd, Int.reduceSub, Int.reduceMul, Int.reduceNeg, Int.reduceEq, Int.reduceLT, Int.reduceLE, ↓reduceIte, not_true_eq_false, not_false_eq_true, h2, C.1, ei, d1, ck_bl0]
    · by_cases d2 : (t : Int) ≤ ((p + fitc c t p : Nat) : Int)
      · rw [bP_f (fun q => by have := q.2.1; omega)]
        simp (disch := omega) only [zl_0, zl_1, zl_2, zl_3, zl_4, zl_5, zl_6, zl_7, zl_8, zl_9, zl_10, zl_11, zl_12, zl_13, zl_14, zl_15, zl_16, zl_17, zl_18, zl_19, zl_20, zl_23, zl_24, zl_31, zl_32, zl_48, zl_50, zl_53, zl_57, zl_59, zl_60, zl_99, zl_100, zl_104, zl_112, zl_114, zl_119, zl_126, zl_127, zl_181, zl_200, zl_500, zl_543, zl_724, zl_999, zl_1000, zl_5000, zl_65536, zl_100000, zl_1000001, zl_1000002, zl_1000003, zl_1000004, zl_2143289344, zI_neg, zI_add, zI_sub, zI_mul, zI_le, zI_lt, zI_eq, ck_ib, ix_nat, ixz_0, ixz_1, ixz_2, ixz_3, ixz_4, ixz_5, ixz_6, ixz_7, ixz_8, ixz_9, ixz_10, ixz_11, ixz_12, ob_some, lt_of, ck_bP, bP_z, bP_o, ite_bP, Int.reduceToNat, Nat.reduceAdd, Nat.reduceMul, Int.reduceAdd, Int.reduceSub, Int.reduceMul, Int.reduceNeg, Int.reduceEq, Int.reduceLT, Int.reduceLE, ↓reduceIte, not_true_eq_false, not_false_eq_true, h2, C.1, ei, d1, d2, ck_bl0]
      · have ef := C.2 (p + fitc c t p) (by omega)
        have vf := o2 (p + fitc c t p) (by omega)
        by_cases d3 : c (p + fitc c t p) = 59
        · rw [bP_t ⟨by omega, by omega, d3⟩]
          simp (disch := omega) only [zl_0, zl_1, zl_2, zl_3, zl_4, zl_5, zl_6, zl_7, zl_8, zl_9, zl_10, zl_11, zl_12, zl_13, zl_14, zl_15, zl_16, zl_17, zl_18, zl_19, zl_20, zl_23, zl_24, zl_31, zl_32, zl_48, zl_50, zl_53, zl_57, zl_59, zl_60, zl_99, zl_100, zl_104, zl_112, zl_114, zl_119, zl_126, zl_127, zl_181, zl_200, zl_500, zl_543, zl_724, zl_999, zl_1000, zl_5000, zl_65536, zl_100000, zl_1000001, zl_1000002, zl_1000003, zl_1000004, zl_2143289344, zI_neg, zI_add, zI_sub, zI_mul, zI_le, zI_lt, zI_eq, ck_ib, ix_nat, ixz_0, ixz_1, ixz_2, ixz_3, ixz_4, ixz_5, ixz_6, ixz_7, ixz_8, ixz_9, ixz_10, ixz_11, ixz_12, ob_some, lt_of, ck_bP, bP_z, bP_o, ite_bP, Int.reduceToNat, Nat.reduceAdd, Nat.reduceMul, Int.reduceAdd, Int.reduceSub, Int.reduceMul, Int.reduceNeg, Int.reduceEq, Int.reduceLT, Int.reduceLE, ↓reduceIte, not_true_eq_false, not_false_eq_true, h2, C.1, ei, d1, d2, ef, d3, ck_bl1]
        · rw [bP_f (fun q => d3 q.2.2)]
          simp (disch := omega) only [zl_0, zl_1, zl_2, zl_3, zl_4, zl_5, zl_6, zl_7, zl_8, zl_9, zl_10, zl_11, zl_12, zl_13, zl_14, zl_15, zl_16, zl_17, zl_18, zl_19, zl_20, zl_23, zl_24, zl_31, zl_32, zl_48, zl_50, zl_53, zl_57, zl_59, zl_60, zl_99, zl_100, zl_104, zl_112, zl_114, zl_119, zl_126, zl_127, zl_181, zl_200, zl_500, zl_543, zl_724, zl_999, zl_1000, zl_5000, zl_65536, zl_100000, zl_1000001, zl_1000002, zl_1000003, zl_1000004, zl_2143289344, zI_neg, zI_add, zI_sub, zI_mul, zI_le, zI_lt, zI_eq, ck_ib, ix_nat, ixz_0, ixz_1, ixz_2, ixz_3, ixz_4, ixz_5, ixz_6, ixz_7, ixz_8, ixz_9, ixz_10, ixz_11, ixz_12, ob_some, lt_of, ck_bP, bP_z, bP_o, ite_bP, Int.reduceToNat, Nat.reduceAdd, Nat.reduceMul, Int.reduceAdd, Int.reduceSub, Int.reduceMul, Int.reduceNeg, Int.reduceEq, Int.reduceLT, Int.reduceLE, ↓reduceIte, not_true_eq_false, not_false_eq_true, h2, C.1, ei, d1, d2, ef, d3, ck_bl0]
  unfold f_X3_isClosedBehind
  by_cases c3 : wn (c p)
  · have k2 := key 2 (by rw [if_pos c3]; rfl)
    rw [bP_t c3] at kw
    simp (disch := omega) only [zl_0, zl_1, zl_2, zl_3, zl_4, zl_5, zl_6, zl_7, zl_8, zl_9, zl_10, zl_11, zl_12, zl_13, zl_14, zl_15, zl_16, zl_17, zl_18, zl_19, zl_20, zl_23, zl_24, zl_31, zl_32, zl_48, zl_50, zl_53, zl_57, zl_59, zl_60, zl_99, zl_100, zl_104, zl_112, zl_114, zl_119, zl_126, zl_127, zl_181, zl_200, zl_500, zl_543, zl_724, zl_999, zl_1000, zl_5000, zl_65536, zl_100000, zl_1000001, zl_1000002, zl_1000003, zl_1000004, zl_2143289344, zI_neg, zI_add, zI_sub, zI_mul, zI_le, zI_lt, zI_eq, ck_ib, ix_nat, ixz_0, ixz_1, ixz_2, ixz_3, ixz_4, ixz_5, ixz_6, ixz_7, ixz_8, ixz_9, ixz_10, ixz_11, ixz_12, ob_some, lt_of, ck_bP, bP_z, bP_o, ite_bP, Int.reduceToNat, Nat.reduceAdd, Nat.reduceMul, Int.reduceAdd, Int.reduceSub, Int.reduceMul, Int.reduceNeg, Int.reduceEq, Int.reduceLT, Int.reduceLE, ↓reduceIte, not_true_eq_false, not_false_eq_true, h2, e, kw]
    exact k2
  · have k2 := key 1 (by rw [if_neg c3]; rfl)
    rw [bP_f c3] at kw
    simp (disch := omega) only [zl_0, zl_1, zl_2, zl_3, zl_4, zl_5, zl_6, zl_7, zl_8, zl_9, zl_10, zl_11, zl_12, zl_13, zl_14, zl_15, zl_16, zl_17, zl_18, zl_19, zl_20, zl_23, zl_24, zl_31, zl_32, zl_48, zl_50, zl_53, zl_57, zl_59, zl_60, zl_99, zl_100, zl_104, zl_112, zl_114, zl_119, zl_126, zl_127, zl_181, zl_200, zl_500, zl_543, zl_724, zl_999, zl_1000, zl_5000, zl_65536, zl_100000, zl_1000001, zl_1000002, zl_1000003, zl_1000004, zl_2143289344, zI_neg, zI_add, zI_sub, zI_mul, zI_le, zI_lt, zI_eq, ck_ib, ix_nat, ixz_0, ixz_1, ixz_2, ixz_3, ixz_4, ixz_5, ixz_6, ixz_7, ixz_8, ixz_9, ixz_10, ixz_11, ixz_12, ob_some, lt_of, ck_bP, bP_z, bP_o, ite_bP, Int.reduceToNat, Nat.reduceAdd, Nat.reduceMul, Int.reduceAdd, Int.reduceSub, Int.reduceMul, Int.reduceNeg, Int.reduceEq, Int.reduceLT, Int.reduceLE, ↓reduceIte, not_true_eq_false, not_false_eq_true, h2, e, kw]
    exact k2
theorem k_num_l (O : TOk t c) (C : TC1 M t c) (h2 : M 0 3 2 = zI p) {f : Nat} (hf4 : f ≤ 3) (hpf : p + 1 + f ≤ t) : ∀ (d k fu : Nat), k + d = f → d < fu → f_X3_numberOf_b9 fu (zI ((f + 1 : Nat) : Int)) (zI (numv c p k)) (zI ((p + 1 + k : Nat) : Int)) M = some (zI (numv c p f), M) := by
  intro d
  obtain ⟨o1, o2⟩ := id O
  induction d with
  | zero =>
    intro k fu hk hf
    obtain ⟨fu, rfl⟩ : ∃ f, fu = f + 1 := ⟨fu - 1, by omega⟩
    obtain rfl : k = f := by omega
    have ei : ((p : Int) + ((k + 1 : Nat) : Int)) = ((p + 1 + k : Nat) : Int) := by omega
    rw [f_X3_numberOf_b9.eq_2]
    simp (disch := omega) only [zl_0, zl_1, zl_2, zl_3, zl_4, zl_5, zl_6, zl_7, zl_8, zl_9, zl_10, zl_11, zl_12, zl_13, zl_14, zl_15, zl_16, zl_17, zl_18, zl_19, zl_20, zl_23, zl_24, zl_31, zl_32, zl_48, zl_50, zl_53, zl_57, zl_59, zl_60, zl_99, zl_100, zl_104, zl_112, zl_114, zl_119, zl_126, zl_127, zl_181, zl_200, zl_500, zl_543, zl_724, zl_999, zl_1000, zl_5000, zl_65536, zl_100000, zl_1000001, zl_1000002, zl_1000003, zl_1000004, zl_2143289344, zI_neg, zI_add, zI_sub, zI_mul, zI_le, zI_lt, zI_eq, ck_ib, ix_nat, ixz_0, ixz_1, ixz_2, ixz_3, ixz_4, ixz_5, ixz_6, ixz_7, ixz_8, ixz_9, ixz_10, ixz_11, ixz_12, ob_some, lt_of, ck_bP, bP_z, bP_o, ite_bP, Int.reduceToNat, Nat.reduceAdd, Nat.reduceMul, Int.reduceAdd, Int.reduceSub, Int.reduceMul, Int.reduceNeg, Int.reduceEq, Int.reduceLT, Int.reduceLE, ↓reduceIte, not_true_eq_false, not_false_eq_true, h2, ei, Int.le_refl]
  | succ d ih =>
    intro k fu hk hf
    obtain ⟨fu, rfl⟩ : ∃ f, fu = f + 1 := ⟨fu - 1, by omega⟩
    have c0 : ¬ ((p : Int) + ((f + 1 : Nat) : Int) ≤ ((p + 1 + k : Nat) : Int)) := by omega
    have e := C.2 (p + 1 + k) (by omega)
    have i := ih (k + 1) fu (by omega) (by omega)
    have ei : (((p + 1 + k : Nat) : Int) + 1) = ((p + 1 + (k + 1) : Nat) : Int) := by omega
    rw [f_X3_numberOf_b9.eq_2]
    simp (disch := omega) only [zl_0, zl_1, zl_2, zl_3, zl_4, zl_5, zl_6, zl_7, zl_8, zl_9, zl_10, zl_11, zl_12, zl_13, zl_14, zl_15, zl_16, zl_17, zl_18, zl_19, zl_20, zl_23, zl_24, zl_31, zl_32, zl_48, zl_50, zl_53, zl_57, zl_59, zl_60, zl_99, zl_100, zl_104, zl_112, zl_114, zl_119, zl_126, zl_127, zl_181, zl_200, zl_500, zl_543, zl_724, zl_999, zl_1000, zl_5000, zl_65536, zl_100000, zl_1000001, zl_1000002, zl_1000003, zl_1000004, zl_2143289344, zI_neg, zI_add, zI_sub, zI_mul, zI_le, zI_lt, zI_eq, ck_ib, ix_nat, ixz_0, ixz_1, ixz_2, ixz_3, ixz_4, ixz_5, ixz_6, ixz_7, ixz_8, ixz_9, ixz_10, ixz_11, ixz_12, ob_some, lt_of, ck_bP, bP_z, bP_o, ite_bP, Int.reduceToNat, Nat.reduceAdd, Nat.reduceMul, Int.reduceAdd, Int.reduceSub, Int.reduceMul, Int.reduceNeg, Int.reduceEq, Int.reduceLT, Int.reduceLE, ↓reduceIte, not_true_eq_false, not_false_eq_true, h2, c0, e, ei]
    exact i
theorem k_numberOf (O : TOk t c) (C : TC1 M t c) (h2 : M 0 3 2 = zI p) {f : Nat} (hf4 : f ≤ 3) (hpf : p + 1 + f ≤ t) : f_X3_numberOf (zI ((f + 1 : Nat) : Int)) M = some (zI (numv c p f), M) := by
  have k := k_num_l O C h2 hf4 hpf f 0 1000 (by omega) (by omega)
  unfold f_X3_numberOf
  rw [h2, zl_1, zI_add, lt_of]
  exact k
/-! the reference -/
theorem k_sign (O : TOk t c) (C : TR1 S t c) (hp : p < 100) (h7 : S 0 0 7 = zI p) : f_X8_sign S = some (zI (if p < t then c p else -1), S) := by
  obtain ⟨o1, o2⟩ := id O
  unfold f_X8_sign f_X8_sign_b24
  by_cases d : p < t
  · have e := C.2 p d
    have n1 : ¬ ((t : Int) ≤ (p : Int)) := by omega
    rw [if_pos d]
    simp (disch := omega) only [zl_0, zl_1, zl_2, zl_3, zl_4, zl_5, zl_6, zl_7, zl_8, zl_9, zl_10, zl_11, zl_12, zl_13, zl_14, zl_15, zl_16, zl_17, zl_18, zl_19, zl_20, zl_23, zl_24, zl_31, zl_32, zl_48, zl_50, zl_53, zl_57, zl_59, zl_60, zl_99, zl_100, zl_104, zl_112, zl_114, zl_119, zl_126, zl_127, zl_181, zl_200, zl_500, zl_543, zl_724, zl_999, zl_1000, zl_5000, zl_65536, zl_100000, zl_1000001, zl_1000002, zl_1000003, zl_1000004, zl_2143289344, zI_neg, zI_add, zI_sub, zI_mul, zI_le, zI_lt, zI_eq, ck_ib, ix_nat, ixz_0, ixz_1, ixz_2, ixz_3, ixz_4, ixz_5, ixz_6, ixz_7, ixz_8, ixz_9, ixz_10, ixz_11, ixz_12, ob_some, lt_of, ck_bP, bP_z, bP_o, ite_bP, Int.reduceToNat, Nat.reduceAdd, Nat.reduceMul, Int.reduceAdd, Int.reduceSub, Int.reduceMul, Int.reduceNeg, Int.reduceEq, Int.reduceLT, Int.reduceLE, ↓reduceIte, not_true_eq_false, not_false_eq_true, C.1, h7, n1, e]
  · have n1 : ((t : Int) ≤ (p : Int)) := by omega
    rw [if_neg d]
    simp (disch := omega) only [zl_0, zl_1, zl_2, zl_3, zl_4, zl_5, zl_6, zl_7, zl_8, zl_9, zl_10, zl_11, zl_12, zl_13, zl_14, zl_15, zl_16, zl_17, zl_18, zl_19, zl_20, zl_23, zl_24, zl_31, zl_32, zl_48, zl_50, zl_53, zl_57, zl_59, zl_60, zl_99, zl_100, zl_104, zl_112, zl_114, zl_119, zl_126, zl_127, zl_181, zl_200, zl_500, zl_543, zl_724, zl_999, zl_1000, zl_5000, zl_65536, zl_100000, zl_1000001, zl_1000002, zl_1000003, zl_1000004, zl_2143289344, zI_neg, zI_add, zI_sub, zI_mul, zI_le, zI_lt, zI_eq, ck_ib, ix_nat, ixz_0, ixz_1, ixz_2, ixz_3, ixz_4, ixz_5, ixz_6, ixz_7, ixz_8, ixz_9, ixz_10, ixz_11, ixz_12, ob_some, lt_of, ck_bP, bP_z, bP_o, ite_bP, Int.reduceToNat, Nat.reduceAdd, Nat.reduceMul, Int.reduceAdd, Int.reduceSub, Int.reduceMul, Int.reduceNeg, Int.reduceEq, Int.reduceLT, Int.reduceLE, ↓reduceIte, not_true_eq_false, not_false_eq_true, C.1, h7, n1]
/-- only the reader's own fields differ -/
def RF (c : Nat → Int) (p : Nat) (S T : Mem) (k : Nat) : Prop := T 0 0 7 = zI ((p + 1 + k : Nat) : Int) ∧ T 0 0 8 = zI (numv c p k) ∧ (∀ j, j ≠ 7 → j ≠ 8 → T 0 0 j = S 0 0 j) ∧ ∀ h i, ¬ (h = 0 ∧ i = 0) → T h i = S h i
theorem RF.tr1 {k : Nat} (h : RF c p S T k) (C : TR1 S t c) : TR1 T t c := ⟨by rw [h.2.2.1 6 (by omega) (by omega)]; exact C.1, fun i hi => by rw [h.2.2.2 0 5 (by omega)]; exact C.2 i hi⟩
theorem k_rd_l (O : TOk t c) (C : TR1 S t c) (hp : p < t) : ∀ (d k fu : Nat) (T : Mem), k + d = 3 → d < fu → (∀ j, j < k → dg c t (p + 1 + j)) → RF c p S T k → ∃ V, f_X8_readsForm_b73 fu (zI 0) (zI ((p + 1 : Nat) : Int)) T = f_X8_readsForm_b133 (zI 0) (zI ((p + 1 : Nat) : Int)) V ∧ RF c p S V (nd3 c t p) := by
  intro d
  obtain ⟨o1, o2⟩ := id O
  induction d with
  | zero =>
    intro k fu T hk hf h hT
    obtain ⟨fu, rfl⟩ : ∃ f, fu = f + 1 := ⟨fu - 1, by omega⟩
    obtain rfl : k = 3 := by omega
    have z := nd3_at (c := c) (t := t) (p := p) (by omega) h (.inl rfl)
    refine ⟨T, ?_, by rw [z]; exact hT⟩
    have c0 : (((p + 1 : Nat) : Int) + 3 ≤ ((p + 1 + 3 : Nat) : Int)) := by omega
    rw [f_X8_readsForm_b73.eq_2]
    simp (disch := omega) only [zl_0, zl_1, zl_2, zl_3, zl_4, zl_5, zl_6, zl_7, zl_8, zl_9, zl_10, zl_11, zl_12, zl_13, zl_14, zl_15, zl_16, zl_17, zl_18, zl_19, zl_20, zl_23, zl_24, zl_31, zl_32, zl_48, zl_50, zl_53, zl_57, zl_59, zl_60, zl_99, zl_100, zl_104, zl_112, zl_114, zl_119, zl_126, zl_127, zl_181, zl_200, zl_500, zl_543, zl_724, zl_999, zl_1000, zl_5000, zl_65536, zl_100000, zl_1000001, zl_1000002, zl_1000003, zl_1000004, zl_2143289344, zI_neg, zI_add, zI_sub, zI_mul, zI_le, zI_lt, zI_eq, ck_ib, ix_nat, ixz_0, ixz_1, ixz_2, ixz_3, ixz_4, ixz_5, ixz_6, ixz_7, ixz_8, ixz_9, ixz_10, ixz_11, ixz_12, ob_some, lt_of, ck_bP, bP_z, bP_o, ite_bP, Int.reduceToNat, Nat.reduceAdd, Nat.reduceMul, Int.reduceAdd, Int.reduceSub, Int.reduceMul, Int.reduceNeg, Int.reduceEq, Int.reduceLT, Int.reduceLE, ↓reduceIte, not_true_eq_false, not_false_eq_true, hT.1, c0]
  | succ d ih =>
    intro k fu T hk hf h hT
    obtain ⟨fu, rfl⟩ : ∃ f, fu = f + 1 := ⟨fu - 1, by omega⟩
    have c0 : ¬ (((p + 1 : Nat) : Int) + 3 ≤ ((p + 1 + k : Nat) : Int)) := by omega
    have ks := k_sign O (hT.tr1 C) (p := p + 1 + k) (by omega) hT.1
    have ei : (((p + 1 + k : Nat) : Int) + 1) = ((p + 1 + (k + 1) : Nat) : Int) := by omega
    rw [f_X8_readsForm_b73.eq_2]
    by_cases q : dg c t (p + 1 + k)
    · have q2 : 48 ≤ c (p + 1 + k) ∧ c (p + 1 + k) ≤ 57 := q.2
      rw [if_pos q.1] at ks
      obtain ⟨V, v1, v2⟩ := ih (k + 1) fu (up3 (up3 T 0 0 8 (zI (numv c p (k + 1)))) 0 0 7 (zI ((p + 1 + (k + 1) : Nat) : Int))) (by omega) (by omega) (fun j hj => by
        by_cases z : j = k
        · subst z; exact q
        · exact h j (by omega)) ⟨up3_at _ _ _ _ _, by rw [up3_slot _ _ (by omega), up3_at], fun j h7 h8 => by rw [up3_slot _ _ h7, up3_slot _ _ h8]; exact hT.2.2.1 j h7 h8, fun h i z => by rw [up3_cell _ _ (by omega), up3_cell _ _ (by omega)]; exact hT.2.2.2 h i z⟩
      refine ⟨V, ?_, v2⟩
      rw [← v1]
      have e8 : (10 * numv c p k + c (p + 1 + k) - 48) = numv c p (k + 1) := rfl
      have r := hT.2.1
      simp (disch := omega) only [zl_0, zl_1, zl_2, zl_3, zl_4, zl_5, zl_6, zl_7, zl_8, zl_9, zl_10, zl_11, zl_12, zl_13, zl_14, zl_15, zl_16, zl_17, zl_18, zl_19, zl_20, zl_23, zl_24, zl_31, zl_32, zl_48, zl_50, zl_53, zl_57, zl_59, zl_60, zl_99, zl_100, zl_104, zl_112, zl_114, zl_119, zl_126, zl_127, zl_181, zl_200, zl_500, zl_543, zl_724, zl_999, zl_1000, zl_5000, zl_65536, zl_100000, zl_1000001, zl_1000002, zl_1000003, zl_1000004, zl_2143289344, zI_neg, zI_add, zI_sub, zI_mul, zI_le, zI_lt, zI_eq, ck_ib, ix_nat, ixz_0, ixz_1, ixz_2, ixz_3, ixz_4, ixz_5, ixz_6, ixz_7, ixz_8, ixz_9, ixz_10, ixz_11, ixz_12, ob_some, lt_of, ck_bP, bP_z, bP_o, ite_bP, Int.reduceToNat, Nat.reduceAdd, Nat.reduceMul, Int.reduceAdd, Int.reduceSub, Int.reduceMul, Int.reduceNeg, Int.reduceEq, Int.reduceLT, Int.reduceLE, ↓reduceIte, not_true_eq_false, not_false_eq_true, hT.1, c0, ks, k_in, q2, and_self, r, e8, up3_slot, ei]
    · have z := nd3_at (c := c) (t := t) (p := p) (by omega) h (.inr q)
      refine ⟨T, ?_, by rw [z]; exact hT⟩
      by_cases q1 : p + 1 + k < t
      · have vv := o2 _ q1
        rw [if_pos q1] at ks
        have q2 : ¬ (48 ≤ c (p + 1 + k) ∧ c (p + 1 + k) ≤ 57) := fun t => q ⟨q1, t⟩
        simp (disch := omega) only [zl_0, zl_1, zl_2, zl_3, zl_4, zl_5, zl_6, zl_7, zl_8, zl_9, zl_10, zl_11, zl_12, zl_13, zl_14, zl_15, zl_16, zl_17, zl_18, zl_19, zl_20, zl_23, zl_24, zl_31, zl_32, zl_48, zl_50, zl_53, zl_57, zl_59, zl_60, zl_99, zl_100, zl_104, zl_112, zl_114, zl_119, zl_126, zl_127, zl_181, zl_200, zl_500, zl_543, zl_724, zl_999, zl_1000, zl_5000, zl_65536, zl_100000, zl_1000001, zl_1000002, zl_1000003, zl_1000004, zl_2143289344, zI_neg, zI_add, zI_sub, zI_mul, zI_le, zI_lt, zI_eq, ck_ib, ix_nat, ixz_0, ixz_1, ixz_2, ixz_3, ixz_4, ixz_5, ixz_6, ixz_7, ixz_8, ixz_9, ixz_10, ixz_11, ixz_12, ob_some, lt_of, ck_bP, bP_z, bP_o, ite_bP, Int.reduceToNat, Nat.reduceAdd, Nat.reduceMul, Int.reduceAdd, Int.reduceSub, Int.reduceMul, Int.reduceNeg, Int.reduceEq, Int.reduceLT, Int.reduceLE, ↓reduceIte, not_true_eq_false, not_false_eq_true, hT.1, c0, ks, k_in, q2]
      · rw [if_neg q1] at ks
        simp (disch := omega) only [zl_0, zl_1, zl_2, zl_3, zl_4, zl_5, zl_6, zl_7, zl_8, zl_9, zl_10, zl_11, zl_12, zl_13, zl_14, zl_15, zl_16, zl_17, zl_18, zl_19, zl_20, zl_23, zl_24, zl_31, zl_32, zl_48, zl_50, zl_53, zl_57, zl_59, zl_60, zl_99, zl_100, zl_104, zl_112, zl_114, zl_119, zl_126, zl_127, zl_181, zl_200, zl_500, zl_543, zl_724, zl_999, zl_1000, zl_5000, zl_65536, zl_100000, zl_1000001, zl_1000002, zl_1000003, zl_1000004, zl_2143289344, zI_neg, zI_add, zI_sub, zI_mul, zI_le, zI_lt, zI_eq, ck_ib, ix_nat, ixz_0, ixz_1, ixz_2, ixz_3, ixz_4, ixz_5, ixz_6, ixz_7, ixz_8, ixz_9, ixz_10, ixz_11, ixz_12, ob_some, lt_of, ck_bP, bP_z, bP_o, ite_bP, Int.reduceToNat, Nat.reduceAdd, Nat.reduceMul, Int.reduceAdd, Int.reduceSub, Int.reduceMul, Int.reduceNeg, Int.reduceEq, Int.reduceLT, Int.reduceLE, ↓reduceIte, not_true_eq_false, not_false_eq_true, hT.1, c0, ks, k_in, false_and]
/-- the end of the reading -/
theorem k_rd_e (O : TOk t c) (C : TR1 S t c) {k : Nat} (hk : k ≤ 3) (hp : p < t) (hT : RF c p S T k) : ∃ V, f_X8_readsForm_b145 T = some (zI (bP (p + 1 + k < t ∧ c (p + 1 + k) = 59)), V) ∧ V 0 0 7 = zI ((p + 1 + k : Nat) + bP (p + 1 + k < t ∧ c (p + 1 + k) = 59)) ∧ V 0 0 8 = zI (numv c p k) ∧ (∀ j, j ≠ 7 → j ≠ 8 → V 0 0 j = S 0 0 j) ∧ ∀ h i, ¬ (h = 0 ∧ i = 0) → V h i = S h i := by
  obtain ⟨o1, o2⟩ := id O
  have ks := k_sign O (hT.tr1 C) (p := p + 1 + k) (by omega) hT.1
  obtain ⟨t1, t2, t3, t4⟩ := hT
  unfold f_X8_readsForm_b145 f_X8_readsForm_b154
  by_cases q1 : p + 1 + k < t
  · have vv := o2 _ q1
    rw [if_pos q1] at ks
    by_cases q2 : c (p + 1 + k) = 59
    · rw [bP_t ⟨q1, q2⟩]
      refine ⟨up3 T 0 0 7 (zI (((p + 1 + k : Nat) : Int) + 1)), ?_, up3_at _ _ _ _ _, by rw [up3_slot _ _ (by omega)]; exact t2, fun j h7 h8 => by rw [up3_slot _ _ h7]; exact t3 j h7 h8, fun h i z => by rw [up3_cell _ _ (by omega)]; exact t4 h i z⟩
      simp (disch := omega) only [zl_0, zl_1, zl_2, zl_3, zl_4, zl_5, zl_6, zl_7, zl_8, zl_9, zl_10, zl_11, zl_12, zl_13, zl_14, zl_15, zl_16, zl_17, zl_18, zl_19, zl_20, zl_23, zl_24, zl_31, zl_32, zl_48, zl_50, zl_53, zl_57, zl_59, zl_60, zl_99, zl_100, zl_104, zl_112, zl_114, zl_119, zl_126, zl_127, zl_181, zl_200, zl_500, zl_543, zl_724, zl_999, zl_1000, zl_5000, zl_65536, zl_100000, zl_1000001, zl_1000002, zl_1000003, zl_1000004, zl_2143289344, zI_neg, zI_add, zI_sub, zI_mul, zI_le, zI_lt, zI_eq, ck_ib, ix_nat, ixz_0, ixz_1, ixz_2, ixz_3, ixz_4, ixz_5, ixz_6, ixz_7, ixz_8, ixz_9, ixz_10, ixz_11, ixz_12, ob_some, lt_of, ck_bP, bP_z, bP_o, ite_bP, Int.reduceToNat, Nat.reduceAdd, Nat.reduceMul, Int.reduceAdd, Int.reduceSub, Int.reduceMul, Int.reduceNeg, Int.reduceEq, Int.reduceLT, Int.reduceLE, ↓reduceIte, not_true_eq_false, not_false_eq_true, ks, q2, t1]
    · rw [bP_f (fun z => q2 z.2)]
      refine ⟨T, ?_, by rw [t1, Int.add_zero], t2, t3, t4⟩
      simp (disch := omega) only [zl_0, zl_1, zl_2, zl_3, zl_4, zl_5, zl_6, zl_7, zl_8, zl_9, zl_10, zl_11, zl_12, zl_13, zl_14, zl_15, zl_16, zl_17, zl_18, zl_19, zl_20, zl_23, zl_24, zl_31, zl_32, zl_48, zl_50, zl_53, zl_57, zl_59, zl_60, zl_99, zl_100, zl_104, zl_112, zl_114, zl_119, zl_126, zl_127, zl_181, zl_200, zl_500, zl_543, zl_724, zl_999, zl_1000, zl_5000, zl_65536, zl_100000, zl_1000001, zl_1000002, zl_1000003, zl_1000004, zl_2143289344, zI_neg, zI_add, zI_sub, zI_mul, zI_le, zI_lt, zI_eq, ck_ib, ix_nat, ixz_0, ixz_1, ixz_2, ixz_3, ixz_4, ixz_5, ixz_6, ixz_7, ixz_8, ixz_9, ixz_10, ixz_11, ixz_12, ob_some, lt_of, ck_bP, bP_z, bP_o, ite_bP, Int.reduceToNat, Nat.reduceAdd, Nat.reduceMul, Int.reduceAdd, Int.reduceSub, Int.reduceMul, Int.reduceNeg, Int.reduceEq, Int.reduceLT, Int.reduceLE, ↓reduceIte, not_true_eq_false, not_false_eq_true, ks, q2]
  · rw [if_neg q1] at ks
    rw [bP_f (fun z => q1 z.1)]
    refine ⟨T, ?_, by rw [t1, Int.add_zero], t2, t3, t4⟩
    simp (disch := omega) only [zl_0, zl_1, zl_2, zl_3, zl_4, zl_5, zl_6, zl_7, zl_8, zl_9, zl_10, zl_11, zl_12, zl_13, zl_14, zl_15, zl_16, zl_17, zl_18, zl_19, zl_20, zl_23, zl_24, zl_31, zl_32, zl_48, zl_50, zl_53, zl_57, zl_59, zl_60, zl_99, zl_100, zl_104, zl_112, zl_114, zl_119, zl_126, zl_127, zl_181, zl_200, zl_500, zl_543, zl_724, zl_999, zl_1000, zl_5000, zl_65536, zl_100000, zl_1000001, zl_1000002, zl_1000003, zl_1000004, zl_2143289344, zI_neg, zI_add, zI_sub, zI_mul, zI_le, zI_lt, zI_eq, ck_ib, ix_nat, ixz_0, ixz_1, ixz_2, ixz_3, ixz_4, ixz_5, ixz_6, ixz_7, ixz_8, ixz_9, ixz_10, ixz_11, ixz_12, ob_some, lt_of, ck_bP, bP_z, bP_o, ite_bP, Int.reduceToNat, Nat.reduceAdd, Nat.reduceMul, Int.reduceAdd, Int.reduceSub, Int.reduceMul, Int.reduceNeg, Int.reduceEq, Int.reduceLT, Int.reduceLE, ↓reduceIte, not_true_eq_false, not_false_eq_true, ks]
theorem k_readsForm (O : TOk t c) (C : TR1 S t c) (hp : p < t) (h7 : S 0 0 7 = zI p) : ∃ V, f_X8_readsForm S = some (zI (bP (cls c t p)), V) ∧ V 0 0 7 = zI (((p + fitc c t p : Nat) : Int) + bP (cls c t p)) ∧ (cls c t p → V 0 0 8 = zI (numv c p (fitc c t p - 1))) ∧ (∀ j, j ≠ 7 → j ≠ 8 → V 0 0 j = S 0 0 j) ∧ ∀ h i, ¬ (h = 0 ∧ i = 0) → V h i = S h i := by
  obtain ⟨o1, o2⟩ := id O
  have v := o2 p hp
  have ks := k_sign O C (by omega) h7
  rw [if_pos hp] at ks
  have rf0 : RF c p S (up3 (up3 S 0 0 7 (zI ((p + 1 : Nat) : Int))) 0 0 8 (zI 0)) 0 := ⟨by rw [up3_slot _ _ (by omega), up3_at], up3_at _ _ _ _ _, fun j a1 a2 => by rw [up3_slot _ _ a2, up3_slot _ _ a1], fun h i z => by rw [up3_cell _ _ (by omega), up3_cell _ _ (by omega)]⟩
  have ep : ((p : Int) + 1) = ((p + 1 : Nat) : Int) := by omega
  have b53 : ∀ x2 : Int32, f_X8_readsForm_b53 x2 S = f_X8_readsForm_b73 1000 x2 (zI ((p + 1 : Nat) : Int)) (up3 (up3 S 0 0 7 (zI ((p + 1 : Nat) : Int))) 0 0 8 (zI 0)) := by
    intro x2
    unfold f_X8_readsForm_b53
    simp (disch := omega) only [zl_0, zl_1, zl_2, zl_3, zl_4, zl_5, zl_6, zl_7, zl_8, zl_9, zl_10, zl_11, zl_12, zl_13, zl_14, zl_15, zl_16, zl_17, zl_18, zl_19, zl_20, zl_23, zl_24, zl_31, zl_32, zl_48, zl_50, zl_53, zl_57, zl_59, zl_60, zl_99, zl_100, zl_104, zl_112, zl_114, zl_119, zl_126, zl_127, zl_181, zl_200, zl_500, zl_543, zl_724, zl_999, zl_1000, zl_5000, zl_65536, zl_100000, zl_1000001, zl_1000002, zl_1000003, zl_1000004, zl_2143289344, zI_neg, zI_add, zI_sub, zI_mul, zI_le, zI_lt, zI_eq, ck_ib, ix_nat, ixz_0, ixz_1, ixz_2, ixz_3, ixz_4, ixz_5, ixz_6, ixz_7, ixz_8, ixz_9, ixz_10, ixz_11, ixz_12, ob_some, lt_of, ck_bP, bP_z, bP_o, ite_bP, Int.reduceToNat, Nat.reduceAdd, Nat.reduceMul, Int.reduceAdd, Int.reduceSub, Int.reduceMul, Int.reduceNeg, Int.reduceEq, Int.reduceLT, Int.reduceLE, ↓reduceIte, not_true_eq_false, not_false_eq_true, h7, ep, up3_at, up3_slot]
  unfold f_X8_readsForm f_X8_readsForm_b17
  rw [ob_of ks]
  by_cases c1 : c p = 104 ∨ c p = 99
  · have fit : fitc c t p = 1 := by unfold fitc; rw [if_pos c1]
    have nw : ¬ wn (c p) := by omega
    have ce : cls c t p ↔ (p + 1 + 0 < t ∧ c (p + 1 + 0) = 59) := by
      unfold cls
      rw [fit, if_neg nw]
      exact ⟨fun q => q.2, fun q => ⟨Nat.le_refl _, q⟩⟩
    obtain ⟨V, v1, v2, v3, v4, v5⟩ := k_rd_e O C (k := 0) (by omega) hp rf0
    rw [← bP_c ce] at v1 v2
    refine ⟨V, ?_, by rw [v2, fit], fun _ => by rw [v3, fit], v4, v5⟩
    have e : f_X8_readsForm_b22 (zI (c p)) 1 S = some (zI (bP (cls c t p)), V) := by
      unfold f_X8_readsForm_b22
      rw [if_neg (by decide), b53, f_X8_readsForm_b73.eq_2]
      refine (if_neg (by decide)).trans ?_
      unfold f_X8_readsForm_b133
      rw [if_neg (by decide)]
      exact v1
    rcases c1 with c1 | c1
    · rw [c1] at e ⊢
      rw [if_pos (by decide)]
      exact e
    · rw [c1] at e ⊢
      rw [if_neg (by decide), if_pos (by decide)]
      exact e
  · have n1 : ¬ (zI (c p) = 104) := by rw [zl_104, zI_eq (by omega) (by omega) (by omega) (by omega)]; omega
    have n2 : ¬ (zI (c p) = 99) := by rw [zl_99, zI_eq (by omega) (by omega) (by omega) (by omega)]; omega
    rw [if_neg n1, if_neg n2]
    unfold f_X8_readsForm_b22
    rw [if_pos rfl]
    by_cases c3 : wn (c p)
    · have fit : fitc c t p = 1 + nd3 c t p := by unfold fitc; rw [if_neg c1, if_pos c3]
      obtain ⟨T, t1, t2⟩ := k_rd_l O C hp 3 0 1000 _ (by omega) (by omega) (fun j h => absurd h (Nat.not_lt_zero j)) rf0
      have nl3 := nd3_le (c := c) (t := t) (p := p)
      have e0 : f_X8_readsForm_b53 0 S = f_X8_readsForm_b133 (zI 0) (zI ((p + 1 : Nat) : Int)) T := (b53 0).trans t1
      have e1 : ∀ x : Int32 , (if zI (c p) = 112 then f_X8_readsForm_b53 0 S else if zI (c p) = 100 then f_X8_readsForm_b53 0 S else if zI (c p) = 114 then f_X8_readsForm_b53 0 S else if zI (c p) = 119 then f_X8_readsForm_b53 0 S else some (0, S)) = f_X8_readsForm_b133 (zI 0) (zI ((p + 1 : Nat) : Int)) T := by
        intro _
        rcases c3 with z | z | z | z
        · rw [z, if_pos (show zI 112 = 112 by decide)]; exact e0
        · rw [z, if_neg (show ¬ zI 100 = 112 by decide), if_pos (show zI 100 = 100 by decide)]; exact e0
        · rw [z, if_neg (show ¬ zI 114 = 112 by decide), if_neg (show ¬ zI 114 = 100 by decide), if_pos (show zI 114 = 114 by decide)]; exact e0
        · rw [z, if_neg (show ¬ zI 119 = 112 by decide), if_neg (show ¬ zI 119 = 100 by decide), if_neg (show ¬ zI 119 = 114 by decide), if_pos (show zI 119 = 119 by decide)]; exact e0
      rw [e1 0]
      unfold f_X8_readsForm_b133
      rw [if_pos (show zI 0 = 0 by decide), t2.1]
      by_cases d : nd3 c t p = 0
      · have ce : ¬ cls c t p := by
          unfold cls
          rw [fit, if_pos c3, d]
          exact fun q => by have := q.1; omega
        rw [bP_f ce, d]
        rw [if_pos (by rfl)]
        obtain ⟨s1, s2, s3, s4⟩ := t2
        refine ⟨T, rfl, ?_, fun q => absurd q ce, s3, s4⟩
        rw [s1, d, fit, d, Int.add_zero]
      · have ne : ¬ (zI ((p + 1 + nd3 c t p : Nat) : Int) = zI ((p + 1 : Nat) : Int)) := by rw [zI_eq (by omega) (by omega) (by omega) (by omega)]; omega
        rw [if_neg ne]
        have ce : cls c t p ↔ (p + 1 + nd3 c t p < t ∧ c (p + 1 + nd3 c t p) = 59) := by
          unfold cls
          rw [fit, if_pos c3, show p + (1 + nd3 c t p) = p + 1 + nd3 c t p by omega]
          exact ⟨fun q => q.2, fun q => ⟨by omega, q⟩⟩
        obtain ⟨V, v1, v2, v3, v4, v5⟩ := k_rd_e O C (k := nd3 c t p) nl3 hp t2
        rw [← bP_c ce] at v1 v2
        refine ⟨V, v1, ?_, fun _ => ?_, v4, v5⟩
        · rw [v2, fit, show p + (1 + nd3 c t p) = p + 1 + nd3 c t p by omega]
        · rw [v3, fit, show 1 + nd3 c t p - 1 = nd3 c t p by omega]
    · have fit : fitc c t p = 0 := by unfold fitc; rw [if_neg c1, if_neg c3]
      have ce : ¬ cls c t p := by
        unfold cls
        rw [fit, if_neg c3]
        exact fun q => by have := q.1; omega
      have m1 : ¬ (zI (c p) = 112) := by rw [zl_112, zI_eq (by omega) (by omega) (by omega) (by omega)]; omega
      have m2 : ¬ (zI (c p) = 100) := by rw [zl_100, zI_eq (by omega) (by omega) (by omega) (by omega)]; omega
      have m3 : ¬ (zI (c p) = 114) := by rw [zl_114, zI_eq (by omega) (by omega) (by omega) (by omega)]; omega
      have m4 : ¬ (zI (c p) = 119) := by rw [zl_119, zI_eq (by omega) (by omega) (by omega) (by omega)]; omega
      rw [if_neg m1, if_neg m2, if_neg m3, if_neg m4, bP_f ce, fit]
      exact ⟨S, rfl, by rw [h7, Int.add_zero]; rfl, fun q => absurd q ce, fun _ _ _ => rfl, fun _ _ _ => rfl⟩
end
