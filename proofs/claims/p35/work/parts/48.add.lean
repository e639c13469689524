/-! a pen and a line are added, of both -/
section
variable {g : Nat} {M N S : Mem} {a b : Row}
theorem k_isPlaceOfAny_l (W : WF a) (R : RC g M a) {z : Int} (h1 : 0 ≤ z) (h2 : z ≤ 1000) : ∀ (d k fu : Nat), k + d = np a → d < fu → f_X4_isPlaceOfAny_b2 g fu (zI z) (zI k) M = some (zI (bP (∃ p, k ≤ p ∧ p < np a ∧ pa a p 5 = z)), M) := by
  intro d
  have ws := W.sc
  induction d with
  | zero =>
    intro k fu hk hf
    obtain ⟨fu, rfl⟩ : ∃ f, fu = f + 1 := ⟨fu - 1, by omega⟩
    obtain rfl : k = np a := by omega
    have c0 : ((np a : Nat) : Int) ≤ ((np a : Nat) : Int) := Int.le_refl _
    rw [bP_f (fun ⟨p, q1, q2, _⟩ => by omega), f_X4_isPlaceOfAny_b2.eq_2]
    simp (disch := omega) only [zl_21, zl_22, zl_25, zl_40, zl_64, zl_150, zl_400, zl_1000000, zl_1065353216, zl_25214903, zl_2147483647, zl_32768, zl_1024, zl_0, zl_1, zl_2, zl_3, zl_4, zl_5, zl_6, zl_7, zl_8, zl_9, zl_10, zl_11, zl_12, zl_13, zl_14, zl_15, zl_16, zl_17, zl_18, zl_19, zl_20, zl_23, zl_24, zl_31, zl_32, zl_48, zl_50, zl_53, zl_57, zl_59, zl_60, zl_99, zl_100, zl_104, zl_112, zl_114, zl_119, zl_126, zl_127, zl_181, zl_200, zl_500, zl_543, zl_724, zl_999, zl_1000, zl_5000, zl_65536, zl_100000, zl_1000001, zl_1000002, zl_1000003, zl_1000004, zl_2143289344, zI_neg, zI_add, zI_sub, zI_mul, zI_le, zI_lt, zI_eq, ck_ib, ix_nat, ixz_0, ixz_1, ixz_2, ixz_3, ixz_4, ixz_5, ixz_6, ixz_7, ixz_8, ixz_9, ixz_10, ixz_11, ixz_12, ob_some, lt_of, ck_bP, bP_z, bP_o, ite_bP, Int.reduceToNat, Nat.reduceAdd, Nat.reduceMul, Int.reduceAdd, Int.reduceSub, Int.reduceMul, Int.reduceNeg, Int.reduceEq, Int.reduceLT, Int.reduceLE, ↓reduceIte, not_true_eq_false, not_false_eq_true, R.rnp, c0]
  | succ d ih =>
    intro k fu hk hf
    obtain ⟨fu, rfl⟩ : ∃ f, fu = f + 1 := ⟨fu - 1, by omega⟩
    have kk : k < np a := by omega
    have c0 : ¬ ((np a : Int) ≤ (k : Int)) := by omega
    have e := ih (k + 1) fu (by omega) (by omega)
    simp only [nc1] at e
    have v := W.pen kk
    rw [f_X4_isPlaceOfAny_b2.eq_2]
    by_cases c : pa a k 5 = z
    · rw [bP_t ⟨k, Nat.le_refl k, kk, c⟩]
      simp (disch := omega) only [zl_21, zl_22, zl_25, zl_40, zl_64, zl_150, zl_400, zl_1000000, zl_1065353216, zl_25214903, zl_2147483647, zl_32768, zl_1024, zl_0, zl_1, zl_2, zl_3, zl_4, zl_5, zl_6, zl_7, zl_8, zl_9, zl_10, zl_11, zl_12, zl_13, zl_14, zl_15, zl_16, zl_17, zl_18, zl_19, zl_20, zl_23, zl_24, zl_31, zl_32, zl_48, zl_50, zl_53, zl_57, zl_59, zl_60, zl_99, zl_100, zl_104, zl_112, zl_114, zl_119, zl_126, zl_127, zl_181, zl_200, zl_500, zl_543, zl_724, zl_999, zl_1000, zl_5000, zl_65536, zl_100000, zl_1000001, zl_1000002, zl_1000003, zl_1000004, zl_2143289344, zI_neg, zI_add, zI_sub, zI_mul, zI_le, zI_lt, zI_eq, ck_ib, ix_nat, ixz_0, ixz_1, ixz_2, ixz_3, ixz_4, ixz_5, ixz_6, ixz_7, ixz_8, ixz_9, ixz_10, ixz_11, ixz_12, ob_some, lt_of, ck_bP, bP_z, bP_o, ite_bP, Int.reduceToNat, Nat.reduceAdd, Nat.reduceMul, Int.reduceAdd, Int.reduceSub, Int.reduceMul, Int.reduceNeg, Int.reduceEq, Int.reduceLT, Int.reduceLE, ↓reduceIte, not_true_eq_false, not_false_eq_true, R.rnp, c0, R.p5, c]
    · have q : (∃ p, k + 1 ≤ p ∧ p < np a ∧ pa a p 5 = z) ↔ (∃ p, k ≤ p ∧ p < np a ∧ pa a p 5 = z) := by
        constructor
        · rintro ⟨p, q1, q2⟩
          exact ⟨p, by omega, q2⟩
        · rintro ⟨p, q1, q2, q3⟩
          have : p ≠ k := fun t => c (t ▸ q3)
          exact ⟨p, by omega, q2, q3⟩
      rw [bP_c q] at e
      simp (disch := omega) only [zl_21, zl_22, zl_25, zl_40, zl_64, zl_150, zl_400, zl_1000000, zl_1065353216, zl_25214903, zl_2147483647, zl_32768, zl_1024, zl_0, zl_1, zl_2, zl_3, zl_4, zl_5, zl_6, zl_7, zl_8, zl_9, zl_10, zl_11, zl_12, zl_13, zl_14, zl_15, zl_16, zl_17, zl_18, zl_19, zl_20, zl_23, zl_24, zl_31, zl_32, zl_48, zl_50, zl_53, zl_57, zl_59, zl_60, zl_99, zl_100, zl_104, zl_112, zl_114, zl_119, zl_126, zl_127, zl_181, zl_200, zl_500, zl_543, zl_724, zl_999, zl_1000, zl_5000, zl_65536, zl_100000, zl_1000001, zl_1000002, zl_1000003, zl_1000004, zl_2143289344, zI_neg, zI_add, zI_sub, zI_mul, zI_le, zI_lt, zI_eq, ck_ib, ix_nat, ixz_0, ixz_1, ixz_2, ixz_3, ixz_4, ixz_5, ixz_6, ixz_7, ixz_8, ixz_9, ixz_10, ixz_11, ixz_12, ob_some, lt_of, ck_bP, bP_z, bP_o, ite_bP, Int.reduceToNat, Nat.reduceAdd, Nat.reduceMul, Int.reduceAdd, Int.reduceSub, Int.reduceMul, Int.reduceNeg, Int.reduceEq, Int.reduceLT, Int.reduceLE, ↓reduceIte, not_true_eq_false, not_false_eq_true, R.rnp, c0, R.p5, c]
      exact e
def hasPl (a : Row) (z : Int) : Prop := ∃ p, p < np a ∧ pa a p 5 = z
theorem k_isPlaceOfAny (W : WF a) (R : RC g M a) {z : Int} (h1 : 0 ≤ z) (h2 : z ≤ 1000) : f_X4_isPlaceOfAny g (zI z) M = some (zI (bP (hasPl a z)), M) := by
  have ws := W.sc
  have e := k_isPlaceOfAny_l W R h1 h2 (np a) 0 1000 (by omega) (by omega)
  have q : (∃ p, 0 ≤ p ∧ p < np a ∧ pa a p 5 = z) ↔ hasPl a z := ⟨fun ⟨p, _, h⟩ => ⟨p, h⟩, fun ⟨p, h⟩ => ⟨p, Nat.zero_le p, h⟩⟩
  rw [bP_c q] at e
  exact e
/-- the row with one more pen -/
def pnr (a : Row) (kd cp pl : Int) : Row := fun k => if k = 0 then a 0 + 1 else if 13 + 8 * np a ≤ k ∧ k < 13 + 8 * np a + 8 then (if k = 13 + 8 * np a then kd else if k = 13 + 8 * np a + 1 ∨ k = 13 + 8 * np a + 2 then cp else if k = 13 + 8 * np a + 5 then pl else 0) else a k
theorem pnr_sc (a : Row) (kd cp pl : Int) {i : Nat} (h0 : 1 ≤ i) (h : i < 13) : pnr a kd cp pl i = a i := by
  unfold pnr
  rw [if_neg (by omega), if_neg (by omega)]
theorem pnr_la (a : Row) (kd cp pl : Int) (hn : np a < 5) (l w : Nat) : la (pnr a kd cp pl) l w = la a l w := by
  unfold la pnr
  rw [if_neg (by omega), if_neg (by omega)]
theorem pnr_pa (a : Row) (kd cp pl : Int) {p w : Nat} (hw : w < 8) : pa (pnr a kd cp pl) p w = if p = np a then (if w = 0 then kd else if w = 1 ∨ w = 2 then cp else if w = 5 then pl else 0) else pa a p w := by
  unfold pa pnr
  rw [if_neg (by omega)]
  by_cases c : p = np a
  · subst c
    rw [if_pos (by omega), if_pos rfl]
    (repeat' split) <;> first | rfl | omega
  · rw [if_neg (by omega), if_neg c]
theorem pnr_np (W : WF a) (kd cp pl : Int) : np (pnr a kd cp pl) = np a + 1 := by
  have ws := W.sc
  unfold np pnr
  rw [if_pos rfl]
  omega
theorem pnr_wf (W : WF a) {kd cp pl : Int} (hn : np a < 5) (h1 : kd = 0 ∨ kd = 1) (h2 : 10 ≤ cp ∧ cp ≤ 5000) (h3 : 0 ≤ pl ∧ pl ≤ 21) : WF (pnr a kd cp pl) := by
  have ws := W.sc
  have w := W.1
  have e0 : pnr a kd cp pl 0 = a 0 + 1 := by unfold pnr; rw [if_pos rfl]
  have e1 : nl (pnr a kd cp pl) = nl a := nl_c (pnr_sc _ _ _ _ (by omega) (by omega))
  refine ⟨?_, ?_, ?_, ?_, ?_⟩
  · rw [e0]
    simp (disch := omega) only [pnr_sc]
    omega
  · intro p hp
    rw [pnr_np W] at hp
    rw [pnr_sc a kd cp pl (show 1 ≤ 7 by omega) (by omega)]
    simp (disch := omega) only [pnr_pa]
    by_cases c : p = np a
    · simp [c]
      omega
    · simp only [c, ↓reduceIte]
      exact W.2.1 p (by omega)
  · intro l hl
    rw [e1] at hl
    rw [e0]
    simp (disch := omega) only [pnr_la]
    have := W.2.2.1 l hl
    omega
  · intro l hl
    rw [e1] at hl
    simp (disch := omega) only [pnr_la]
    exact W.2.2.2.1 l hl
  · intro l hl
    rw [e1] at hl
    simp (disch := omega) only [pnr_la]
    exact W.2.2.2.2 l hl
theorem k_X4_add (W : WF a) (R : RC g M a) (hn : np a < 5) (kd cp pl : Int) : ∃ N, f_X4_add g (zI kd) (zI cp) (zI pl) M = some (zI (np a), N) ∧ RC g N (pnr a kd cp pl) ∧ OG g M N := by
  have ws := W.sc
  have e1 : nl (pnr a kd cp pl) = nl a := nl_c (pnr_sc _ _ _ _ (by omega) (by omega))
  refine ⟨up3 (up3 (up3 (up3 (up3 (up3 (up3 (up3 M g 3 (np a) (zI kd)) g 4 (np a) (zI cp)) g 5 (np a) (zI pl)) g 6 (np a) (zI cp)) g 7 (np a) (zI 0)) g 8 (np a) (zI 0)) g 9 (np a) (zI 0)) g 2 0 (zI (np a + 1)), ?_, ?_, ?_⟩
  · unfold f_X4_add
    simp (disch := omega) only [zl_21, zl_22, zl_25, zl_40, zl_64, zl_150, zl_400, zl_1000000, zl_1065353216, zl_25214903, zl_2147483647, zl_32768, zl_1024, zl_0, zl_1, zl_2, zl_3, zl_4, zl_5, zl_6, zl_7, zl_8, zl_9, zl_10, zl_11, zl_12, zl_13, zl_14, zl_15, zl_16, zl_17, zl_18, zl_19, zl_20, zl_23, zl_24, zl_31, zl_32, zl_48, zl_50, zl_53, zl_57, zl_59, zl_60, zl_99, zl_100, zl_104, zl_112, zl_114, zl_119, zl_126, zl_127, zl_181, zl_200, zl_500, zl_543, zl_724, zl_999, zl_1000, zl_5000, zl_65536, zl_100000, zl_1000001, zl_1000002, zl_1000003, zl_1000004, zl_2143289344, zI_neg, zI_add, zI_sub, zI_mul, zI_le, zI_lt, zI_eq, ck_ib, ix_nat, ixz_0, ixz_1, ixz_2, ixz_3, ixz_4, ixz_5, ixz_6, ixz_7, ixz_8, ixz_9, ixz_10, ixz_11, ixz_12, ob_some, lt_of, ck_bP, bP_z, bP_o, ite_bP, Int.reduceToNat, Nat.reduceAdd, Nat.reduceMul, Int.reduceAdd, Int.reduceSub, Int.reduceMul, Int.reduceNeg, Int.reduceEq, Int.reduceLT, Int.reduceLE, ↓reduceIte, not_true_eq_false, not_false_eq_true, R.rnp, up3_at, up3_slot, up3_cell]
  · refine ⟨?_, ⟨?_, ?_⟩, ?_, ?_, ?_, ?_, ?_⟩
    · intro i hi
      simp (disch := omega) only [up3_cell, pnr_sc]
      exact R.rset hi
    · rw [pnr_np W]
      simp (disch := omega) only [up3_at]
      rfl
    · rw [e1]
      simp (disch := omega) only [up3_cell]
      exact R.rnl
    · intro p hp
      rw [pnr_np W] at hp
      simp (disch := omega) only [pnr_pa]
      by_cases c : p = np a
      · subst c
        simp (disch := omega) only [up3_at, up3_cell]
        simp
      · simp (disch := omega) only [up3_slot, up3_cell, c, ↓reduceIte]
        exact R.rpen (by omega)
    · intro l hl
      rw [e1] at hl
      rw [e1, len_c (a := a) (fun w _ => pnr_la _ _ _ _ hn _ _), tsI_c (a := a) (fun o _ w _ => pnr_la _ _ _ _ hn _ _) (fun w _ => pnr_la _ _ _ _ hn _ _)]
      simp (disch := omega) only [up3_cell, pnr_la]
      exact R.rline hl
    · intro l hl
      rw [e1] at hl
      simp (disch := omega) only [up3_cell, pnr_la]
      exact R.rdrawn hl
    · intro l hl
      rw [e1] at hl
      simp (disch := omega) only [up3_cell, pnr_la]
      intro hd
      have v := W.line hl
      rw [pnr_pa _ _ _ _ (by omega), if_neg (by omega)]
      exact R.rshade hl hd
    · simp (disch := omega) only [up3_cell, pnr_sc]
      exact R.rsc
  · intro h k c
    simp (disch := omega) only [up3_cell]
end
