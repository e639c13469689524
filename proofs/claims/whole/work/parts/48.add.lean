/-! a pen and a line are added, of both -/
section
variable {g : Nat} {M N S : Mem} {a b : Row}
theorem k_isPlaceOfAny_l (W : WF a) (R : RC g M a) {z : Int} (h1 : 0 ≤ z) (h2 : z ≤ 1000) : ∀ (d k fu : Nat), k + d = np a → d < fu → f_X4_isPlaceOfAny_b2 g fu (zI z) (zI k) M = some (zI (bP (∃ p, k ≤ p ∧ p < np a ∧ pa a p 5 = z)), M) := by
  intro d
  have ws := W.sc
  induction d with
  | zero =>
    intro k fu hk hf
    obtain ⟨fu, rfl⟩ : ∃ f, fu = f + 1 := ⟨fu - 1, by omega⟩
    obtain rfl : k = np a := by omega
    have c0 : ((np a : Nat) : Int) ≤ ((np a : Nat) : Int) := Int.le_refl _
    rw [bP_f (fun ⟨p, q1, q2, _⟩ => by omega), f_X4_isPlaceOfAny_b2.eq_2]
    simp (disch := omega) only [zl_0, zl_1, zl_2, zl_3, zl_4, zl_5, zl_6, zl_7, zl_8, zl_9, zl_10, zl_11, zl_12, zl_13, zl_14, zl_15, zl_16, zl_17, zl_18, zl_19, zl_20, zl_23, zl_24, zl_31, zl_32, zl_48, zl_50, zl_53, zl_57, zl_59, zl_60, zl_99, zl_100, zl_104, zl_112, zl_114, zl_119, zl_126, zl_127, zl_181, zl_200, zl_500, zl_543, zl_724, zl_999, zl_1000, zl_5000, zl_65536, zl_100000, zl_1000001, zl_1000002, zl_1000003, zl_1000004, zl_2143289344, zI_neg, zI_add, zI_sub, zI_mul, zI_le, zI_lt, zI_eq, ck_ib, ix_nat, ixz_0, ixz_1, ixz_2, ixz_3, ixz_4, ixz_5, ixz_6, ixz_7, ixz_8, ixz_9, ixz_10, ixz_11, ixz_12, ob_some, lt_of, ck_bP, bP_z, bP_o, ite_bP, Int.reduceToNat, Nat.reduceAdd, Nat.reduceMul, Int.reduceAdd, Int.reduceSub, Int.reduceMul, Int.reduceNeg, Int.reduceEq, Int.reduceLT, Int.reduceLE, ↓reduceIte, not_true_eq_false, not_false_eq_true, R.rnp, c0]
  | succ d ih =>
    intro k fu hk hf
    obtain ⟨fu, rfl⟩ : ∃ f, fu = f + 1 := ⟨fu - 1, by omega⟩
    have kk : k < np a := by omega
    have c0 : ¬ ((np a : Int) ≤ (k : Int)) := by omega
    have e := ih (k + 1) fu (by omega) (by omega)
    simp only [nc1] at e
    have v := W.pen kk
    rw [f_X4_isPlaceOfAny_b2.eq_2]
    by_cases c : pa a k 5 = z
    · rw [bP_t ⟨k, Nat.le_refl k, kk, c⟩]
      simp (disch := omega) only [zl_0, zl_1, zl_2, zl_3, zl_4, zl_5, zl_6, zl_7, zl_8, zl_9, zl_10, zl_11, zl_12, zl_13, zl_14, zl_15, zl_16, zl_17, zl_18, zl_19, zl_20, zl_23, zl_24, zl_31, zl_32, zl_48, zl_50, zl_53, zl_57, zl_59, zl_60, zl_99, zl_100, zl_104, zl_112, zl_114, zl_119, zl_126, zl_127, zl_181, zl_200, zl_500, zl_543, zl_724, zl_999, zl_1000, zl_5000, zl_65536, zl_100000, zl_1000001, zl_1000002, zl_1000003, zl_1000004, zl_2143289344, zI_neg, zI_add, zI_sub, zI_mul, zI_le, zI_lt, zI_eq, ck_ib, ix_nat, ixz_0, ixz_1, ixz_2, ixz_3, ixz_4, ixz_5, ixz_6, ixz_7, ixz_8, ixz_9, ixz_10, ixz_11, ixz_12, ob_some, lt_of, ck_bP, bP_z, bP_o, ite_bP, Int.reduceToNat, Nat.reduceAdd, Nat.reduceMul, Int.reduceAdd, Int.reduceSub, Int.reduceMul, Int.reduceNeg, Int.reduceEq, Int.reduceLT, Int.reduceLE, ↓reduceIte, not_true_eq_false, not_false_eq_true, R.rnp, c0, R.p5, c]
    · have q : (∃ p, k + 1 ≤ p ∧ p < np a ∧ pa a p 5 = z) ↔ (∃ p, k ≤ p ∧ p < np a ∧ pa a p 5 = z) := by
        constructor
        · rintro ⟨p, q1, q2⟩
          exact ⟨p, by omega, q2⟩
        · rintro ⟨p, q1, q2, q3⟩
          have : p ≠ k := fun t => c (t ▸ q3)
          exact ⟨p, by omega, q2, q3⟩
      rw [bP_c q] at e
      simp (disch := omega) only [zl_0, zl_1, zl_2, zl_3, zl_4, zl_5, zl_6, zl_7, zl_8, zl_9, zl_10, zl_11, zl_12, zl_13, zl_14, zl_15, zl_16, zl_17, zl_18, zl_19, zl_20, zl_23, zl_24, zl_31, zl_32, zl_48, zl_50, zl_53, zl_57, zl_59, zl_60, zl_99, zl_100, zl_104, zl_112, zl_114, zl_119, zl_126, zl_127, zl_181, zl_200, zl_500, zl_543, zl_724, zl_999, zl_1000, zl_5000, zl_65536, zl_100000, zl_1000001, zl_1000002, zl_1000003, zl_1000004, zl_2143289344, zI_neg, zI_add, zI_sub, zI_mul, zI_le, zI_lt, zI_eq, ck_ib, ix_nat, ixz_0, ixz_1, ixz_2, ixz_3, ixz_4, ixz_5, ixz_6, ixz_7, ixz_8, ixz_9, ixz_10, ixz_11, ixz_12, ob_some, lt_of, ck_bP, bP_z, bP_o, ite_bP, Int.reduceToNat, Nat.reduceAdd, Nat.reduceMul, Int.reduceAdd, Int.reduceSub, Int.reduceMul, Int.reduceNeg, Int.reduceEq, Int.reduceLT, Int.reduceLE, ↓reduceIte, not_true_eq_false, not_false_eq_true, R.rnp, c0, R.p5, c]
      exact e
def hasPl (a : Row) (z : Int) : Prop := ∃ p, p < np a ∧ pa a p 5 = z
theorem k_isPlaceOfAny (W : WF a) (R : RC g M a) {z : Int} (h1 : 0 ≤ z) (h2 : z ≤ 1000) : f_X4_isPlaceOfAny g (zI z) M = some (zI (bP (hasPl a z)), M) := by
  have ws := W.sc
  have e := k_isPlaceOfAny_l W R h1 h2 (np a) 0 1000 (by omega) (by omega)
  have q : (∃ p, 0 ≤ p ∧ p < np a ∧ pa a p 5 = z) ↔ hasPl a z := ⟨fun ⟨p, _, h⟩ => ⟨p, h⟩, fun ⟨p, h⟩ => ⟨p, Nat.zero_le p, h⟩⟩
  rw [bP_c q] at e
  exact e
/-- the row with one more pen -/
def pnr (a : Row) (kd cp pl : Int) : Row := fun k => if k = 0 then a 0 + 1 else if 13 + 8 * np a ≤ k ∧ k < 13 + 8 * np a + 8 then (if k = 13 + 8 * np a then kd else if k = 13 + 8 * np a + 1 ∨ k = 13 + 8 * np a + 2 then cp else if k = 13 + 8 * np a + 5 then pl else 0) else a k
theorem pnr_sc (a : Row) (kd cp pl : Int) {i : Nat} (h0 : 1 ≤ i) (h : i < 13) : pnr a kd cp pl i = a i := by
  unfold pnr
  rw [if_neg (by omega), if_neg (by omega)]
theorem pnr_la (a : Row) (kd cp pl : Int) (hn : np a < 5) (l w : Nat) : la (pnr a kd cp pl) l w = la a l w := by
  unfold la pnr
  rw [if_neg (by omega), if_neg (by omega)]
theorem pnr_pa (a : Row) (kd cp pl : Int) {p w : Nat} (hw : w < 8) : pa (pnr a kd cp pl) p w = if p = np a then (if w = 0 then kd else if w = 1 ∨ w = 2 then cp else if w = 5 then pl else 0) else pa a p w := by
  unfold pa pnr
  rw [if_neg (by omega)]
  by_cases c : p = np a
  · subst c
    rw [if_pos (by omega), if_pos rfl]
    (repeat' split) <;> first | rfl | omega
  · rw [if_neg (by omega), if_neg c]
theorem pnr_np (W : WF a) (kd cp pl : Int) : np (pnr a kd cp pl) = np a + 1 := by
  have ws := W.sc
  unfold np pnr
  rw [if_pos rfl]
  omega
theorem pnr_wf (W : WF a) {kd cp pl : Int} (hn : np a < 5) (h1 : kd = 0 ∨ kd = 1) (h2 : 10 ≤ cp ∧ cp ≤ 5000) (h3 : 0 ≤ pl ∧ pl ≤ 21) : WF (pnr a kd cp pl) := by
  have ws := W.sc
  have w := W.1
  have e0 : pnr a kd cp pl 0 = a 0 + 1 := by unfold pnr; rw [if_pos rfl]
  have e1 : nl (pnr a kd cp pl) = nl a := nl_c (pnr_sc _ _ _ _ (by omega) (by omega))
  refine ⟨?_, ?_, ?_, ?_, ?_⟩
  · rw [e0]
    simp (disch := omega) only [pnr_sc]
    omega
  · intro p hp
    rw [pnr_np W] at hp
    rw [pnr_sc a kd cp pl (show 1 ≤ 7 by omega) (by omega)]
    simp (disch := omega) only [pnr_pa]
    by_cases c : p = np a
    · simp [c]
      omega
    · simp only [c, ↓reduceIte]
      exact W.2.1 p (by omega)
  · intro l hl
    rw [e1] at hl
    rw [e0]
    simp (disch := omega) only [pnr_la]
    have := W.2.2.1 l hl
    omega
  · intro l hl
    rw [e1] at hl
    simp (disch := omega) only [pnr_la]
    exact W.2.2.2.1 l hl
  · intro l hl
    rw [e1] at hl
    simp (disch := omega) only [pnr_la]
    exact W.2.2.2.2 l hl
theorem k_X4_add (W : WF a) (R : RC g M a) (hn : np a < 5) (kd cp pl : Int) : ∃ N, f_X4_add g (zI kd) (zI cp) (zI pl) M = some (zI (np a), N) ∧ RC g N (pnr a kd cp pl) ∧ OG g M N := by
  have ws := W.sc
  have e1 : nl (pnr a kd cp pl) = nl a := nl_c (pnr_sc _ _ _ _ (by omega) (by omega))
  refine ⟨up3 (up3 (up3 (up3 (up3 (up3 (up3 (up3 M g 3 (np a) (zI kd)) g 4 (np a) (zI cp)) g 5 (np a) (zI pl)) g 6 (np a) (zI cp)) g 7 (np a) (zI 0)) g 8 (np a) (zI 0)) g 9 (np a) (zI 0)) g 2 0 (zI (np a + 1)), ?_, ?_, ?_⟩
  · unfold f_X4_add
    simp (disch := omega) only [zl_0, zl_1, zl_2, zl_3, zl_4, zl_5, zl_6, zl_7, zl_8, zl_9, zl_10, zl_11, zl_12, zl_13, zl_14, zl_15, zl_16, zl_17, zl_18, zl_19, zl_20, zl_23, zl_24, zl_31, zl_32, zl_48, zl_50, zl_53, zl_57, zl_59, zl_60, zl_99, zl_100, zl_104, zl_112, zl_114, zl_119, zl_126, zl_127, zl_181, zl_200, zl_500, zl_543, zl_724, zl_999, zl_1000, zl_5000, zl_65536, zl_100000, zl_1000001, zl_1000002, zl_1000003, zl_1000004, zl_2143289344, zI_neg, zI_add, zI_sub, zI_mul, zI_le, zI_lt, zI_eq, ck_ib, ix_nat, ixz_0, ixz_1, ixz_2, ixz_3, ixz_4, ixz_5, ixz_6, ixz_7, ixz_8, ixz_9, ixz_10, ixz_11, ixz_12, ob_some, lt_of, ck_bP, bP_z, bP_o, ite_bP, Int.reduceToNat, Nat.reduceAdd, Nat.reduceMul, Int.reduceAdd, Int.reduceSub, Int.reduceMul, Int.reduceNeg, Int.reduceEq, Int.reduceLT, Int.reduceLE, ↓reduceIte, not_true_eq_false, not_false_eq_true, R.rnp, up3_at, up3_slot, up3_cell]
  · refine ⟨?_, ⟨?_, ?_⟩, ?_, ?_, ?_, ?_, ?_⟩
    · intro i hi
      simp (disch := omega) only [up3_cell, pnr_sc]
      exact R.rset hi
    · rw [pnr_np W]
      simp (disch := omega) only [up3_at]
      rfl
    · rw [e1]
      simp (disch := omega) only [up3_cell]
      exact R.rnl
    · intro p hp
      rw [pnr_np W] at hp
      simp (disch := omega) only [pnr_pa]
      by_cases c : p = np a
      · subst c
        simp (disch := omega) only [up3_at, up3_cell]
        simp
      · simp (disch := omega) only [up3_slot, up3_cell, c, ↓reduceIte]
        exact R.rpen (by omega)
    · intro l hl
      rw [e1] at hl
      rw [e1, len_c (a := a) (fun w _ => pnr_la _ _ _ _ hn _ _), tsI_c (a := a) (fun o _ w _ => pnr_la _ _ _ _ hn _ _) (fun w _ => pnr_la _ _ _ _ hn _ _)]
      simp (disch := omega) only [up3_cell, pnr_la]
      exact R.rline hl
    · intro l hl
      rw [e1] at hl
      simp (disch := omega) only [up3_cell, pnr_la]
      exact R.rdrawn hl
    · intro l hl
      rw [e1] at hl
      simp (disch := omega) only [up3_cell, pnr_la]
      intro hd
      have v := W.line hl
      rw [pnr_pa _ _ _ _ (by omega), if_neg (by omega)]
      exact R.rshade hl hd
    · simp (disch := omega) only [up3_cell, pnr_sc]
      exact R.rsc
  · intro h k c
    simp (disch := omega) only [up3_cell]
theorem k_pen_l0 (x1 x2 x3 x4 : Int32) {p : Nat} (hp : p < 5) : ∀ (d k fu : Nat) (S : Mem), k + d = 8 → d < fu → (∀ w, w < k → S 0 1 (13 + 8 * p + w) = zI 0) → ∃ T, f_X8_pen_b155 fu x1 x2 x3 x4 (zI p) (zI k) S = f_X8_pen_b155 1 x1 x2 x3 x4 (zI p) (zI 8) T ∧ (∀ w, w < 8 → T 0 1 (13 + 8 * p + w) = zI 0) ∧ (∀ j, ¬ (13 + 8 * p ≤ j ∧ j < 13 + 8 * p + 8) → T 0 1 j = S 0 1 j) ∧ OS S T := by
  intro d
  induction d with
  | zero =>
    intro k fu S hk hf h
    obtain ⟨fu, rfl⟩ : ∃ f, fu = f + 1 := ⟨fu - 1, by omega⟩
    obtain rfl : k = 8 := by omega
    refine ⟨S, ?_, h, fun _ _ => rfl, OS.rf⟩
    rw [f_X8_pen_b155.eq_2, f_X8_pen_b155.eq_2]
    exact (if_pos (by decide)).trans (if_pos (by decide)).symm
  | succ d ih =>
    intro k fu S hk hf h
    obtain ⟨fu, rfl⟩ : ∃ f, fu = f + 1 := ⟨fu - 1, by omega⟩
    have c0 : ¬ ((8 : Int) ≤ (k : Int)) := by omega
    have kl := k_lays (S := S) (zI 0) (p := p) (w := (k : Int)) hp (by omega) (by omega)
    rw [Int.toNat_natCast] at kl
    obtain ⟨T, t1, t2, t3, t4⟩ := ih (k + 1) fu (up3 S 0 1 (13 + 8 * p + k) (zI 0)) (by omega) (by omega) (fun w hw => by
      by_cases c : w = k
      · subst c; rw [up3_at]
      · rw [up3_slot _ _ (by omega)]; exact h w (by omega))
    simp only [nc1] at t1
    refine ⟨T, ?_, t2, fun j hj => by rw [t3 j hj, up3_slot _ _ (by omega)], OS.up.tr t4⟩
    rw [← t1, f_X8_pen_b155.eq_2]
    simp (disch := omega) only [zl_0, zl_1, zl_2, zl_3, zl_4, zl_5, zl_6, zl_7, zl_8, zl_9, zl_10, zl_11, zl_12, zl_13, zl_14, zl_15, zl_16, zl_17, zl_18, zl_19, zl_20, zl_23, zl_24, zl_31, zl_32, zl_48, zl_50, zl_53, zl_57, zl_59, zl_60, zl_99, zl_100, zl_104, zl_112, zl_114, zl_119, zl_126, zl_127, zl_181, zl_200, zl_500, zl_543, zl_724, zl_999, zl_1000, zl_5000, zl_65536, zl_100000, zl_1000001, zl_1000002, zl_1000003, zl_1000004, zl_2143289344, zI_neg, zI_add, zI_sub, zI_mul, zI_le, zI_lt, zI_eq, ck_ib, ix_nat, ixz_0, ixz_1, ixz_2, ixz_3, ixz_4, ixz_5, ixz_6, ixz_7, ixz_8, ixz_9, ixz_10, ixz_11, ixz_12, ob_some, lt_of, ck_bP, bP_z, bP_o, ite_bP, Int.reduceToNat, Nat.reduceAdd, Nat.reduceMul, Int.reduceAdd, Int.reduceSub, Int.reduceMul, Int.reduceNeg, Int.reduceEq, Int.reduceLT, Int.reduceLE, ↓reduceIte, not_true_eq_false, not_false_eq_true, c0, kl]
theorem k_pen_in (W : WF a) (Q : RM S a) (x1 x2 x3 x4 : Int32) {z : Int} (h1 : 0 ≤ z) (h2 : z ≤ 1000) (hz : zI 10 * x3 + x4 = zI z) (P : Prop) : ∀ (d k fu : Nat), k + d = np a → d < fu → f_X8_pen_b63 fu x1 x2 x3 x4 (zI (bP (P ∧ ∀ p, p < k → pa a p 5 ≠ z))) (zI k) S = f_X8_pen_b63 1 x1 x2 x3 x4 (zI (bP (P ∧ ∀ p, p < np a → pa a p 5 ≠ z))) (zI (np a)) S := by
  intro d
  have ws := W.sc
  induction d with
  | zero =>
    intro k fu hk hf
    obtain ⟨fu, rfl⟩ : ∃ f, fu = f + 1 := ⟨fu - 1, by omega⟩
    obtain rfl : k = np a := by omega
    rw [f_X8_pen_b63.eq_2, f_X8_pen_b63.eq_2]
    have h : S 0 1 (ix 0) ≤ zI (np a) := by rw [ixl_0, Q 0 (by omega), ws.1.1]; exact Int32.le_refl _
    exact (if_pos h).trans (if_pos h).symm
  | succ d ih =>
    intro k fu hk hf
    obtain ⟨fu, rfl⟩ : ∃ f, fu = f + 1 := ⟨fu - 1, by omega⟩
    have kk : k < np a := by omega
    have c0 : ¬ ((np a : Int) ≤ (k : Int)) := by omega
    have v := W.pen kk
    have e := ih (k + 1) fu (by omega) (by omega)
    simp only [nc1] at e
    rw [← e, f_X8_pen_b63.eq_2]
    by_cases c : P ∧ ∀ p, p < k → pa a p 5 ≠ z
    · rw [bP_t c]
      by_cases d : pa a k 5 = z
      · rw [bP_f (show ¬ (P ∧ ∀ p, p < k + 1 → pa a p 5 ≠ z) from fun q => q.2 k (by omega) d)]
        simp (disch := omega) only [zl_0, zl_1, zl_2, zl_3, zl_4, zl_5, zl_6, zl_7, zl_8, zl_9, zl_10, zl_11, zl_12, zl_13, zl_14, zl_15, zl_16, zl_17, zl_18, zl_19, zl_20, zl_23, zl_24, zl_31, zl_32, zl_48, zl_50, zl_53, zl_57, zl_59, zl_60, zl_99, zl_100, zl_104, zl_112, zl_114, zl_119, zl_126, zl_127, zl_181, zl_200, zl_500, zl_543, zl_724, zl_999, zl_1000, zl_5000, zl_65536, zl_100000, zl_1000001, zl_1000002, zl_1000003, zl_1000004, zl_2143289344, zI_neg, zI_add, zI_sub, zI_mul, zI_le, zI_lt, zI_eq, ck_ib, ix_nat, ixz_0, ixz_1, ixz_2, ixz_3, ixz_4, ixz_5, ixz_6, ixz_7, ixz_8, ixz_9, ixz_10, ixz_11, ixz_12, ob_some, lt_of, ck_bP, bP_z, bP_o, ite_bP, Int.reduceToNat, Nat.reduceAdd, Nat.reduceMul, Int.reduceAdd, Int.reduceSub, Int.reduceMul, Int.reduceNeg, Int.reduceEq, Int.reduceLT, Int.reduceLE, ↓reduceIte, not_true_eq_false, not_false_eq_true, RM.at Q, ws.1.1, c0, k_pn Q, d, hz, f_X8_pen_b100, f_X8_pen_b101]
      · rw [bP_t (show P ∧ ∀ p, p < k + 1 → pa a p 5 ≠ z from ⟨c.1, fun p hp => by
          by_cases f : p = k
          · subst f; exact d
          · exact c.2 p (by omega)⟩)]
        simp (disch := omega) only [zl_0, zl_1, zl_2, zl_3, zl_4, zl_5, zl_6, zl_7, zl_8, zl_9, zl_10, zl_11, zl_12, zl_13, zl_14, zl_15, zl_16, zl_17, zl_18, zl_19, zl_20, zl_23, zl_24, zl_31, zl_32, zl_48, zl_50, zl_53, zl_57, zl_59, zl_60, zl_99, zl_100, zl_104, zl_112, zl_114, zl_119, zl_126, zl_127, zl_181, zl_200, zl_500, zl_543, zl_724, zl_999, zl_1000, zl_5000, zl_65536, zl_100000, zl_1000001, zl_1000002, zl_1000003, zl_1000004, zl_2143289344, zI_neg, zI_add, zI_sub, zI_mul, zI_le, zI_lt, zI_eq, ck_ib, ix_nat, ixz_0, ixz_1, ixz_2, ixz_3, ixz_4, ixz_5, ixz_6, ixz_7, ixz_8, ixz_9, ixz_10, ixz_11, ixz_12, ob_some, lt_of, ck_bP, bP_z, bP_o, ite_bP, Int.reduceToNat, Nat.reduceAdd, Nat.reduceMul, Int.reduceAdd, Int.reduceSub, Int.reduceMul, Int.reduceNeg, Int.reduceEq, Int.reduceLT, Int.reduceLE, ↓reduceIte, not_true_eq_false, not_false_eq_true, RM.at Q, ws.1.1, c0, k_pn Q, d, hz, f_X8_pen_b100, f_X8_pen_b101]
    · rw [bP_f c, bP_f (show ¬ (P ∧ ∀ p, p < k + 1 → pa a p 5 ≠ z) from fun q => c ⟨q.1, fun p hp => q.2 p (by omega)⟩)]
      simp (disch := omega) only [zl_0, zl_1, zl_2, zl_3, zl_4, zl_5, zl_6, zl_7, zl_8, zl_9, zl_10, zl_11, zl_12, zl_13, zl_14, zl_15, zl_16, zl_17, zl_18, zl_19, zl_20, zl_23, zl_24, zl_31, zl_32, zl_48, zl_50, zl_53, zl_57, zl_59, zl_60, zl_99, zl_100, zl_104, zl_112, zl_114, zl_119, zl_126, zl_127, zl_181, zl_200, zl_500, zl_543, zl_724, zl_999, zl_1000, zl_5000, zl_65536, zl_100000, zl_1000001, zl_1000002, zl_1000003, zl_1000004, zl_2143289344, zI_neg, zI_add, zI_sub, zI_mul, zI_le, zI_lt, zI_eq, ck_ib, ix_nat, ixz_0, ixz_1, ixz_2, ixz_3, ixz_4, ixz_5, ixz_6, ixz_7, ixz_8, ixz_9, ixz_10, ixz_11, ixz_12, ob_some, lt_of, ck_bP, bP_z, bP_o, ite_bP, Int.reduceToNat, Nat.reduceAdd, Nat.reduceMul, Int.reduceAdd, Int.reduceSub, Int.reduceMul, Int.reduceNeg, Int.reduceEq, Int.reduceLT, Int.reduceLE, ↓reduceIte, not_true_eq_false, not_false_eq_true, RM.at Q, ws.1.1, c0, f_X8_pen_b100, f_X8_pen_b101]
/-- what the reference does when the pen can be added -/
theorem k_pen_ok (W : WF a) {ns ns' n : Nat} {h : Nat → Row} (hn : np a < 5) (H : HV M ns n h) (q : HS S n h) (X : TX M S) (R : RC 1 M a) (Q : RM S a) {kd cp hd sl : Int} (g1 : kd = 0 ∨ kd = 1) (g2 : 10 ≤ cp ∧ cp ≤ 5000) (g3 : 0 ≤ hd ∧ hd ≤ 2) (g4 : 0 ≤ sl ∧ sl ≤ 1) {N : Mem} (n2 : HV N ns' (phn n) (phh n h a)) (n3 : OH M N) : ∃ P T, f_X4_add 1 (zI kd) (zI cp) (zI (10 * hd + sl)) N = some (zI (np a), P) ∧ (ob (f_X8_keeps S) fun _ T => f_X8_pen_b155 1000 (zI kd) (zI cp) (zI hd) (zI sl) (T 0 1 0) (zI 0) (up3 T 0 1 0 (T 0 1 0 + zI 1))) = some (zI (np a), T) ∧ INV ns' P T := by
  have ws := W.sc
  obtain ⟨T1, k1, k2, k3⟩ := k_keeps S
  have Q1 : RM T1 a := Q.same (k3 0 1 (by omega))
  obtain ⟨P, p1, p2, p3⟩ := k_X4_add W (n3.rc R) hn kd cp (10 * hd + sl)
  have e0 : T1 0 1 0 = zI (np a) := by rw [Q1 0 (by omega), ws.1.1]
  obtain ⟨T2, t1, t2, t3, t4⟩ := k_pen_l0 (zI kd) (zI cp) (zI hd) (zI sl) hn 8 0 1000 (up3 T1 0 1 0 (zI (np a + 1))) (by omega) (by omega) (fun w hw => absurd hw (Nat.not_lt_zero w))
  have l1 := k_lays (S := T2) (zI kd) (p := np a) (w := 0) hn (by omega) (by omega)
  have l2 := k_lays (S := up3 T2 0 1 (13 + 8 * np a + 0) (zI kd)) (zI cp) (p := np a) (w := 1) hn (by omega) (by omega)
  have l3 := k_lays (S := up3 (up3 T2 0 1 (13 + 8 * np a + 0) (zI kd)) 0 1 (13 + 8 * np a + 1) (zI cp)) (zI cp) (p := np a) (w := 2) hn (by omega) (by omega)
  have l4 := k_lays (S := up3 (up3 (up3 T2 0 1 (13 + 8 * np a + 0) (zI kd)) 0 1 (13 + 8 * np a + 1) (zI cp)) 0 1 (13 + 8 * np a + 2) (zI cp)) (zI (10 * hd + sl)) (p := np a) (w := 5) hn (by omega) (by omega)
  simp only [Int.reduceToNat] at l1 l2 l3 l4
  have o2 : OS T1 (up3 (up3 (up3 (up3 T2 0 1 (13 + 8 * np a + 0) (zI kd)) 0 1 (13 + 8 * np a + 1) (zI cp)) 0 1 (13 + 8 * np a + 2) (zI cp)) 0 1 (13 + 8 * np a + 5) (zI (10 * hd + sl))) := (((((OS.up).tr t4).tr OS.up).tr OS.up).tr OS.up).tr OS.up
  have qc : RM (up3 (up3 (up3 (up3 T2 0 1 (13 + 8 * np a + 0) (zI kd)) 0 1 (13 + 8 * np a + 1) (zI cp)) 0 1 (13 + 8 * np a + 2) (zI cp)) 0 1 (13 + 8 * np a + 5) (zI (10 * hd + sl))) (pnr a kd cp (10 * hd + sl)) := by
    intro k hk
    unfold pnr
    by_cases c0 : k = 0
    · subst c0
      rw [if_pos rfl]
      simp (disch := omega) only [up3_slot]
      rw [t3 0 (by omega), up3_at, ws.1.1]
    · rw [if_neg c0]
      by_cases c1 : 13 + 8 * np a ≤ k ∧ k < 13 + 8 * np a + 8
      · rw [if_pos c1]
        obtain ⟨w, rfl⟩ : ∃ w, k = 13 + 8 * np a + w := ⟨k - (13 + 8 * np a), by omega⟩
        have z := t2 w (by omega)
        rcases (by omega : w = 0 ∨ w = 1 ∨ w = 2 ∨ w = 3 ∨ w = 4 ∨ w = 5 ∨ w = 6 ∨ w = 7) with rfl | rfl | rfl | rfl | rfl | rfl | rfl | rfl
        · simp (disch := omega) only [up3_at, up3_slot, Nat.add_zero, ↓reduceIte]
        · simp (disch := omega) only [up3_at, up3_slot]
          simp
        · simp (disch := omega) only [up3_at, up3_slot]
          simp
        · simp (disch := omega) only [up3_slot]
          rw [z, if_neg (by omega), if_neg (by omega), if_neg (by omega)]
        · simp (disch := omega) only [up3_slot]
          rw [z, if_neg (by omega), if_neg (by omega), if_neg (by omega)]
        · simp (disch := omega) only [up3_at, up3_slot]
          simp
        · simp (disch := omega) only [up3_slot]
          rw [z, if_neg (by omega), if_neg (by omega), if_neg (by omega)]
        · simp (disch := omega) only [up3_slot]
          rw [z, if_neg (by omega), if_neg (by omega), if_neg (by omega)]
      · rw [if_neg c1]
        simp (disch := omega) only [up3_slot]
        rw [t3 k c1, up3_slot _ _ c0]
        exact Q1 k hk
  obtain ⟨T, r1, r2⟩ := ch_ok (pnr_wf W hn g1 g2 (by omega)) H.1 q X n2 n3 p3 p2 Q k2 k3 o2 qc (np a) (by omega) (by omega)
  refine ⟨P, T, p1, ?_, r2⟩
  rw [ob_of k1, e0, zI_add]
  refine t1.trans ?_
  rw [f_X8_pen_b155.eq_2]
  simp (disch := omega) only [zl_0, zl_1, zl_2, zl_3, zl_4, zl_5, zl_6, zl_7, zl_8, zl_9, zl_10, zl_11, zl_12, zl_13, zl_14, zl_15, zl_16, zl_17, zl_18, zl_19, zl_20, zl_23, zl_24, zl_31, zl_32, zl_48, zl_50, zl_53, zl_57, zl_59, zl_60, zl_99, zl_100, zl_104, zl_112, zl_114, zl_119, zl_126, zl_127, zl_181, zl_200, zl_500, zl_543, zl_724, zl_999, zl_1000, zl_5000, zl_65536, zl_100000, zl_1000001, zl_1000002, zl_1000003, zl_1000004, zl_2143289344, zI_neg, zI_add, zI_sub, zI_mul, zI_le, zI_lt, zI_eq, ck_ib, ix_nat, ixz_0, ixz_1, ixz_2, ixz_3, ixz_4, ixz_5, ixz_6, ixz_7, ixz_8, ixz_9, ixz_10, ixz_11, ixz_12, ob_some, lt_of, ck_bP, bP_z, bP_o, ite_bP, Int.reduceToNat, Nat.reduceAdd, Nat.reduceMul, Int.reduceAdd, Int.reduceSub, Int.reduceMul, Int.reduceNeg, Int.reduceEq, Int.reduceLT, Int.reduceLE, ↓reduceIte, not_true_eq_false, not_false_eq_true, l1, l2, l3, l4, r1, Int.le_refl]
theorem ch_pen {ns : Nat} (I : INV ns M S) (x y u v : Int32) : CH (f_X7_pen ns x y u v M) (f_X8_pen x y u v S) := by
  have I0 := I
  obtain ⟨a, n, h, W, R, Q, H, q, X⟩ := I
  obtain ⟨kd, h1, h2, rfl⟩ := zI_ex x
  obtain ⟨cp, h3, h4, rfl⟩ := zI_ex y
  obtain ⟨hd, h5, h6, rfl⟩ := zI_ex u
  obtain ⟨sl, h7, h8, rfl⟩ := zI_ex v
  have ws := W.sc
  have i1 : f_X7_isIn (zI kd) 0 1 M = some (zI (bP (0 ≤ kd ∧ kd ≤ 1)), M) := by
    rw [zl_0, zl_1]; exact k_isIn h1 h2 (by omega) (by omega) (by omega) (by omega)
  have j1 : f_X8_in (zI kd) 0 1 S = some (zI (bP (0 ≤ kd ∧ kd ≤ 1)), S) := by
    rw [zl_0, zl_1]; exact k_in h1 h2 (by omega) (by omega) (by omega) (by omega)
  have i2 : f_X7_isIn (zI cp) 10 5000 M = some (zI (bP (10 ≤ cp ∧ cp ≤ 5000)), M) := by
    rw [zl_10, zl_5000]; exact k_isIn h3 h4 (by omega) (by omega) (by omega) (by omega)
  have j2 : f_X8_in (zI cp) 10 5000 S = some (zI (bP (10 ≤ cp ∧ cp ≤ 5000)), S) := by
    rw [zl_10, zl_5000]; exact k_in h3 h4 (by omega) (by omega) (by omega) (by omega)
  have i3 : f_X7_isIn (zI hd) 0 2 M = some (zI (bP (0 ≤ hd ∧ hd ≤ 2)), M) := by
    rw [zl_0, zl_2]; exact k_isIn h5 h6 (by omega) (by omega) (by omega) (by omega)
  have j3 : f_X8_in (zI hd) 0 2 S = some (zI (bP (0 ≤ hd ∧ hd ≤ 2)), S) := by
    rw [zl_0, zl_2]; exact k_in h5 h6 (by omega) (by omega) (by omega) (by omega)
  have i4 : f_X7_isIn (zI sl) 0 1 M = some (zI (bP (0 ≤ sl ∧ sl ≤ 1)), M) := by
    rw [zl_0, zl_1]; exact k_isIn h7 h8 (by omega) (by omega) (by omega) (by omega)
  have j4 : f_X8_in (zI sl) 0 1 S = some (zI (bP (0 ≤ sl ∧ sl ≤ 1)), S) := by
    rw [zl_0, zl_1]; exact k_in h7 h8 (by omega) (by omega) (by omega) (by omega)
  have n0 : ¬ (zI 1 = 0) := by decide
  have p0 : zI 0 = 0 := by decide
  unfold f_X7_pen f_X7_pen_b40 f_X7_pen_b75 f_X8_pen f_X8_pen_b40
  rw [ob_of i1, ob_of j1]
  by_cases c1 : 0 ≤ kd ∧ kd ≤ 1
  · rw [bP_t c1, if_neg n0, if_neg n0, ob_of i2, ob_of j2]
    by_cases c2 : 10 ≤ cp ∧ cp ≤ 5000
    · rw [bP_t c2, if_neg n0, if_neg n0, ob_of i3, ob_of j3]
      by_cases c3 : 0 ≤ hd ∧ hd ≤ 2
      · rw [bP_t c3, if_neg n0, if_neg n0, ob_of i4, ob_of j4]
        by_cases c4 : 0 ≤ sl ∧ sl ≤ 1
        · rw [bP_t c4, if_neg n0, if_neg n0]
          have zz : (zI 10 * zI hd + zI sl) = zI (10 * hd + sl) := by rw [zI_mul, zI_add]
          have ht : f_X7_holderTakes (zI hd) (zI kd) M = some (zI (bP (hd = 2 ∨ hd = kd)), M) := by
            unfold f_X7_holderTakes f_X7_holderTakes_b13 f_X7_holderTakes_b24 f_X7_holderTakes_b29
            rcases (by omega : hd = 0 ∨ hd = 1 ∨ hd = 2) with rfl | rfl | rfl <;> rcases (by omega : kd = 0 ∨ kd = 1) with rfl | rfl
            · rw [bP_t (by omega)]; rfl
            · rw [bP_f (by omega)]; rfl
            · rw [bP_f (by omega)]; rfl
            · rw [bP_t (by omega)]; rfl
            · rw [bP_t (by omega)]; rfl
            · rw [bP_t (by omega)]; rfl
          have rf : (if zI hd = 2 then f_X8_pen_b53 (zI kd) (zI cp) (zI hd) (zI sl) S else if zI hd = zI kd then f_X8_pen_b53 (zI kd) (zI cp) (zI hd) (zI sl) S else f_X8_pen_b58 (zI kd) (zI cp) (zI hd) (zI sl) 0 S) = f_X8_pen_b63 1 (zI kd) (zI cp) (zI hd) (zI sl) (zI (bP ((hd = 2 ∨ hd = kd) ∧ ∀ p, p < np a → pa a p 5 ≠ 10 * hd + sl))) (zI (np a)) S := by
            have kp := k_pen_in W Q (zI kd) (zI cp) (zI hd) (zI sl) (z := 10 * hd + sl) (by omega) (by omega) zz (hd = 2 ∨ hd = kd) (np a) 0 1000 (by omega) (by omega)
            rw [← kp]
            have e : bP ((hd = 2 ∨ hd = kd) ∧ ∀ p, p < 0 → pa a p 5 ≠ 10 * hd + sl) = bP (hd = 2 ∨ hd = kd) := bP_c ⟨fun t => t.1, fun t => ⟨t, fun p hp => absurd hp (Nat.not_lt_zero p)⟩⟩
            rw [e]
            rcases (by omega : hd = 0 ∨ hd = 1 ∨ hd = 2) with rfl | rfl | rfl <;> rcases (by omega : kd = 0 ∨ kd = 1) with rfl | rfl
            · rw [bP_t (by omega)]; rfl
            · rw [bP_f (by omega)]; rfl
            · rw [bP_f (by omega)]; rfl
            · rw [bP_t (by omega)]; rfl
            · rw [bP_t (by omega)]; rfl
            · rw [bP_t (by omega)]; rfl
          have np0 : (S 0 1 (ix 0)) = zI (np a) := by rw [ixl_0, Q 0 (by omega), ws.1.1]
          have ih : (∀ p, p < np a → pa a p 5 ≠ 10 * hd + sl) ↔ ¬ hasPl a (10 * hd + sl) := ⟨fun t ⟨p, p1, p2⟩ => t p p1 p2, fun t p p1 p2 => t ⟨p, p1, p2⟩⟩
          have lp : f_X8_pen_b63 1 (zI kd) (zI cp) (zI hd) (zI sl) (zI (bP ((hd = 2 ∨ hd = kd) ∧ ∀ p, p < np a → pa a p 5 ≠ 10 * hd + sl))) (zI (np a)) S = if zI (bP ((hd = 2 ∨ hd = kd) ∧ ¬ hasPl a (10 * hd + sl))) = 0 then some ((-1000002), S) else if zI (np a) = 5 then some ((-1000003), S) else ob (f_X8_keeps S) fun _ T => f_X8_pen_b155 1000 (zI kd) (zI cp) (zI hd) (zI sl) (T 0 1 0) (zI 0) (up3 T 0 1 0 (T 0 1 0 + zI 1)) := by
            rw [ih, f_X8_pen_b63.eq_2]
            refine (if_pos (by rw [np0]; exact Int32.le_refl _)).trans ?_
            rw [np0]
            rfl
          rw [rf, lp, zl_10, zz, lt_of, ob_of ht]
          by_cases d1 : hd = 2 ∨ hd = kd
          · rw [bP_t d1, if_neg n0, ob_of (k_isPlaceOfAny W R (by omega) (by omega))]
            by_cases d2 : hasPl a (10 * hd + sl)
            · rw [bP_t d2, if_neg n0, bP_f (fun t => t.2 d2), if_pos p0]
              exact ch_same I0 _
            · rw [bP_f d2, if_pos p0, bP_t ⟨d1, d2⟩, if_neg n0, R.rnp]
              have f1 : zI (np a) < 5 ↔ (np a : Int) < 5 := by rw [zl_5]; exact zI_lt (by omega) (by omega) (by omega) (by omega)
              have f2 : zI (np a) = 5 ↔ (np a : Int) = 5 := by rw [zl_5]; exact zI_eq (by omega) (by omega) (by omega) (by omega)
              by_cases d3 : np a < 5
              · rw [if_pos (f1.2 (by omega)), if_neg (fun t => by have := f2.1 t; omega)]
                obtain ⟨ns', N, n1, n2, n3⟩ := k_record W R H
                obtain ⟨P, T, p1, p2, p3⟩ := k_pen_ok W d3 H q X R Q (show kd = 0 ∨ kd = 1 by omega) c2 c3 c4 n2 n3
                rw [ob_of n1, ob_of p1, p2]
                exact ⟨_, ns', P, T, rfl, rfl, p3⟩
              · rw [if_neg (fun t => d3 (by have := f1.1 t; omega)), if_pos (f2.2 (by omega))]
                exact ch_same I0 _
          · rw [bP_f d1, if_pos p0, bP_f (fun t => d1 t.1), if_pos p0]
            exact ch_same I0 _
        · rw [bP_f c4, if_pos p0, if_pos p0]
          exact ch_same I0 _
      · rw [bP_f c3, if_pos p0, if_pos p0]
        exact ch_same I0 _
    · rw [bP_f c2, if_pos p0, if_pos p0]
      exact ch_same I0 _
  · rw [bP_f c1, if_pos p0, if_pos p0]
    exact ch_same I0 _
end
