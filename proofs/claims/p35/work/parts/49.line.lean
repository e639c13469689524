/-! a line is added, of both -/
section
variable {g : Nat} {M N S : Mem} {a b : Row}
theorem k_spans {p q r s : Int} (h1 : 0 ≤ p ∧ p ≤ 99) (h2 : 0 ≤ q ∧ q ≤ 99) (h3 : 0 ≤ r ∧ r ≤ 99) (h4 : 0 ≤ s ∧ s ≤ 99) : f_X2_spansMeet (zI p) (zI q) (zI r) (zI s) M = some (zI (bP (spn p q r s)), M) := by
  have e1 : mn (mx (zI p) (zI q)) (mx (zI r) (zI s)) = zI (min (max p q) (max r s)) := by
    rw [mx_zI (by omega) (by omega) (by omega) (by omega), mx_zI (by omega) (by omega) (by omega) (by omega), mn_zI (by omega) (by omega) (by omega) (by omega)]
  have e2 : mx (mn (zI p) (zI q)) (mn (zI r) (zI s)) = zI (max (min p q) (min r s)) := by
    rw [mn_zI (by omega) (by omega) (by omega) (by omega), mn_zI (by omega) (by omega) (by omega) (by omega), mx_zI (by omega) (by omega) (by omega) (by omega)]
  unfold f_X2_spansMeet f_X2_spansMeet_b34
  have e3 : zI (min (max p q) (max r s)) < zI (max (min p q) (min r s)) ↔ min (max p q) (max r s) < max (min p q) (min r s) := zI_lt (by omega) (by omega) (by omega) (by omega)
  rw [e1, e2]
  unfold spn
  by_cases c : max (min p q) (min r s) ≤ min (max p q) (max r s)
  · rw [bP_t c, if_neg (fun t => by have := e3.1 t; omega)]
    rfl
  · rw [bP_f c, if_pos (e3.2 (by omega))]
    rfl
/-- a line's ends in the class's memory -/
def Ends (g : Nat) (M : Mem) (l : Nat) (x y x2 y2 : Int) : Prop := M g 11 l = zI x ∧ M g 12 l = zI y ∧ M g 13 l = zI x2 ∧ M g 14 l = zI y2
theorem k_reaches {l o : Nat} (hl : l < 16) (ho : o < 16) {ax ay bx b2 cx cy dx dy : Int} (A : Ends g M l ax ay bx b2) (C : Ends g M o cx cy dx dy) (h1 : 0 ≤ ax ∧ ax ≤ 99) (h2 : 0 ≤ ay ∧ ay ≤ 99) (h3 : 0 ≤ bx ∧ bx ≤ 99) (h4 : 0 ≤ b2 ∧ b2 ≤ 99) (h5 : 0 ≤ cx ∧ cx ≤ 99) (h6 : 0 ≤ cy ∧ cy ≤ 99) (h7 : 0 ≤ dx ∧ dx ≤ 99) (h8 : 0 ≤ dy ∧ dy ≤ 99) : f_X2_reachesAcross g (zI l) (zI o) M = some (zI (bP (crs cx cy dx dy ax ay * crs cx cy dx dy bx b2 ≤ 0)), M) := by
  obtain ⟨a1, a2, a3, a4⟩ := A
  obtain ⟨c1, c2, c3, c4⟩ := C
  have r1 := crs_rg h5 h6 h7 h8 h1 h2
  have r2 := crs_rg h5 h6 h7 h8 h3 h4
  have r3 := crs_mul r1 r2
  have e1 : (dx - cx) * (ay - cy) - (dy - cy) * (ax - cx) = crs cx cy dx dy ax ay := rfl
  have e2 : (dx - cx) * (b2 - cy) - (dy - cy) * (bx - cx) = crs cx cy dx dy bx b2 := rfl
  unfold f_X2_reachesAcross f_X2_reachesAcross_b110
  rw [ix_nat (by omega), ix_nat (by omega)]
  simp (disch := omega) only [ck_ib, lt_of, a1, a2, a3, a4, c1, c2, c3, c4, zI_sub, zI_mul]
  rw [e1, e2]
  generalize crs cx cy dx dy ax ay * crs cx cy dx dy bx b2 = v at r3
  simp (disch := omega) only [zl_21, zl_22, zl_25, zl_40, zl_64, zl_150, zl_400, zl_1000000, zl_1065353216, zl_25214903, zl_2147483647, zl_32768, zl_1024, zl_0, zl_1, zl_2, zl_3, zl_4, zl_5, zl_6, zl_7, zl_8, zl_9, zl_10, zl_11, zl_12, zl_13, zl_14, zl_15, zl_16, zl_17, zl_18, zl_19, zl_20, zl_23, zl_24, zl_31, zl_32, zl_48, zl_50, zl_53, zl_57, zl_59, zl_60, zl_99, zl_100, zl_104, zl_112, zl_114, zl_119, zl_126, zl_127, zl_181, zl_200, zl_500, zl_543, zl_724, zl_999, zl_1000, zl_5000, zl_65536, zl_100000, zl_1000001, zl_1000002, zl_1000003, zl_1000004, zl_2143289344, zI_neg, zI_add, zI_sub, zI_mul, zI_le, zI_lt, zI_eq, ck_ib, ix_nat, ixz_0, ixz_1, ixz_2, ixz_3, ixz_4, ixz_5, ixz_6, ixz_7, ixz_8, ixz_9, ixz_10, ixz_11, ixz_12, ob_some, lt_of, ck_bP, bP_z, bP_o, ite_bP, Int.reduceToNat, Nat.reduceAdd, Nat.reduceMul, Int.reduceAdd, Int.reduceSub, Int.reduceMul, Int.reduceNeg, Int.reduceEq, Int.reduceLT, Int.reduceLE, ↓reduceIte, not_true_eq_false, not_false_eq_true, ck_bl0, ck_bl1]
  split
  · exact sm_f (by omega) _
  · exact sm_t (by omega) _
theorem k_meet {l o : Nat} (hl : l < 16) (ho : o < 16) {ax ay bx b2 cx cy dx dy : Int} (A : Ends g M l ax ay bx b2) (C : Ends g M o cx cy dx dy) (h1 : 0 ≤ ax ∧ ax ≤ 99) (h2 : 0 ≤ ay ∧ ay ≤ 99) (h3 : 0 ≤ bx ∧ bx ≤ 99) (h4 : 0 ≤ b2 ∧ b2 ≤ 99) (h5 : 0 ≤ cx ∧ cx ≤ 99) (h6 : 0 ≤ cy ∧ cy ≤ 99) (h7 : 0 ≤ dx ∧ dx ≤ 99) (h8 : 0 ≤ dy ∧ dy ≤ 99) : f_X2_meet g (zI l) (zI o) M = some (zI (bP (gmeet ax ay bx b2 cx cy dx dy)), M) := by
  have k1 := k_reaches hl ho A C h1 h2 h3 h4 h5 h6 h7 h8
  have k2 := k_reaches ho hl C A h5 h6 h7 h8 h1 h2 h3 h4
  have s1 := k_spans (M := M) h1 h3 h5 h7
  have s2 := k_spans (M := M) h2 h4 h6 h8
  obtain ⟨a1, a2, a3, a4⟩ := A
  obtain ⟨c1, c2, c3, c4⟩ := C
  unfold f_X2_meet f_X2_meet_b82 f_X2_meet_b83
  rw [ix_nat (by omega), ix_nat (by omega)]
  by_cases d1 : spn ax bx cx dx
  · rw [bP_t d1] at s1
    by_cases d2 : spn ay b2 cy dy
    · rw [bP_t d2] at s2
      by_cases d3 : crs cx cy dx dy ax ay * crs cx cy dx dy bx b2 ≤ 0
      · rw [bP_t d3] at k1
        by_cases d4 : crs ax ay bx b2 cx cy * crs ax ay bx b2 dx dy ≤ 0
        · rw [bP_t d4] at k2
          rw [bP_t ⟨d1, d2, d3, d4⟩]
          simp (disch := omega) only [zl_21, zl_22, zl_25, zl_40, zl_64, zl_150, zl_400, zl_1000000, zl_1065353216, zl_25214903, zl_2147483647, zl_32768, zl_1024, zl_0, zl_1, zl_2, zl_3, zl_4, zl_5, zl_6, zl_7, zl_8, zl_9, zl_10, zl_11, zl_12, zl_13, zl_14, zl_15, zl_16, zl_17, zl_18, zl_19, zl_20, zl_23, zl_24, zl_31, zl_32, zl_48, zl_50, zl_53, zl_57, zl_59, zl_60, zl_99, zl_100, zl_104, zl_112, zl_114, zl_119, zl_126, zl_127, zl_181, zl_200, zl_500, zl_543, zl_724, zl_999, zl_1000, zl_5000, zl_65536, zl_100000, zl_1000001, zl_1000002, zl_1000003, zl_1000004, zl_2143289344, zI_neg, zI_add, zI_sub, zI_mul, zI_le, zI_lt, zI_eq, ck_ib, ix_nat, ixz_0, ixz_1, ixz_2, ixz_3, ixz_4, ixz_5, ixz_6, ixz_7, ixz_8, ixz_9, ixz_10, ixz_11, ixz_12, ob_some, lt_of, ck_bP, bP_z, bP_o, ite_bP, Int.reduceToNat, Nat.reduceAdd, Nat.reduceMul, Int.reduceAdd, Int.reduceSub, Int.reduceMul, Int.reduceNeg, Int.reduceEq, Int.reduceLT, Int.reduceLE, ↓reduceIte, not_true_eq_false, not_false_eq_true, a1, a2, a3, a4, c1, c2, c3, c4, s1, s2, k1, k2, ck_bl0, ck_bl1]
        · rw [bP_f d4] at k2
          rw [bP_f (fun t => d4 t.2.2.2)]
          simp (disch := omega) only [zl_21, zl_22, zl_25, zl_40, zl_64, zl_150, zl_400, zl_1000000, zl_1065353216, zl_25214903, zl_2147483647, zl_32768, zl_1024, zl_0, zl_1, zl_2, zl_3, zl_4, zl_5, zl_6, zl_7, zl_8, zl_9, zl_10, zl_11, zl_12, zl_13, zl_14, zl_15, zl_16, zl_17, zl_18, zl_19, zl_20, zl_23, zl_24, zl_31, zl_32, zl_48, zl_50, zl_53, zl_57, zl_59, zl_60, zl_99, zl_100, zl_104, zl_112, zl_114, zl_119, zl_126, zl_127, zl_181, zl_200, zl_500, zl_543, zl_724, zl_999, zl_1000, zl_5000, zl_65536, zl_100000, zl_1000001, zl_1000002, zl_1000003, zl_1000004, zl_2143289344, zI_neg, zI_add, zI_sub, zI_mul, zI_le, zI_lt, zI_eq, ck_ib, ix_nat, ixz_0, ixz_1, ixz_2, ixz_3, ixz_4, ixz_5, ixz_6, ixz_7, ixz_8, ixz_9, ixz_10, ixz_11, ixz_12, ob_some, lt_of, ck_bP, bP_z, bP_o, ite_bP, Int.reduceToNat, Nat.reduceAdd, Nat.reduceMul, Int.reduceAdd, Int.reduceSub, Int.reduceMul, Int.reduceNeg, Int.reduceEq, Int.reduceLT, Int.reduceLE, ↓reduceIte, not_true_eq_false, not_false_eq_true, a1, a2, a3, a4, c1, c2, c3, c4, s1, s2, k1, k2, ck_bl0, ck_bl1]
      · rw [bP_f d3] at k1
        rw [bP_f (fun t => d3 t.2.2.1)]
        simp (disch := omega) only [zl_21, zl_22, zl_25, zl_40, zl_64, zl_150, zl_400, zl_1000000, zl_1065353216, zl_25214903, zl_2147483647, zl_32768, zl_1024, zl_0, zl_1, zl_2, zl_3, zl_4, zl_5, zl_6, zl_7, zl_8, zl_9, zl_10, zl_11, zl_12, zl_13, zl_14, zl_15, zl_16, zl_17, zl_18, zl_19, zl_20, zl_23, zl_24, zl_31, zl_32, zl_48, zl_50, zl_53, zl_57, zl_59, zl_60, zl_99, zl_100, zl_104, zl_112, zl_114, zl_119, zl_126, zl_127, zl_181, zl_200, zl_500, zl_543, zl_724, zl_999, zl_1000, zl_5000, zl_65536, zl_100000, zl_1000001, zl_1000002, zl_1000003, zl_1000004, zl_2143289344, zI_neg, zI_add, zI_sub, zI_mul, zI_le, zI_lt, zI_eq, ck_ib, ix_nat, ixz_0, ixz_1, ixz_2, ixz_3, ixz_4, ixz_5, ixz_6, ixz_7, ixz_8, ixz_9, ixz_10, ixz_11, ixz_12, ob_some, lt_of, ck_bP, bP_z, bP_o, ite_bP, Int.reduceToNat, Nat.reduceAdd, Nat.reduceMul, Int.reduceAdd, Int.reduceSub, Int.reduceMul, Int.reduceNeg, Int.reduceEq, Int.reduceLT, Int.reduceLE, ↓reduceIte, not_true_eq_false, not_false_eq_true, a1, a2, a3, a4, c1, c2, c3, c4, s1, s2, k1, ck_bl0, ck_bl1]
    · rw [bP_f d2] at s2
      rw [bP_f (fun t => d2 t.2.1)]
      simp (disch := omega) only [zl_21, zl_22, zl_25, zl_40, zl_64, zl_150, zl_400, zl_1000000, zl_1065353216, zl_25214903, zl_2147483647, zl_32768, zl_1024, zl_0, zl_1, zl_2, zl_3, zl_4, zl_5, zl_6, zl_7, zl_8, zl_9, zl_10, zl_11, zl_12, zl_13, zl_14, zl_15, zl_16, zl_17, zl_18, zl_19, zl_20, zl_23, zl_24, zl_31, zl_32, zl_48, zl_50, zl_53, zl_57, zl_59, zl_60, zl_99, zl_100, zl_104, zl_112, zl_114, zl_119, zl_126, zl_127, zl_181, zl_200, zl_500, zl_543, zl_724, zl_999, zl_1000, zl_5000, zl_65536, zl_100000, zl_1000001, zl_1000002, zl_1000003, zl_1000004, zl_2143289344, zI_neg, zI_add, zI_sub, zI_mul, zI_le, zI_lt, zI_eq, ck_ib, ix_nat, ixz_0, ixz_1, ixz_2, ixz_3, ixz_4, ixz_5, ixz_6, ixz_7, ixz_8, ixz_9, ixz_10, ixz_11, ixz_12, ob_some, lt_of, ck_bP, bP_z, bP_o, ite_bP, Int.reduceToNat, Nat.reduceAdd, Nat.reduceMul, Int.reduceAdd, Int.reduceSub, Int.reduceMul, Int.reduceNeg, Int.reduceEq, Int.reduceLT, Int.reduceLE, ↓reduceIte, not_true_eq_false, not_false_eq_true, a1, a2, a3, a4, c1, c2, c3, c4, s1, s2, ck_bl0, ck_bl1]
  · rw [bP_f d1] at s1
    rw [bP_f (fun t => d1 t.1)]
    simp (disch := omega) only [zl_21, zl_22, zl_25, zl_40, zl_64, zl_150, zl_400, zl_1000000, zl_1065353216, zl_25214903, zl_2147483647, zl_32768, zl_1024, zl_0, zl_1, zl_2, zl_3, zl_4, zl_5, zl_6, zl_7, zl_8, zl_9, zl_10, zl_11, zl_12, zl_13, zl_14, zl_15, zl_16, zl_17, zl_18, zl_19, zl_20, zl_23, zl_24, zl_31, zl_32, zl_48, zl_50, zl_53, zl_57, zl_59, zl_60, zl_99, zl_100, zl_104, zl_112, zl_114, zl_119, zl_126, zl_127, zl_181, zl_200, zl_500, zl_543, zl_724, zl_999, zl_1000, zl_5000, zl_65536, zl_100000, zl_1000001, zl_1000002, zl_1000003, zl_1000004, zl_2143289344, zI_neg, zI_add, zI_sub, zI_mul, zI_le, zI_lt, zI_eq, ck_ib, ix_nat, ixz_0, ixz_1, ixz_2, ixz_3, ixz_4, ixz_5, ixz_6, ixz_7, ixz_8, ixz_9, ixz_10, ixz_11, ixz_12, ob_some, lt_of, ck_bP, bP_z, bP_o, ite_bP, Int.reduceToNat, Nat.reduceAdd, Nat.reduceMul, Int.reduceAdd, Int.reduceSub, Int.reduceMul, Int.reduceNeg, Int.reduceEq, Int.reduceLT, Int.reduceLE, ↓reduceIte, not_true_eq_false, not_false_eq_true, a1, a2, a3, a4, c1, c2, c3, c4, s1, ck_bl0, ck_bl1]
/-- the row with one more line -/
def lnr (a : Row) (x y x2 y2 : Int) : Row := fun k => if k = 1 then a 1 + 1 else if 53 + 8 * nl a ≤ k ∧ k < 53 + 8 * nl a + 8 then (if k = 53 + 8 * nl a then x else if k = 53 + 8 * nl a + 1 then y else if k = 53 + 8 * nl a + 2 then x2 else if k = 53 + 8 * nl a + 3 then y2 else if k = 53 + 8 * nl a + 4 then -1 else 0) else a k
theorem lnr_sc (a : Row) (x y x2 y2 : Int) {i : Nat} (h0 : i ≠ 1) (h : i < 53) : lnr a x y x2 y2 i = a i := by
  unfold lnr
  rw [if_neg h0, if_neg (by omega)]
theorem lnr_pa (a : Row) (x y x2 y2 : Int) {p w : Nat} (hp : p < 5) (hw : w < 8) : pa (lnr a x y x2 y2) p w = pa a p w := lnr_sc a x y x2 y2 (by omega) (by omega)
theorem lnr_la (a : Row) (x y x2 y2 : Int) {l w : Nat} (hw : w < 8) : la (lnr a x y x2 y2) l w = if l = nl a then (if w = 0 then x else if w = 1 then y else if w = 2 then x2 else if w = 3 then y2 else if w = 4 then -1 else 0) else la a l w := by
  unfold la lnr
  rw [if_neg (by omega)]
  by_cases c : l = nl a
  · subst c
    rw [if_pos (by omega), if_pos rfl]
    (repeat' split) <;> first | rfl | omega
  · rw [if_neg (by omega), if_neg c]
theorem lnr_nl (W : WF a) (x y x2 y2 : Int) : nl (lnr a x y x2 y2) = nl a + 1 := by
  have ws := W.sc
  unfold nl lnr
  rw [if_pos rfl]
  omega
theorem lnr_np (a : Row) (x y x2 y2 : Int) : np (lnr a x y x2 y2) = np a := np_c (lnr_sc _ _ _ _ _ (by omega) (by omega))
theorem lnr_wf (W : WF a) {x y x2 y2 : Int} (hn : nl a < 16) (h1 : 0 ≤ x ∧ x ≤ 99) (h2 : 0 ≤ y ∧ y ≤ 99) (h3 : 0 ≤ x2 ∧ x2 ≤ 99) (h4 : 0 ≤ y2 ∧ y2 ≤ 99) (hd : ¬ (x = x2 ∧ y = y2)) : WF (lnr a x y x2 y2) := by
  have ws := W.sc
  have w := W.1
  have e1 : lnr a x y x2 y2 1 = a 1 + 1 := by unfold lnr; rw [if_pos rfl]
  refine ⟨?_, ?_, ?_, ?_, ?_⟩
  · rw [e1]
    simp (disch := omega) only [lnr_sc]
    omega
  · intro p hp
    rw [lnr_np] at hp
    rw [lnr_sc a x y x2 y2 (show 7 ≠ 1 by omega) (by omega)]
    simp (disch := omega) only [lnr_pa]
    exact W.2.1 p hp
  · intro l hl
    rw [lnr_nl W] at hl
    rw [lnr_sc a x y x2 y2 (show 0 ≠ 1 by omega) (by omega)]
    simp (disch := omega) only [lnr_la]
    by_cases c : l = nl a
    · simp [c]
      omega
    · simp only [c, ↓reduceIte]
      exact W.2.2.1 l (by omega)
  · intro l hl
    rw [lnr_nl W] at hl
    simp (disch := omega) only [lnr_la]
    by_cases c : l = nl a
    · simp [c]
    · simp only [c, ↓reduceIte]
      exact W.2.2.2.1 l (by omega)
  · intro l hl
    rw [lnr_nl W] at hl
    simp (disch := omega) only [lnr_la]
    by_cases c : l = nl a
    · simp [c]
    · simp only [c, ↓reduceIte]
      exact W.2.2.2.2 l (by omega)
theorem tsI_next (b : Row) (l n : Nat) : tsI b l (n + 1) = @ite Int32 (n ≠ l ∧ tch b l n) (Classical.propDecidable _) (tsI b l n ||| bt n) (tsI b l n) := rfl
/-- the touching sets behind the first k lines -/
def TN (g : Nat) (b : Row) (n k : Nat) (M : Mem) : Prop := M g 16 n = tsI b n k ∧ (∀ o, o < k → M g 16 o = tsI b o (n + 1)) ∧ ∀ o, k ≤ o → o < n → M g 16 o = tsI b o n
theorem k_note_l {n : Nat} (hn : n < 16) (hr : ∀ l, l ≤ n → ∀ w, w < 4 → 0 ≤ la b l w ∧ la b l w ≤ 99) : ∀ (d k fu : Nat) (M : Mem), k + d = n → d < fu → (∀ l, l ≤ n → Ends g M l (la b l 0) (la b l 1) (la b l 2) (la b l 3)) → TN g b n k M → ∃ N, f_X2_noteTouching_b9 g fu (zI n) (zI k) M = some ((), N) ∧ TN g b n n N ∧ ∀ h j, ¬ (h = g ∧ j = 16) → N h j = M h j := by
  intro d
  induction d with
  | zero =>
    intro k fu M hk hf he ht
    obtain ⟨fu, rfl⟩ : ∃ f, fu = f + 1 := ⟨fu - 1, by omega⟩
    obtain rfl : k = n := by omega
    refine ⟨M, ?_, ht, fun _ _ _ => rfl⟩
    rw [f_X2_noteTouching_b9.eq_2]
    exact if_pos (Int32.le_refl _)
  | succ d ih =>
    intro k fu M hk hf he ht
    obtain ⟨fu, rfl⟩ : ∃ f, fu = f + 1 := ⟨fu - 1, by omega⟩
    have c0 : ¬ ((n : Int) ≤ (k : Int)) := by omega
    have km := k_meet hn (show k < 16 by omega) (he n (Nat.le_refl n)) (he k (by omega)) (hr n (by omega) 0 (by omega)) (hr n (by omega) 1 (by omega)) (hr n (by omega) 2 (by omega)) (hr n (by omega) 3 (by omega)) (hr k (by omega) 0 (by omega)) (hr k (by omega) 1 (by omega)) (hr k (by omega) 2 (by omega)) (hr k (by omega) 3 (by omega))
    obtain ⟨t1, t2, t3⟩ := ht
    have sy : tch b n k ↔ tch b k n := gmeet_comm
    by_cases c : tch b n k
    · have km2 : f_X2_meet g (zI n) (zI k) M = some (zI 1, M) := by rw [km, bP_t (show gmeet _ _ _ _ _ _ _ _ from c)]
      have x1 : tsI b n (k + 1) = tsI b n k ||| bt k := by rw [tsI_next, if_pos ⟨by omega, c⟩]
      have x2 : tsI b k (n + 1) = tsI b k n ||| bt n := by rw [tsI_next, if_pos ⟨by omega, sy.1 c⟩]
      obtain ⟨N, e1, e2, e3⟩ := ih (k + 1) fu (up3 (up3 M g 16 n (tsI b n k ||| bt k)) g 16 k (tsI b k n ||| bt n)) (by omega) (by omega) (fun l hl => by
          obtain ⟨z1, z2, z3, z4⟩ := he l hl
          unfold Ends
          simp (disch := omega) only [up3_cell]
          exact ⟨z1, z2, z3, z4⟩) ⟨by
          rw [up3_slot _ _ (by omega), up3_at, x1], by
          intro o ho
          by_cases f : o = k
          · subst f; rw [up3_at, x2]
          · rw [up3_slot _ _ f, up3_slot _ _ (by omega)]
            exact t2 o (by omega), by
          intro o h1 h2
          rw [up3_slot _ _ (by omega), up3_slot _ _ (by omega)]
          exact t3 o (by omega) h2⟩
      simp only [nc1] at e1
      refine ⟨N, ?_, e2, fun h j q => by rw [e3 h j q, up3_cell _ _ q, up3_cell _ _ q]⟩
      have y1 : M g 16 n ||| (zI 1 <<< (zI k &&& zI 31)) = tsI b n k ||| bt k := by rw [t1]; rfl
      have y2 : M g 16 k ||| (zI 1 <<< (zI n &&& zI 31)) = tsI b k n ||| bt n := by rw [t3 k (Nat.le_refl k) (by omega)]; rfl
      rw [f_X2_noteTouching_b9.eq_2]
      simp (disch := omega) only [zl_21, zl_22, zl_25, zl_40, zl_64, zl_150, zl_400, zl_1000000, zl_1065353216, zl_25214903, zl_2147483647, zl_32768, zl_1024, zl_0, zl_1, zl_2, zl_3, zl_4, zl_5, zl_6, zl_7, zl_8, zl_9, zl_10, zl_11, zl_12, zl_13, zl_14, zl_15, zl_16, zl_17, zl_18, zl_19, zl_20, zl_23, zl_24, zl_31, zl_32, zl_48, zl_50, zl_53, zl_57, zl_59, zl_60, zl_99, zl_100, zl_104, zl_112, zl_114, zl_119, zl_126, zl_127, zl_181, zl_200, zl_500, zl_543, zl_724, zl_999, zl_1000, zl_5000, zl_65536, zl_100000, zl_1000001, zl_1000002, zl_1000003, zl_1000004, zl_2143289344, zI_neg, zI_add, zI_sub, zI_mul, zI_le, zI_lt, zI_eq, ck_ib, ix_nat, ixz_0, ixz_1, ixz_2, ixz_3, ixz_4, ixz_5, ixz_6, ixz_7, ixz_8, ixz_9, ixz_10, ixz_11, ixz_12, ob_some, lt_of, ck_bP, bP_z, bP_o, ite_bP, Int.reduceToNat, Nat.reduceAdd, Nat.reduceMul, Int.reduceAdd, Int.reduceSub, Int.reduceMul, Int.reduceNeg, Int.reduceEq, Int.reduceLT, Int.reduceLE, ↓reduceIte, not_true_eq_false, not_false_eq_true, c0, km2, y1, up3_slot, y2, f_X2_noteTouching_b47]
      exact e1
    · have km2 : f_X2_meet g (zI n) (zI k) M = some (zI 0, M) := by rw [km, bP_f (show ¬ gmeet _ _ _ _ _ _ _ _ from c)]
      have x1 : tsI b n (k + 1) = tsI b n k := by rw [tsI_next, if_neg (fun t => c t.2)]
      have x2 : tsI b k (n + 1) = tsI b k n := by rw [tsI_next, if_neg (fun t => c (sy.2 t.2))]
      obtain ⟨N, e1, e2, e3⟩ := ih (k + 1) fu M (by omega) (by omega) he ⟨by rw [x1]; exact t1, by
          intro o ho
          by_cases f : o = k
          · subst f; rw [x2]; exact t3 o (Nat.le_refl o) (by omega)
          · exact t2 o (by omega), fun o h1 h2 => t3 o (by omega) h2⟩
      simp only [nc1] at e1
      refine ⟨N, ?_, e2, e3⟩
      rw [f_X2_noteTouching_b9.eq_2]
      simp (disch := omega) only [zl_21, zl_22, zl_25, zl_40, zl_64, zl_150, zl_400, zl_1000000, zl_1065353216, zl_25214903, zl_2147483647, zl_32768, zl_1024, zl_0, zl_1, zl_2, zl_3, zl_4, zl_5, zl_6, zl_7, zl_8, zl_9, zl_10, zl_11, zl_12, zl_13, zl_14, zl_15, zl_16, zl_17, zl_18, zl_19, zl_20, zl_23, zl_24, zl_31, zl_32, zl_48, zl_50, zl_53, zl_57, zl_59, zl_60, zl_99, zl_100, zl_104, zl_112, zl_114, zl_119, zl_126, zl_127, zl_181, zl_200, zl_500, zl_543, zl_724, zl_999, zl_1000, zl_5000, zl_65536, zl_100000, zl_1000001, zl_1000002, zl_1000003, zl_1000004, zl_2143289344, zI_neg, zI_add, zI_sub, zI_mul, zI_le, zI_lt, zI_eq, ck_ib, ix_nat, ixz_0, ixz_1, ixz_2, ixz_3, ixz_4, ixz_5, ixz_6, ixz_7, ixz_8, ixz_9, ixz_10, ixz_11, ixz_12, ob_some, lt_of, ck_bP, bP_z, bP_o, ite_bP, Int.reduceToNat, Nat.reduceAdd, Nat.reduceMul, Int.reduceAdd, Int.reduceSub, Int.reduceMul, Int.reduceNeg, Int.reduceEq, Int.reduceLT, Int.reduceLE, ↓reduceIte, not_true_eq_false, not_false_eq_true, c0, km2, f_X2_noteTouching_b47]
      exact e1
theorem k_X2_add (W : WF a) (R : RC g M a) (hn : nl a < 16) {x y x2 y2 : Int} (h1 : 0 ≤ x ∧ x ≤ 99) (h2 : 0 ≤ y ∧ y ≤ 99) (h3 : 0 ≤ x2 ∧ x2 ≤ 99) (h4 : 0 ≤ y2 ∧ y2 ≤ 99) (hd : ¬ (x = x2 ∧ y = y2)) : ∃ N, f_X2_add g (zI x) (zI y) (zI x2) (zI y2) M = some (zI (nl a), N) ∧ RC g N (lnr a x y x2 y2) ∧ OG g M N := by
  have ws := W.sc
  have Wb := lnr_wf W hn h1 h2 h3 h4 hd
  have eb : ∀ l, l < nl a → ∀ w, w < 8 → la (lnr a x y x2 y2) l w = la a l w := fun l hl w hw => by rw [lnr_la _ _ _ _ _ hw, if_neg (by omega)]
  have el : ∀ w, w < 8 → la (lnr a x y x2 y2) (nl a) w = if w = 0 then x else if w = 1 then y else if w = 2 then x2 else if w = 3 then y2 else if w = 4 then -1 else 0 := fun w hw => by rw [lnr_la _ _ _ _ _ hw, if_pos rfl]
  have dd := k_distance (M := up3 (up3 (up3 (up3 M g 11 (nl a) (zI x)) g 12 (nl a) (zI y)) g 13 (nl a) (zI x2)) g 14 (nl a) (zI y2)) h1 h2 h3 h4
  have en : ∀ l, l ≤ nl a → Ends g (up3 (up3 (up3 (up3 (up3 (up3 (up3 M g 11 (nl a) (zI x)) g 12 (nl a) (zI y)) g 13 (nl a) (zI x2)) g 14 (nl a) (zI y2)) g 15 (nl a) (zI (dst x y x2 y2))) g 17 (nl a) (zI (-1))) g 16 (nl a) (zI 0)) l (la (lnr a x y x2 y2) l 0) (la (lnr a x y x2 y2) l 1) (la (lnr a x y x2 y2) l 2) (la (lnr a x y x2 y2) l 3) := by
    intro l hl
    unfold Ends
    by_cases c : l = nl a
    · subst c
      rw [el 0 (by omega), el 1 (by omega), el 2 (by omega), el 3 (by omega)]
      simp (disch := omega) only [up3_cell, up3_at]
      simp
    · rw [eb l (by omega) 0 (by omega), eb l (by omega) 1 (by omega), eb l (by omega) 2 (by omega), eb l (by omega) 3 (by omega)]
      simp (disch := omega) only [up3_cell, up3_slot]
      exact ⟨R.l11 (by omega), R.l12 (by omega), R.l13 (by omega), R.l14 (by omega)⟩
  have tc : ∀ l, l < nl a → tsI (lnr a x y x2 y2) l (nl a) = tsI a l (nl a) := fun l hl => tsI_c (fun o ho w hw => eb o ho w (by omega)) (fun w hw => eb l hl w (by omega))
  obtain ⟨N, n1, n2, n3⟩ := k_note_l (g := g) (b := lnr a x y x2 y2) hn (by
    intro l hl w hw
    have v := Wb.line (l := l) (by rw [lnr_nl W]; omega)
    rcases (by omega : w = 0 ∨ w = 1 ∨ w = 2 ∨ w = 3) with rfl | rfl | rfl | rfl <;> omega) (nl a) 0 1000 _ (by omega) (by omega) en ⟨by rw [up3_at]; rfl, fun o ho => absurd ho (Nat.not_lt_zero o), by
    intro o _ ho
    simp (disch := omega) only [up3_cell, up3_slot]
    rw [tc o ho]
    exact R.l16 ho⟩
  have nk : ∀ j, j ≠ 16 → N g j = up3 (up3 (up3 (up3 (up3 (up3 M g 11 (nl a) (zI x)) g 12 (nl a) (zI y)) g 13 (nl a) (zI x2)) g 14 (nl a) (zI y2)) g 15 (nl a) (zI (dst x y x2 y2))) g 17 (nl a) (zI (-1)) g j := fun j hj => by rw [n3 g j (by omega), up3_cell _ _ (by omega)]
  refine ⟨up3 N g 10 0 (zI (nl a + 1)), ?_, ?_, ?_⟩
  · have e10 : N g 10 0 = zI (nl a) := by
      rw [nk 10 (by omega)]
      simp (disch := omega) only [up3_cell]
      exact R.rnl
    have no : f_X2_noteTouching g (zI (nl a)) (up3 (up3 (up3 (up3 (up3 (up3 M g 11 (nl a) (zI x)) g 12 (nl a) (zI y)) g 13 (nl a) (zI x2)) g 14 (nl a) (zI y2)) g 15 (nl a) (zI (dst x y x2 y2))) g 17 (nl a) (zI (-1))) = some ((), N) := by
      unfold f_X2_noteTouching
      rw [ck_ib (by omega) (by omega) (by omega), lt_of, ix_nat (by omega)]
      exact n1
    unfold f_X2_add
    simp (disch := omega) only [zl_21, zl_22, zl_25, zl_40, zl_64, zl_150, zl_400, zl_1000000, zl_1065353216, zl_25214903, zl_2147483647, zl_32768, zl_1024, zl_0, zl_1, zl_2, zl_3, zl_4, zl_5, zl_6, zl_7, zl_8, zl_9, zl_10, zl_11, zl_12, zl_13, zl_14, zl_15, zl_16, zl_17, zl_18, zl_19, zl_20, zl_23, zl_24, zl_31, zl_32, zl_48, zl_50, zl_53, zl_57, zl_59, zl_60, zl_99, zl_100, zl_104, zl_112, zl_114, zl_119, zl_126, zl_127, zl_181, zl_200, zl_500, zl_543, zl_724, zl_999, zl_1000, zl_5000, zl_65536, zl_100000, zl_1000001, zl_1000002, zl_1000003, zl_1000004, zl_2143289344, zI_neg, zI_add, zI_sub, zI_mul, zI_le, zI_lt, zI_eq, ck_ib, ix_nat, ixz_0, ixz_1, ixz_2, ixz_3, ixz_4, ixz_5, ixz_6, ixz_7, ixz_8, ixz_9, ixz_10, ixz_11, ixz_12, ob_some, lt_of, ck_bP, bP_z, bP_o, ite_bP, Int.reduceToNat, Nat.reduceAdd, Nat.reduceMul, Int.reduceAdd, Int.reduceSub, Int.reduceMul, Int.reduceNeg, Int.reduceEq, Int.reduceLT, Int.reduceLE, ↓reduceIte, not_true_eq_false, not_false_eq_true, R.rnl, dd, no, e10]
  · obtain ⟨t1, t2, t3⟩ := n2
    refine ⟨?_, ⟨?_, ?_⟩, ?_, ?_, ?_, ?_, ?_⟩
    · intro i hi
      rw [up3_cell _ _ (by omega), nk 1 (by omega), lnr_sc _ _ _ _ _ (by omega) (by omega)]
      simp (disch := omega) only [up3_cell]
      exact R.rset hi
    · rw [up3_cell _ _ (by omega), nk 2 (by omega), lnr_np]
      simp (disch := omega) only [up3_cell]
      exact R.rnp
    · rw [up3_at, lnr_nl W]
      rfl
    · intro p hp
      rw [lnr_np] at hp
      simp (disch := omega) only [up3_cell, lnr_pa, nk]
      exact R.rpen hp
    · intro l hl
      rw [lnr_nl W] at hl
      rw [lnr_nl W]
      by_cases c : l = nl a
      · subst c
        have le : len (lnr a x y x2 y2) (nl a) = dst x y x2 y2 := by
          unfold len
          rw [el 0 (by omega), el 1 (by omega), el 2 (by omega), el 3 (by omega)]
          simp
        have tt : tsI (lnr a x y x2 y2) (nl a) (nl a + 1) = tsI (lnr a x y x2 y2) (nl a) (nl a) := by
          rw [tsI_next, if_neg (fun t => t.1 rfl)]
        rw [le, tt, el 0 (by omega), el 1 (by omega), el 2 (by omega), el 3 (by omega), el 4 (by omega)]
        rw [up3_cell N _ (show ¬ (g = g ∧ 16 = 10) by omega), t1]
        simp (disch := omega) only [up3_cell, up3_at, nk]
        simp
      · have hl2 : l < nl a := by omega
        rw [len_c (a := a) (fun w hw => eb l hl2 w (by omega)), eb l hl2 0 (by omega), eb l hl2 1 (by omega), eb l hl2 2 (by omega), eb l hl2 3 (by omega), eb l hl2 4 (by omega)]
        rw [up3_cell N _ (show ¬ (g = g ∧ 16 = 10) by omega), t2 l hl2]
        simp (disch := omega) only [up3_cell, up3_slot, nk]
        have r := R.rline hl2
        exact ⟨r.1, r.2.1, r.2.2.1, r.2.2.2.1, r.2.2.2.2.1, by first | rfl | trivial, r.2.2.2.2.2.2⟩
    · intro l hl
      rw [lnr_nl W] at hl
      by_cases c : l = nl a
      · subst c
        rw [el 4 (by omega)]
        intro hq
        exact absurd rfl hq
      · have hl2 : l < nl a := by omega
        rw [eb l hl2 4 (by omega), eb l hl2 5 (by omega), eb l hl2 6 (by omega)]
        intro hq
        simp (disch := omega) only [up3_cell, up3_slot, nk]
        exact R.rdrawn hl2 hq
    · intro l hl
      rw [lnr_nl W] at hl
      by_cases c : l = nl a
      · subst c
        rw [el 4 (by omega)]
        intro hq
        exact absurd rfl hq
      · have hl2 : l < nl a := by omega
        have v := W.line hl2
        rw [eb l hl2 4 (by omega), eb l hl2 7 (by omega)]
        intro hq
        rw [lnr_pa _ _ _ _ _ (by omega) (by omega)]
        simp (disch := omega) only [up3_cell, up3_slot, nk]
        exact R.rshade hl2 hq
    · simp (disch := omega) only [up3_cell, lnr_sc, nk]
      exact R.rsc
  · intro h k c
    rw [up3_cell _ _ (by omega), n3 h k (by omega)]
    simp (disch := omega) only [up3_cell]
theorem k_isPoint {x y : Int} (h1 : -2147483648 ≤ x) (h2 : x < 2147483648) (h3 : -2147483648 ≤ y) (h4 : y < 2147483648) : f_X7_isPoint (zI x) (zI y) M = some (zI (bP ((0 ≤ x ∧ x ≤ 99) ∧ (0 ≤ y ∧ y ≤ 99))), M) := by
  have k1 : f_X7_isIn (zI x) (zI 0) (zI 99) M = some (zI (bP (0 ≤ x ∧ x ≤ 99)), M) := k_isIn h1 h2 (by omega) (by omega) (by omega) (by omega)
  have k2 : f_X7_isIn (zI y) (zI 0) (zI 99) M = some (zI (bP (0 ≤ y ∧ y ≤ 99)), M) := k_isIn h3 h4 (by omega) (by omega) (by omega) (by omega)
  unfold f_X7_isPoint f_X7_isPoint_b24 f_X7_isPoint_b25
  by_cases c : 0 ≤ x ∧ x ≤ 99
  · rw [bP_t c] at k1
    by_cases d : 0 ≤ y ∧ y ≤ 99
    · rw [bP_t d] at k2
      rw [bP_t ⟨c, d⟩]
      simp (disch := omega) only [zl_21, zl_22, zl_25, zl_40, zl_64, zl_150, zl_400, zl_1000000, zl_1065353216, zl_25214903, zl_2147483647, zl_32768, zl_1024, zl_0, zl_1, zl_2, zl_3, zl_4, zl_5, zl_6, zl_7, zl_8, zl_9, zl_10, zl_11, zl_12, zl_13, zl_14, zl_15, zl_16, zl_17, zl_18, zl_19, zl_20, zl_23, zl_24, zl_31, zl_32, zl_48, zl_50, zl_53, zl_57, zl_59, zl_60, zl_99, zl_100, zl_104, zl_112, zl_114, zl_119, zl_126, zl_127, zl_181, zl_200, zl_500, zl_543, zl_724, zl_999, zl_1000, zl_5000, zl_65536, zl_100000, zl_1000001, zl_1000002, zl_1000003, zl_1000004, zl_2143289344, zI_neg, zI_add, zI_sub, zI_mul, zI_le, zI_lt, zI_eq, ck_ib, ix_nat, ixz_0, ixz_1, ixz_2, ixz_3, ixz_4, ixz_5, ixz_6, ixz_7, ixz_8, ixz_9, ixz_10, ixz_11, ixz_12, ob_some, lt_of, ck_bP, bP_z, bP_o, ite_bP, Int.reduceToNat, Nat.reduceAdd, Nat.reduceMul, Int.reduceAdd, Int.reduceSub, Int.reduceMul, Int.reduceNeg, Int.reduceEq, Int.reduceLT, Int.reduceLE, ↓reduceIte, not_true_eq_false, not_false_eq_true, k1, k2, ck_bl1]
    · rw [bP_f d] at k2
      rw [bP_f (fun t => d t.2)]
      simp (disch := omega) only [zl_21, zl_22, zl_25, zl_40, zl_64, zl_150, zl_400, zl_1000000, zl_1065353216, zl_25214903, zl_2147483647, zl_32768, zl_1024, zl_0, zl_1, zl_2, zl_3, zl_4, zl_5, zl_6, zl_7, zl_8, zl_9, zl_10, zl_11, zl_12, zl_13, zl_14, zl_15, zl_16, zl_17, zl_18, zl_19, zl_20, zl_23, zl_24, zl_31, zl_32, zl_48, zl_50, zl_53, zl_57, zl_59, zl_60, zl_99, zl_100, zl_104, zl_112, zl_114, zl_119, zl_126, zl_127, zl_181, zl_200, zl_500, zl_543, zl_724, zl_999, zl_1000, zl_5000, zl_65536, zl_100000, zl_1000001, zl_1000002, zl_1000003, zl_1000004, zl_2143289344, zI_neg, zI_add, zI_sub, zI_mul, zI_le, zI_lt, zI_eq, ck_ib, ix_nat, ixz_0, ixz_1, ixz_2, ixz_3, ixz_4, ixz_5, ixz_6, ixz_7, ixz_8, ixz_9, ixz_10, ixz_11, ixz_12, ob_some, lt_of, ck_bP, bP_z, bP_o, ite_bP, Int.reduceToNat, Nat.reduceAdd, Nat.reduceMul, Int.reduceAdd, Int.reduceSub, Int.reduceMul, Int.reduceNeg, Int.reduceEq, Int.reduceLT, Int.reduceLE, ↓reduceIte, not_true_eq_false, not_false_eq_true, k1, k2, ck_bl0]
  · rw [bP_f c] at k1
    rw [bP_f (fun t => c t.1)]
    simp (disch := omega) only [zl_21, zl_22, zl_25, zl_40, zl_64, zl_150, zl_400, zl_1000000, zl_1065353216, zl_25214903, zl_2147483647, zl_32768, zl_1024, zl_0, zl_1, zl_2, zl_3, zl_4, zl_5, zl_6, zl_7, zl_8, zl_9, zl_10, zl_11, zl_12, zl_13, zl_14, zl_15, zl_16, zl_17, zl_18, zl_19, zl_20, zl_23, zl_24, zl_31, zl_32, zl_48, zl_50, zl_53, zl_57, zl_59, zl_60, zl_99, zl_100, zl_104, zl_112, zl_114, zl_119, zl_126, zl_127, zl_181, zl_200, zl_500, zl_543, zl_724, zl_999, zl_1000, zl_5000, zl_65536, zl_100000, zl_1000001, zl_1000002, zl_1000003, zl_1000004, zl_2143289344, zI_neg, zI_add, zI_sub, zI_mul, zI_le, zI_lt, zI_eq, ck_ib, ix_nat, ixz_0, ixz_1, ixz_2, ixz_3, ixz_4, ixz_5, ixz_6, ixz_7, ixz_8, ixz_9, ixz_10, ixz_11, ixz_12, ob_some, lt_of, ck_bP, bP_z, bP_o, ite_bP, Int.reduceToNat, Nat.reduceAdd, Nat.reduceMul, Int.reduceAdd, Int.reduceSub, Int.reduceMul, Int.reduceNeg, Int.reduceEq, Int.reduceLT, Int.reduceLE, ↓reduceIte, not_true_eq_false, not_false_eq_true, k1, ck_bl0]
end
