/-! time passes, swaps, cleaning, drawing, of both -/
section
variable {g : Nat} {M N S : Mem} {a b : Row}
/-- only the plotter's own cells differ; only the reference's row differs -/
def OG (g : Nat) (M N : Mem) : Prop := ∀ h k, h ≠ g → N h k = M h k
def OS (S T : Mem) : Prop := ∀ h k, ¬ (h = 0 ∧ k = 1) → T h k = S h k
theorem OG.rf : OG g M M := fun _ _ _ => rfl
theorem OS.rf : OS M M := fun _ _ _ => rfl
theorem OG.tr {M N P : Mem} (h : OG g M N) (h2 : OG g N P) : OG g M P := fun i k c => (h2 i k c).trans (h i k c)
theorem OS.tr {M N P : Mem} (h : OS M N) (h2 : OS N P) : OS M P := fun i k c => (h2 i k c).trans (h i k c)
theorem OG.up {M : Mem} {k j : Nat} {v : Int32} : OG g M (up3 M g k j v) := fun _ _ c => up3_cell _ _ (fun q => c q.1)
theorem OS.up {S : Mem} {j : Nat} {v : Int32} : OS S (up3 S 0 1 j v) := fun _ _ c => up3_cell _ _ c
def pss (a : Row) (n : Int) : Row := if 0 ≤ a 8 then uz (uz a 7 (a 7 + n)) (13 + 8 * (a 8).toNat + 4) (pa a (a 8).toNat 4 + n) else uz a 7 (a 7 + n)
theorem pss_f (a : Row) (n : Int) {i : Nat} (h : i ≠ 7) (h2 : i < 13) : pss a n i = a i := by
  unfold pss
  split
  · rw [uz_ne _ _ (by omega), uz_ne _ _ h]
  · rw [uz_ne _ _ h]
theorem pss_7 (a : Row) (n : Int) : pss a n 7 = a 7 + n := by
  unfold pss
  split
  · rw [uz_ne _ _ (by omega), uz_at]
  · rw [uz_at]
theorem pss_wf (W : WF a) {n : Int} (h : 0 ≤ n) (h2 : a 7 + n ≤ 100000) : WF (pss a n) := by
  have ws := W.sc
  have W1 : WF (uz a 7 (a 7 + n)) := W.s7 (by omega) h2
  unfold pss
  split
  · have u := W.pen (show (a 8).toNat < np a by omega)
    exact W1.q4 (p := (a 8).toNat) (by show (a 8).toNat < np a; omega) (by omega) (by rw [uz_at]; omega)
  · exact W1
theorem k_passIdly (W : WF a) (R : RC g M a) {n : Int} (h : 0 ≤ n) (h2 : a 7 + n ≤ 100000) : ∃ N, f_X5_passIdly g (zI n) M = some ((), N) ∧ RC g N (pss a n) ∧ OG g M N := by
  have ws := W.sc
  have W1 : WF (uz a 7 (a 7 + n)) := W.s7 (by omega) h2
  have R1 := R.s7 (a 7 + n)
  have kh : f_X4_has g (zI (a 8)) (up3 M g 0 3 (zI (a 7 + n))) = some (zI (bP (0 ≤ a 8 ∧ a 8 < np a)), up3 M g 0 3 (zI (a 7 + n))) := k_X4_has W1 R1 (by omega) (by omega)
  have m4 : up3 M g 0 3 (zI (a 7 + n)) g 0 4 = zI (a 8) := by rw [up3_slot _ _ (by omega)]; exact R.t4
  unfold f_X5_passIdly
  rw [R.t3, zI_add, lt_of, m4, ob_of kh]
  by_cases c : 0 ≤ a 8
  · obtain ⟨p, hp⟩ : ∃ p : Nat, a 8 = p := ⟨(a 8).toNat, by omega⟩
    have hpn : p < np a := by omega
    have e8 : up3 M g 0 3 (zI (a 7 + n)) g 8 p = zI (pa a p 4) := by rw [up3_cell _ _ (by omega)]; exact R.p8 hpn
    refine ⟨up3 (up3 M g 0 3 (zI (a 7 + n))) g 8 p (zI (pa a p 4 + n)), ?_, ?_, OG.up.tr OG.up⟩
    · rw [bP_t (by omega), if_neg (by decide)]
      rw [hp] at m4
      simp (disch := omega) only [zl_21, zl_22, zl_25, zl_40, zl_64, zl_150, zl_400, zl_1000000, zl_1065353216, zl_25214903, zl_2147483647, zl_32768, zl_1024, zl_0, zl_1, zl_2, zl_3, zl_4, zl_5, zl_6, zl_7, zl_8, zl_9, zl_10, zl_11, zl_12, zl_13, zl_14, zl_15, zl_16, zl_17, zl_18, zl_19, zl_20, zl_23, zl_24, zl_31, zl_32, zl_48, zl_50, zl_53, zl_57, zl_59, zl_60, zl_99, zl_100, zl_104, zl_112, zl_114, zl_119, zl_126, zl_127, zl_181, zl_200, zl_500, zl_543, zl_724, zl_999, zl_1000, zl_5000, zl_65536, zl_100000, zl_1000001, zl_1000002, zl_1000003, zl_1000004, zl_2143289344, zI_neg, zI_add, zI_sub, zI_mul, zI_le, zI_lt, zI_eq, ck_ib, ix_nat, ixz_0, ixz_1, ixz_2, ixz_3, ixz_4, ixz_5, ixz_6, ixz_7, ixz_8, ixz_9, ixz_10, ixz_11, ixz_12, ob_some, lt_of, ck_bP, bP_z, bP_o, ite_bP, Int.reduceToNat, Nat.reduceAdd, Nat.reduceMul, Int.reduceAdd, Int.reduceSub, Int.reduceMul, Int.reduceNeg, Int.reduceEq, Int.reduceLT, Int.reduceLE, ↓reduceIte, not_true_eq_false, not_false_eq_true, m4, e8, f_X5_passIdly_b40]
    · unfold pss
      rw [if_pos c, hp, Int.toNat_natCast]
      exact R1.q4 (p := p) (by show p < np a; omega) (by show np a ≤ 5; omega) _
  · refine ⟨up3 M g 0 3 (zI (a 7 + n)), ?_, ?_, OG.up⟩
    · rw [bP_f (by omega), if_pos (by decide)]
      rfl
    · unfold pss
      rw [if_neg c]
      exact R1
/-- a swap -/
def swr (a : Row) (p : Int) : Row := uz (uz (pss a (a 5)) 8 p) 11 (a 11 + 1)
theorem swr_wf (W : WF a) {p : Int} (h2 : a 7 + a 5 ≤ 100000) (h3 : -1 ≤ p) (h4 : p < np a) : WF (swr a p) := by
  have ws := W.sc
  have W1 := pss_wf W (show 0 ≤ a 5 by omega) h2
  have e : np (pss a (a 5)) = np a := np_c (pss_f a _ (by omega) (by omega))
  exact (W1.s8 (v := p) h3 (by rw [e]; exact h4)).s11
theorem k_swapTo (W : WF a) (R : RC g M a) (h2 : a 7 + a 5 ≤ 100000) (p : Int) : ∃ N, f_X5_swapTo g (zI p) M = some (zI (a 8), N) ∧ RC g N (swr a p) ∧ OG g M N := by
  have ws := W.sc
  obtain ⟨N, n1, n2, n3⟩ := k_passIdly W R (show 0 ≤ a 5 by omega) h2
  have e7 : up3 N g 0 4 (zI p) g 0 7 = zI (a 11) := by
    rw [up3_slot _ _ (by omega), n2.t7, pss_f a _ (by omega) (by omega)]
  refine ⟨up3 (up3 N g 0 4 (zI p)) g 0 7 (zI (a 11 + 1)), ?_, (n2.s8 p).s11 _, (n3.tr OG.up).tr OG.up⟩
  unfold f_X5_swapTo
  simp (disch := omega) only [zl_21, zl_22, zl_25, zl_40, zl_64, zl_150, zl_400, zl_1000000, zl_1065353216, zl_25214903, zl_2147483647, zl_32768, zl_1024, zl_0, zl_1, zl_2, zl_3, zl_4, zl_5, zl_6, zl_7, zl_8, zl_9, zl_10, zl_11, zl_12, zl_13, zl_14, zl_15, zl_16, zl_17, zl_18, zl_19, zl_20, zl_23, zl_24, zl_31, zl_32, zl_48, zl_50, zl_53, zl_57, zl_59, zl_60, zl_99, zl_100, zl_104, zl_112, zl_114, zl_119, zl_126, zl_127, zl_181, zl_200, zl_500, zl_543, zl_724, zl_999, zl_1000, zl_5000, zl_65536, zl_100000, zl_1000001, zl_1000002, zl_1000003, zl_1000004, zl_2143289344, zI_neg, zI_add, zI_sub, zI_mul, zI_le, zI_lt, zI_eq, ck_ib, ix_nat, ixz_0, ixz_1, ixz_2, ixz_3, ixz_4, ixz_5, ixz_6, ixz_7, ixz_8, ixz_9, ixz_10, ixz_11, ixz_12, ob_some, lt_of, ck_bP, bP_z, bP_o, ite_bP, Int.reduceToNat, Nat.reduceAdd, Nat.reduceMul, Int.reduceAdd, Int.reduceSub, Int.reduceMul, Int.reduceNeg, Int.reduceEq, Int.reduceLT, Int.reduceLE, ↓reduceIte, not_true_eq_false, not_false_eq_true, R.t4, R.rset, Nat.reduceAdd, n1, e7]
/-- cleaning -/
def clr (a : Row) : Row := uz (pss a (a 6)) (13 + 8 * (a 8).toNat + 4) 0
theorem clr_wf (W : WF a) (h : 0 ≤ a 8) (h2 : a 7 + a 6 ≤ 100000) : WF (clr a) := by
  have ws := W.sc
  have W1 := pss_wf W (show 0 ≤ a 6 by omega) h2
  have e : np (pss a (a 6)) = np a := np_c (pss_f a _ (by omega) (by omega))
  have t := pss_7 a (a 6)
  exact W1.q4 (p := (a 8).toNat) (by rw [e]; omega) (by omega) (by omega)
theorem k_cleanHand (W : WF a) (R : RC g M a) (h : 0 ≤ a 8) (h2 : a 7 + a 6 ≤ 100000) : ∃ N, f_X5_cleanHand g M = some (zI (pa a (a 8).toNat 4), N) ∧ RC g N (clr a) ∧ OG g M N := by
  have ws := W.sc
  obtain ⟨p, hp⟩ : ∃ p : Nat, a 8 = p := ⟨(a 8).toNat, by omega⟩
  have hpn : p < np a := by omega
  have c2 : (0 : Int) ≤ (p : Int) ∧ (p : Int) < (np a : Int) := by omega
  obtain ⟨N, n1, n2, n3⟩ := k_passIdly W R (show 0 ≤ a 6 by omega) h2
  have e : np (pss a (a 6)) = np a := np_c (pss_f a _ (by omega) (by omega))
  have e4 : N g 0 4 = zI p := by rw [n2.t4, pss_f a _ (by omega) (by omega), hp]
  refine ⟨up3 N g 8 p (zI 0), ?_, ?_, n3.tr OG.up⟩
  · unfold f_X5_cleanHand
    rw [hp, Int.toNat_natCast]
    simp (disch := omega) only [zl_21, zl_22, zl_25, zl_40, zl_64, zl_150, zl_400, zl_1000000, zl_1065353216, zl_25214903, zl_2147483647, zl_32768, zl_1024, zl_0, zl_1, zl_2, zl_3, zl_4, zl_5, zl_6, zl_7, zl_8, zl_9, zl_10, zl_11, zl_12, zl_13, zl_14, zl_15, zl_16, zl_17, zl_18, zl_19, zl_20, zl_23, zl_24, zl_31, zl_32, zl_48, zl_50, zl_53, zl_57, zl_59, zl_60, zl_99, zl_100, zl_104, zl_112, zl_114, zl_119, zl_126, zl_127, zl_181, zl_200, zl_500, zl_543, zl_724, zl_999, zl_1000, zl_5000, zl_65536, zl_100000, zl_1000001, zl_1000002, zl_1000003, zl_1000004, zl_2143289344, zI_neg, zI_add, zI_sub, zI_mul, zI_le, zI_lt, zI_eq, ck_ib, ix_nat, ixz_0, ixz_1, ixz_2, ixz_3, ixz_4, ixz_5, ixz_6, ixz_7, ixz_8, ixz_9, ixz_10, ixz_11, ixz_12, ob_some, lt_of, ck_bP, bP_z, bP_o, ite_bP, Int.reduceToNat, Nat.reduceAdd, Nat.reduceMul, Int.reduceAdd, Int.reduceSub, Int.reduceMul, Int.reduceNeg, Int.reduceEq, Int.reduceLT, Int.reduceLE, ↓reduceIte, not_true_eq_false, not_false_eq_true, R.t4, hp, k_X4_has W R, c2, and_self, R.p8, R.rset, Nat.reduceAdd, n1, e4]
  · unfold clr
    rw [hp, Int.toNat_natCast]
    exact n2.q4 (p := p) (by rw [e]; omega) (by rw [e]; omega) _
/-! what is asked ahead -/
theorem k_errorOfPassing (W : WF a) (R : RC g M a) {n : Int} (h : 0 ≤ n) (h2 : n ≤ 1000) : f_X5_errorOfPassing g (zI n) M = some (zI (if a 7 + n ≤ 100000 then 0 else -1000003), M) := by
  have ws := W.sc
  unfold f_X5_errorOfPassing f_X5_errorOfPassing_b17
  simp (disch := omega) only [zl_21, zl_22, zl_25, zl_40, zl_64, zl_150, zl_400, zl_1000000, zl_1065353216, zl_25214903, zl_2147483647, zl_32768, zl_1024, zl_0, zl_1, zl_2, zl_3, zl_4, zl_5, zl_6, zl_7, zl_8, zl_9, zl_10, zl_11, zl_12, zl_13, zl_14, zl_15, zl_16, zl_17, zl_18, zl_19, zl_20, zl_23, zl_24, zl_31, zl_32, zl_48, zl_50, zl_53, zl_57, zl_59, zl_60, zl_99, zl_100, zl_104, zl_112, zl_114, zl_119, zl_126, zl_127, zl_181, zl_200, zl_500, zl_543, zl_724, zl_999, zl_1000, zl_5000, zl_65536, zl_100000, zl_1000001, zl_1000002, zl_1000003, zl_1000004, zl_2143289344, zI_neg, zI_add, zI_sub, zI_mul, zI_le, zI_lt, zI_eq, ck_ib, ix_nat, ixz_0, ixz_1, ixz_2, ixz_3, ixz_4, ixz_5, ixz_6, ixz_7, ixz_8, ixz_9, ixz_10, ixz_11, ixz_12, ob_some, lt_of, ck_bP, bP_z, bP_o, ite_bP, Int.reduceToNat, Nat.reduceAdd, Nat.reduceMul, Int.reduceAdd, Int.reduceSub, Int.reduceMul, Int.reduceNeg, Int.reduceEq, Int.reduceLT, Int.reduceLE, ↓reduceIte, not_true_eq_false, not_false_eq_true, R.t3]
  split <;> rfl
/-- the answers of taking, of going home, of waiting, of cleaning, and the rows behind them -/
def tkr (a : Row) (z : Int) : Int × Row := if ¬ (0 ≤ z ∧ z < np a) then (-1000001, a) else if z = a 8 ∨ pa a z.toNat 6 = 1 then (-1000002, a) else if a 7 + a 5 ≤ 100000 then (a 8 + 1, swr a z) else (-1000003, a)
def hmr (a : Row) : Int × Row := if ¬ 0 ≤ a 8 then (-1000002, a) else if a 7 + a 5 ≤ 100000 then (a 8, swr a (-1)) else (-1000003, a)
def wtr (a : Row) (n : Int) : Int × Row := if ¬ (1 ≤ n ∧ n ≤ 200) then (-1000001, a) else if a 7 + n ≤ 100000 then (a 7 + n, pss a n) else (-1000003, a)
def cnr (a : Row) : Int × Row := if ¬ 0 ≤ a 8 then (-1000002, a) else if a 7 + a 6 ≤ 100000 then (pa a (a 8).toNat 4, clr a) else (-1000003, a)
theorem k_errorOfTaking (W : WF a) (R : RC g M a) {p : Nat} (hp : p < np a) : f_X5_errorOfTaking g (zI p) M = some (zI (if (p : Int) = a 8 ∨ pa a p 6 = 1 then -1000002 else if a 7 + a 5 ≤ 100000 then 0 else -1000003), M) := by
  have ws := W.sc
  unfold f_X5_errorOfTaking f_X5_errorOfTaking_b19
  by_cases c1 : (p : Int) = a 8
  · rw [if_pos (show (p : Int) = a 8 ∨ pa a p 6 = 1 from .inl c1)]
    simp (disch := omega) only [zl_21, zl_22, zl_25, zl_40, zl_64, zl_150, zl_400, zl_1000000, zl_1065353216, zl_25214903, zl_2147483647, zl_32768, zl_1024, zl_0, zl_1, zl_2, zl_3, zl_4, zl_5, zl_6, zl_7, zl_8, zl_9, zl_10, zl_11, zl_12, zl_13, zl_14, zl_15, zl_16, zl_17, zl_18, zl_19, zl_20, zl_23, zl_24, zl_31, zl_32, zl_48, zl_50, zl_53, zl_57, zl_59, zl_60, zl_99, zl_100, zl_104, zl_112, zl_114, zl_119, zl_126, zl_127, zl_181, zl_200, zl_500, zl_543, zl_724, zl_999, zl_1000, zl_5000, zl_65536, zl_100000, zl_1000001, zl_1000002, zl_1000003, zl_1000004, zl_2143289344, zI_neg, zI_add, zI_sub, zI_mul, zI_le, zI_lt, zI_eq, ck_ib, ix_nat, ixz_0, ixz_1, ixz_2, ixz_3, ixz_4, ixz_5, ixz_6, ixz_7, ixz_8, ixz_9, ixz_10, ixz_11, ixz_12, ob_some, lt_of, ck_bP, bP_z, bP_o, ite_bP, Int.reduceToNat, Nat.reduceAdd, Nat.reduceMul, Int.reduceAdd, Int.reduceSub, Int.reduceMul, Int.reduceNeg, Int.reduceEq, Int.reduceLT, Int.reduceLE, ↓reduceIte, not_true_eq_false, not_false_eq_true, R.t4, c1]
  · by_cases c2 : pa a p 6 = 1
    · rw [if_pos (show (p : Int) = a 8 ∨ pa a p 6 = 1 from .inr c2)]
      simp (disch := omega) only [zl_21, zl_22, zl_25, zl_40, zl_64, zl_150, zl_400, zl_1000000, zl_1065353216, zl_25214903, zl_2147483647, zl_32768, zl_1024, zl_0, zl_1, zl_2, zl_3, zl_4, zl_5, zl_6, zl_7, zl_8, zl_9, zl_10, zl_11, zl_12, zl_13, zl_14, zl_15, zl_16, zl_17, zl_18, zl_19, zl_20, zl_23, zl_24, zl_31, zl_32, zl_48, zl_50, zl_53, zl_57, zl_59, zl_60, zl_99, zl_100, zl_104, zl_112, zl_114, zl_119, zl_126, zl_127, zl_181, zl_200, zl_500, zl_543, zl_724, zl_999, zl_1000, zl_5000, zl_65536, zl_100000, zl_1000001, zl_1000002, zl_1000003, zl_1000004, zl_2143289344, zI_neg, zI_add, zI_sub, zI_mul, zI_le, zI_lt, zI_eq, ck_ib, ix_nat, ixz_0, ixz_1, ixz_2, ixz_3, ixz_4, ixz_5, ixz_6, ixz_7, ixz_8, ixz_9, ixz_10, ixz_11, ixz_12, ob_some, lt_of, ck_bP, bP_z, bP_o, ite_bP, Int.reduceToNat, Nat.reduceAdd, Nat.reduceMul, Int.reduceAdd, Int.reduceSub, Int.reduceMul, Int.reduceNeg, Int.reduceEq, Int.reduceLT, Int.reduceLE, ↓reduceIte, not_true_eq_false, not_false_eq_true, R.t4, c1, k_X4_isAway W R hp, c2]
    · rw [if_neg (show ¬ ((p : Int) = a 8 ∨ pa a p 6 = 1) from fun q => q.elim c1 c2)]
      simp (disch := omega) only [zl_21, zl_22, zl_25, zl_40, zl_64, zl_150, zl_400, zl_1000000, zl_1065353216, zl_25214903, zl_2147483647, zl_32768, zl_1024, zl_0, zl_1, zl_2, zl_3, zl_4, zl_5, zl_6, zl_7, zl_8, zl_9, zl_10, zl_11, zl_12, zl_13, zl_14, zl_15, zl_16, zl_17, zl_18, zl_19, zl_20, zl_23, zl_24, zl_31, zl_32, zl_48, zl_50, zl_53, zl_57, zl_59, zl_60, zl_99, zl_100, zl_104, zl_112, zl_114, zl_119, zl_126, zl_127, zl_181, zl_200, zl_500, zl_543, zl_724, zl_999, zl_1000, zl_5000, zl_65536, zl_100000, zl_1000001, zl_1000002, zl_1000003, zl_1000004, zl_2143289344, zI_neg, zI_add, zI_sub, zI_mul, zI_le, zI_lt, zI_eq, ck_ib, ix_nat, ixz_0, ixz_1, ixz_2, ixz_3, ixz_4, ixz_5, ixz_6, ixz_7, ixz_8, ixz_9, ixz_10, ixz_11, ixz_12, ob_some, lt_of, ck_bP, bP_z, bP_o, ite_bP, Int.reduceToNat, Nat.reduceAdd, Nat.reduceMul, Int.reduceAdd, Int.reduceSub, Int.reduceMul, Int.reduceNeg, Int.reduceEq, Int.reduceLT, Int.reduceLE, ↓reduceIte, not_true_eq_false, not_false_eq_true, R.t4, c1, k_X4_isAway W R hp, c2, R.rset, Nat.reduceAdd, k_errorOfPassing W R]
theorem k_errorOfCleaning (W : WF a) (R : RC g M a) : f_X5_errorOfCleaning g M = some (zI (if ¬ 0 ≤ a 8 then -1000002 else if a 7 + a 6 ≤ 100000 then 0 else -1000003), M) := by
  have ws := W.sc
  unfold f_X5_errorOfCleaning f_X5_errorOfCleaning_b23
  by_cases c1 : a 8 = -1
  · rw [if_pos (show ¬ 0 ≤ a 8 by omega)]
    simp (disch := omega) only [zl_21, zl_22, zl_25, zl_40, zl_64, zl_150, zl_400, zl_1000000, zl_1065353216, zl_25214903, zl_2147483647, zl_32768, zl_1024, zl_0, zl_1, zl_2, zl_3, zl_4, zl_5, zl_6, zl_7, zl_8, zl_9, zl_10, zl_11, zl_12, zl_13, zl_14, zl_15, zl_16, zl_17, zl_18, zl_19, zl_20, zl_23, zl_24, zl_31, zl_32, zl_48, zl_50, zl_53, zl_57, zl_59, zl_60, zl_99, zl_100, zl_104, zl_112, zl_114, zl_119, zl_126, zl_127, zl_181, zl_200, zl_500, zl_543, zl_724, zl_999, zl_1000, zl_5000, zl_65536, zl_100000, zl_1000001, zl_1000002, zl_1000003, zl_1000004, zl_2143289344, zI_neg, zI_add, zI_sub, zI_mul, zI_le, zI_lt, zI_eq, ck_ib, ix_nat, ixz_0, ixz_1, ixz_2, ixz_3, ixz_4, ixz_5, ixz_6, ixz_7, ixz_8, ixz_9, ixz_10, ixz_11, ixz_12, ob_some, lt_of, ck_bP, bP_z, bP_o, ite_bP, Int.reduceToNat, Nat.reduceAdd, Nat.reduceMul, Int.reduceAdd, Int.reduceSub, Int.reduceMul, Int.reduceNeg, Int.reduceEq, Int.reduceLT, Int.reduceLE, ↓reduceIte, not_true_eq_false, not_false_eq_true, R.t4, c1]
  · rw [if_neg (show ¬ ¬ 0 ≤ a 8 by omega)]
    simp (disch := omega) only [zl_21, zl_22, zl_25, zl_40, zl_64, zl_150, zl_400, zl_1000000, zl_1065353216, zl_25214903, zl_2147483647, zl_32768, zl_1024, zl_0, zl_1, zl_2, zl_3, zl_4, zl_5, zl_6, zl_7, zl_8, zl_9, zl_10, zl_11, zl_12, zl_13, zl_14, zl_15, zl_16, zl_17, zl_18, zl_19, zl_20, zl_23, zl_24, zl_31, zl_32, zl_48, zl_50, zl_53, zl_57, zl_59, zl_60, zl_99, zl_100, zl_104, zl_112, zl_114, zl_119, zl_126, zl_127, zl_181, zl_200, zl_500, zl_543, zl_724, zl_999, zl_1000, zl_5000, zl_65536, zl_100000, zl_1000001, zl_1000002, zl_1000003, zl_1000004, zl_2143289344, zI_neg, zI_add, zI_sub, zI_mul, zI_le, zI_lt, zI_eq, ck_ib, ix_nat, ixz_0, ixz_1, ixz_2, ixz_3, ixz_4, ixz_5, ixz_6, ixz_7, ixz_8, ixz_9, ixz_10, ixz_11, ixz_12, ob_some, lt_of, ck_bP, bP_z, bP_o, ite_bP, Int.reduceToNat, Nat.reduceAdd, Nat.reduceMul, Int.reduceAdd, Int.reduceSub, Int.reduceMul, Int.reduceNeg, Int.reduceEq, Int.reduceLT, Int.reduceLE, ↓reduceIte, not_true_eq_false, not_false_eq_true, R.t4, c1, R.rset, Nat.reduceAdd, k_errorOfPassing W R]
theorem k_errorOfWaiting (W : WF a) (R : RC g M a) {n : Int} (h1 : -2147483648 ≤ n) (h2 : n < 2147483648) : f_X5_errorOfWaiting g (zI n) M = some (zI (if ¬ (1 ≤ n ∧ n ≤ 200) then -1000001 else if a 7 + n ≤ 100000 then 0 else -1000003), M) := by
  have ws := W.sc
  unfold f_X5_errorOfWaiting f_X5_errorOfWaiting_b21
  by_cases c : 1 ≤ n ∧ n ≤ 200
  · rw [if_neg (fun q => q c)]
    simp (disch := omega) only [zl_21, zl_22, zl_25, zl_40, zl_64, zl_150, zl_400, zl_1000000, zl_1065353216, zl_25214903, zl_2147483647, zl_32768, zl_1024, zl_0, zl_1, zl_2, zl_3, zl_4, zl_5, zl_6, zl_7, zl_8, zl_9, zl_10, zl_11, zl_12, zl_13, zl_14, zl_15, zl_16, zl_17, zl_18, zl_19, zl_20, zl_23, zl_24, zl_31, zl_32, zl_48, zl_50, zl_53, zl_57, zl_59, zl_60, zl_99, zl_100, zl_104, zl_112, zl_114, zl_119, zl_126, zl_127, zl_181, zl_200, zl_500, zl_543, zl_724, zl_999, zl_1000, zl_5000, zl_65536, zl_100000, zl_1000001, zl_1000002, zl_1000003, zl_1000004, zl_2143289344, zI_neg, zI_add, zI_sub, zI_mul, zI_le, zI_lt, zI_eq, ck_ib, ix_nat, ixz_0, ixz_1, ixz_2, ixz_3, ixz_4, ixz_5, ixz_6, ixz_7, ixz_8, ixz_9, ixz_10, ixz_11, ixz_12, ob_some, lt_of, ck_bP, bP_z, bP_o, ite_bP, Int.reduceToNat, Nat.reduceAdd, Nat.reduceMul, Int.reduceAdd, Int.reduceSub, Int.reduceMul, Int.reduceNeg, Int.reduceEq, Int.reduceLT, Int.reduceLE, ↓reduceIte, not_true_eq_false, not_false_eq_true, k_isIn, c, and_self, k_errorOfPassing W R]
  · rw [if_pos c]
    simp (disch := omega) only [zl_21, zl_22, zl_25, zl_40, zl_64, zl_150, zl_400, zl_1000000, zl_1065353216, zl_25214903, zl_2147483647, zl_32768, zl_1024, zl_0, zl_1, zl_2, zl_3, zl_4, zl_5, zl_6, zl_7, zl_8, zl_9, zl_10, zl_11, zl_12, zl_13, zl_14, zl_15, zl_16, zl_17, zl_18, zl_19, zl_20, zl_23, zl_24, zl_31, zl_32, zl_48, zl_50, zl_53, zl_57, zl_59, zl_60, zl_99, zl_100, zl_104, zl_112, zl_114, zl_119, zl_126, zl_127, zl_181, zl_200, zl_500, zl_543, zl_724, zl_999, zl_1000, zl_5000, zl_65536, zl_100000, zl_1000001, zl_1000002, zl_1000003, zl_1000004, zl_2143289344, zI_neg, zI_add, zI_sub, zI_mul, zI_le, zI_lt, zI_eq, ck_ib, ix_nat, ixz_0, ixz_1, ixz_2, ixz_3, ixz_4, ixz_5, ixz_6, ixz_7, ixz_8, ixz_9, ixz_10, ixz_11, ixz_12, ob_some, lt_of, ck_bP, bP_z, bP_o, ite_bP, Int.reduceToNat, Nat.reduceAdd, Nat.reduceMul, Int.reduceAdd, Int.reduceSub, Int.reduceMul, Int.reduceNeg, Int.reduceEq, Int.reduceLT, Int.reduceLE, ↓reduceIte, not_true_eq_false, not_false_eq_true, k_isIn, c]
theorem tkr_wf (W : WF a) (z : Int) : WF (tkr a z).2 := by
  have ws := W.sc
  unfold tkr
  (repeat' split) <;> first | exact W | exact swr_wf W (by omega) (by omega) (by omega)
theorem hmr_wf (W : WF a) : WF (hmr a).2 := by
  have ws := W.sc
  unfold hmr
  (repeat' split) <;> first | exact W | exact swr_wf W (by omega) (by omega) (by omega)
theorem wtr_wf (W : WF a) (z : Int) : WF (wtr a z).2 := by
  have ws := W.sc
  unfold wtr
  (repeat' split) <;> first | exact W | exact pss_wf W (by omega) (by omega)
theorem cnr_wf (W : WF a) : WF (cnr a).2 := by
  have ws := W.sc
  unfold cnr
  (repeat' split) <;> first | exact W | exact clr_wf W (by omega) (by omega)
end
