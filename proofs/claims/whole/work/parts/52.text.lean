/-! texts are done, by both; fault and play -/
section
variable {g : Nat} {M N S T : Mem} {a b : Row} {c : Nat → Int} {t p : Nat}
/-- position, reason, cause, row, how many -/
abbrev Run : Type := Nat × Int × Int × Row × Nat
noncomputable def onx (c : Nat → Int) (t p : Nat) (a : Row) : Int × Int × Row := ord a (c p) (numv c p (fitc c t p - 1))
noncomputable def rnx (c : Nat → Int) (t : Nat) : Nat → Nat → Row → Nat → Run
  | 0, p, a, n => (p, 0, -1000004, a, n)
  | f + 1, p, a, n => if t ≤ p then (p, 0, -1000004, a, n) else @ite Run (cls c t p) (Classical.propDecidable _) (if (onx c t p a).1 = 0 then rnx c t f (p + fitc c t p + 1) (onx c t p a).2.2 (n + 1) else (p, (onx c t p a).1, (onx c t p a).2.1, (onx c t p a).2.2, n)) (p, 1, (fitc c t p : Int), a, n)
theorem rnx_end {f : Nat} {n : Nat} (h : t ≤ p) : rnx c t f p a n = (p, 0, -1000004, a, n) := by
  cases f with
  | zero => rfl
  | succ f => simp only [rnx]; rw [if_pos h]
theorem rnx_no {f n : Nat} (h : p < t) (hc : ¬ cls c t p) : rnx c t (f + 1) p a n = (p, 1, (fitc c t p : Int), a, n) := by
  simp only [rnx]; rw [if_neg (by omega), if_neg hc]
theorem rnx_bad {f n : Nat} (h : p < t) (hc : cls c t p) (h0 : (onx c t p a).1 ≠ 0) : rnx c t (f + 1) p a n = (p, (onx c t p a).1, (onx c t p a).2.1, (onx c t p a).2.2, n) := by
  simp only [rnx]; rw [if_neg (by omega), if_pos hc, if_neg h0]
theorem rnx_go {f n : Nat} (h : p < t) (hc : cls c t p) (h0 : (onx c t p a).1 = 0) : rnx c t (f + 1) p a n = rnx c t f (p + fitc c t p + 1) (onx c t p a).2.2 (n + 1) := by
  simp only [rnx]; rw [if_neg (by omega), if_pos hc, if_pos h0]
theorem cls_fit (h : cls c t p) : 1 ≤ fitc c t p ∧ p + fitc c t p < t ∧ (c p = 100 ∨ c p = 104 ∨ c p = 112 ∨ c p = 114 ∨ c p = 119 ∨ c p = 99) := by
  obtain ⟨h1, h2, h3⟩ := h
  have hf : 1 ≤ fitc c t p := by
    have : 1 ≤ (if wn (c p) then 2 else 1) := by split <;> omega
    omega
  refine ⟨hf, h2, ?_⟩
  unfold fitc at hf
  by_cases c1 : c p = 104 ∨ c p = 99
  · omega
  · rw [if_neg c1] at hf
    by_cases c2 : wn (c p)
    · omega
    · rw [if_neg c2] at hf
      omega
theorem cls_num (h : cls c t p) : 0 ≤ numv c p (fitc c t p - 1) ∧ numv c p (fitc c t p - 1) ≤ 999 := by
  have f4 := fitc_le (c := c) (t := t) (p := p)
  refine numv_rg (t := t) (by omega) (fun j hj => ?_)
  unfold fitc at hj
  by_cases c1 : c p = 104 ∨ c p = 99
  · rw [if_pos c1] at hj; omega
  · rw [if_neg c1] at hj
    by_cases c2 : wn (c p)
    · rw [if_pos c2] at hj
      exact nd3_dg (by omega)
    · rw [if_neg c2] at hj; omega
theorem rnx_wf : ∀ (f p n : Nat) (a : Row), WF a → WF (rnx c t f p a n).2.2.2.1 := by
  intro f
  induction f with
  | zero => exact fun _ _ _ W => W
  | succ f ih =>
    intro p n a W
    by_cases h : t ≤ p
    · rw [rnx_end h]; exact W
    · by_cases hc : cls c t p
      · by_cases h0 : (onx c t p a).1 = 0
        · rw [rnx_go (by omega) hc h0]; exact ih _ _ _ (ord_wf W _ _)
        · rw [rnx_bad (by omega) hc h0]; exact ord_wf W _ _
      · rw [rnx_no (by omega) hc]; exact W
theorem rnx_b : ∀ (f p n : Nat) (a : Row), 2 * n ≤ p → p ≤ t → 2 * (rnx c t f p a n).2.2.2.2 ≤ t ∧ (rnx c t f p a n).1 ≤ t ∧ 0 ≤ (rnx c t f p a n).2.1 ∧ (rnx c t f p a n).2.1 ≤ 3 := by
  intro f
  induction f with
  | zero => intro p n a h1 h2; exact ⟨by show 2 * n ≤ t; omega, h2, Int.le_refl _, by show (0 : Int) ≤ 3; omega⟩
  | succ f ih =>
    intro p n a h1 h2
    by_cases h : t ≤ p
    · rw [rnx_end h]; exact ⟨by show 2 * n ≤ t; omega, h2, Int.le_refl _, by show (0 : Int) ≤ 3; omega⟩
    · by_cases hc : cls c t p
      · have cf := cls_fit hc
        by_cases h0 : (onx c t p a).1 = 0
        · rw [rnx_go (by omega) hc h0]; exact ih _ _ _ (by omega) (by omega)
        · rw [rnx_bad (by omega) hc h0]
          have r := ord_r a (c p) (numv c p (fitc c t p - 1))
          exact ⟨by show 2 * n ≤ t; omega, h2, r.1, r.2.1⟩
      · rw [rnx_no (by omega) hc]; exact ⟨by show 2 * n ≤ t; omega, h2, by show (0 : Int) ≤ 1; omega, by show (1 : Int) ≤ 3; omega⟩
/-- the class: only the plotter and what the run finds differ -/
def OT (g : Nat) (M N : Mem) : Prop := (∀ h k, h ≠ g → ¬ (h = 0 ∧ k = 3) → N h k = M h k) ∧ ∀ j, j ≠ 2 → j ≠ 3 → j ≠ 4 → N 0 3 j = M 0 3 j
theorem OT.rf : OT g M M := ⟨fun _ _ _ _ => rfl, fun _ _ _ _ => rfl⟩
theorem OT.tr {P : Mem} (h : OT g M N) (k : OT g N P) : OT g M P := ⟨fun i j a1 a2 => (k.1 i j a1 a2).trans (h.1 i j a1 a2), fun j a1 a2 a3 => (k.2 j a1 a2 a3).trans (h.2 j a1 a2 a3)⟩
theorem OT.up {j : Nat} {v : Int32} (h : j = 2 ∨ j = 3 ∨ j = 4) : OT g M (up3 M 0 3 j v) := ⟨fun i k _ a2 => up3_cell _ _ a2, fun i a1 a2 a3 => up3_slot _ _ (by omega)⟩
theorem OC.ot (h : OC g M N) : OT g M N := ⟨h.1, fun j _ _ a3 => h.2 j a3⟩
theorem OT.tc (hg : g ≠ 0) (h : OT g M N) (C : TC1 M t c) : TC1 N t c := ⟨by rw [h.2 0 (by omega) (by omega) (by omega)]; exact C.1, fun i hi => by rw [h.1 0 4 (by omega) (by omega)]; exact C.2 i hi⟩
theorem k_doOn_l (hg : g ≠ 0) (O : TOk t c) : ∀ (f p n fu : Nat) (a : Row) (M : Mem), t ≤ p + f → f < fu → 2 * n ≤ p → p ≤ t → WF a → RC g M a → TC1 M t c → M 0 3 2 = zI p → M 0 3 3 = zI 0 → M 0 3 4 = zI (-1000004) → ∃ N, f_X3_doOn_b18 g fu (zI n) M = some (zI ((rnx c t f p a n).2.2.2.2 : Nat), N) ∧ N 0 3 2 = zI ((rnx c t f p a n).1 : Nat) ∧ N 0 3 3 = zI (rnx c t f p a n).2.1 ∧ N 0 3 4 = zI (rnx c t f p a n).2.2.1 ∧ RC g N (rnx c t f p a n).2.2.2.1 ∧ OT g M N := by
  intro f
  obtain ⟨o1, o2⟩ := id O
  induction f with
  | zero =>
    intro p n fu a M ht hf hn hp W R C h2 h3 h4
    obtain ⟨fu, rfl⟩ : ∃ f, fu = f + 1 := ⟨fu - 1, by omega⟩
    have c0 : ¬ ((60 : Int) ≤ (n : Int)) := by omega
    have c1 : ¬ ((p : Int) < (t : Int)) := by omega
    refine ⟨M, ?_, h2, h3, h4, R, OT.rf⟩
    rw [f_X3_doOn_b18.eq_2]
    simp (disch := omega) only [zl_0, zl_1, zl_2, zl_3, zl_4, zl_5, zl_6, zl_7, zl_8, zl_9, zl_10, zl_11, zl_12, zl_13, zl_14, zl_15, zl_16, zl_17, zl_18, zl_19, zl_20, zl_23, zl_24, zl_31, zl_32, zl_48, zl_50, zl_53, zl_57, zl_59, zl_60, zl_99, zl_100, zl_104, zl_112, zl_114, zl_119, zl_126, zl_127, zl_181, zl_200, zl_500, zl_543, zl_724, zl_999, zl_1000, zl_5000, zl_65536, zl_100000, zl_1000001, zl_1000002, zl_1000003, zl_1000004, zl_2143289344, zI_neg, zI_add, zI_sub, zI_mul, zI_le, zI_lt, zI_eq, ck_ib, ix_nat, ixz_0, ixz_1, ixz_2, ixz_3, ixz_4, ixz_5, ixz_6, ixz_7, ixz_8, ixz_9, ixz_10, ixz_11, ixz_12, ob_some, lt_of, ck_bP, bP_z, bP_o, ite_bP, Int.reduceToNat, Nat.reduceAdd, Nat.reduceMul, Int.reduceAdd, Int.reduceSub, Int.reduceMul, Int.reduceNeg, Int.reduceEq, Int.reduceLT, Int.reduceLE, ↓reduceIte, not_true_eq_false, not_false_eq_true, c0, h2, C.1, c1]
    rfl
  | succ f ih =>
    intro p n fu a M ht hf hn hp W R C h2 h3 h4
    obtain ⟨fu, rfl⟩ : ∃ f, fu = f + 1 := ⟨fu - 1, by omega⟩
    have c0 : ¬ ((60 : Int) ≤ (n : Int)) := by omega
    by_cases h : t ≤ p
    · have c1 : ¬ ((p : Int) < (t : Int)) := by omega
      rw [rnx_end h]
      refine ⟨M, ?_, h2, h3, h4, R, OT.rf⟩
      rw [f_X3_doOn_b18.eq_2]
      simp (disch := omega) only [zl_0, zl_1, zl_2, zl_3, zl_4, zl_5, zl_6, zl_7, zl_8, zl_9, zl_10, zl_11, zl_12, zl_13, zl_14, zl_15, zl_16, zl_17, zl_18, zl_19, zl_20, zl_23, zl_24, zl_31, zl_32, zl_48, zl_50, zl_53, zl_57, zl_59, zl_60, zl_99, zl_100, zl_104, zl_112, zl_114, zl_119, zl_126, zl_127, zl_181, zl_200, zl_500, zl_543, zl_724, zl_999, zl_1000, zl_5000, zl_65536, zl_100000, zl_1000001, zl_1000002, zl_1000003, zl_1000004, zl_2143289344, zI_neg, zI_add, zI_sub, zI_mul, zI_le, zI_lt, zI_eq, ck_ib, ix_nat, ixz_0, ixz_1, ixz_2, ixz_3, ixz_4, ixz_5, ixz_6, ixz_7, ixz_8, ixz_9, ixz_10, ixz_11, ixz_12, ob_some, lt_of, ck_bP, bP_z, bP_o, ite_bP, Int.reduceToNat, Nat.reduceAdd, Nat.reduceMul, Int.reduceAdd, Int.reduceSub, Int.reduceMul, Int.reduceNeg, Int.reduceEq, Int.reduceLT, Int.reduceLE, ↓reduceIte, not_true_eq_false, not_false_eq_true, c0, h2, C.1, c1]
    · have hpt : p < t := by omega
      have c1 : ((p : Int) < (t : Int)) := by omega
      have kf := k_fitting O C hpt h2
      have kc := k_closed O C hpt h2
      have f4 := fitc_le (c := c) (t := t) (p := p)
      by_cases hc : cls c t p
      · have cf := cls_fit hc
        have cn := cls_num hc
        have cv := o2 p hpt
        rw [bP_t hc] at kc
        obtain ⟨q, hq⟩ : ∃ q, fitc c t p = q + 1 := ⟨fitc c t p - 1, by omega⟩
        have kn := k_numberOf O C h2 (f := q) (by omega) (by omega)
        rw [← hq] at kn
        have e4 := C.2 p hpt
        obtain ⟨N, n1, n2, n3, n4⟩ := k_doing W hg R h4 (L := c p) (v := numv c p q) (by rw [hq] at cn; simp only [Nat.add_sub_cancel] at cn; omega) (by rw [hq] at cn; simp only [Nat.add_sub_cancel] at cn; omega) (by omega) (by omega)
        have eo : onx c t p a = ord a (c p) (numv c p q) := by unfold onx; rw [hq, Nat.add_sub_cancel]
        rw [← eo] at n1 n2 n3
        have ro := ord_r a (c p) (numv c p q)
        rw [← eo] at ro
        by_cases h0 : (onx c t p a).1 = 0
        · rw [rnx_go hpt hc h0]
          have ot : OT g M (up3 (up3 N 0 3 3 (zI 0)) 0 3 2 (zI ((p + fitc c t p + 1 : Nat) : Int))) := (n4.ot.tr (OT.up (by omega))).tr (OT.up (by omega))
          obtain ⟨P, p1, p2⟩ := ih (p + fitc c t p + 1) (n + 1) fu (onx c t p a).2.2 (up3 (up3 N 0 3 3 (zI 0)) 0 3 2 (zI ((p + fitc c t p + 1 : Nat) : Int))) (by omega) (by omega) (by omega) (by omega) (ord_wf W _ _) (n2.same (fun k _ => by rw [up3_cell _ _ (by omega), up3_cell _ _ (by omega)])) (ot.tc hg C) (up3_at _ _ _ _ _) (by rw [up3_slot _ _ (by omega), up3_at]) (by rw [up3_slot _ _ (by omega), up3_slot _ _ (by omega), n3, ro.2.2.1 h0])
          refine ⟨P, ?_, p2.1, p2.2.1, p2.2.2.1, p2.2.2.2.1, ot.tr p2.2.2.2.2⟩
          rw [← p1, f_X3_doOn_b18.eq_2]
          have e2 : N 0 3 2 = zI p := by rw [n4.2 2 (by omega)]; exact h2
          have ei : ((p : Int) + ((fitc c t p : Nat) + 1)) = ((p + fitc c t p + 1 : Nat) : Int) := by omega
          have en : ((n : Int) + 1) = ((n + 1 : Nat) : Int) := by omega
          rw [h0] at n1
          simp (disch := omega) only [zl_0, zl_1, zl_2, zl_3, zl_4, zl_5, zl_6, zl_7, zl_8, zl_9, zl_10, zl_11, zl_12, zl_13, zl_14, zl_15, zl_16, zl_17, zl_18, zl_19, zl_20, zl_23, zl_24, zl_31, zl_32, zl_48, zl_50, zl_53, zl_57, zl_59, zl_60, zl_99, zl_100, zl_104, zl_112, zl_114, zl_119, zl_126, zl_127, zl_181, zl_200, zl_500, zl_543, zl_724, zl_999, zl_1000, zl_5000, zl_65536, zl_100000, zl_1000001, zl_1000002, zl_1000003, zl_1000004, zl_2143289344, zI_neg, zI_add, zI_sub, zI_mul, zI_le, zI_lt, zI_eq, ck_ib, ix_nat, ixz_0, ixz_1, ixz_2, ixz_3, ixz_4, ixz_5, ixz_6, ixz_7, ixz_8, ixz_9, ixz_10, ixz_11, ixz_12, ob_some, lt_of, ck_bP, bP_z, bP_o, ite_bP, Int.reduceToNat, Nat.reduceAdd, Nat.reduceMul, Int.reduceAdd, Int.reduceSub, Int.reduceMul, Int.reduceNeg, Int.reduceEq, Int.reduceLT, Int.reduceLE, ↓reduceIte, not_true_eq_false, not_false_eq_true, c0, h2, C.1, c1, kf, kc, kn, e4, n1, up3_at, up3_slot, e2, ei, en]
        · rw [rnx_bad hpt hc h0]
          refine ⟨up3 N 0 3 3 (zI (onx c t p a).1), ?_, ?_, up3_at _ _ _ _ _, ?_, n2.same (fun k _ => up3_cell _ _ (by omega)), n4.ot.tr (OT.up (by omega))⟩
          · rw [f_X3_doOn_b18.eq_2]
            simp (disch := omega) only [zl_0, zl_1, zl_2, zl_3, zl_4, zl_5, zl_6, zl_7, zl_8, zl_9, zl_10, zl_11, zl_12, zl_13, zl_14, zl_15, zl_16, zl_17, zl_18, zl_19, zl_20, zl_23, zl_24, zl_31, zl_32, zl_48, zl_50, zl_53, zl_57, zl_59, zl_60, zl_99, zl_100, zl_104, zl_112, zl_114, zl_119, zl_126, zl_127, zl_181, zl_200, zl_500, zl_543, zl_724, zl_999, zl_1000, zl_5000, zl_65536, zl_100000, zl_1000001, zl_1000002, zl_1000003, zl_1000004, zl_2143289344, zI_neg, zI_add, zI_sub, zI_mul, zI_le, zI_lt, zI_eq, ck_ib, ix_nat, ixz_0, ixz_1, ixz_2, ixz_3, ixz_4, ixz_5, ixz_6, ixz_7, ixz_8, ixz_9, ixz_10, ixz_11, ixz_12, ob_some, lt_of, ck_bP, bP_z, bP_o, ite_bP, Int.reduceToNat, Nat.reduceAdd, Nat.reduceMul, Int.reduceAdd, Int.reduceSub, Int.reduceMul, Int.reduceNeg, Int.reduceEq, Int.reduceLT, Int.reduceLE, ↓reduceIte, not_true_eq_false, not_false_eq_true, c0, h2, C.1, c1, kf, kc, kn, e4, n1, up3_at, h0]
          · rw [up3_slot _ _ (by omega), n4.2 2 (by omega)]; exact h2
          · rw [up3_slot _ _ (by omega)]; exact n3
      · rw [bP_f hc] at kc
        rw [rnx_no hpt hc]
        refine ⟨up3 (up3 M 0 3 3 (zI 1)) 0 3 4 (zI (fitc c t p)), ?_, ?_, ?_, up3_at _ _ _ _ _, R.same (fun k _ => by rw [up3_cell _ _ (by omega), up3_cell _ _ (by omega)]), (OT.up (by omega)).tr (OT.up (by omega))⟩
        · rw [f_X3_doOn_b18.eq_2]
          simp (disch := omega) only [zl_0, zl_1, zl_2, zl_3, zl_4, zl_5, zl_6, zl_7, zl_8, zl_9, zl_10, zl_11, zl_12, zl_13, zl_14, zl_15, zl_16, zl_17, zl_18, zl_19, zl_20, zl_23, zl_24, zl_31, zl_32, zl_48, zl_50, zl_53, zl_57, zl_59, zl_60, zl_99, zl_100, zl_104, zl_112, zl_114, zl_119, zl_126, zl_127, zl_181, zl_200, zl_500, zl_543, zl_724, zl_999, zl_1000, zl_5000, zl_65536, zl_100000, zl_1000001, zl_1000002, zl_1000003, zl_1000004, zl_2143289344, zI_neg, zI_add, zI_sub, zI_mul, zI_le, zI_lt, zI_eq, ck_ib, ix_nat, ixz_0, ixz_1, ixz_2, ixz_3, ixz_4, ixz_5, ixz_6, ixz_7, ixz_8, ixz_9, ixz_10, ixz_11, ixz_12, ob_some, lt_of, ck_bP, bP_z, bP_o, ite_bP, Int.reduceToNat, Nat.reduceAdd, Nat.reduceMul, Int.reduceAdd, Int.reduceSub, Int.reduceMul, Int.reduceNeg, Int.reduceEq, Int.reduceLT, Int.reduceLE, ↓reduceIte, not_true_eq_false, not_false_eq_true, c0, h2, C.1, c1, kf, kc]
        · rw [up3_slot _ _ (by omega), up3_slot _ _ (by omega)]; exact h2
        · rw [up3_slot _ _ (by omega), up3_at]
theorem k_doOn (hg : g ≠ 0) (O : TOk t c) (W : WF a) (R : RC g M a) (C : TC1 M t c) : ∃ N, f_X3_doOn g M = some (zI ((rnx c t t 0 a 0).2.2.2.2 : Nat), N) ∧ N 0 3 2 = zI ((rnx c t t 0 a 0).1 : Nat) ∧ N 0 3 3 = zI (rnx c t t 0 a 0).2.1 ∧ N 0 3 4 = zI (rnx c t t 0 a 0).2.2.1 ∧ RC g N (rnx c t t 0 a 0).2.2.2.1 ∧ OT g M N := by
  have o1 := O.1
  have ot : OT g M (up3 (up3 (up3 M 0 3 2 (zI 0)) 0 3 3 (zI 0)) 0 3 4 (zI (-1000004))) := ((OT.up (by omega)).tr (OT.up (by omega))).tr (OT.up (by omega))
  obtain ⟨N, n1, n2, n3, n4, n5, n6⟩ := k_doOn_l hg O t 0 0 1000 a (up3 (up3 (up3 M 0 3 2 (zI 0)) 0 3 3 (zI 0)) 0 3 4 (zI (-1000004))) (by omega) (by omega) (by omega) (by omega) W (R.same (fun k _ => by simp (disch := omega) only [up3_cell])) (ot.tc hg C) (by simp (disch := omega) only [up3_slot, up3_at]; rfl) (by simp (disch := omega) only [up3_slot, up3_at]) (up3_at _ _ _ _ _)
  refine ⟨N, ?_, n2, n3, n4, n5, ot.tr n6⟩
  unfold f_X3_doOn
  rw [zl_0, zm_1000004, lt_of, lt_of, lt_of]
  exact n1
/-! the reference -/
def ON (S T : Mem) : Prop := (∀ h k, ¬ (h = 0 ∧ (k = 0 ∨ k = 1)) → T h k = S h k) ∧ ∀ j, j < 7 → T 0 0 j = S 0 0 j
theorem ON.rf : ON S S := ⟨fun _ _ _ => rfl, fun _ _ => rfl⟩
theorem ON.tr {V : Mem} (h : ON S T) (k : ON T V) : ON S V := ⟨fun i j q => (k.1 i j q).trans (h.1 i j q), fun j q => (k.2 j q).trans (h.2 j q)⟩
theorem ON.up {j : Nat} {v : Int32} (h : 7 ≤ j) : ON S (up3 S 0 0 j v) := ⟨fun i k q => up3_cell _ _ (by omega), fun i q => up3_slot _ _ (by omega)⟩
theorem ON.tr1 (h : ON S T) (C : TR1 S t c) : TR1 T t c := ⟨by rw [h.2 6 (by omega)]; exact C.1, fun i hi => by rw [h.1 0 5 (by omega)]; exact C.2 i hi⟩
theorem k_doesNext (O : TOk t c) (W : WF a) (Q : RM S a) (C : TR1 S t c) (hp : p < t) (h7 : S 0 0 7 = zI p) : (cls c t p → ∃ T, f_X8_doesNext S = some (zI (onx c t p a).1, T) ∧ RM T (onx c t p a).2.2 ∧ T 0 0 10 = zI (onx c t p a).2.1 ∧ T 0 0 7 = zI ((p + fitc c t p + 1 : Nat) : Int) ∧ ON S T) ∧ (¬ cls c t p → ∃ T, f_X8_doesNext S = some (zI 1, T) ∧ RM T a ∧ T 0 0 10 = zI (fitc c t p) ∧ ON S T) := by
  obtain ⟨o1, o2⟩ := id O
  have cv := o2 p hp
  have ks := k_sign O C (by omega) h7
  rw [if_pos hp] at ks
  have on1 : ON S (up3 S 0 0 10 (zI (-1000004))) := ON.up (by omega)
  obtain ⟨V, v1, v2, v3, v4, v5⟩ := k_readsForm O (on1.tr1 C) hp (show up3 S 0 0 10 (zI (-1000004)) 0 0 7 = zI p by rw [up3_slot _ _ (by omega)]; exact h7)
  have onV : ON S V := on1.tr ⟨fun h k q => v5 h k (by omega), fun j q => v4 j (by omega) (by omega)⟩
  have QV : RM V a := (RM.off Q _ (show (0 : Nat) ≠ 1 by omega)).same (v5 0 1 (by omega))
  have V10 : V 0 0 10 = zI (-1000004) := by rw [v4 10 (by omega) (by omega), up3_at]
  unfold f_X8_doesNext
  rw [h7, lt_of, ob_of ks, zm_1000004, lt_of, ob_of v1]
  constructor
  · intro hc
    have cf := cls_fit hc
    have cn := cls_num hc
    have f4 := fitc_le (c := c) (t := t) (p := p)
    rw [bP_t hc, if_neg (show ¬ (zI 1 = 0) by decide)]
    obtain ⟨T, t1, t2, t3, t4⟩ := k_doesIt W QV V10 (L := c p) (v3 hc) (by omega) (by omega) cf.2.2
    refine ⟨T, t1, t2, t3, ?_, onV.tr ⟨t4.1, fun j q => t4.2 j (by omega)⟩⟩
    rw [t4.2 7 (by omega), v2, bP_t hc]
    congr 1
  · intro hc
    have f4 := fitc_le (c := c) (t := t) (p := p)
    rw [bP_f hc, if_pos (show zI 0 = 0 by decide)]
    have e : V 0 0 7 - zI p = zI (fitc c t p) := by
      rw [v2, bP_f hc, zI_sub]
      congr 1
      omega
    refine ⟨up3 V 0 0 10 (zI (fitc c t p)), ?_, RM.off QV _ (by omega), up3_at _ _ _ _ _, onV.tr (ON.up (by omega))⟩
    rw [e, lt_of]
    rfl
/-- what the reference finds: where -/
noncomputable def fnd (r : Run) : Int := if r.2.1 = 0 then -1000004 else (r.1 : Int)
theorem k_faulty_l (O : TOk t c) : ∀ (f p n fu : Nat) (a : Row) (S : Mem), t ≤ p + f → f + 1 < fu → p ≤ t → WF a → RM S a → TR1 S t c → S 0 0 7 = zI p → ∃ T, f_X8_faulty_b35 fu (zI (-1000004)) S = f_X8_faulty_b81 (zI (fnd (rnx c t f p a n))) T ∧ ON S T ∧ ((rnx c t f p a n).2.1 ≠ 0 → T 0 0 9 = zI (rnx c t f p a n).2.1 ∧ T 0 0 10 = zI (rnx c t f p a n).2.2.1) := by
  intro f
  obtain ⟨o1, o2⟩ := id O
  induction f with
  | zero =>
    intro p n fu a S ht hf hp W Q C h7
    obtain ⟨fu, rfl⟩ : ∃ f, fu = f + 1 := ⟨fu - 1, by omega⟩
    have c1 : ((t : Int) ≤ (p : Int)) := by omega
    refine ⟨S, ?_, ON.rf, fun h => absurd rfl h⟩
    rw [f_X8_faulty_b35.eq_2]
    refine (if_pos ?_).trans rfl
    rw [C.1, h7]
    exact (zI_le (by omega) (by omega) (by omega) (by omega)).2 c1
  | succ f ih =>
    intro p n fu a S ht hf hp W Q C h7
    obtain ⟨fu, rfl⟩ : ∃ f, fu = f + 1 + 1 := ⟨fu - 2, by omega⟩
    by_cases h : t ≤ p
    · rw [rnx_end h]
      refine ⟨S, ?_, ON.rf, fun h => absurd rfl h⟩
      rw [f_X8_faulty_b35.eq_2]
      refine (if_pos ?_).trans rfl
      rw [C.1, h7]
      exact (zI_le (by omega) (by omega) (by omega) (by omega)).2 (by omega)
    · have hpt : p < t := by omega
      have n1 : ¬ (S 0 0 6 ≤ S 0 0 7) := by
        rw [C.1, h7, zI_le (by omega) (by omega) (by omega) (by omega)]
        omega
      have kd := k_doesNext O W Q C hpt h7
      have again : ∀ T : Mem, f_X8_faulty_b35 (fu + 1) (zI p) T = f_X8_faulty_b81 (zI p) T := by
        intro T
        rw [f_X8_faulty_b35.eq_2]
        have e : ¬ (zI p = -1000004) := by rw [zm_1000004, zI_eq (by omega) (by omega) (by omega) (by omega)]; omega
        by_cases q : T 0 0 6 ≤ T 0 0 7
        · exact if_pos q
        · refine (if_neg q).trans ?_
          exact if_neg e
      have bad : ∀ (r : Int) (T : Mem), 0 < r → r ≤ 3 → f_X8_doesNext S = some (zI r, T) → f_X8_faulty_b35 (fu + 1 + 1) (zI (-1000004)) S = f_X8_faulty_b81 (zI p) (up3 T 0 0 9 (zI r)) := by
        intro r T r1 r2 hd
        rw [f_X8_faulty_b35.eq_2]
        refine (if_neg n1).trans ?_
        rw [if_pos (show zI (-1000004) = -1000004 from zm_1000004.symm), h7, lt_of, ob_of hd, lt_of, up3_at, if_neg (by rw [zl_0, zI_le (by omega) (by omega) (by omega) (by omega)]; omega)]
        unfold f_X8_faulty_b77
        exact again _
      by_cases hc : cls c t p
      · obtain ⟨T, t1, t2, t3, t4, t5⟩ := kd.1 hc
        have cf := cls_fit hc
        have ro := ord_r a (c p) (numv c p (fitc c t p - 1))
        by_cases h0 : (onx c t p a).1 = 0
        · rw [rnx_go hpt hc h0]
          have on : ON S (up3 T 0 0 9 (zI 0)) := t5.tr (ON.up (by omega))
          obtain ⟨V, v1, v2, v3⟩ := ih (p + fitc c t p + 1) (n + 1) (fu + 1) (onx c t p a).2.2 (up3 T 0 0 9 (zI 0)) (by omega) (by omega) (by omega) (ord_wf W _ _) (RM.off t2 _ (by omega)) (on.tr1 C) (by rw [up3_slot _ _ (by omega)]; exact t4)
          refine ⟨V, ?_, on.tr v2, v3⟩
          rw [← v1, f_X8_faulty_b35.eq_2]
          refine (if_neg n1).trans ?_
          rw [h0] at t1
          rw [if_pos (show zI (-1000004) = -1000004 from zm_1000004.symm), h7, lt_of, ob_of t1, lt_of, up3_at, if_pos (show zI 0 ≤ 0 by decide)]
          rfl
        · rw [rnx_bad hpt hc h0]
          have ro1 : 0 ≤ (onx c t p a).1 ∧ (onx c t p a).1 ≤ 3 := ⟨ro.1, ro.2.1⟩
          refine ⟨up3 T 0 0 9 (zI (onx c t p a).1), ?_, t5.tr (ON.up (by omega)), fun _ => ⟨up3_at _ _ _ _ _, by rw [up3_slot _ _ (by omega)]; exact t3⟩⟩
          rw [bad _ T (by omega) (by omega) t1]
          unfold fnd
          rw [if_neg h0]
      · obtain ⟨T, t1, t2, t3, t5⟩ := kd.2 hc
        rw [rnx_no hpt hc]
        refine ⟨up3 T 0 0 9 (zI 1), ?_, t5.tr (ON.up (by omega)), fun _ => ⟨up3_at _ _ _ _ _, by rw [up3_slot _ _ (by omega)]; exact t3⟩⟩
        rw [bad 1 T (by omega) (by omega) t1]
        rfl
theorem k_aside_l : ∀ (d k fu : Nat) (S : Mem), k + d = 181 → d < fu → (∀ i, i < k → S 0 4 i = S 0 1 i) → ∃ T, f_X8_faulty_b2 fu (zI k) S = f_X8_faulty_b35 1000 (zI (-1000004)) (up3 T 0 0 7 (zI 0)) ∧ (∀ i, i < 181 → T 0 4 i = S 0 1 i) ∧ ∀ h i, ¬ (h = 0 ∧ i = 4) → T h i = S h i := by
  intro d
  induction d with
  | zero =>
    intro k fu S hk hf h
    obtain ⟨fu, rfl⟩ : ∃ f, fu = f + 1 := ⟨fu - 1, by omega⟩
    obtain rfl : k = 181 := by omega
    refine ⟨S, ?_, h, fun _ _ _ => rfl⟩
    rw [f_X8_faulty_b2.eq_2]
    refine (if_pos (by decide)).trans ?_
    rw [zm_1000004, zl_0, lt_of]
  | succ d ih =>
    intro k fu S hk hf h
    obtain ⟨fu, rfl⟩ : ∃ f, fu = f + 1 := ⟨fu - 1, by omega⟩
    have c0 : ¬ ((181 : Int) ≤ (k : Int)) := by omega
    obtain ⟨T, t1, t2, t3⟩ := ih (k + 1) fu (up3 S 0 4 k (S 0 1 k)) (by omega) (by omega) (fun i hi => by
      rw [up3_cell S _ (show ¬ (0 = 0 ∧ 1 = 4) by omega)]
      by_cases q : i = k
      · subst q; rw [up3_at]
      · rw [up3_slot _ _ q]; exact h i (by omega))
    simp only [nc1] at t1
    refine ⟨T, ?_, ?_, ?_⟩
    · rw [← t1, f_X8_faulty_b2.eq_2]
      simp (disch := omega) only [zl_0, zl_1, zl_2, zl_3, zl_4, zl_5, zl_6, zl_7, zl_8, zl_9, zl_10, zl_11, zl_12, zl_13, zl_14, zl_15, zl_16, zl_17, zl_18, zl_19, zl_20, zl_23, zl_24, zl_31, zl_32, zl_48, zl_50, zl_53, zl_57, zl_59, zl_60, zl_99, zl_100, zl_104, zl_112, zl_114, zl_119, zl_126, zl_127, zl_181, zl_200, zl_500, zl_543, zl_724, zl_999, zl_1000, zl_5000, zl_65536, zl_100000, zl_1000001, zl_1000002, zl_1000003, zl_1000004, zl_2143289344, zI_neg, zI_add, zI_sub, zI_mul, zI_le, zI_lt, zI_eq, ck_ib, ix_nat, ixz_0, ixz_1, ixz_2, ixz_3, ixz_4, ixz_5, ixz_6, ixz_7, ixz_8, ixz_9, ixz_10, ixz_11, ixz_12, ob_some, lt_of, ck_bP, bP_z, bP_o, ite_bP, Int.reduceToNat, Nat.reduceAdd, Nat.reduceMul, Int.reduceAdd, Int.reduceSub, Int.reduceMul, Int.reduceNeg, Int.reduceEq, Int.reduceLT, Int.reduceLE, ↓reduceIte, not_true_eq_false, not_false_eq_true, c0]
    · intro i hi
      rw [t2 i hi, up3_cell S _ (show ¬ (0 = 0 ∧ 1 = 4) by omega)]
    · intro h i q
      rw [t3 h i q, up3_cell _ _ q]
theorem k_back_l (x : Int32) : ∀ (d k fu : Nat) (S : Mem), k + d = 181 → d < fu → (∀ i, i < k → S 0 1 i = S 0 4 i) → ∃ T, f_X8_faulty_b83 fu x (zI k) S = some (x, T) ∧ (∀ i, i < 181 → T 0 1 i = S 0 4 i) ∧ ∀ h i, ¬ (h = 0 ∧ i = 1) → T h i = S h i := by
  intro d
  induction d with
  | zero =>
    intro k fu S hk hf h
    obtain ⟨fu, rfl⟩ : ∃ f, fu = f + 1 := ⟨fu - 1, by omega⟩
    obtain rfl : k = 181 := by omega
    refine ⟨S, ?_, h, fun _ _ _ => rfl⟩
    rw [f_X8_faulty_b83.eq_2]
    exact if_pos (by decide)
  | succ d ih =>
    intro k fu S hk hf h
    obtain ⟨fu, rfl⟩ : ∃ f, fu = f + 1 := ⟨fu - 1, by omega⟩
    have c0 : ¬ ((181 : Int) ≤ (k : Int)) := by omega
    obtain ⟨T, t1, t2, t3⟩ := ih (k + 1) fu (up3 S 0 1 k (S 0 4 k)) (by omega) (by omega) (fun i hi => by
      rw [up3_cell S _ (show ¬ (0 = 0 ∧ 4 = 1) by omega)]
      by_cases q : i = k
      · subst q; rw [up3_at]
      · rw [up3_slot _ _ q]; exact h i (by omega))
    simp only [nc1] at t1
    refine ⟨T, ?_, ?_, ?_⟩
    · rw [f_X8_faulty_b83.eq_2]
      simp (disch := omega) only [zl_0, zl_1, zl_2, zl_3, zl_4, zl_5, zl_6, zl_7, zl_8, zl_9, zl_10, zl_11, zl_12, zl_13, zl_14, zl_15, zl_16, zl_17, zl_18, zl_19, zl_20, zl_23, zl_24, zl_31, zl_32, zl_48, zl_50, zl_53, zl_57, zl_59, zl_60, zl_99, zl_100, zl_104, zl_112, zl_114, zl_119, zl_126, zl_127, zl_181, zl_200, zl_500, zl_543, zl_724, zl_999, zl_1000, zl_5000, zl_65536, zl_100000, zl_1000001, zl_1000002, zl_1000003, zl_1000004, zl_2143289344, zI_neg, zI_add, zI_sub, zI_mul, zI_le, zI_lt, zI_eq, ck_ib, ix_nat, ixz_0, ixz_1, ixz_2, ixz_3, ixz_4, ixz_5, ixz_6, ixz_7, ixz_8, ixz_9, ixz_10, ixz_11, ixz_12, ob_some, lt_of, ck_bP, bP_z, bP_o, ite_bP, Int.reduceToNat, Nat.reduceAdd, Nat.reduceMul, Int.reduceAdd, Int.reduceSub, Int.reduceMul, Int.reduceNeg, Int.reduceEq, Int.reduceLT, Int.reduceLE, ↓reduceIte, not_true_eq_false, not_false_eq_true, c0]
      exact t1
    · intro i hi
      rw [t2 i hi, up3_cell S _ (show ¬ (0 = 0 ∧ 4 = 1) by omega)]
    · intro h i q
      rw [t3 h i q, up3_cell _ _ q]
theorem k_faulty (O : TOk t c) (W : WF a) (Q : RM S a) (C : TR1 S t c) : ∃ T, f_X8_faulty S = some (zI (fnd (rnx c t t 0 a 0)), T) ∧ FS S T ∧ ((rnx c t t 0 a 0).2.1 ≠ 0 → T 0 0 9 = zI (rnx c t t 0 a 0).2.1 ∧ T 0 0 10 = zI (rnx c t t 0 a 0).2.2.1) := by
  have o1 := O.1
  obtain ⟨T1, a1, a2, a3⟩ := k_aside_l 181 0 1000 S (by omega) (by omega) (fun i h => absurd h (Nat.not_lt_zero i))
  have Q1 : RM (up3 T1 0 0 7 (zI 0)) a := RM.off (Q.same (a3 0 1 (by omega))) _ (by omega)
  have C1 : TR1 (up3 T1 0 0 7 (zI 0)) t c := ⟨by rw [up3_slot _ _ (by omega), a3 0 0 (by omega)]; exact C.1, fun i hi => by rw [up3_cell _ _ (by omega), a3 0 5 (by omega)]; exact C.2 i hi⟩
  obtain ⟨T2, b1, b2, b3⟩ := k_faulty_l O t 0 0 1000 a (up3 T1 0 0 7 (zI 0)) (by omega) (by omega) (by omega) W Q1 C1 (up3_at _ _ _ _ _)
  obtain ⟨T3, d1, d2, d3⟩ := k_back_l (zI (fnd (rnx c t t 0 a 0))) 181 0 1000 T2 (by omega) (by omega) (fun i h => absurd h (Nat.not_lt_zero i))
  refine ⟨T3, ?_, ⟨?_, ?_, ?_, ?_, ?_⟩, ?_⟩
  · exact a1.trans (b1.trans d1)
  · intro k hk
    rw [d2 k hk, b2.1 0 4 (by omega), up3_cell _ _ (by omega), a2 k hk]
  · rw [d3 0 2 (by omega), b2.1 0 2 (by omega), up3_cell _ _ (by omega), a3 0 2 (by omega)]
  · rw [d3 0 5 (by omega), b2.1 0 5 (by omega), up3_cell _ _ (by omega), a3 0 5 (by omega)]
  · rw [d3 0 0 (by omega), b2.2 4 (by omega), up3_slot _ _ (by omega), a3 0 0 (by omega)]
  · rw [d3 0 0 (by omega), b2.2 6 (by omega), up3_slot _ _ (by omega), a3 0 0 (by omega)]
  · intro h
    rw [d3 0 0 (by omega)]
    exact b3 h
theorem TX.get (X : TX M S) : ∃ (t : Nat) (c : Nat → Int), TOk t c ∧ TC1 M t c ∧ TR1 S t c := by
  obtain ⟨t, x1, x2, x3, x4⟩ := X
  refine ⟨t, fun i => (M 0 4 i).toInt, ⟨x1, fun i hi => ?_⟩, ⟨x2, fun i hi => (zI_of _).symm⟩, ⟨x3, fun i hi => ?_⟩⟩
  · obtain ⟨z, z1, z2, z3, z4⟩ := x4 i hi
    show 32 ≤ (M 0 4 i).toInt ∧ (M 0 4 i).toInt ≤ 126
    rw [z3, zI_toInt (by omega) (by omega)]
    exact ⟨z1, z2⟩
  · obtain ⟨z, z1, z2, z3, z4⟩ := x4 i hi
    show S 0 5 i = zI (M 0 4 i).toInt
    rw [zI_of, z3, z4]
theorem ch_fault {ns : Nat} (I : INV ns M S) (x : Int32) : C0 ns (f_X7_fault x M) (f_X8_fault x S) := by
  have I0 := I
  obtain ⟨a, n, h, W, R, Q, H, q, X⟩ := I
  obtain ⟨z, h1, h2, rfl⟩ := zI_ex x
  obtain ⟨t, c, O, C, D⟩ := X.get
  have o1 := O.1
  have ki : f_X7_isIn (zI z) 0 2 M = some (zI (bP (0 ≤ z ∧ z ≤ 2)), M) := by
    rw [zl_0, zl_2]; exact k_isIn h1 h2 (by omega) (by omega) (by omega) (by omega)
  have kj : f_X8_in (zI z) 0 2 S = some (zI (bP (0 ≤ z ∧ z ≤ 2)), S) := by
    rw [zl_0, zl_2]; exact k_in h1 h2 (by omega) (by omega) (by omega) (by omega)
  unfold f_X7_fault f_X8_fault
  rw [ob_of ki, ob_of kj]
  by_cases d : 0 ≤ z ∧ z ≤ 2
  · rw [bP_t d, if_neg (show ¬ (zI 1 = 0) by decide), if_neg (show ¬ (zI 1 = 0) by decide)]
    obtain ⟨M1, m1, m2, m3⟩ := k_copyFrom (g := 1) (g2 := 2) (M := M) (by omega)
    have R1 := CpOk.rc W R m2
    have C1 : TC1 M1 t c := ⟨by rw [m3 0 3 (by omega)]; exact C.1, fun i hi => by rw [m3 0 4 (by omega)]; exact C.2 i hi⟩
    obtain ⟨N, n1, n2, n3, n4, n5, n6⟩ := k_doOn (g := 2) (by decide) O W R1 C1
    obtain ⟨T, t1, t2, t3⟩ := k_faulty O W Q D
    have rb := rnx_b (c := c) (t := t) t 0 0 a (by omega) (by omega)
    have fc : FC M N := ⟨fun g k g0 g2 => by rw [n6.1 g k g2 (by omega), m3 g k g2], by rw [n6.1 0 1 (by omega) (by omega), m3 0 1 (by omega)], by rw [n6.1 0 2 (by omega) (by omega), m3 0 2 (by omega)], by rw [n6.2 0 (by omega) (by omega) (by omega), m3 0 3 (by omega)], by rw [n6.1 0 4 (by omega) (by omega), m3 0 4 (by omega)]⟩
    have I1 := I0.keep fc t2
    rw [ob_of m1, ob_of n1, ob_of t1, n2, n3, n4]
    generalize rnx c t t 0 a 0 = r at *
    have e0 : zI r.2.1 = 0 ↔ r.2.1 = 0 := by rw [zl_0]; exact zI_eq (by omega) (by omega) (by omega) (by omega)
    unfold f_X8_fault_b27 f_X8_fault_b47
    by_cases f : r.2.1 = 0
    · have e1 : fnd r = -1000004 := by unfold fnd; rw [if_pos f]
      rw [e1, if_pos (e0.2 f), if_pos (show zI (-1000004) = -1000004 from zm_1000004.symm), zm_1000004]
      exact ⟨_, N, T, rfl, rfl, I1⟩
    · obtain ⟨t9, t10⟩ := t3 f
      have e1 : fnd r = (r.1 : Int) := by unfold fnd; rw [if_neg f]
      have e2 : ¬ (zI (fnd r) = -1000004) := by rw [e1, zm_1000004, zI_eq (by omega) (by omega) (by omega) (by omega)]; omega
      rw [if_neg (fun t => f (e0.1 t)), if_neg e2, t9, t10, e1]
      rcases (by omega : z = 0 ∨ z = 1 ∨ z = 2) with rfl | rfl | rfl
      · exact ⟨_, N, T, rfl, rfl, I1⟩
      · exact ⟨_, N, T, rfl, rfl, I1⟩
      · exact ⟨_, N, T, rfl, rfl, I1⟩
  · rw [bP_f d, if_pos (show zI 0 = 0 by decide), if_pos (show zI 0 = 0 by decide)]
    exact ⟨_, M, S, rfl, rfl, I0⟩
theorem k_play_l (O : TOk t c) : ∀ (f p n fu : Nat) (a : Row) (S : Mem), t ≤ p + f → f < fu → p ≤ t → WF a → RM S a → TR1 S t c → S 0 0 7 = zI p → (rnx c t f p a n).2.1 = 0 → ∃ T, f_X8_play_b23 fu (zI n) S = (ob (f_X8_acted (zI ((rnx c t f p a n).2.2.2.2 : Nat)) T) fun r M => some (r, M)) ∧ RM T (rnx c t f p a n).2.2.2.1 ∧ ON S T := by
  intro f
  obtain ⟨o1, o2⟩ := id O
  induction f with
  | zero =>
    intro p n fu a S ht hf hp W Q C h7 hr
    obtain ⟨fu, rfl⟩ : ∃ f, fu = f + 1 := ⟨fu - 1, by omega⟩
    refine ⟨S, ?_, Q, ON.rf⟩
    rw [f_X8_play_b23.eq_2]
    refine (if_pos ?_).trans rfl
    rw [C.1, h7]
    exact (zI_le (by omega) (by omega) (by omega) (by omega)).2 (by omega)
  | succ f ih =>
    intro p n fu a S ht hf hp W Q C h7 hr
    obtain ⟨fu, rfl⟩ : ∃ f, fu = f + 1 := ⟨fu - 1, by omega⟩
    by_cases h : t ≤ p
    · rw [rnx_end h]
      refine ⟨S, ?_, Q, ON.rf⟩
      rw [f_X8_play_b23.eq_2]
      refine (if_pos ?_).trans rfl
      rw [C.1, h7]
      exact (zI_le (by omega) (by omega) (by omega) (by omega)).2 (by omega)
    · have hpt : p < t := by omega
      have n1 : ¬ (S 0 0 6 ≤ S 0 0 7) := by
        rw [C.1, h7, zI_le (by omega) (by omega) (by omega) (by omega)]
        omega
      have kd := k_doesNext O W Q C hpt h7
      by_cases hc : cls c t p
      · by_cases h0 : (onx c t p a).1 = 0
        · rw [rnx_go hpt hc h0] at hr ⊢
          obtain ⟨T, t1, t2, t3, t4, t5⟩ := kd.1 hc
          have cf := cls_fit hc
          obtain ⟨V, v1, v2, v3⟩ := ih (p + fitc c t p + 1) (n + 1) fu (onx c t p a).2.2 T (by omega) (by omega) (by omega) (ord_wf W _ _) t2 (t5.tr1 C) t4 hr
          refine ⟨V, ?_, v2, t5.tr v3⟩
          rw [← v1, f_X8_play_b23.eq_2]
          refine (if_neg n1).trans ?_
          rw [h0] at t1
          rw [ob_of t1, if_pos (show zI 0 = 0 by decide)]
          unfold f_X8_play_b47
          rw [zl_1, zI_add, lt_of]
          rfl
        · rw [rnx_bad hpt hc h0] at hr
          exact absurd hr h0
      · rw [rnx_no hpt hc] at hr
        exact absurd (show (1 : Int) = 0 from hr) (by decide)
theorem ch_play {ns : Nat} (I : INV ns M S) : CH (f_X7_play ns M) (f_X8_play S) := by
  have I0 := I
  obtain ⟨a, n, h, W, R, Q, H, q, X⟩ := I
  obtain ⟨t, c, O, C, D⟩ := X.get
  have o1 := O.1
  unfold f_X7_play f_X8_play
  obtain ⟨M1, m1, m2, m3⟩ := k_copyFrom (g := 1) (g2 := 2) (M := M) (by omega)
  have R1 := CpOk.rc W R m2
  have C1 : TC1 M1 t c := ⟨by rw [m3 0 3 (by omega)]; exact C.1, fun i hi => by rw [m3 0 4 (by omega)]; exact C.2 i hi⟩
  obtain ⟨N, n1, n2, n3, n4, n5, n6⟩ := k_doOn (g := 2) (by decide) O W R1 C1
  obtain ⟨T, t1, t2, t3⟩ := k_faulty O W Q D
  have rb := rnx_b (c := c) (t := t) t 0 0 a (by omega) (by omega)
  have rw' := rnx_wf (c := c) (t := t) t 0 0 a W
  have kp := k_play_l O t 0 0 1000 a
  have fc : FC M N := ⟨fun g k g0 g2 => by rw [n6.1 g k g2 (by omega), m3 g k g2], by rw [n6.1 0 1 (by omega) (by omega), m3 0 1 (by omega)], by rw [n6.1 0 2 (by omega) (by omega), m3 0 2 (by omega)], by rw [n6.2 0 (by omega) (by omega) (by omega), m3 0 3 (by omega)], by rw [n6.1 0 4 (by omega) (by omega), m3 0 4 (by omega)]⟩
  have I1 := I0.keep fc t2
  rw [ob_of m1, ob_of n1, ob_of t1, n3]
  generalize rnx c t t 0 a 0 = r at *
  have e0 : zI r.2.1 = 0 ↔ r.2.1 = 0 := by rw [zl_0]; exact zI_eq (by omega) (by omega) (by omega) (by omega)
  by_cases f : r.2.1 = 0
  · have e1 : fnd r = -1000004 := by unfold fnd; rw [if_pos f]
    rw [e1, if_pos (e0.2 f), if_pos (show zI (-1000004) = -1000004 from zm_1000004.symm)]
    obtain ⟨f1, f2, f3, f4, f5⟩ := fc
    obtain ⟨g1, g2, g3, g4, g5⟩ := t2
    have RN : RC 1 N a := R.same (fun k _ => f1 1 k (by omega) (by omega))
    have HN : HV N ns n h := H.same f2 (fun g k hg => f1 g k (by omega) (by omega))
    have QT : RM T a := fun j hj => (g1 j hj).trans (Q j hj)
    have qT : HS T n h := q.same g4 g2
    have XT : TX N T := X.same f4 f5 g5 g3
    have DT : TR1 T t c := ⟨g5.trans D.1, fun i hi => by rw [g3]; exact D.2 i hi⟩
    obtain ⟨ns', P, p1, p2, p3⟩ := k_record W RN HN
    have R2 : RC 2 P r.2.2.2.1 := n5.same (fun k _ => p3 2 k (by omega))
    obtain ⟨V, v1, v2, v3⟩ := k_copyFrom (g := 2) (g2 := 1) (M := P) (by omega)
    have R3 := CpOk.rc rw' R2 v2
    obtain ⟨T1, k1, k2, k3⟩ := k_keeps T
    obtain ⟨T2, u1, u2, u3⟩ := kp (up3 T1 0 0 7 (zI 0)) (by omega) (by omega) (by omega) W (RM.off (QT.same (k3 0 1 (by omega))) _ (by omega)) ⟨by rw [up3_slot _ _ (by omega), k3 0 0 (by omega)]; exact DT.1, fun i hi => by rw [up3_cell _ _ (by omega), k3 0 5 (by omega)]; exact DT.2 i hi⟩ (up3_at _ _ _ _ _) f
    have s4 : T2 0 0 4 = T 0 0 4 := by rw [u3.2 4 (by omega), up3_slot _ _ (by omega), k3 0 0 (by omega)]
    have s6 : T2 0 0 6 = T 0 0 6 := by rw [u3.2 6 (by omega), up3_slot _ _ (by omega), k3 0 0 (by omega)]
    have s2 : T2 0 2 = T 0 2 := by rw [u3.1 0 2 (by omega), up3_cell _ _ (by omega), k3 0 2 (by omega)]
    have s5 : T2 0 5 = T 0 5 := by rw [u3.1 0 5 (by omega), up3_cell _ _ (by omega), k3 0 5 (by omega)]
    obtain ⟨T3, w1, w2, w3, w4⟩ := k_acted (b := a) H.1 (qT.same s4 s2) (fun i hi => by rw [u3.1 0 3 (by omega), up3_cell _ _ (by omega), k2 i hi]; exact QT i hi) (r.2.2.2.2 : Int) (by omega) (by omega)
    rw [ob_of p1, ob_of v1, ob_of k1, zl_0, lt_of]
    refine ⟨zI (r.2.2.2.2 : Nat), ns', V, T3, rfl, ?_, r.2.2.2.1, phn n, phh n h a, rw', R3, u2.same (w3 0 1 (by omega)), p2.same (v3 0 1 (by omega)) (fun g k hg => v3 g k (by omega)), w2, ?_⟩
    · exact u1.trans (by rw [ob_of w1])
    · refine XT.same ?_ ?_ ?_ ?_
      · rw [v3 0 3 (by omega), p3 0 3 (by omega)]
      · rw [v3 0 4 (by omega), p3 0 4 (by omega)]
      · rw [w4 6 (by omega), s6]
      · rw [w3 0 5 (by omega), s5]
  · have e1 : fnd r = (r.1 : Int) := by unfold fnd; rw [if_neg f]
    have e2 : ¬ (zI (fnd r) = -1000004) := by rw [e1, zm_1000004, zI_eq (by omega) (by omega) (by omega) (by omega)]; omega
    rw [if_neg (fun t => f (e0.1 t)), if_neg e2]
    exact ⟨_, ns, N, T, rfl, rfl, I1⟩
end
