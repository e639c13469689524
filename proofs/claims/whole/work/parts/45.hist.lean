/-! copies and the history, of both -/
section
variable {g g2 : Nat} {M N S : Mem} {a b : Row}
def CpOk (g g2 : Nat) (M N : Mem) : Prop := (∀ i, i < 5 → N g2 1 i = M g 1 i) ∧ (N g2 2 0 = M g 2 0 ∧ N g2 10 0 = M g 10 0) ∧ (∀ p, p < 5 → N g2 3 p = M g 3 p ∧ N g2 4 p = M g 4 p ∧ N g2 5 p = M g 5 p ∧ N g2 6 p = M g 6 p ∧ N g2 7 p = M g 7 p ∧ N g2 8 p = M g 8 p ∧ N g2 9 p = M g 9 p) ∧ (∀ l, l < 16 → N g2 11 l = M g 11 l ∧ N g2 12 l = M g 12 l ∧ N g2 13 l = M g 13 l ∧ N g2 14 l = M g 14 l ∧ N g2 15 l = M g 15 l ∧ N g2 16 l = M g 16 l ∧ N g2 17 l = M g 17 l ∧ N g2 18 l = M g 18 l ∧ N g2 19 l = M g 19 l ∧ N g2 20 l = M g 20 l) ∧ (N g2 0 3 = M g 0 3 ∧ N g2 0 4 = M g 0 4 ∧ N g2 0 5 = M g 0 5 ∧ N g2 0 6 = M g 0 6 ∧ N g2 0 7 = M g 0 7 ∧ N g2 0 8 = M g 0 8)
theorem CpOk.rc (W : WF a) (R : RC g M a) (h : CpOk g g2 M N) : RC g2 N a := by
  have ws := W.sc
  obtain ⟨h1, h2, h3, h4, h5⟩ := h
  refine ⟨fun i hi => by rw [h1 i hi]; exact R.rset hi, ⟨by rw [h2.1]; exact R.rnp, by rw [h2.2]; exact R.rnl⟩, ?_, ?_, ?_, ?_, ?_⟩
  · intro p hp
    obtain ⟨q3, q4, q5, q6, q7, q8, q9⟩ := h3 p (by omega)
    rw [q3, q4, q5, q6, q7, q8, q9]
    exact R.rpen hp
  · intro l hl
    obtain ⟨q11, q12, q13, q14, q15, q16, q17, q18, q19, q20⟩ := h4 l (by omega)
    rw [q11, q12, q13, q14, q15, q16, q17]
    exact R.rline hl
  · intro l hl hd
    obtain ⟨q11, q12, q13, q14, q15, q16, q17, q18, q19, q20⟩ := h4 l (by omega)
    rw [q18, q19]
    exact R.rdrawn hl hd
  · intro l hl hd
    obtain ⟨q11, q12, q13, q14, q15, q16, q17, q18, q19, q20⟩ := h4 l (by omega)
    rw [q20]
    exact R.rshade hl hd
  · obtain ⟨q3, q4, q5, q6, q7, q8⟩ := h5
    rw [q3, q4, q5, q6, q7, q8]
    exact R.rsc
theorem k_copyFrom (hg : g ≠ g2) : ∃ N, f_X5_copyFrom g2 g M = some ((), N) ∧ CpOk g g2 M N ∧ OG g2 M N := by
  refine ⟨up3 (up3 (up3 (up3 (up3 (up3 (cp3 (cp3 (cp3 (cp3 (cp3 (cp3 (cp3 (cp3 (cp3 (cp3 (up3 (cp3 (cp3 (cp3 (cp3 (cp3 (cp3 (cp3 (up3 (cp3 (M) g2 1 (va_cpy (M g 1) (M g2 1) 0 0 5)) g2 2 0 (M g 2 0)) g2 3 (va_cpy (M g 3) (M g2 3) 0 0 5)) g2 4 (va_cpy (M g 4) (M g2 4) 0 0 5)) g2 5 (va_cpy (M g 5) (M g2 5) 0 0 5)) g2 6 (va_cpy (M g 6) (M g2 6) 0 0 5)) g2 7 (va_cpy (M g 7) (M g2 7) 0 0 5)) g2 8 (va_cpy (M g 8) (M g2 8) 0 0 5)) g2 9 (va_cpy (M g 9) (M g2 9) 0 0 5)) g2 10 0 (M g 10 0)) g2 11 (va_cpy (M g 11) (M g2 11) 0 0 16)) g2 12 (va_cpy (M g 12) (M g2 12) 0 0 16)) g2 13 (va_cpy (M g 13) (M g2 13) 0 0 16)) g2 14 (va_cpy (M g 14) (M g2 14) 0 0 16)) g2 15 (va_cpy (M g 15) (M g2 15) 0 0 16)) g2 16 (va_cpy (M g 16) (M g2 16) 0 0 16)) g2 17 (va_cpy (M g 17) (M g2 17) 0 0 16)) g2 18 (va_cpy (M g 18) (M g2 18) 0 0 16)) g2 19 (va_cpy (M g 19) (M g2 19) 0 0 16)) g2 20 (va_cpy (M g 20) (M g2 20) 0 0 16)) g2 0 3 (M g 0 3)) g2 0 4 (M g 0 4)) g2 0 5 (M g 0 5)) g2 0 6 (M g 0 6)) g2 0 7 (M g 0 7)) g2 0 8 (M g 0 8), ?_, ⟨?_, ⟨?_, ?_⟩, ?_, ?_, ?_⟩, ?_⟩
  · unfold f_X5_copyFrom f_X4_copyFrom f_X2_copyFrom
    simp (disch := omega) only [k_copy, ob_some, lt_of, up3_cell, up3_slot, cp3_ne]
  · intro i hi
    simp (disch := omega) only [up3_cell, cp3_self, cp3_ne, cpy_at]
  · simp (disch := omega) only [up3_cell, up3_at, cp3_self, cp3_ne, cpy_at]
  · simp (disch := omega) only [up3_cell, up3_at, cp3_self, cp3_ne, cpy_at]
  · intro p hp
    simp (disch := omega) only [up3_cell, cp3_self, cp3_ne, cpy_at, and_self]
  · intro l hl
    simp (disch := omega) only [up3_cell, cp3_self, cp3_ne, cpy_at, and_self]
  · simp (disch := omega) only [up3_at, up3_slot, and_self]
  · intro h k c
    simp (disch := omega) only [up3_cell, cp3_ne]
/-! the states of the history, oldest first -/
def HV (M : Mem) (ns n : Nat) (h : Nat → Row) : Prop := n ≤ 4 ∧ (∀ i, i < n → WF (h i)) ∧ ∃ nx : Nat, nx < 4 ∧ M 0 1 1 = zI nx ∧ M 0 1 2 = zI n ∧ (ns = 4 ∨ (ns < 4 ∧ nx ≤ ns ∧ n ≤ nx)) ∧ ∀ i, i < n → RC (3 + (nx + 4 - n + i) % 4) M (h i)
def HS (S : Mem) (n : Nat) (h : Nat → Row) : Prop := S 0 0 4 = zI n ∧ ∀ i, i < n → ∀ k, k < 181 → S 0 2 (181 * i + k) = zI (h i k)
theorem HV.same (h1 : N 0 1 = M 0 1) (h2 : ∀ g k, 3 ≤ g → N g k = M g k) {ns n : Nat} {h : Nat → Row} (H : HV M ns n h) : HV N ns n h := by
  obtain ⟨q1, q2, nx, q3, q4, q5, q6, q7⟩ := H
  exact ⟨q1, q2, nx, q3, by rw [h1]; exact q4, by rw [h1]; exact q5, q6, fun i hi => (q7 i hi).same (fun k _ => h2 _ k (by omega))⟩
theorem HS.same {T : Mem} (h1 : T 0 0 4 = S 0 0 4) (h2 : T 0 2 = S 0 2) {n : Nat} {h : Nat → Row} (H : HS S n h) : HS T n h := ⟨h1.trans H.1, fun i hi k hk => by rw [h2]; exact H.2 i hi k hk⟩
/-- one more state; the oldest one is dropped if there are five -/
def phn (n : Nat) : Nat := if n = 4 then 4 else n + 1
def phh (n : Nat) (h : Nat → Row) (b : Row) : Nat → Row := if n = 4 then (fun i => if i < 3 then h (i + 1) else b) else (fun i => if i < n then h i else b)
theorem md4 : ∀ n : Fin 4, (zI (n.val : Nat) + zI 1) - (zI (n.val : Nat) + zI 1) / zI 4 * zI 4 = zI (((n.val + 1) % 4 : Nat) : Int) := by decide +kernel
theorem md3 : ∀ n : Fin 4, (zI (n.val : Nat) + zI 4 - zI 1) - (zI (n.val : Nat) + zI 4 - zI 1) / zI 4 * zI 4 = zI (((n.val + 3) % 4 : Nat) : Int) := by decide +kernel
/-- only the history's own cells differ -/
def OH (M N : Mem) : Prop := ∀ g k, ¬ (3 ≤ g ∨ (g = 0 ∧ k = 1)) → N g k = M g k
theorem k_record_b (W : WF a) {M' : Mem} (R : RC 1 M a) {ns n nx ns' : Nat} {h : Nat → Row} (hn : n ≤ 4) (hw : ∀ i, i < n → WF (h i)) (hx : nx < 4) (m1 : M 0 1 1 = zI nx) (m2 : M 0 1 2 = zI n) (hi : ns = 4 ∨ (ns < 4 ∧ nx ≤ ns ∧ n ≤ nx)) (hr : ∀ i, i < n → RC (3 + (nx + 4 - n + i) % 4) M (h i)) (hns : ns' = ns ∧ nx < ns ∨ ns' = ns + 1 ∧ nx = ns ∧ ns < 4) (hM : ∀ g k, g ≠ 3 + nx → M' g k = M g k) : ∃ N, f_X1_record_b32 1 (3 + nx) ns' M' = some (ns', N) ∧ HV N ns' (phn n) (phh n h a) ∧ OH M N := by
  have R' : RC 1 M' a := R.same (fun k _ => hM 1 k (by omega))
  obtain ⟨N, n1, n2, n3⟩ := k_copyFrom (g := 1) (g2 := 3 + nx) (M := M') (by omega)
  have RN := CpOk.rc W R' n2
  have md := md4 ⟨nx, hx⟩
  simp only at md
  have o1 : N 0 1 = M 0 1 := by rw [n3 0 1 (by omega), hM 0 1 (by omega)]
  have p1 : N 0 1 1 = zI nx := by rw [o1]; exact m1
  have p2 : N 0 1 2 = zI n := by rw [o1]; exact m2
  have pn : min ((n : Int) + 1) 4 = ((phn n : Nat) : Int) := by unfold phn; split <;> omega
  refine ⟨up3 (up3 N 0 1 1 (zI (((nx + 1) % 4 : Nat) : Int))) 0 1 2 (zI ((phn n : Nat) : Int)), ?_, ?_, ?_⟩
  · unfold f_X1_record_b32
    rw [ob_of n1, zl_1, zl_4, p1, md, lt_of, up3_slot _ _ (by omega), p2, zI_add, mn_zI (by omega) (by omega) (by omega) (by omega), pn]
    rfl
  · refine ⟨by unfold phn; split <;> omega, ?_, (nx + 1) % 4, Nat.mod_lt _ (by omega), ?_, ?_, ?_, ?_⟩
    · intro i hi
      unfold phn at hi
      unfold phh
      split
      · show WF (if i < 3 then h (i + 1) else a)
        split
        · exact hw _ (by omega)
        · exact W
      · show WF (if i < n then h i else a)
        split
        · exact hw _ (by omega)
        · exact W
    · rw [up3_slot _ _ (by omega), up3_at]
    · rw [up3_at]
    · unfold phn
      rcases hns with ⟨e1, e2⟩ | ⟨e1, e2, e3⟩
      · rcases hi with e | ⟨e, e4, e5⟩
        · exact .inl (e1.trans e)
        · right; split <;> omega
      · by_cases c : ns' = 4
        · exact .inl c
        · right; split <;> omega
    · intro i hi2
      have key : ∀ j c, c = h j → j < n → (nx + 4 - n + j) % 4 ≠ nx → RC (3 + (nx + 4 - n + j) % 4) (up3 (up3 N 0 1 1 (zI (((nx + 1) % 4 : Nat) : Int))) 0 1 2 (zI ((phn n : Nat) : Int))) c := by
        intro j c hc hj hne
        rw [hc]
        refine (hr j hj).same (fun k _ => ?_)
        rw [up3_cell _ _ (by omega), up3_cell _ _ (by omega), n3 _ k (by omega), hM _ k (by omega)]
      have last : ∀ q, q = nx → RC (3 + q) (up3 (up3 N 0 1 1 (zI (((nx + 1) % 4 : Nat) : Int))) 0 1 2 (zI ((phn n : Nat) : Int))) a := by
        intro q hq
        rw [hq]
        refine RN.same (fun k _ => ?_)
        rw [up3_cell _ _ (by omega), up3_cell _ _ (by omega)]
      unfold phn at hi2 ⊢
      unfold phh
      by_cases c : n = 4
      · rw [if_pos c] at hi2
        rw [if_pos c, if_pos c]
        show RC _ _ (if i < 3 then h (i + 1) else a)
        by_cases d : i < 3
        · rw [if_pos d, show ((nx + 1) % 4 + 4 - 4 + i) % 4 = (nx + 4 - n + (i + 1)) % 4 by omega]
          have := key (i + 1) _ rfl (by omega) (by omega)
          unfold phn at this
          rw [if_pos c] at this
          exact this
        · rw [if_neg d]
          have := last (((nx + 1) % 4 + 4 - 4 + i) % 4) (by omega)
          unfold phn at this
          rw [if_pos c] at this
          exact this
      · rw [if_neg c] at hi2
        rw [if_neg c, if_neg c]
        show RC _ _ (if i < n then h i else a)
        by_cases d : i < n
        · rw [if_pos d, show ((nx + 1) % 4 + 4 - (n + 1) + i) % 4 = (nx + 4 - n + i) % 4 by omega]
          have := key i _ rfl d (by omega)
          unfold phn at this
          rw [if_neg c] at this
          exact this
        · rw [if_neg d]
          have := last (((nx + 1) % 4 + 4 - (n + 1) + i) % 4) (by omega)
          unfold phn at this
          rw [if_neg c] at this
          exact this
  · intro g k c
    rw [up3_cell _ _ (by omega), up3_cell _ _ (by omega), n3 _ k (by omega), hM _ k (by omega)]
theorem k_record (W : WF a) (R : RC 1 M a) {ns n : Nat} {h : Nat → Row} (H : HV M ns n h) : ∃ ns' N, f_X1_record 1 ns M = some (ns', N) ∧ HV N ns' (phn n) (phh n h a) ∧ OH M N := by
  obtain ⟨q1, q2, nx, q3, q4, q5, q6, q7⟩ := H
  unfold f_X1_record
  rw [q4, ix_nat (by omega), ck_ib (by omega) (by omega) (by omega)]
  by_cases c : nx < ns
  · rw [if_pos c]
    obtain ⟨N, n1, n2, n3⟩ := k_record_b W R q1 q2 q3 q4 q5 q6 q7 (.inl ⟨rfl, c⟩) (M' := M) (fun _ _ _ => rfl)
    exact ⟨ns, N, n1, n2, n3⟩
  · have e : nx = ns := by omega
    rw [if_neg c, ck_of (decide_eq_true e)]
    subst e
    obtain ⟨N, n1, n2, n3⟩ := k_record_b W R q1 q2 q3 q4 q5 q6 q7 (.inr ⟨rfl, rfl, q3⟩) (M' := newP M (3 + nx)) (fun g k hg => newP_old M k hg)
    exact ⟨nx + 1, N, n1, n2, n3⟩
theorem k_restoreTo {ns n : Nat} {h : Nat → Row} (H : HV M ns (n + 1) h) : ∃ N, f_X1_restoreTo 1 ns M = some ((), N) ∧ HV N ns n h ∧ RC 1 N (h n) ∧ WF (h n) ∧ (∀ g k, ¬ (g = 1 ∨ (g = 0 ∧ k = 1)) → N g k = M g k) ∧ N 0 1 2 = zI n := by
  obtain ⟨q1, q2, nx, q3, q4, q5, q6, q7⟩ := H
  have md := md3 ⟨nx, q3⟩
  simp only at md
  have hx : (nx + 3) % 4 < ns := by omega
  obtain ⟨N, n1, n2, n3⟩ := k_copyFrom (g := 3 + (nx + 3) % 4) (g2 := 1) (M := M) (by omega)
  have hw := q2 n (by omega)
  have hr := q7 n (by omega)
  rw [show (nx + 4 - (n + 1) + n) % 4 = (nx + 3) % 4 by omega] at hr
  have RN := CpOk.rc hw hr n2
  have p2 : N 0 1 2 = zI ((n + 1 : Nat) : Int) := by rw [n3 0 1 (by omega)]; exact q5
  have fr : ∀ g k, ¬ (g = 1 ∨ (g = 0 ∧ k = 1)) → up3 (up3 N 0 1 1 (zI (((nx + 3) % 4 : Nat) : Int))) 0 1 2 (zI n) g k = M g k := by
    intro g k c
    rw [up3_cell _ _ (by omega), up3_cell _ _ (by omega), n3 _ k (by omega)]
  refine ⟨up3 (up3 N 0 1 1 (zI (((nx + 3) % 4 : Nat) : Int))) 0 1 2 (zI n), ?_, ?_, ?_, hw, fr, up3_at _ _ _ _ _⟩
  · unfold f_X1_restoreTo
    rw [zl_4, zl_1, zl_0, q4, md, lt_of, ck_ib (by omega) (by omega) (by omega), q5, if_neg (by rw [zI_eq (by omega) (by omega) (by omega) (by omega)]; omega), ix_nat (by omega), if_pos hx, ob_of n1, lt_of, up3_slot _ _ (by omega), p2, zI_sub, show ((n + 1 : Nat) : Int) - 1 = (n : Int) by omega]
    rfl
  · refine ⟨by omega, fun i hi => q2 i (by omega), (nx + 3) % 4, Nat.mod_lt _ (by omega), ?_, up3_at _ _ _ _ _, by omega, ?_⟩
    · rw [up3_slot _ _ (by omega), up3_at]
    · intro i hi
      have := q7 i (by omega)
      rw [show (nx + 4 - (n + 1) + i) % 4 = ((nx + 3) % 4 + 4 - n + i) % 4 by omega] at this
      exact this.same (fun k _ => fr _ k (by omega))
  · exact RN.same (fun k _ => by rw [up3_cell _ _ (by omega), up3_cell _ _ (by omega)])
/-! the reference's history -/
theorem k_keeps_l : ∀ (d k fu : Nat) (S : Mem), k + d = 181 → d < fu → (∀ i, i < k → S 0 3 i = S 0 1 i) → ∃ T, f_X8_keeps_b2 fu (zI k) S = some ((), T) ∧ (∀ i, i < 181 → T 0 3 i = S 0 1 i) ∧ ∀ h i, ¬ (h = 0 ∧ i = 3) → T h i = S h i := by
  intro d
  induction d with
  | zero =>
    intro k fu S hk hf h
    obtain ⟨fu, rfl⟩ : ∃ f, fu = f + 1 := ⟨fu - 1, by omega⟩
    obtain rfl : k = 181 := by omega
    refine ⟨S, ?_, h, fun _ _ _ => rfl⟩
    rw [f_X8_keeps_b2.eq_2]
    exact if_pos (by decide)
  | succ d ih =>
    intro k fu S hk hf h
    obtain ⟨fu, rfl⟩ : ∃ f, fu = f + 1 := ⟨fu - 1, by omega⟩
    have c0 : ¬ ((181 : Int) ≤ (k : Int)) := by omega
    obtain ⟨T, t1, t2, t3⟩ := ih (k + 1) fu (up3 S 0 3 k (S 0 1 k)) (by omega) (by omega) (fun i hi => by
      rw [up3_cell S _ (show ¬ (0 = 0 ∧ 1 = 3) by omega)]
      by_cases c : i = k
      · subst c; rw [up3_at]
      · rw [up3_slot _ _ c]; exact h i (by omega))
    simp only [nc1] at t1
    refine ⟨T, ?_, ?_, ?_⟩
    · rw [f_X8_keeps_b2.eq_2]
      simp (disch := omega) only [zl_0, zl_1, zl_2, zl_3, zl_4, zl_5, zl_6, zl_7, zl_8, zl_9, zl_10, zl_11, zl_12, zl_13, zl_14, zl_15, zl_16, zl_17, zl_18, zl_19, zl_20, zl_23, zl_24, zl_31, zl_32, zl_48, zl_50, zl_53, zl_57, zl_59, zl_60, zl_99, zl_100, zl_104, zl_112, zl_114, zl_119, zl_126, zl_127, zl_181, zl_200, zl_500, zl_543, zl_724, zl_999, zl_1000, zl_5000, zl_65536, zl_100000, zl_1000001, zl_1000002, zl_1000003, zl_1000004, zl_2143289344, zI_neg, zI_add, zI_sub, zI_mul, zI_le, zI_lt, zI_eq, ck_ib, ix_nat, ixz_0, ixz_1, ixz_2, ixz_3, ixz_4, ixz_5, ixz_6, ixz_7, ixz_8, ixz_9, ixz_10, ixz_11, ixz_12, ob_some, lt_of, ck_bP, bP_z, bP_o, ite_bP, Int.reduceToNat, Nat.reduceAdd, Nat.reduceMul, Int.reduceAdd, Int.reduceSub, Int.reduceMul, Int.reduceNeg, Int.reduceEq, Int.reduceLT, Int.reduceLE, ↓reduceIte, not_true_eq_false, not_false_eq_true, c0]
      exact t1
    · intro i hi
      rw [t2 i hi, up3_cell S _ (show ¬ (0 = 0 ∧ 1 = 3) by omega)]
    · intro h i c
      rw [t3 h i c, up3_cell _ _ c]
theorem k_keeps (S : Mem) : ∃ T, f_X8_keeps S = some ((), T) ∧ (∀ i, i < 181 → T 0 3 i = S 0 1 i) ∧ ∀ h i, ¬ (h = 0 ∧ i = 3) → T h i = S h i := k_keeps_l 181 0 1000 S (by omega) (by omega) (fun i h => absurd h (Nat.not_lt_zero i))
/-- only the reference's own history differs -/
def OA (S T : Mem) : Prop := (∀ h i, ¬ (h = 0 ∧ (i = 0 ∨ i = 2)) → T h i = S h i) ∧ ∀ j, j ≠ 4 → T 0 0 j = S 0 0 j
theorem k_acted_l (r : Int32) {n : Nat} (hn : n < 4) : ∀ (d k fu : Nat) (S : Mem), k + d = 181 → d < fu → S 0 0 4 = zI n → (∀ i, i < k → S 0 2 (181 * n + i) = S 0 3 i) → ∃ T, f_X8_acted_b57 fu r (zI k) S = some (r, T) ∧ T 0 0 4 = zI ((n + 1 : Nat) : Int) ∧ (∀ i, i < 181 → T 0 2 (181 * n + i) = S 0 3 i) ∧ (∀ j, ¬ (181 * n ≤ j ∧ j < 181 * n + 181) → T 0 2 j = S 0 2 j) ∧ OA S T := by
  intro d
  induction d with
  | zero =>
    intro k fu S hk hf h4 h
    obtain ⟨fu, rfl⟩ : ∃ f, fu = f + 1 := ⟨fu - 1, by omega⟩
    obtain rfl : k = 181 := by omega
    refine ⟨up3 S 0 0 4 (zI ((n + 1 : Nat) : Int)), ?_, up3_at _ _ _ _ _, ?_, ?_, ?_, ?_⟩
    · rw [f_X8_acted_b57.eq_2]
      refine (if_pos (by decide)).trans ?_
      rw [h4, zl_1, zI_add]
      rfl
    · intro i hi
      rw [up3_cell _ _ (by omega)]
      exact h i hi
    · intro j _
      rw [up3_cell _ _ (by omega)]
    · intro h i c
      rw [up3_cell _ _ (by omega)]
    · intro j c
      rw [up3_slot _ _ c]
  | succ d ih =>
    intro k fu S hk hf h4 h
    obtain ⟨fu, rfl⟩ : ∃ f, fu = f + 1 := ⟨fu - 1, by omega⟩
    have c0 : ¬ ((181 : Int) ≤ (k : Int)) := by omega
    have e : (181 * (n : Int) + k) = ((181 * n + k : Nat) : Int) := by omega
    obtain ⟨T, t1, t2, t3, t4, t5, t6⟩ := ih (k + 1) fu (up3 S 0 2 (181 * n + k) (S 0 3 k)) (by omega) (by omega) (by rw [up3_cell _ _ (by omega)]; exact h4) (fun i hi => by
      rw [up3_cell S _ (show ¬ (0 = 0 ∧ 3 = 2) by omega)]
      by_cases c : i = k
      · subst c; rw [up3_at]
      · rw [up3_slot _ _ (by omega)]; exact h i (by omega))
    simp only [nc1] at t1
    refine ⟨T, ?_, t2, ?_, ?_, ?_, ?_⟩
    · rw [f_X8_acted_b57.eq_2]
      simp (disch := omega) only [zl_0, zl_1, zl_2, zl_3, zl_4, zl_5, zl_6, zl_7, zl_8, zl_9, zl_10, zl_11, zl_12, zl_13, zl_14, zl_15, zl_16, zl_17, zl_18, zl_19, zl_20, zl_23, zl_24, zl_31, zl_32, zl_48, zl_50, zl_53, zl_57, zl_59, zl_60, zl_99, zl_100, zl_104, zl_112, zl_114, zl_119, zl_126, zl_127, zl_181, zl_200, zl_500, zl_543, zl_724, zl_999, zl_1000, zl_5000, zl_65536, zl_100000, zl_1000001, zl_1000002, zl_1000003, zl_1000004, zl_2143289344, zI_neg, zI_add, zI_sub, zI_mul, zI_le, zI_lt, zI_eq, ck_ib, ix_nat, ixz_0, ixz_1, ixz_2, ixz_3, ixz_4, ixz_5, ixz_6, ixz_7, ixz_8, ixz_9, ixz_10, ixz_11, ixz_12, ob_some, lt_of, ck_bP, bP_z, bP_o, ite_bP, Int.reduceToNat, Nat.reduceAdd, Nat.reduceMul, Int.reduceAdd, Int.reduceSub, Int.reduceMul, Int.reduceNeg, Int.reduceEq, Int.reduceLT, Int.reduceLE, ↓reduceIte, not_true_eq_false, not_false_eq_true, c0, h4, e]
      exact t1
    · intro i hi
      rw [t3 i hi, up3_cell S _ (show ¬ (0 = 0 ∧ 3 = 2) by omega)]
    · intro j c
      rw [t4 j c, up3_slot _ _ (by omega)]
    · intro h i c
      rw [t5 h i c, up3_cell _ _ (by omega)]
    · intro j c
      rw [t6 j c, up3_cell _ _ (by omega)]
theorem k_shift_l (r : Int32) : ∀ (d k fu : Nat) (S V : Mem), k + d = 543 → d < fu → (∀ i, i < k → S 0 2 i = V 0 2 (i + 181)) → (∀ i, k ≤ i → S 0 2 i = V 0 2 i) → (∀ h i, ¬ (h = 0 ∧ i = 2) → S h i = V h i) → ∃ T, f_X8_acted_b16 fu r (zI k) S = f_X8_acted_b55 r (up3 T 0 0 4 (V 0 0 4 - 1)) ∧ (∀ i, i < 543 → T 0 2 i = V 0 2 (i + 181)) ∧ (∀ h i, ¬ (h = 0 ∧ i = 2) → T h i = V h i) := by
  intro d
  induction d with
  | zero =>
    intro k fu S V hk hf h1 h2 h3
    obtain ⟨fu, rfl⟩ : ∃ f, fu = f + 1 := ⟨fu - 1, by omega⟩
    obtain rfl : k = 543 := by omega
    refine ⟨S, ?_, h1, h3⟩
    rw [f_X8_acted_b16.eq_2]
    refine (if_pos (by decide)).trans ?_
    rw [lt_of, h3 0 0 (by omega)]
  | succ d ih =>
    intro k fu S V hk hf h1 h2 h3
    obtain ⟨fu, rfl⟩ : ∃ f, fu = f + 1 := ⟨fu - 1, by omega⟩
    have c0 : ¬ ((543 : Int) ≤ (k : Int)) := by omega
    have e : ((k : Int) + 181) = ((k + 181 : Nat) : Int) := by omega
    obtain ⟨T, t1, t2, t3⟩ := ih (k + 1) fu (up3 S 0 2 k (S 0 2 (k + 181))) V (by omega) (by omega) (fun i hi => by
      by_cases c : i = k
      · subst c; rw [up3_at]; exact h2 _ (by omega)
      · rw [up3_slot _ _ c]; exact h1 i (by omega)) (fun i hi => by rw [up3_slot _ _ (by omega)]; exact h2 i (by omega)) (fun h i c => by rw [up3_cell _ _ c]; exact h3 h i c)
    simp only [nc1] at t1
    refine ⟨T, ?_, t2, t3⟩
    rw [f_X8_acted_b16.eq_2, ← t1]
    simp (disch := omega) only [zl_0, zl_1, zl_2, zl_3, zl_4, zl_5, zl_6, zl_7, zl_8, zl_9, zl_10, zl_11, zl_12, zl_13, zl_14, zl_15, zl_16, zl_17, zl_18, zl_19, zl_20, zl_23, zl_24, zl_31, zl_32, zl_48, zl_50, zl_53, zl_57, zl_59, zl_60, zl_99, zl_100, zl_104, zl_112, zl_114, zl_119, zl_126, zl_127, zl_181, zl_200, zl_500, zl_543, zl_724, zl_999, zl_1000, zl_5000, zl_65536, zl_100000, zl_1000001, zl_1000002, zl_1000003, zl_1000004, zl_2143289344, zI_neg, zI_add, zI_sub, zI_mul, zI_le, zI_lt, zI_eq, ck_ib, ix_nat, ixz_0, ixz_1, ixz_2, ixz_3, ixz_4, ixz_5, ixz_6, ixz_7, ixz_8, ixz_9, ixz_10, ixz_11, ixz_12, ob_some, lt_of, ck_bP, bP_z, bP_o, ite_bP, Int.reduceToNat, Nat.reduceAdd, Nat.reduceMul, Int.reduceAdd, Int.reduceSub, Int.reduceMul, Int.reduceNeg, Int.reduceEq, Int.reduceLT, Int.reduceLE, ↓reduceIte, not_true_eq_false, not_false_eq_true, c0, e]
theorem k_acted_e (r : Int) (h1 : -2147483648 ≤ r) (h2 : r ≤ -1000001) (S : Mem) : f_X8_acted (zI r) S = some (zI r, S) := by
  unfold f_X8_acted
  rw [zm_1000001, if_pos (by rw [zI_le (by omega) (by omega) (by omega) (by omega)]; exact h2)]
  rfl
theorem k_acted {n : Nat} {h : Nat → Row} (hn : n ≤ 4) (H : HS S n h) (hb : ∀ i, i < 181 → S 0 3 i = zI (b i)) (r : Int) (h1 : -1000001 < r) (h2 : r < 2147483648) : ∃ T, f_X8_acted (zI r) S = some (zI r, T) ∧ HS T (phn n) (phh n h b) ∧ OA S T := by
  obtain ⟨q1, q2⟩ := H
  unfold f_X8_acted
  rw [zm_1000001, if_neg (by rw [zI_le (by omega) (by omega) (by omega) (by omega)]; omega), q1, zl_4]
  by_cases c : n = 4
  · subst c
    rw [if_pos (show zI ((4 : Nat) : Int) = zI 4 from rfl)]
    obtain ⟨T, t1, t2, t3⟩ := k_shift_l (zI r) 543 0 1000 S S (by omega) (by omega) (fun i h => absurd h (Nat.not_lt_zero i)) (fun _ _ => rfl) (fun _ _ _ => rfl)
    have e4 : S 0 0 4 - 1 = zI ((3 : Nat) : Int) := by rw [q1]; decide
    rw [e4] at t1
    obtain ⟨V, v1, v2, v3, v4, v5, v6⟩ := k_acted_l (zI r) (n := 3) (by omega) 181 0 1000 (up3 T 0 0 4 (zI ((3 : Nat) : Int))) (by omega) (by omega) (up3_at _ _ _ _ _) (fun i h => absurd h (Nat.not_lt_zero i))
    refine ⟨V, t1.trans v1, ?_, ?_, ?_⟩
    · unfold phn phh
      rw [if_pos rfl, if_pos rfl]
      refine ⟨v2, fun i hi k hk => ?_⟩
      show _ = zI ((if i < 3 then h (i + 1) else b) k)
      by_cases d : i < 3
      · rw [if_pos d, v4 _ (by omega), up3_cell _ _ (by omega), t2 _ (by omega), show 181 * i + k + 181 = 181 * (i + 1) + k by omega]
        exact q2 (i + 1) (by omega) k hk
      · obtain rfl : i = 3 := by omega
        rw [if_neg d, v3 k hk, up3_cell _ _ (by omega), t3 0 3 (by omega)]
        exact hb k hk
    · intro g i c
      rw [v5 g i c, up3_cell _ _ (by omega), t3 g i (by omega)]
    · intro j c
      rw [v6 j c, up3_slot _ _ c, t3 0 0 (by omega)]
  · rw [if_neg (by rw [zI_eq (by omega) (by omega) (by omega) (by omega)]; omega)]
    obtain ⟨V, v1, v2, v3, v4, v5, v6⟩ := k_acted_l (zI r) (n := n) (by omega) 181 0 1000 S (by omega) (by omega) q1 (fun i h => absurd h (Nat.not_lt_zero i))
    refine ⟨V, v1, ?_, v5, v6⟩
    unfold phn phh
    rw [if_neg c, if_neg c]
    refine ⟨v2, fun i hi k hk => ?_⟩
    show _ = zI ((if i < n then h i else b) k)
    by_cases d : i < n
    · rw [if_pos d, v4 _ (by omega)]
      exact q2 i d k hk
    · obtain rfl : i = n := by omega
      rw [if_neg d, v3 k hk]
      exact hb k hk
theorem k_undo_l {n : Nat} (hn : n < 4) : ∀ (d k fu : Nat) (S V : Mem), k + d = 181 → d < fu → S 0 0 4 = zI n → (∀ i, i < k → S 0 1 i = V 0 2 (181 * n + i)) → (∀ h i, ¬ (h = 0 ∧ i = 1) → S h i = V h i) → ∃ T, f_X8_undo_b22 fu (zI k) S = some (zI n, T) ∧ (∀ i, i < 181 → T 0 1 i = V 0 2 (181 * n + i)) ∧ (∀ h i, ¬ (h = 0 ∧ i = 1) → T h i = V h i) := by
  intro d
  induction d with
  | zero =>
    intro k fu S V hk hf h4 h1 h2
    obtain ⟨fu, rfl⟩ : ∃ f, fu = f + 1 := ⟨fu - 1, by omega⟩
    obtain rfl : k = 181 := by omega
    refine ⟨S, ?_, h1, h2⟩
    rw [f_X8_undo_b22.eq_2]
    refine (if_pos (by decide)).trans ?_
    rw [h4]
  | succ d ih =>
    intro k fu S V hk hf h4 h1 h2
    obtain ⟨fu, rfl⟩ : ∃ f, fu = f + 1 := ⟨fu - 1, by omega⟩
    have c0 : ¬ ((181 : Int) ≤ (k : Int)) := by omega
    have e : (181 * (n : Int) + k) = ((181 * n + k : Nat) : Int) := by omega
    obtain ⟨T, t1, t2, t3⟩ := ih (k + 1) fu (up3 S 0 1 k (S 0 2 (181 * n + k))) V (by omega) (by omega) (by rw [up3_cell _ _ (by omega)]; exact h4) (fun i hi => by
      by_cases c : i = k
      · subst c; rw [up3_at, h2 0 2 (by omega)]
      · rw [up3_slot _ _ c]; exact h1 i (by omega)) (fun h i c => by rw [up3_cell _ _ c]; exact h2 h i c)
    simp only [nc1] at t1
    refine ⟨T, ?_, t2, t3⟩
    rw [f_X8_undo_b22.eq_2]
    simp (disch := omega) only [zl_0, zl_1, zl_2, zl_3, zl_4, zl_5, zl_6, zl_7, zl_8, zl_9, zl_10, zl_11, zl_12, zl_13, zl_14, zl_15, zl_16, zl_17, zl_18, zl_19, zl_20, zl_23, zl_24, zl_31, zl_32, zl_48, zl_50, zl_53, zl_57, zl_59, zl_60, zl_99, zl_100, zl_104, zl_112, zl_114, zl_119, zl_126, zl_127, zl_181, zl_200, zl_500, zl_543, zl_724, zl_999, zl_1000, zl_5000, zl_65536, zl_100000, zl_1000001, zl_1000002, zl_1000003, zl_1000004, zl_2143289344, zI_neg, zI_add, zI_sub, zI_mul, zI_le, zI_lt, zI_eq, ck_ib, ix_nat, ixz_0, ixz_1, ixz_2, ixz_3, ixz_4, ixz_5, ixz_6, ixz_7, ixz_8, ixz_9, ixz_10, ixz_11, ixz_12, ob_some, lt_of, ck_bP, bP_z, bP_o, ite_bP, Int.reduceToNat, Nat.reduceAdd, Nat.reduceMul, Int.reduceAdd, Int.reduceSub, Int.reduceMul, Int.reduceNeg, Int.reduceEq, Int.reduceLT, Int.reduceLE, ↓reduceIte, not_true_eq_false, not_false_eq_true, c0, h4, e]
    exact t1
/-- the text -/
def TX (M S : Mem) : Prop := ∃ t : Nat, t ≤ 60 ∧ M 0 3 0 = zI t ∧ S 0 0 6 = zI t ∧ ∀ i, i < t → ∃ c : Int, 32 ≤ c ∧ c ≤ 126 ∧ M 0 4 i = zI c ∧ S 0 5 i = zI c
theorem TX.same {T : Mem} (h1 : N 0 3 0 = M 0 3 0) (h2 : N 0 4 = M 0 4) (h3 : T 0 0 6 = S 0 0 6) (h4 : T 0 5 = S 0 5) (X : TX M S) : TX N T := by
  obtain ⟨t, x1, x2, x3, x4⟩ := X
  exact ⟨t, x1, h1.trans x2, h3.trans x3, fun i hi => by rw [h2, h4]; exact x4 i hi⟩
/-- what holds between the calls -/
def INV (ns : Nat) (M S : Mem) : Prop := ∃ (a : Row) (n : Nat) (h : Nat → Row), WF a ∧ RC 1 M a ∧ RM S a ∧ HV M ns n h ∧ HS S n h ∧ TX M S
theorem INV.keep {ns : Nat} {M S N T : Mem} (I : INV ns M S) (h : FC M N) (k : FS S T) : INV ns N T := by
  obtain ⟨a, n, h', i1, i2, i3, i4, i5, i6⟩ := I
  obtain ⟨f1, f2, f3, f4, f5⟩ := h
  obtain ⟨g1, g2, g3, g4, g5⟩ := k
  exact ⟨a, n, h', i1, i2.same (fun j _ => f1 1 j (by omega) (by omega)), fun j hj => (g1 j hj).trans (i3 j hj), i4.same f2 (fun g k hg => f1 g k (by omega) (by omega)), i5.same g4 g2, i6.same f4 f5 g5 g3⟩
/-- a change keeps it and both give one answer -/
def CH (x : Option ((Int32 × Nat) × Mem)) (y : Option (Int32 × Mem)) : Prop := ∃ (r : Int32) (ns : Nat) (N T : Mem), x = some ((r, ns), N) ∧ y = some (r, T) ∧ INV ns N T
/-- the frame of every change: what was recorded, then the new row -/
theorem ch_ok {ns' n : Nat} {h : Nat → Row} {M N P S T1 T2 : Mem} {a c : Row} (Wc : WF c) (hn : n ≤ 4) (q : HS S n h) (X : TX M S) (hH : HV N ns' (phn n) (phh n h a)) (hO : OH M N) (hP : OG 1 N P) (Rc : RC 1 P c) (Q : RM S a) (k2 : ∀ i, i < 181 → T1 0 3 i = S 0 1 i) (k3 : ∀ h i, ¬ (h = 0 ∧ i = 3) → T1 h i = S h i) (o : OS T1 T2) (Qc : RM T2 c) (r : Int) (r1 : -1000001 < r) (r2 : r < 2147483648) : ∃ T, f_X8_acted (zI r) T2 = some (zI r, T) ∧ INV ns' P T := by
  have q' : HS T2 n h := q.same (by rw [o 0 0 (by omega), k3 0 0 (by omega)]) (by rw [o 0 2 (by omega), k3 0 2 (by omega)])
  obtain ⟨T, t1, t2, t3, t4⟩ := k_acted (b := a) hn q' (fun i hi => by rw [o 0 3 (by omega), k2 i hi]; exact Q i hi) r r1 r2
  refine ⟨T, t1, c, phn n, phh n h a, Wc, Rc, Qc.same (t3 0 1 (by omega)), hH.same (hP 0 1 (by omega)) (fun g k hg => hP g k (by omega)), t2, ?_⟩
  refine X.same ?_ ?_ ?_ ?_
  · rw [hP 0 3 (by omega), hO 0 3 (by omega)]
  · rw [hP 0 4 (by omega), hO 0 4 (by omega)]
  · rw [t4 6 (by omega), o 0 0 (by omega), k3 0 0 (by omega)]
  · rw [t3 0 5 (by omega), o 0 5 (by omega), k3 0 5 (by omega)]
/-- where it is refused, behind what was kept -/
theorem ch_no {ns n : Nat} {h : Nat → Row} {M S T1 T2 : Mem} {a : Row} (W : WF a) (R : RC 1 M a) (H : HV M ns n h) (q : HS S n h) (X : TX M S) (k3 : ∀ h i, ¬ (h = 0 ∧ i = 3) → T1 h i = S h i) (o : OS T1 T2) (Qc : RM T2 a) : INV ns M T2 := by
  refine ⟨a, n, h, W, R, Qc, H, q.same (by rw [o 0 0 (by omega), k3 0 0 (by omega)]) (by rw [o 0 2 (by omega), k3 0 2 (by omega)]), ?_⟩
  exact X.same rfl rfl (by rw [o 0 0 (by omega), k3 0 0 (by omega)]) (by rw [o 0 5 (by omega), k3 0 5 (by omega)])
end
