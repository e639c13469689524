/-! copies and the history, of both -/
section
variable {g g2 : Nat} {M N S : Mem} {a b : Row}
def CpOk (g g2 : Nat) (M N : Mem) : Prop := (∀ i, i < 5 → N g2 1 i = M g 1 i) ∧ (N g2 2 0 = M g 2 0 ∧ N g2 10 0 = M g 10 0) ∧ (∀ p, p < 5 → N g2 3 p = M g 3 p ∧ N g2 4 p = M g 4 p ∧ N g2 5 p = M g 5 p ∧ N g2 6 p = M g 6 p ∧ N g2 7 p = M g 7 p ∧ N g2 8 p = M g 8 p ∧ N g2 9 p = M g 9 p) ∧ (∀ l, l < 16 → N g2 11 l = M g 11 l ∧ N g2 12 l = M g 12 l ∧ N g2 13 l = M g 13 l ∧ N g2 14 l = M g 14 l ∧ N g2 15 l = M g 15 l ∧ N g2 16 l = M g 16 l ∧ N g2 17 l = M g 17 l ∧ N g2 18 l = M g 18 l ∧ N g2 19 l = M g 19 l ∧ N g2 20 l = M g 20 l) ∧ (N g2 0 3 = M g 0 3 ∧ N g2 0 4 = M g 0 4 ∧ N g2 0 5 = M g 0 5 ∧ N g2 0 6 = M g 0 6 ∧ N g2 0 7 = M g 0 7 ∧ N g2 0 8 = M g 0 8)
theorem CpOk.rc (W : WF a) (R : RC g M a) (h : CpOk g g2 M N) : RC g2 N a := by
  have ws := W.sc
  obtain ⟨h1, h2, h3, h4, h5⟩ := h
  refine ⟨fun i hi => by rw [h1 i hi]; exact R.rset hi, ⟨by rw [h2.1]; exact R.rnp, by rw [h2.2]; exact R.rnl⟩, ?_, ?_, ?_, ?_, ?_⟩
  · intro p hp
    obtain ⟨q3, q4, q5, q6, q7, q8, q9⟩ := h3 p (by omega)
    rw [q3, q4, q5, q6, q7, q8, q9]
    exact R.rpen hp
  · intro l hl
    obtain ⟨q11, q12, q13, q14, q15, q16, q17, q18, q19, q20⟩ := h4 l (by omega)
    rw [q11, q12, q13, q14, q15, q16, q17]
    exact R.rline hl
  · intro l hl hd
    obtain ⟨q11, q12, q13, q14, q15, q16, q17, q18, q19, q20⟩ := h4 l (by omega)
    rw [q18, q19]
    exact R.rdrawn hl hd
  · intro l hl hd
    obtain ⟨q11, q12, q13, q14, q15, q16, q17, q18, q19, q20⟩ := h4 l (by omega)
    rw [q20]
    exact R.rshade hl hd
  · obtain ⟨q3, q4, q5, q6, q7, q8⟩ := h5
    rw [q3, q4, q5, q6, q7, q8]
    exact R.rsc
theorem k_copyFrom (hg : g ≠ g2) : ∃ N, f_X5_copyFrom g2 g M = some ((), N) ∧ CpOk g g2 M N ∧ OG g2 M N := by
  refine ⟨up3 (up3 (up3 (up3 (up3 (up3 (cp3 (cp3 (cp3 (cp3 (cp3 (cp3 (cp3 (cp3 (cp3 (cp3 (up3 (cp3 (cp3 (cp3 (cp3 (cp3 (cp3 (cp3 (up3 (cp3 (M) g2 1 (va_cpy (M g 1) (M g2 1) 0 0 5)) g2 2 0 (M g 2 0)) g2 3 (va_cpy (M g 3) (M g2 3) 0 0 5)) g2 4 (va_cpy (M g 4) (M g2 4) 0 0 5)) g2 5 (va_cpy (M g 5) (M g2 5) 0 0 5)) g2 6 (va_cpy (M g 6) (M g2 6) 0 0 5)) g2 7 (va_cpy (M g 7) (M g2 7) 0 0 5)) g2 8 (va_cpy (M g 8) (M g2 8) 0 0 5)) g2 9 (va_cpy (M g 9) (M g2 9) 0 0 5)) g2 10 0 (M g 10 0)) g2 11 (va_cpy (M g 11) (M g2 11) 0 0 16)) g2 12 (va_cpy (M g 12) (M g2 12) 0 0 16)) g2 13 (va_cpy (M g 13) (M g2 13) 0 0 16)) g2 14 (va_cpy (M g 14) (M g2 14) 0 0 16)) g2 15 (va_cpy (M g 15) (M g2 15) 0 0 16)) g2 16 (va_cpy (M g 16) (M g2 16) 0 0 16)) g2 17 (va_cpy (M g 17) (M g2 17) 0 0 16)) g2 18 (va_cpy (M g 18) (M g2 18) 0 0 16)) g2 19 (va_cpy (M g 19) (M g2 19) 0 0 16)) g2 20 (va_cpy (M g 20) (M g2 20) 0 0 16)) g2 0 3 (M g 0 3)) g2 0 4 (M g 0 4)) g2 0 5 (M g 0 5)) g2 0 6 (M g 0 6)) g2 0 7 (M g 0 7)) g2 0 8 (M g 0 8), ?_, ⟨?_, ⟨?_, ?_⟩, ?_, ?_, ?_⟩, ?_⟩
  · unfold f_X5_copyFrom f_X4_copyFrom f_X2_copyFrom
    simp (disch := omega) only [k_copy, ob_some, lt_of, up3_cell, up3_slot, cp3_ne]
  · intro i hi
    simp (disch := omega) only [up3_cell, cp3_self, cp3_ne, cpy_at]
  · simp (disch := omega) only [up3_cell, up3_at, cp3_self, cp3_ne, cpy_at]
  · simp (disch := omega) only [up3_cell, up3_at, cp3_self, cp3_ne, cpy_at]
  · intro p hp
    simp (disch := omega) only [up3_cell, cp3_self, cp3_ne, cpy_at, and_self]
  · intro l hl
    simp (disch := omega) only [up3_cell, cp3_self, cp3_ne, cpy_at, and_self]
  · simp (disch := omega) only [up3_at, up3_slot, and_self]
  · intro h k c
    simp (disch := omega) only [up3_cell, cp3_ne]
/-! the states of the history, oldest first -/
def HV (M : Mem) (ns n : Nat) (h : Nat → Row) : Prop := n ≤ 4 ∧ (∀ i, i < n → WF (h i)) ∧ ∃ nx : Nat, nx < 4 ∧ M 0 1 1 = zI nx ∧ M 0 1 2 = zI n ∧ (ns = 4 ∨ (ns < 4 ∧ nx ≤ ns ∧ n ≤ nx)) ∧ ∀ i, i < n → RC (3 + (nx + 4 - n + i) % 4) M (h i)
theorem HV.same (h1 : N 0 1 = M 0 1) (h2 : ∀ g k, 3 ≤ g → N g k = M g k) {ns n : Nat} {h : Nat → Row} (H : HV M ns n h) : HV N ns n h := by
  obtain ⟨q1, q2, nx, q3, q4, q5, q6, q7⟩ := H
  exact ⟨q1, q2, nx, q3, by rw [h1]; exact q4, by rw [h1]; exact q5, q6, fun i hi => (q7 i hi).same (fun k _ => h2 _ k (by omega))⟩
/-- one more state; the oldest one is dropped if there are five -/
def phn (n : Nat) : Nat := if n = 4 then 4 else n + 1
def phh (n : Nat) (h : Nat → Row) (b : Row) : Nat → Row := if n = 4 then (fun i => if i < 3 then h (i + 1) else b) else (fun i => if i < n then h i else b)
theorem md4 : ∀ n : Fin 4, (zI (n.val : Nat) + zI 1) - (zI (n.val : Nat) + zI 1) / zI 4 * zI 4 = zI (((n.val + 1) % 4 : Nat) : Int) := by decide +kernel
theorem md3 : ∀ n : Fin 4, (zI (n.val : Nat) + zI 4 - zI 1) - (zI (n.val : Nat) + zI 4 - zI 1) / zI 4 * zI 4 = zI (((n.val + 3) % 4 : Nat) : Int) := by decide +kernel
/-- only the history's own cells differ -/
def OH (M N : Mem) : Prop := ∀ g k, ¬ (3 ≤ g ∨ (g = 0 ∧ k = 1)) → N g k = M g k
theorem k_record_b (W : WF a) {M' : Mem} (R : RC 1 M a) {ns n nx ns' : Nat} {h : Nat → Row} (hn : n ≤ 4) (hw : ∀ i, i < n → WF (h i)) (hx : nx < 4) (m1 : M 0 1 1 = zI nx) (m2 : M 0 1 2 = zI n) (hi : ns = 4 ∨ (ns < 4 ∧ nx ≤ ns ∧ n ≤ nx)) (hr : ∀ i, i < n → RC (3 + (nx + 4 - n + i) % 4) M (h i)) (hns : ns' = ns ∧ nx < ns ∨ ns' = ns + 1 ∧ nx = ns ∧ ns < 4) (hM : ∀ g k, g ≠ 3 + nx → M' g k = M g k) : ∃ N, f_X1_record_b32 1 (3 + nx) ns' M' = some (ns', N) ∧ HV N ns' (phn n) (phh n h a) ∧ OH M N := by
  have R' : RC 1 M' a := R.same (fun k _ => hM 1 k (by omega))
  obtain ⟨N, n1, n2, n3⟩ := k_copyFrom (g := 1) (g2 := 3 + nx) (M := M') (by omega)
  have RN := CpOk.rc W R' n2
  have md := md4 ⟨nx, hx⟩
  simp only at md
  have o1 : N 0 1 = M 0 1 := by rw [n3 0 1 (by omega), hM 0 1 (by omega)]
  have p1 : N 0 1 1 = zI nx := by rw [o1]; exact m1
  have p2 : N 0 1 2 = zI n := by rw [o1]; exact m2
  have pn : min ((n : Int) + 1) 4 = ((phn n : Nat) : Int) := by unfold phn; split <;> omega
  refine ⟨up3 (up3 N 0 1 1 (zI (((nx + 1) % 4 : Nat) : Int))) 0 1 2 (zI ((phn n : Nat) : Int)), ?_, ?_, ?_⟩
  · unfold f_X1_record_b32
    rw [ob_of n1, zl_1, zl_4, p1, md, lt_of, up3_slot _ _ (by omega), p2, zI_add, mn_zI (by omega) (by omega) (by omega) (by omega), pn]
    rfl
  · refine ⟨by unfold phn; split <;> omega, ?_, (nx + 1) % 4, Nat.mod_lt _ (by omega), ?_, ?_, ?_, ?_⟩
    · intro i hi
      unfold phn at hi
      unfold phh
      split
      · show WF (if i < 3 then h (i + 1) else a)
        split
        · exact hw _ (by omega)
        · exact W
      · show WF (if i < n then h i else a)
        split
        · exact hw _ (by omega)
        · exact W
    · rw [up3_slot _ _ (by omega), up3_at]
    · rw [up3_at]
    · unfold phn
      rcases hns with ⟨e1, e2⟩ | ⟨e1, e2, e3⟩
      · rcases hi with e | ⟨e, e4, e5⟩
        · exact .inl (e1.trans e)
        · right; split <;> omega
      · by_cases c : ns' = 4
        · exact .inl c
        · right; split <;> omega
    · intro i hi2
      have key : ∀ j c, c = h j → j < n → (nx + 4 - n + j) % 4 ≠ nx → RC (3 + (nx + 4 - n + j) % 4) (up3 (up3 N 0 1 1 (zI (((nx + 1) % 4 : Nat) : Int))) 0 1 2 (zI ((phn n : Nat) : Int))) c := by
        intro j c hc hj hne
        rw [hc]
        refine (hr j hj).same (fun k _ => ?_)
        rw [up3_cell _ _ (by omega), up3_cell _ _ (by omega), n3 _ k (by omega), hM _ k (by omega)]
      have last : ∀ q, q = nx → RC (3 + q) (up3 (up3 N 0 1 1 (zI (((nx + 1) % 4 : Nat) : Int))) 0 1 2 (zI ((phn n : Nat) : Int))) a := by
        intro q hq
        rw [hq]
        refine RN.same (fun k _ => ?_)
        rw [up3_cell _ _ (by omega), up3_cell _ _ (by omega)]
      unfold phn at hi2 ⊢
      unfold phh
      by_cases c : n = 4
      · rw [if_pos c] at hi2
        rw [if_pos c, if_pos c]
        show RC _ _ (if i < 3 then h (i + 1) else a)
        by_cases d : i < 3
        · rw [if_pos d, show ((nx + 1) % 4 + 4 - 4 + i) % 4 = (nx + 4 - n + (i + 1)) % 4 by omega]
          have := key (i + 1) _ rfl (by omega) (by omega)
          unfold phn at this
          rw [if_pos c] at this
          exact this
        · rw [if_neg d]
          have := last (((nx + 1) % 4 + 4 - 4 + i) % 4) (by omega)
          unfold phn at this
          rw [if_pos c] at this
          exact this
      · rw [if_neg c] at hi2
        rw [if_neg c, if_neg c]
        show RC _ _ (if i < n then h i else a)
        by_cases d : i < n
        · rw [if_pos d, show ((nx + 1) % 4 + 4 - (n + 1) + i) % 4 = (nx + 4 - n + i) % 4 by omega]
          have := key i _ rfl d (by omega)
          unfold phn at this
          rw [if_neg c] at this
          exact this
        · rw [if_neg d]
          have := last (((nx + 1) % 4 + 4 - (n + 1) + i) % 4) (by omega)
          unfold phn at this
          rw [if_neg c] at this
          exact this
  · intro g k c
    rw [up3_cell _ _ (by omega), up3_cell _ _ (by omega), n3 _ k (by omega), hM _ k (by omega)]
theorem k_record (W : WF a) (R : RC 1 M a) {ns n : Nat} {h : Nat → Row} (H : HV M ns n h) : ∃ ns' N, f_X1_record 1 ns M = some (ns', N) ∧ HV N ns' (phn n) (phh n h a) ∧ OH M N := by
  obtain ⟨q1, q2, nx, q3, q4, q5, q6, q7⟩ := H
  unfold f_X1_record
  rw [q4, ix_nat (by omega), ck_ib (by omega) (by omega) (by omega)]
  by_cases c : nx < ns
  · rw [if_pos c]
    obtain ⟨N, n1, n2, n3⟩ := k_record_b W R q1 q2 q3 q4 q5 q6 q7 (.inl ⟨rfl, c⟩) (M' := M) (fun _ _ _ => rfl)
    exact ⟨ns, N, n1, n2, n3⟩
  · have e : nx = ns := by omega
    rw [if_neg c, ck_of (decide_eq_true e)]
    subst e
    obtain ⟨N, n1, n2, n3⟩ := k_record_b W R q1 q2 q3 q4 q5 q6 q7 (.inr ⟨rfl, rfl, q3⟩) (M' := newP M (3 + nx)) (fun g k hg => newP_old M k hg)
    exact ⟨nx + 1, N, n1, n2, n3⟩
theorem k_restoreTo {ns n : Nat} {h : Nat → Row} (H : HV M ns (n + 1) h) : ∃ N, f_X1_restoreTo 1 ns M = some ((), N) ∧ HV N ns n h ∧ RC 1 N (h n) ∧ WF (h n) ∧ (∀ g k, ¬ (g = 1 ∨ (g = 0 ∧ k = 1)) → N g k = M g k) ∧ N 0 1 2 = zI n := by
  obtain ⟨q1, q2, nx, q3, q4, q5, q6, q7⟩ := H
  have md := md3 ⟨nx, q3⟩
  simp only at md
  have hx : (nx + 3) % 4 < ns := by omega
  obtain ⟨N, n1, n2, n3⟩ := k_copyFrom (g := 3 + (nx + 3) % 4) (g2 := 1) (M := M) (by omega)
  have hw := q2 n (by omega)
  have hr := q7 n (by omega)
  rw [show (nx + 4 - (n + 1) + n) % 4 = (nx + 3) % 4 by omega] at hr
  have RN := CpOk.rc hw hr n2
  have p2 : N 0 1 2 = zI ((n + 1 : Nat) : Int) := by rw [n3 0 1 (by omega)]; exact q5
  have fr : ∀ g k, ¬ (g = 1 ∨ (g = 0 ∧ k = 1)) → up3 (up3 N 0 1 1 (zI (((nx + 3) % 4 : Nat) : Int))) 0 1 2 (zI n) g k = M g k := by
    intro g k c
    rw [up3_cell _ _ (by omega), up3_cell _ _ (by omega), n3 _ k (by omega)]
  refine ⟨up3 (up3 N 0 1 1 (zI (((nx + 3) % 4 : Nat) : Int))) 0 1 2 (zI n), ?_, ?_, ?_, hw, fr, up3_at _ _ _ _ _⟩
  · unfold f_X1_restoreTo
    rw [zl_4, zl_1, zl_0, q4, md, lt_of, ck_ib (by omega) (by omega) (by omega), q5, if_neg (by rw [zI_eq (by omega) (by omega) (by omega) (by omega)]; omega), ix_nat (by omega), if_pos hx, ob_of n1, lt_of, up3_slot _ _ (by omega), p2, zI_sub, show ((n + 1 : Nat) : Int) - 1 = (n : Int) by omega]
    rfl
  · refine ⟨by omega, fun i hi => q2 i (by omega), (nx + 3) % 4, Nat.mod_lt _ (by omega), ?_, up3_at _ _ _ _ _, by omega, ?_⟩
    · rw [up3_slot _ _ (by omega), up3_at]
    · intro i hi
      have := q7 i (by omega)
      rw [show (nx + 4 - (n + 1) + i) % 4 = ((nx + 3) % 4 + 4 - n + i) % 4 by omega] at this
      exact this.same (fun k _ => fr _ k (by omega))
  · exact RN.same (fun k _ => by rw [up3_cell _ _ (by omega), up3_cell _ _ (by omega)])
/-! the reference's history -/
/-- only the reference's own history differs -/
def OA (S T : Mem) : Prop := (∀ h i, ¬ (h = 0 ∧ (i = 0 ∨ i = 2)) → T h i = S h i) ∧ ∀ j, j ≠ 4 → T 0 0 j = S 0 0 j
end
