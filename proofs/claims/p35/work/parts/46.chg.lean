/-! the changes, but pen, line and play -/
section
variable {g : Nat} {M N S : Mem} {a b : Row}
theorem OH.rc (h : OH M N) (R : RC 1 M a) : RC 1 N a := R.same (fun k _ => h 1 k (by omega))
theorem drw_7 (a : Row) {l p : Nat} (w : Int) : drw a l p w 7 = a 7 + (dst (a 9) (a 10) (bX a l w) (bY a l w) + len a l) := by
  unfold drw ldr
  simp (disch := omega) only [uz_at, uz_ne]
/-! a refusal ahead of what is kept -/
theorem RC.e17 (W : WF a) (R : RC g M a) {l : Nat} (hl : l < nl a) : RC g (up3 M g 17 l (zI (-1))) (uz a (53 + 8 * l + 4) (-1)) := by
  refine R.g1 (uz_ne _ _ (by omega)) (uz_ne _ _ (by omega)) (fun k _ _ => up3_cell _ _ (by omega)) (up3_cell _ _ (by omega)) ?_ ?_ ?_ ?_ ?_ ?_ ?_
  · intro o ho w hw
    rw [la_ln _ (by omega) (by omega), if_neg (by omega)]
  · intro i hi
    rw [up3_cell _ _ (by omega), uz_ne _ _ (by omega)]
    exact R.rset hi
  · intro p hp
    have q := R.rpen hp
    have ws := W.sc
    unfold PenOk
    simp (disch := omega) only [up3_cell, pa_ln]
    exact q
  · intro o ho
    rw [la_ln _ (by omega) (by omega)]
    by_cases c : o = l
    · subst c
      rw [up3_at, if_pos ⟨rfl, rfl⟩]
    · rw [up3_slot _ _ c, if_neg (fun t => c t.1)]
      exact R.l17 ho
  · intro o ho hd
    rw [la_ln _ (by omega) (by omega)] at hd
    have c : o ≠ l := fun t => hd (if_pos ⟨t, rfl⟩)
    rw [if_neg (fun t => c t.1)] at hd
    rw [up3_cell _ _ (by omega), up3_cell _ _ (by omega), la_ln _ (by omega) (by omega), la_ln _ (by omega) (by omega), if_neg (by omega), if_neg (by omega)]
    exact R.rdrawn ho hd
  · intro o ho hd
    rw [la_ln _ (by omega) (by omega)] at hd
    have c : o ≠ l := fun t => hd (if_pos ⟨t, rfl⟩)
    rw [if_neg (fun t => c t.1)] at hd
    obtain ⟨k, q1, q2, q3, q4⟩ := R.rshade ho hd
    rw [up3_cell _ _ (by omega), la_ln _ (by omega) (by omega), la_ln _ (by omega) (by omega), if_neg (fun t => c t.1), if_neg (fun t => c t.1)]
    have e : pa (uz a (53 + 8 * l + 4) (-1)) (la a o 4).toNat 1 = pa a (la a o 4).toNat 1 := by
      by_cases c5 : (la a o 4).toNat < 5
      · exact pa_ln _ _ c5 (by omega)
      · have v := W.line ho
        have ws := W.sc
        omega
    rw [e]
    exact ⟨k, q1, q2, q3, q4⟩
  · have q := R.rsc
    unfold ScOk
    simp (disch := omega) only [up3_cell, uz_ne]
    exact q
end
