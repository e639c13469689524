/-! the fair plan, of both -/
section
variable {g : Nat} {M S : Mem} {a : Row}
theorem cpy_at {α : Type} (f h : Nat → α) {n j : Nat} (hj : j < n) : va_cpy f h 0 0 n j = f j := by
  unfold va_cpy
  rw [if_pos (by omega)]
  congr 1
  omega
theorem k_copy {g0 k0 g1 k1 n : Nat} (hn : n < 1000) : f_X7_copy g0 k0 n g1 k1 n M = some ((), cp3 M g1 k1 (va_cpy (M g0 k0) (M g1 k1) 0 0 n)) := by
  have e : mn (zI n) (zI n) = zI n := by rw [mn_zI (by omega) (by omega) (by omega) (by omega)]; congr 1; omega
  have c : cok (zI n) n n = true := by
    have t : (zI (n : Int)).toNatClampNeg = n := ix_nat (by omega)
    unfold cok
    simp only [t, zl_0, Bool.and_eq_true, decide_eq_true_eq]
    rw [zI_lt (by omega) (by omega) (by omega) (by omega)]
    omega
  unfold f_X7_copy
  rw [zI_nat, e, ck_of c, lt_of, ix_nat (by omega)]
/-! how many there are -/
/-! the class's plan -/
/-! the reference's plan -/
/-! what stays: of the class's memory, of the reference's -/
end
