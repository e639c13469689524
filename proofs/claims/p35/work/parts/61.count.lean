/-! counting: seams are no more than drawn lines; the lines by pens are the drawn ones -/
section
variable {a : Row}
noncomputable def cnt (P : Nat → Prop) : Nat → Int
  | 0 => 0
  | n + 1 => cnt P n + bP (P n)
theorem cnt_le {P Q : Nat → Prop} : ∀ n, (∀ i, i < n → P i → Q i) → cnt P n ≤ cnt Q n := by
  intro n
  induction n with
  | zero => intro _; exact Int.le_refl _
  | succ n ih =>
    intro h
    have i := ih (fun i hi => h i (by omega))
    have h1 := h n (Nat.lt_succ_self n)
    show cnt P n + bP (P n) ≤ cnt Q n + bP (Q n)
    have rp := bP_rg (P n)
    have rq := bP_rg (Q n)
    by_cases c : P n
    · rw [bP_t c, bP_t (h1 c)]
      omega
    · rw [bP_f c]
      omega
theorem cnt_lt {P Q : Nat → Prop} : ∀ n, (∀ i, i < n → P i → Q i) → ∀ j, j < n → Q j → ¬ P j → cnt P n + 1 ≤ cnt Q n := by
  intro n
  induction n with
  | zero => intro _ j hj; exact absurd hj (Nat.not_lt_zero j)
  | succ n ih =>
    intro h j hj q np
    show cnt P n + bP (P n) + 1 ≤ cnt Q n + bP (Q n)
    by_cases c : j = n
    · subst c
      have i := cnt_le (P := P) (Q := Q) j (fun i hi => h i (by omega))
      rw [bP_t q, bP_f np]
      omega
    · have i := ih (fun i hi => h i (by omega)) j (by omega) q np
      have h1 := h n (Nat.lt_succ_self n)
      have rp := bP_rg (P n)
      have rq := bP_rg (Q n)
      by_cases d : P n
      · rw [bP_t d, bP_t (h1 d)]
        omega
      · rw [bP_f d]
        omega
theorem cnt_pos (P : Nat → Prop) : ∀ n, 0 ≤ cnt P n := by
  intro n
  induction n with
  | zero => exact Int.le_refl _
  | succ n ih =>
    have r := bP_rg (P n)
    show 0 ≤ cnt P n + bP (P n)
    omega
theorem cnt_inj {P Q : Nat → Prop} {r : Nat → Nat → Prop} {N : Nat} (h1 : ∀ i, i < N → P i → ∃ j, j < N ∧ Q j ∧ r i j) (h2 : ∀ i k j, P i → P k → r i j → r k j → i = k) : ∀ m, m ≤ N → cnt P m ≤ cnt (fun j => Q j ∧ ∃ i, i < m ∧ P i ∧ r i j) N := by
  intro m
  induction m with
  | zero =>
    intro _
    exact cnt_pos _ N
  | succ m ih =>
    intro hm
    have i := ih (by omega)
    show cnt P m + bP (P m) ≤ _
    by_cases c : P m
    · obtain ⟨j, j1, j2, j3⟩ := h1 m (by omega) c
      have l := cnt_lt (P := fun j => Q j ∧ ∃ i, i < m ∧ P i ∧ r i j) (Q := fun j => Q j ∧ ∃ i, i < m + 1 ∧ P i ∧ r i j) N (fun k _ ⟨q, e, e1, e2, e3⟩ => ⟨q, e, by omega, e2, e3⟩) j j1 ⟨j2, m, Nat.lt_succ_self m, c, j3⟩ (fun ⟨q, e, e1, e2, e3⟩ => by
        have := h2 e m j e2 c e3 j3
        omega)
      rw [bP_t c]
      omega
    · have l := cnt_le (P := fun j => Q j ∧ ∃ i, i < m ∧ P i ∧ r i j) (Q := fun j => Q j ∧ ∃ i, i < m + 1 ∧ P i ∧ r i j) N (fun k _ ⟨q, e, e1, e2, e3⟩ => ⟨q, e, by omega, e2, e3⟩)
      rw [bP_f c]
      omega
theorem srw_cnt : ∀ n, srw a n = cnt (Fe a) n := by
  intro n
  induction n with
  | zero => rfl
  | succ n ih =>
    show srw a n + bP (Fe a n) = cnt (Fe a) n + bP (Fe a n)
    rw [ih]
/-- a first end's other end -/
theorem fe_other {i : Nat} (hi : i < 2 * nl a) (f : Fe a i) : ∃ j, j < 2 * nl a ∧ (la a (j / 2) 4 ≠ -1 ∧ ¬ Fe a j) ∧ (ex a j = ex a i ∧ ey a j = ey a i) := by
  obtain ⟨⟨f1, l, o, l1, o1, l2, o2, lo⟩, f2⟩ := f
  have own : Ej a i (ex a i) (ey a i) := ⟨f1, rfl, rfl⟩
  have key : ∀ q, q < nl a → q ≠ i / 2 → Ae a q (ex a i) (ey a i) → ∃ j, j < 2 * nl a ∧ (la a (j / 2) 4 ≠ -1 ∧ ¬ Fe a j) ∧ (ex a j = ex a i ∧ ey a j = ey a i) := by
    intro q hq hne hA
    obtain ⟨j, j1, ⟨j2, j3, j4⟩, j5⟩ := (Ej_Ae (a := a) (n := nl a) (x := ex a i) (y := ey a i) (fun k => k = q)).2 ⟨q, hq, hA, rfl⟩
    have j5 : j / 2 = q := j5
    have nij : ¬ j < i := fun t => f2 j t ⟨j2, j3, j4⟩
    have ne : j ≠ i := fun t => hne (by rw [← j5, t])
    refine ⟨j, j1, ⟨j2, fun g => ?_⟩, j3, j4⟩
    refine g.2 i (by omega) ?_
    rw [j3, j4]
    exact own
  by_cases c : l = i / 2
  · refine key o o1 (fun t => lo ?_) o2
    rw [c, t]
  · exact key l l1 c l2
theorem cnt_nd : ∀ n, cnt (fun j => la a (j / 2) 4 ≠ -1) (2 * n) = 2 * nd a n := by
  intro n
  induction n with
  | zero => rfl
  | succ n ih =>
    show cnt (fun j => la a (j / 2) 4 ≠ -1) (2 * n) + bP (la a (2 * n / 2) 4 ≠ -1) + bP (la a ((2 * n + 1) / 2) 4 ≠ -1) = 2 * (nd a n + bP (la a n 4 ≠ -1))
    rw [ih, show 2 * n / 2 = n by omega, show (2 * n + 1) / 2 = n by omega]
    omega
theorem cnt_part {P Q : Nat → Prop} (h : ∀ i, P i → Q i) : ∀ n, cnt P n + cnt (fun i => Q i ∧ ¬ P i) n = cnt Q n := by
  intro n
  induction n with
  | zero => rfl
  | succ n ih =>
    show cnt P n + bP (P n) + (cnt (fun i => Q i ∧ ¬ P i) n + bP (Q n ∧ ¬ P n)) = cnt Q n + bP (Q n)
    by_cases c : P n
    · rw [bP_t c, bP_t (h n c), bP_f (fun t => t.2 c)]
      omega
    · by_cases d : Q n
      · rw [bP_f c, bP_t d, bP_t ⟨d, c⟩]
        omega
      · rw [bP_f c, bP_f d, bP_f (fun t => d t.1)]
        omega
theorem seams_le (W : WF a) : 0 ≤ smn a (nl a) ∧ smn a (nl a) ≤ nd a (nl a) := by
  have e1 := srw_smn W (nl a) (Nat.le_refl _)
  rw [srw_cnt] at e1
  have c1 := cnt_inj (P := Fe a) (Q := fun j => la a (j / 2) 4 ≠ -1 ∧ ¬ Fe a j) (r := fun i j => ex a j = ex a i ∧ ey a j = ey a i) (N := 2 * nl a) (fun i hi f => fe_other hi f) (fun i k j fi fk r1 r2 => by
    have x : ex a i = ex a k := r1.1.symm.trans r2.1
    have y : ey a i = ey a k := r1.2.symm.trans r2.2
    have t1 : ¬ i < k := fun t => fk.2 i t ⟨fi.1.1, x, y⟩
    have t2 : ¬ k < i := fun t => fi.2 k t ⟨fk.1.1, x.symm, y.symm⟩
    omega) (2 * nl a) (Nat.le_refl _)
  have c2 := cnt_le (P := fun j => (la a (j / 2) 4 ≠ -1 ∧ ¬ Fe a j) ∧ ∃ i, i < 2 * nl a ∧ Fe a i ∧ ex a j = ex a i ∧ ey a j = ey a i) (Q := fun j => la a (j / 2) 4 ≠ -1 ∧ ¬ Fe a j) (2 * nl a) (fun i _ h => h.1)
  have c3 := cnt_part (P := Fe a) (Q := fun j => la a (j / 2) 4 ≠ -1) (fun i f => f.1.1) (2 * nl a)
  have c4 := cnt_nd (a := a) (nl a)
  have c5 := cnt_pos (Fe a) (2 * nl a)
  omega
theorem nd_rg : ∀ n : Nat, 0 ≤ nd a n ∧ nd a n ≤ n := by
  intro n
  induction n with
  | zero => exact ⟨Int.le_refl _, Int.le_refl _⟩
  | succ n ih =>
    have r := bP_rg (la a n 4 ≠ -1)
    show 0 ≤ nd a n + bP (la a n 4 ≠ -1) ∧ nd a n + bP (la a n 4 ≠ -1) ≤ ((n + 1 : Nat) : Int)
    omega
/-- the lines by the first k pens -/
noncomputable def sby (a : Row) (n : Nat) : Nat → Int
  | 0 => 0
  | k + 1 => sby a n k + lby a k n
theorem sby_succ {n : Nat} : ∀ k : Nat, sby a (n + 1) k = sby a n k + bP (0 ≤ la a n 4 ∧ la a n 4 < k) := by
  intro k
  induction k with
  | zero =>
    rw [bP_f (by omega)]
    rfl
  | succ k ih =>
    show sby a (n + 1) k + (lby a k n + bP (la a n 4 = k)) = sby a n k + lby a k n + bP (0 ≤ la a n 4 ∧ la a n 4 < ((k + 1 : Nat) : Int))
    rw [ih]
    by_cases c : la a n 4 = k
    · rw [bP_t c, bP_f (show ¬ (0 ≤ la a n 4 ∧ la a n 4 < (k : Int)) by omega), bP_t (show 0 ≤ la a n 4 ∧ la a n 4 < ((k + 1 : Nat) : Int) by omega)]
      omega
    · rw [bP_f c, bP_c (show (0 ≤ la a n 4 ∧ la a n 4 < (k : Int)) ↔ (0 ≤ la a n 4 ∧ la a n 4 < ((k + 1 : Nat) : Int)) by omega)]
      omega
theorem sby_0 : ∀ k, sby a 0 k = 0 := by
  intro k
  induction k with
  | zero => rfl
  | succ k ih =>
    show sby a 0 k + 0 = 0
    omega
theorem sby_nd (W : WF a) : ∀ n, n ≤ nl a → sby a n (np a) = nd a n := by
  intro n
  induction n with
  | zero => intro _; exact sby_0 _
  | succ n ih =>
    intro h
    have v := W.line (show n < nl a by omega)
    rw [sby_succ, ih (by omega)]
    show _ = nd a n + bP (la a n 4 ≠ -1)
    rw [bP_c (show (0 ≤ la a n 4 ∧ la a n 4 < (np a : Int)) ↔ la a n 4 ≠ -1 by omega)]
/-- the touching set's bits -/
theorem bt_shr : ∀ n : Fin 16, ∀ o : Fin 16, (bt n.val >>> (zI (o.val : Nat) &&& zI 31)) &&& zI 1 = if n.val = o.val then zI 1 else zI 0 := by decide +kernel
theorem z0_shr : ∀ o : Fin 16, (zI 0 >>> (zI (o.val : Nat) &&& zI 31)) &&& zI 1 = zI 0 := by decide +kernel
theorem tsI_bit (l o : Nat) (ho : o < 16) : ∀ n, n ≤ 16 → (tsI a l n >>> (zI o &&& zI 31)) &&& zI 1 = zI (bP (o < n ∧ o ≠ l ∧ tch a l o)) := by
  intro n
  induction n with
  | zero =>
    intro _
    rw [bP_f (by omega)]
    exact z0_shr ⟨o, ho⟩
  | succ n ih =>
    intro h
    have i := ih (by omega)
    have b := bt_shr ⟨n, by omega⟩ ⟨o, ho⟩
    simp only at b
    simp only [tsI]
    by_cases c : n ≠ l ∧ tch a l n
    · rw [if_pos c, show zI 1 <<< (zI n &&& zI 31) = bt n from rfl, Int32.shiftRight_or, i32_dist, i, b]
      by_cases d : n = o
      · subst d
        rw [if_pos rfl, bP_f (show ¬ (n < n ∧ n ≠ l ∧ tch a l n) from fun t => Nat.lt_irrefl _ t.1), bP_t (show n < n + 1 ∧ n ≠ l ∧ tch a l n from ⟨Nat.lt_succ_self n, c.1, c.2⟩)]
        exact i32_0or _
      · rw [if_neg d, i32_or0, bP_c (show (o < n ∧ o ≠ l ∧ tch a l o) ↔ (o < n + 1 ∧ o ≠ l ∧ tch a l o) from ⟨fun t => ⟨by omega, t.2⟩, fun t => ⟨by omega, t.2⟩⟩)]
    · rw [if_neg c, i, bP_c (show (o < n ∧ o ≠ l ∧ tch a l o) ↔ (o < n + 1 ∧ o ≠ l ∧ tch a l o) from ⟨fun t => ⟨by omega, t.2⟩, fun t => ⟨by
        have : o ≠ n := fun e => c (e ▸ t.2)
        omega, t.2⟩⟩)]
theorem spn_sym {p q r s : Int} : spn p q r s ↔ spn r s p q := by
  unfold spn
  omega
theorem tch_sym {l o : Nat} : tch a l o ↔ tch a o l := by
  unfold tch gmeet
  constructor
  · exact fun ⟨h1, h2, h3, h4⟩ => ⟨spn_sym.1 h1, spn_sym.1 h2, h4, h3⟩
  · exact fun ⟨h1, h2, h3, h4⟩ => ⟨spn_sym.1 h1, spn_sym.1 h2, h4, h3⟩
end
