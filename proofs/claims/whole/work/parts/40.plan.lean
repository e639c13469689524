/-! the fair plan, of both -/
section
variable {g : Nat} {M S : Mem} {a : Row}
theorem cpy_at {α : Type} (f h : Nat → α) {n j : Nat} (hj : j < n) : va_cpy f h 0 0 n j = f j := by
  unfold va_cpy
  rw [if_pos (by omega)]
  congr 1
  omega
theorem k_copy {g0 k0 g1 k1 n : Nat} (hn : n < 1000) : f_X7_copy g0 k0 n g1 k1 n M = some ((), cp3 M g1 k1 (va_cpy (M g0 k0) (M g1 k1) 0 0 n)) := by
  have e : mn (zI n) (zI n) = zI n := by rw [mn_zI (by omega) (by omega) (by omega) (by omega)]; congr 1; omega
  have c : cok (zI n) n n = true := by
    have t : (zI (n : Int)).toNatClampNeg = n := ix_nat (by omega)
    unfold cok
    simp only [t, zl_0, Bool.and_eq_true, decide_eq_true_eq]
    rw [zI_lt (by omega) (by omega) (by omega) (by omega)]
    omega
  unfold f_X7_copy
  rw [zI_nat, e, ck_of c, lt_of, ix_nat (by omega)]
/-- only the plan's tables differ -/
def PlS (M N : Mem) : Prop := ∀ g k, ¬ (g = 0 ∧ (k = 6 ∨ k = 7)) → N g k = M g k
theorem PlS.rf : PlS M M := fun _ _ _ => rfl
theorem PlS.tr {M N P : Mem} (h : PlS M N) (h2 : PlS N P) : PlS M P := fun g k c => (h2 g k c).trans (h g k c)
theorem PlS.cp {M : Mem} {k : Nat} {f : Nat → Int32} (h : k = 6 ∨ k = 7) : PlS M (cp3 M 0 k f) := fun g' k' c => cp3_ne _ _ (fun q => c ⟨q.1, q.2 ▸ h⟩)
theorem PlS.up {M : Mem} {k j : Nat} {v : Int32} (h : k = 6 ∨ k = 7) : PlS M (up3 M 0 k j v) := PlS.cp h
theorem PlS.rc {M N : Mem} (h : PlS M N) (hg : g ≠ 0) (R : RC g M a) : RC g N a := R.same (fun k _ => h g k (fun q => hg q.1))
theorem PlS.rm {M N : Mem} (h : PlS M N) (R : RM M a) : RM N a := R.same (h 0 1 (by omega))
/-- the tables of the plan -/
def PF (a : Row) (C : Mem) (s : (Nat → Int) × (Nat → Int)) : Prop := (∀ l, l < 16 → C 0 6 l = zI (s.1 l)) ∧ ∀ p, p < np a → C 0 7 p = zI (s.2 p)
/-- the longest line that is left, the pen with the least -/
def lng (a : Row) (f : Nat → Int) : Nat → Int
  | 0 => -1
  | k + 1 => if la a k 4 = -1 ∧ f k = -1 ∧ (lng a f k = -1 ∨ len a (lng a f k).toNat < len a k) then k else lng a f k
def lpn (a : Row) (v : Nat → Int) : Nat → Int
  | 0 => -1
  | k + 1 => if pa a k 6 = 0 ∧ (lpn a v k = -1 ∨ v k < v (lpn a v k).toNat) then k else lpn a v k
theorem lng_rg (f : Nat → Int) : ∀ k, -1 ≤ lng a f k ∧ lng a f k < (k : Int) ∧ (lng a f k ≠ -1 → la a (lng a f k).toNat 4 = -1 ∧ f (lng a f k).toNat = -1) ∧ (lng a f k = -1 → ∀ l, l < k → ¬ (la a l 4 = -1 ∧ f l = -1)) := by
  intro k
  induction k with
  | zero => exact ⟨Int.le_refl _, by show (-1 : Int) < 0; omega, fun h => absurd rfl h, fun _ l h => absurd h (Nat.not_lt_zero l)⟩
  | succ k ih =>
    obtain ⟨i1, i2, i3, i4⟩ := ih
    simp only [lng]
    split
    · rename_i c
      refine ⟨by omega, by omega, fun _ => ?_, fun h => by omega⟩
      rw [Int.toNat_natCast]
      exact ⟨c.1, c.2.1⟩
    · rename_i c
      refine ⟨i1, by omega, i3, fun h l hl => ?_⟩
      by_cases q : l = k
      · subst q
        exact fun t => c ⟨t.1, t.2, .inl h⟩
      · exact i4 h l (by omega)
/-- no pen is there that is not on leave -/
def pz (a : Row) (k : Nat) : Prop := ∀ p, p < k → pa a p 6 ≠ 0
theorem pz_succ (k : Nat) : pz a (k + 1) ↔ (pz a k ∧ pa a k 6 ≠ 0) := by
  constructor
  · exact fun h => ⟨fun p hp => h p (by omega), h k (by omega)⟩
  · rintro ⟨h1, h2⟩ p hp
    by_cases q : p = k
    · subst q; exact h2
    · exact h1 p (by omega)
theorem lpn_rg (v : Nat → Int) : ∀ k, -1 ≤ lpn a v k ∧ lpn a v k < (k : Int) ∧ (lpn a v k = -1 ↔ pz a k) := by
  intro k
  induction k with
  | zero => exact ⟨Int.le_refl _, by show (-1 : Int) < 0; omega, fun _ p h => absurd h (Nat.not_lt_zero p), fun _ => rfl⟩
  | succ k ih =>
    obtain ⟨i1, i2, i3⟩ := ih
    rw [pz_succ, ← i3]
    simp only [lpn]
    split <;> omega
theorem prs_pz (W : WF a) : ∀ k, k ≤ np a → (prs a k = 0 ↔ pz a k) := by
  intro k
  induction k with
  | zero => exact fun _ => ⟨fun _ p h => absurd h (Nat.not_lt_zero p), fun _ => rfl⟩
  | succ k ih =>
    intro h
    have i := ih (by omega)
    have r := prs_rg W (show k ≤ np a by omega)
    have v := W.pen (show k < np a by omega)
    rw [pz_succ, ← i]
    simp only [prs]
    omega
theorem lst_pz {v : Nat → Int} {B : Int} {n : Nat} (hB : 0 ≤ B) (hv : ∀ p, p < n → 0 ≤ v p ∧ v p ≤ B) : ∀ k, k ≤ n → (lst a v (-1) k = -1 ↔ pz a k) := by
  intro k
  induction k with
  | zero => exact fun _ => ⟨fun _ p h => absurd h (Nat.not_lt_zero p), fun _ => rfl⟩
  | succ k ih =>
    intro h
    have i := ih (by omega)
    have r := lst_rg (a := a) hB hv (-1) k (by omega)
    have u := hv k (by omega)
    rw [pz_succ, ← i]
    simp only [lst]
    split <;> omega
def stp (a : Row) (s : (Nat → Int) × (Nat → Int)) : (Nat → Int) × (Nat → Int) :=
  if lng a s.1 (nl a) = -1 ∨ lpn a s.2 (np a) = -1 then s else (uz s.1 (lng a s.1 (nl a)).toNat (lpn a s.2 (np a)), uz s.2 (lpn a s.2 (np a)).toNat (s.2 (lpn a s.2 (np a)).toNat + len a (lng a s.1 (nl a)).toNat))
def fpl (a : Row) : Nat → (Nat → Int) × (Nat → Int)
  | 0 => (fun _ => -1, dv a)
  | k + 1 => stp a (fpl a k)
theorem fpl_rg (W : WF a) : ∀ k, (∀ l, -1 ≤ (fpl a k).1 l ∧ (fpl a k).1 l < 5) ∧ ∀ p, p < np a → 0 ≤ (fpl a k).2 p ∧ (fpl a k).2 p ≤ 100000 + 99 * k := by
  intro k
  have ws := W.sc
  induction k with
  | zero =>
    refine ⟨fun l => ⟨Int.le_refl _, by show (-1 : Int) < 5; omega⟩, fun p hp => ?_⟩
    have u := dv_rg W p hp
    show 0 ≤ dv a p ∧ dv a p ≤ _
    omega
  | succ k ih =>
    obtain ⟨i1, i2⟩ := ih
    have e : fpl a (k + 1) = stp a (fpl a k) := rfl
    rw [e]
    generalize fpl a k = s at i1 i2
    unfold stp
    have r1 := lng_rg (a := a) s.1 (nl a)
    have r2 := lpn_rg (a := a) s.2 (np a)
    split
    · exact ⟨i1, fun p hp => by have := i2 p hp; omega⟩
    · rename_i c
      constructor
      · intro l
        show -1 ≤ uz s.1 _ _ l ∧ uz s.1 _ _ l < 5
        unfold uz
        split
        · omega
        · exact i1 l
      · intro p hp
        show 0 ≤ uz s.2 _ _ p ∧ uz s.2 _ _ p ≤ _
        have u := i2 p hp
        have w := i2 (lpn a s.2 (np a)).toNat (by omega)
        have x := W.line (show (lng a s.1 (nl a)).toNat < nl a by omega)
        unfold uz
        split <;> omega
theorem fpl_fix {k : Nat} (h : stp a (fpl a k) = fpl a k) : ∀ d, fpl a (k + d) = fpl a k := by
  intro d
  induction d with
  | zero => rfl
  | succ d ih =>
    show stp a (fpl a (k + d)) = _
    rw [ih, h]
/-! how many there are -/
noncomputable def cnp (P : Nat → Prop) : Nat → Nat
  | 0 => 0
  | k + 1 => cnp P k + @ite Nat (P k) (Classical.propDecidable _) 1 0
theorem cnp_le (P : Nat → Prop) : ∀ k, cnp P k ≤ k := by
  intro k
  induction k with
  | zero => exact Nat.le_refl _
  | succ k ih =>
    simp only [cnp]
    split <;> omega
theorem cnp_zero {P : Nat → Prop} : ∀ k, cnp P k = 0 → ∀ j, j < k → ¬ P j := by
  intro k
  induction k with
  | zero => exact fun _ j h => absurd h (Nat.not_lt_zero j)
  | succ k ih =>
    intro h j hj
    simp only [cnp] at h
    by_cases c : P k
    · rw [if_pos c] at h; omega
    · rw [if_neg c] at h
      by_cases q : j = k
      · subst q; exact c
      · exact ih h j (by omega)
theorem cnp_same {P Q : Nat → Prop} : ∀ k, (∀ j, j < k → (P j ↔ Q j)) → cnp P k = cnp Q k := by
  intro k
  induction k with
  | zero => exact fun _ => rfl
  | succ k ih =>
    intro h
    have e := h k (by omega)
    simp only [cnp]
    rw [ih (fun j hj => h j (by omega))]
    by_cases c : P k
    · rw [if_pos c, if_pos (e.1 c)]
    · rw [if_neg c, if_neg (fun q => c (e.2 q))]
theorem cnp_less {P Q : Nat → Prop} {i : Nat} (hi : P i) (hq : ¬ Q i) (h : ∀ j, j ≠ i → (P j ↔ Q j)) : ∀ k, i < k → cnp P k = cnp Q k + 1 := by
  intro k
  induction k with
  | zero => exact fun h => absurd h (Nat.not_lt_zero i)
  | succ k ih =>
    intro hk
    simp only [cnp]
    by_cases c : i = k
    · subst c
      rw [if_pos hi, if_neg hq, cnp_same i (fun j hj => h j (by omega))]
    · have e := h k (fun q => c q.symm)
      rw [ih (by omega)]
      by_cases d : P k
      · rw [if_pos d, if_pos (e.1 d)]
      · rw [if_neg d, if_neg (fun q => d (e.2 q))]
/-- lines to which no pen is given yet -/
def Ug (a : Row) (f : Nat → Int) (l : Nat) : Prop := la a l 4 = -1 ∧ f l = -1
theorem fpl_cnt (W : WF a) (hp : ¬ pz a (np a)) : ∀ k, cnp (Ug a (fpl a k).1) (nl a) + k ≤ nl a ∨ lng a (fpl a k).1 (nl a) = -1 := by
  intro k
  induction k with
  | zero => exact .inl (cnp_le _ _)
  | succ k ih =>
    have e : fpl a (k + 1) = stp a (fpl a k) := rfl
    rw [e]
    generalize fpl a k = s at ih
    have r1 := lng_rg (a := a) s.1 (nl a)
    have r2 := lpn_rg (a := a) s.2 (np a)
    by_cases c : lng a s.1 (nl a) = -1
    · right
      unfold stp
      rw [if_pos (.inl c)]
      exact c
    · left
      have d : lpn a s.2 (np a) ≠ -1 := fun q => hp (r2.2.2.1 q)
      have i := ih.resolve_right c
      have t := r1.2.2.1 c
      unfold stp
      rw [if_neg (fun q => q.elim c d)]
      have x := cnp_less (P := Ug a s.1) (Q := Ug a (uz s.1 (lng a s.1 (nl a)).toNat (lpn a s.2 (np a)))) (i := (lng a s.1 (nl a)).toNat) t (fun q => by
        have q2 := q.2
        rw [uz_at] at q2
        exact d q2) (fun j hj => by unfold Ug; rw [uz_ne _ _ hj]) (nl a) (by omega)
      show cnp (Ug a (uz s.1 (lng a s.1 (nl a)).toNat (lpn a s.2 (np a)))) (nl a) + (k + 1) ≤ nl a
      omega
theorem fpl_all (W : WF a) (hp : ¬ pz a (np a)) {l : Nat} (hl : l < nl a) (hd : la a l 4 = -1) : (fpl a (nl a)).1 l ≠ -1 := by
  intro h
  rcases fpl_cnt W hp (nl a) with c | c
  · exact cnp_zero (P := Ug a (fpl a (nl a)).1) (nl a) (by omega) l hl ⟨hd, h⟩
  · exact (lng_rg (a := a) (fpl a (nl a)).1 (nl a)).2.2.2 c l hl ⟨hd, h⟩
theorem fpl_none (hp : pz a (np a)) : ∀ k, fpl a k = (fun _ => -1, dv a) := by
  intro k
  have h : stp a (fpl a 0) = fpl a 0 := by
    unfold stp
    rw [if_pos (.inr ((lpn_rg (a := a) (fpl a 0).2 (np a)).2.2.2 hp))]
  have := fpl_fix h k
  rw [Nat.zero_add] at this
  exact this
/-! the class's plan -/
theorem k_longest_l (W : WF a) (R : RC g M a) {f : Nat → Int} (hfr : ∀ l, -1 ≤ f l ∧ f l < 5) (hm : ∀ l, l < 16 → M 0 6 l = zI (f l)) : ∀ (d k fu : Nat), k + d = nl a → d < fu → f_X0_longestLeft_b4 g fu (zI (lng a f k)) (zI k) M = some (zI (lng a f (nl a)), M) := by
  intro d
  have ws := W.sc
  induction d with
  | zero =>
    intro k fu hk hf
    obtain ⟨fu, rfl⟩ : ∃ f, fu = f + 1 := ⟨fu - 1, by omega⟩
    obtain rfl : k = nl a := by omega
    have c0 : ((nl a : Nat) : Int) ≤ ((nl a : Nat) : Int) := Int.le_refl _
    rw [f_X0_longestLeft_b4.eq_2]
    simp (disch := omega) only [zl_0, zl_1, zl_2, zl_3, zl_4, zl_5, zl_6, zl_7, zl_8, zl_9, zl_10, zl_11, zl_12, zl_13, zl_14, zl_15, zl_16, zl_17, zl_18, zl_19, zl_20, zl_23, zl_24, zl_31, zl_32, zl_48, zl_50, zl_53, zl_57, zl_59, zl_60, zl_99, zl_100, zl_104, zl_112, zl_114, zl_119, zl_126, zl_127, zl_181, zl_200, zl_500, zl_543, zl_724, zl_999, zl_1000, zl_5000, zl_65536, zl_100000, zl_1000001, zl_1000002, zl_1000003, zl_1000004, zl_2143289344, zI_neg, zI_add, zI_sub, zI_mul, zI_le, zI_lt, zI_eq, ck_ib, ix_nat, ixz_0, ixz_1, ixz_2, ixz_3, ixz_4, ixz_5, ixz_6, ixz_7, ixz_8, ixz_9, ixz_10, ixz_11, ixz_12, ob_some, lt_of, ck_bP, bP_z, bP_o, ite_bP, Int.reduceToNat, Nat.reduceAdd, Nat.reduceMul, Int.reduceAdd, Int.reduceSub, Int.reduceMul, Int.reduceNeg, Int.reduceEq, Int.reduceLT, Int.reduceLE, ↓reduceIte, not_true_eq_false, not_false_eq_true, R.rnl, c0]
  | succ d ih =>
    intro k fu hk hf
    obtain ⟨fu, rfl⟩ : ∃ f, fu = f + 1 := ⟨fu - 1, by omega⟩
    have kk : k < nl a := by omega
    have c0 : ¬ ((nl a : Int) ≤ (k : Int)) := by omega
    have e := ih (k + 1) fu (by omega) (by omega)
    simp only [nc1] at e
    have r := lng_rg (a := a) f k
    have u := hfr k
    have v := W.line kk
    have hk := hm k (by omega)
    rw [f_X0_longestLeft_b4.eq_2]
    simp only [lng] at e
    by_cases hd : la a k 4 = -1
    · by_cases c : f k = -1
      · by_cases c2 : lng a f k = -1
        · rw [if_pos ⟨hd, c, .inl c2⟩] at e
          simp (disch := omega) only [zl_0, zl_1, zl_2, zl_3, zl_4, zl_5, zl_6, zl_7, zl_8, zl_9, zl_10, zl_11, zl_12, zl_13, zl_14, zl_15, zl_16, zl_17, zl_18, zl_19, zl_20, zl_23, zl_24, zl_31, zl_32, zl_48, zl_50, zl_53, zl_57, zl_59, zl_60, zl_99, zl_100, zl_104, zl_112, zl_114, zl_119, zl_126, zl_127, zl_181, zl_200, zl_500, zl_543, zl_724, zl_999, zl_1000, zl_5000, zl_65536, zl_100000, zl_1000001, zl_1000002, zl_1000003, zl_1000004, zl_2143289344, zI_neg, zI_add, zI_sub, zI_mul, zI_le, zI_lt, zI_eq, ck_ib, ix_nat, ixz_0, ixz_1, ixz_2, ixz_3, ixz_4, ixz_5, ixz_6, ixz_7, ixz_8, ixz_9, ixz_10, ixz_11, ixz_12, ob_some, lt_of, ck_bP, bP_z, bP_o, ite_bP, Int.reduceToNat, Nat.reduceAdd, Nat.reduceMul, Int.reduceAdd, Int.reduceSub, Int.reduceMul, Int.reduceNeg, Int.reduceEq, Int.reduceLT, Int.reduceLE, ↓reduceIte, not_true_eq_false, not_false_eq_true, R.rnl, c0, k_X2_drf W R kk hd, hk, c, c2, f_X0_longestLeft_b35, f_X0_longestLeft_b62, f_X0_longestLeft_b64]
          exact e
        · obtain ⟨l, hl⟩ : ∃ l : Nat, lng a f k = l := ⟨(lng a f k).toNat, by omega⟩
          rw [hl] at e r c2
          rw [hl]
          rw [Int.toNat_natCast] at e
          have w := W.line (show l < nl a by omega)
          simp (disch := omega) only [zl_0, zl_1, zl_2, zl_3, zl_4, zl_5, zl_6, zl_7, zl_8, zl_9, zl_10, zl_11, zl_12, zl_13, zl_14, zl_15, zl_16, zl_17, zl_18, zl_19, zl_20, zl_23, zl_24, zl_31, zl_32, zl_48, zl_50, zl_53, zl_57, zl_59, zl_60, zl_99, zl_100, zl_104, zl_112, zl_114, zl_119, zl_126, zl_127, zl_181, zl_200, zl_500, zl_543, zl_724, zl_999, zl_1000, zl_5000, zl_65536, zl_100000, zl_1000001, zl_1000002, zl_1000003, zl_1000004, zl_2143289344, zI_neg, zI_add, zI_sub, zI_mul, zI_le, zI_lt, zI_eq, ck_ib, ix_nat, ixz_0, ixz_1, ixz_2, ixz_3, ixz_4, ixz_5, ixz_6, ixz_7, ixz_8, ixz_9, ixz_10, ixz_11, ixz_12, ob_some, lt_of, ck_bP, bP_z, bP_o, ite_bP, Int.reduceToNat, Nat.reduceAdd, Nat.reduceMul, Int.reduceAdd, Int.reduceSub, Int.reduceMul, Int.reduceNeg, Int.reduceEq, Int.reduceLT, Int.reduceLE, ↓reduceIte, not_true_eq_false, not_false_eq_true, R.rnl, c0, k_X2_drf W R kk hd, hk, c, c2, R.l15, f_X0_longestLeft_b35, f_X0_longestLeft_b62, f_X0_longestLeft_b64]
          by_cases c3 : len a l < len a k
          · rw [if_pos ⟨hd, c, .inr c3⟩] at e
            rw [if_neg (by omega)]
            exact e
          · rw [if_neg (by omega)] at e
            rw [if_pos (by omega)]
            exact e
      · rw [if_neg (fun q => c q.2.1)] at e
        simp (disch := omega) only [zl_0, zl_1, zl_2, zl_3, zl_4, zl_5, zl_6, zl_7, zl_8, zl_9, zl_10, zl_11, zl_12, zl_13, zl_14, zl_15, zl_16, zl_17, zl_18, zl_19, zl_20, zl_23, zl_24, zl_31, zl_32, zl_48, zl_50, zl_53, zl_57, zl_59, zl_60, zl_99, zl_100, zl_104, zl_112, zl_114, zl_119, zl_126, zl_127, zl_181, zl_200, zl_500, zl_543, zl_724, zl_999, zl_1000, zl_5000, zl_65536, zl_100000, zl_1000001, zl_1000002, zl_1000003, zl_1000004, zl_2143289344, zI_neg, zI_add, zI_sub, zI_mul, zI_le, zI_lt, zI_eq, ck_ib, ix_nat, ixz_0, ixz_1, ixz_2, ixz_3, ixz_4, ixz_5, ixz_6, ixz_7, ixz_8, ixz_9, ixz_10, ixz_11, ixz_12, ob_some, lt_of, ck_bP, bP_z, bP_o, ite_bP, Int.reduceToNat, Nat.reduceAdd, Nat.reduceMul, Int.reduceAdd, Int.reduceSub, Int.reduceMul, Int.reduceNeg, Int.reduceEq, Int.reduceLT, Int.reduceLE, ↓reduceIte, not_true_eq_false, not_false_eq_true, R.rnl, c0, k_X2_drf W R kk hd, hk, c, f_X0_longestLeft_b34, f_X0_longestLeft_b35, f_X0_longestLeft_b62, f_X0_longestLeft_b64]
        exact e
    · rw [if_neg (fun q => hd q.1)] at e
      simp (disch := omega) only [zl_0, zl_1, zl_2, zl_3, zl_4, zl_5, zl_6, zl_7, zl_8, zl_9, zl_10, zl_11, zl_12, zl_13, zl_14, zl_15, zl_16, zl_17, zl_18, zl_19, zl_20, zl_23, zl_24, zl_31, zl_32, zl_48, zl_50, zl_53, zl_57, zl_59, zl_60, zl_99, zl_100, zl_104, zl_112, zl_114, zl_119, zl_126, zl_127, zl_181, zl_200, zl_500, zl_543, zl_724, zl_999, zl_1000, zl_5000, zl_65536, zl_100000, zl_1000001, zl_1000002, zl_1000003, zl_1000004, zl_2143289344, zI_neg, zI_add, zI_sub, zI_mul, zI_le, zI_lt, zI_eq, ck_ib, ix_nat, ixz_0, ixz_1, ixz_2, ixz_3, ixz_4, ixz_5, ixz_6, ixz_7, ixz_8, ixz_9, ixz_10, ixz_11, ixz_12, ob_some, lt_of, ck_bP, bP_z, bP_o, ite_bP, Int.reduceToNat, Nat.reduceAdd, Nat.reduceMul, Int.reduceAdd, Int.reduceSub, Int.reduceMul, Int.reduceNeg, Int.reduceEq, Int.reduceLT, Int.reduceLE, ↓reduceIte, not_true_eq_false, not_false_eq_true, R.rnl, c0, k_X2_drt W R kk hd, f_X0_longestLeft_b34, f_X0_longestLeft_b35, f_X0_longestLeft_b62, f_X0_longestLeft_b64]
      exact e
theorem k_longestLeft (W : WF a) (R : RC g M a) {f : Nat → Int} (hf : ∀ l, -1 ≤ f l ∧ f l < 5) (hm : ∀ l, l < 16 → M 0 6 l = zI (f l)) : f_X0_longestLeft g M = some (zI (lng a f (nl a)), M) := k_longest_l W R hf hm (nl a) 0 1000 (by omega) (by have w := W.sc; omega)
theorem k_leastLoaded_l (W : WF a) (R : RC g M a) {v : Nat → Int} (hv : ∀ p, p < np a → 0 ≤ v p ∧ v p ≤ 110000) (hm : ∀ p, p < np a → M 0 7 p = zI (v p)) : ∀ (d k fu : Nat), k + d = np a → d < fu → f_X0_leastLoaded_b4 g fu (zI (lpn a v k)) (zI k) M = some (zI (lpn a v (np a)), M) := by
  intro d
  have ws := W.sc
  induction d with
  | zero =>
    intro k fu hk hf
    obtain ⟨fu, rfl⟩ : ∃ f, fu = f + 1 := ⟨fu - 1, by omega⟩
    obtain rfl : k = np a := by omega
    have c0 : ((np a : Nat) : Int) ≤ ((np a : Nat) : Int) := Int.le_refl _
    rw [f_X0_leastLoaded_b4.eq_2]
    simp (disch := omega) only [zl_0, zl_1, zl_2, zl_3, zl_4, zl_5, zl_6, zl_7, zl_8, zl_9, zl_10, zl_11, zl_12, zl_13, zl_14, zl_15, zl_16, zl_17, zl_18, zl_19, zl_20, zl_23, zl_24, zl_31, zl_32, zl_48, zl_50, zl_53, zl_57, zl_59, zl_60, zl_99, zl_100, zl_104, zl_112, zl_114, zl_119, zl_126, zl_127, zl_181, zl_200, zl_500, zl_543, zl_724, zl_999, zl_1000, zl_5000, zl_65536, zl_100000, zl_1000001, zl_1000002, zl_1000003, zl_1000004, zl_2143289344, zI_neg, zI_add, zI_sub, zI_mul, zI_le, zI_lt, zI_eq, ck_ib, ix_nat, ixz_0, ixz_1, ixz_2, ixz_3, ixz_4, ixz_5, ixz_6, ixz_7, ixz_8, ixz_9, ixz_10, ixz_11, ixz_12, ob_some, lt_of, ck_bP, bP_z, bP_o, ite_bP, Int.reduceToNat, Nat.reduceAdd, Nat.reduceMul, Int.reduceAdd, Int.reduceSub, Int.reduceMul, Int.reduceNeg, Int.reduceEq, Int.reduceLT, Int.reduceLE, ↓reduceIte, not_true_eq_false, not_false_eq_true, R.rnp, c0]
  | succ d ih =>
    intro k fu hk hf
    obtain ⟨fu, rfl⟩ : ∃ f, fu = f + 1 := ⟨fu - 1, by omega⟩
    have kk : k < np a := by omega
    have c0 : ¬ ((np a : Int) ≤ (k : Int)) := by omega
    have e := ih (k + 1) fu (by omega) (by omega)
    simp only [nc1] at e
    have r := lpn_rg (a := a) v k
    have u := hv k kk
    have w := W.pen kk
    have hk := hm k kk
    rw [f_X0_leastLoaded_b4.eq_2]
    simp only [lpn] at e
    by_cases hd : pa a k 6 = 1
    · rw [if_neg (by omega)] at e
      simp (disch := omega) only [zl_0, zl_1, zl_2, zl_3, zl_4, zl_5, zl_6, zl_7, zl_8, zl_9, zl_10, zl_11, zl_12, zl_13, zl_14, zl_15, zl_16, zl_17, zl_18, zl_19, zl_20, zl_23, zl_24, zl_31, zl_32, zl_48, zl_50, zl_53, zl_57, zl_59, zl_60, zl_99, zl_100, zl_104, zl_112, zl_114, zl_119, zl_126, zl_127, zl_181, zl_200, zl_500, zl_543, zl_724, zl_999, zl_1000, zl_5000, zl_65536, zl_100000, zl_1000001, zl_1000002, zl_1000003, zl_1000004, zl_2143289344, zI_neg, zI_add, zI_sub, zI_mul, zI_le, zI_lt, zI_eq, ck_ib, ix_nat, ixz_0, ixz_1, ixz_2, ixz_3, ixz_4, ixz_5, ixz_6, ixz_7, ixz_8, ixz_9, ixz_10, ixz_11, ixz_12, ob_some, lt_of, ck_bP, bP_z, bP_o, ite_bP, Int.reduceToNat, Nat.reduceAdd, Nat.reduceMul, Int.reduceAdd, Int.reduceSub, Int.reduceMul, Int.reduceNeg, Int.reduceEq, Int.reduceLT, Int.reduceLE, ↓reduceIte, not_true_eq_false, not_false_eq_true, R.rnp, c0, k_X4_isAway W R kk, hd, f_X0_leastLoaded_b42, f_X0_leastLoaded_b40]
      exact e
    · by_cases c2 : lpn a v k = -1
      · rw [if_pos ⟨by omega, .inl c2⟩] at e
        simp (disch := omega) only [zl_0, zl_1, zl_2, zl_3, zl_4, zl_5, zl_6, zl_7, zl_8, zl_9, zl_10, zl_11, zl_12, zl_13, zl_14, zl_15, zl_16, zl_17, zl_18, zl_19, zl_20, zl_23, zl_24, zl_31, zl_32, zl_48, zl_50, zl_53, zl_57, zl_59, zl_60, zl_99, zl_100, zl_104, zl_112, zl_114, zl_119, zl_126, zl_127, zl_181, zl_200, zl_500, zl_543, zl_724, zl_999, zl_1000, zl_5000, zl_65536, zl_100000, zl_1000001, zl_1000002, zl_1000003, zl_1000004, zl_2143289344, zI_neg, zI_add, zI_sub, zI_mul, zI_le, zI_lt, zI_eq, ck_ib, ix_nat, ixz_0, ixz_1, ixz_2, ixz_3, ixz_4, ixz_5, ixz_6, ixz_7, ixz_8, ixz_9, ixz_10, ixz_11, ixz_12, ob_some, lt_of, ck_bP, bP_z, bP_o, ite_bP, Int.reduceToNat, Nat.reduceAdd, Nat.reduceMul, Int.reduceAdd, Int.reduceSub, Int.reduceMul, Int.reduceNeg, Int.reduceEq, Int.reduceLT, Int.reduceLE, ↓reduceIte, not_true_eq_false, not_false_eq_true, R.rnp, c0, k_X4_isAway W R kk, hd, c2, f_X0_leastLoaded_b42, f_X0_leastLoaded_b40]
        exact e
      · obtain ⟨l, hl⟩ : ∃ l : Nat, lpn a v k = l := ⟨(lpn a v k).toNat, by omega⟩
        rw [hl] at e r c2
        rw [hl]
        rw [Int.toNat_natCast] at e
        have ml := hm l (by omega)
        have vl := hv l (by omega)
        simp (disch := omega) only [zl_0, zl_1, zl_2, zl_3, zl_4, zl_5, zl_6, zl_7, zl_8, zl_9, zl_10, zl_11, zl_12, zl_13, zl_14, zl_15, zl_16, zl_17, zl_18, zl_19, zl_20, zl_23, zl_24, zl_31, zl_32, zl_48, zl_50, zl_53, zl_57, zl_59, zl_60, zl_99, zl_100, zl_104, zl_112, zl_114, zl_119, zl_126, zl_127, zl_181, zl_200, zl_500, zl_543, zl_724, zl_999, zl_1000, zl_5000, zl_65536, zl_100000, zl_1000001, zl_1000002, zl_1000003, zl_1000004, zl_2143289344, zI_neg, zI_add, zI_sub, zI_mul, zI_le, zI_lt, zI_eq, ck_ib, ix_nat, ixz_0, ixz_1, ixz_2, ixz_3, ixz_4, ixz_5, ixz_6, ixz_7, ixz_8, ixz_9, ixz_10, ixz_11, ixz_12, ob_some, lt_of, ck_bP, bP_z, bP_o, ite_bP, Int.reduceToNat, Nat.reduceAdd, Nat.reduceMul, Int.reduceAdd, Int.reduceSub, Int.reduceMul, Int.reduceNeg, Int.reduceEq, Int.reduceLT, Int.reduceLE, ↓reduceIte, not_true_eq_false, not_false_eq_true, R.rnp, c0, k_X4_isAway W R kk, hd, c2, hk, ml, f_X0_leastLoaded_b42, f_X0_leastLoaded_b40]
        by_cases c3 : v k < v l
        · rw [if_pos ⟨by omega, .inr c3⟩] at e
          rw [if_neg (by omega)]
          exact e
        · rw [if_neg (by omega)] at e
          rw [if_pos (by omega)]
          exact e
theorem k_leastLoaded (W : WF a) (R : RC g M a) {v : Nat → Int} (hv : ∀ p, p < np a → 0 ≤ v p ∧ v p ≤ 110000) (hm : ∀ p, p < np a → M 0 7 p = zI (v p)) : f_X0_leastLoaded g M = some (zI (lpn a v (np a)), M) := k_leastLoaded_l W R hv hm (np a) 0 1000 (by omega) (by have w := W.sc; omega)
theorem PF.put {C : Mem} {s : (Nat → Int) × (Nat → Int)} {l p : Nat} {x y : Int} (h : PF a C s) : PF a (up3 (up3 C 0 6 l (zI x)) 0 7 p (zI y)) (uz s.1 l x, uz s.2 p y) := by
  constructor
  · intro j hj
    rw [up3_cell _ _ (by omega)]
    show up3 C 0 6 l (zI x) 0 6 j = zI (uz s.1 l x j)
    by_cases c : j = l
    · subst c; rw [up3_at, uz_at]
    · rw [up3_slot _ _ c, uz_ne _ _ c]; exact h.1 j hj
  · intro j hj
    show _ = zI (uz s.2 p y j)
    by_cases c : j = p
    · subst c; rw [up3_at, uz_at]
    · rw [up3_slot _ _ c, uz_ne _ _ c, up3_cell _ _ (by omega)]; exact h.2 j hj
theorem k_make_r (W : WF a) (hg : g ≠ 0) : ∀ (d k fu : Nat) (M : Mem), k + d = nl a → d < fu → RC g M a → PF a M (fpl a k) → ∃ N, PlS M N ∧ PF a N (fpl a (nl a)) ∧ f_X0_make_b34 g fu (zI k) M = some ((), N) := by
  intro d
  have ws := W.sc
  induction d with
  | zero =>
    intro k fu M hk hf R hP
    obtain ⟨fu, rfl⟩ : ∃ f, fu = f + 1 := ⟨fu - 1, by omega⟩
    obtain rfl : k = nl a := by omega
    have c0 : ((nl a : Nat) : Int) ≤ ((nl a : Nat) : Int) := Int.le_refl _
    refine ⟨M, PlS.rf, hP, ?_⟩
    rw [f_X0_make_b34.eq_2]
    simp (disch := omega) only [zl_0, zl_1, zl_2, zl_3, zl_4, zl_5, zl_6, zl_7, zl_8, zl_9, zl_10, zl_11, zl_12, zl_13, zl_14, zl_15, zl_16, zl_17, zl_18, zl_19, zl_20, zl_23, zl_24, zl_31, zl_32, zl_48, zl_50, zl_53, zl_57, zl_59, zl_60, zl_99, zl_100, zl_104, zl_112, zl_114, zl_119, zl_126, zl_127, zl_181, zl_200, zl_500, zl_543, zl_724, zl_999, zl_1000, zl_5000, zl_65536, zl_100000, zl_1000001, zl_1000002, zl_1000003, zl_1000004, zl_2143289344, zI_neg, zI_add, zI_sub, zI_mul, zI_le, zI_lt, zI_eq, ck_ib, ix_nat, ixz_0, ixz_1, ixz_2, ixz_3, ixz_4, ixz_5, ixz_6, ixz_7, ixz_8, ixz_9, ixz_10, ixz_11, ixz_12, ob_some, lt_of, ck_bP, bP_z, bP_o, ite_bP, Int.reduceToNat, Nat.reduceAdd, Nat.reduceMul, Int.reduceAdd, Int.reduceSub, Int.reduceMul, Int.reduceNeg, Int.reduceEq, Int.reduceLT, Int.reduceLE, ↓reduceIte, not_true_eq_false, not_false_eq_true, R.rnl, c0]
  | succ d ih =>
    intro k fu M hk hf R hP
    obtain ⟨fu, rfl⟩ : ∃ f, fu = f + 1 := ⟨fu - 1, by omega⟩
    have kk : k < nl a := by omega
    have c0 : ¬ ((nl a : Int) ≤ (k : Int)) := by omega
    obtain ⟨f1, f2⟩ := fpl_rg W k
    have kl := k_longestLeft W R f1 hP.1
    have kp := k_leastLoaded W R (v := (fpl a k).2) (fun p hp => by have := f2 p hp; omega) hP.2
    have r1 := lng_rg (a := a) (fpl a k).1 (nl a)
    have r2 := lpn_rg (a := a) (fpl a k).2 (np a)
    by_cases c : lng a (fpl a k).1 (nl a) = -1 ∨ lpn a (fpl a k).2 (np a) = -1
    · have h : stp a (fpl a k) = fpl a k := by unfold stp; rw [if_pos c]
      have e := fpl_fix h (d + 1)
      rw [hk] at e
      refine ⟨M, PlS.rf, by rw [e]; exact hP, ?_⟩
      rw [f_X0_make_b34.eq_2]
      rcases c with c | c
      · rw [c] at kl
        simp (disch := omega) only [zl_0, zl_1, zl_2, zl_3, zl_4, zl_5, zl_6, zl_7, zl_8, zl_9, zl_10, zl_11, zl_12, zl_13, zl_14, zl_15, zl_16, zl_17, zl_18, zl_19, zl_20, zl_23, zl_24, zl_31, zl_32, zl_48, zl_50, zl_53, zl_57, zl_59, zl_60, zl_99, zl_100, zl_104, zl_112, zl_114, zl_119, zl_126, zl_127, zl_181, zl_200, zl_500, zl_543, zl_724, zl_999, zl_1000, zl_5000, zl_65536, zl_100000, zl_1000001, zl_1000002, zl_1000003, zl_1000004, zl_2143289344, zI_neg, zI_add, zI_sub, zI_mul, zI_le, zI_lt, zI_eq, ck_ib, ix_nat, ixz_0, ixz_1, ixz_2, ixz_3, ixz_4, ixz_5, ixz_6, ixz_7, ixz_8, ixz_9, ixz_10, ixz_11, ixz_12, ob_some, lt_of, ck_bP, bP_z, bP_o, ite_bP, Int.reduceToNat, Nat.reduceAdd, Nat.reduceMul, Int.reduceAdd, Int.reduceSub, Int.reduceMul, Int.reduceNeg, Int.reduceEq, Int.reduceLT, Int.reduceLE, ↓reduceIte, not_true_eq_false, not_false_eq_true, R.rnl, c0, kl, kp, f_X0_make_b68]
      · rw [c] at kp
        simp (disch := omega) only [zl_0, zl_1, zl_2, zl_3, zl_4, zl_5, zl_6, zl_7, zl_8, zl_9, zl_10, zl_11, zl_12, zl_13, zl_14, zl_15, zl_16, zl_17, zl_18, zl_19, zl_20, zl_23, zl_24, zl_31, zl_32, zl_48, zl_50, zl_53, zl_57, zl_59, zl_60, zl_99, zl_100, zl_104, zl_112, zl_114, zl_119, zl_126, zl_127, zl_181, zl_200, zl_500, zl_543, zl_724, zl_999, zl_1000, zl_5000, zl_65536, zl_100000, zl_1000001, zl_1000002, zl_1000003, zl_1000004, zl_2143289344, zI_neg, zI_add, zI_sub, zI_mul, zI_le, zI_lt, zI_eq, ck_ib, ix_nat, ixz_0, ixz_1, ixz_2, ixz_3, ixz_4, ixz_5, ixz_6, ixz_7, ixz_8, ixz_9, ixz_10, ixz_11, ixz_12, ob_some, lt_of, ck_bP, bP_z, bP_o, ite_bP, Int.reduceToNat, Nat.reduceAdd, Nat.reduceMul, Int.reduceAdd, Int.reduceSub, Int.reduceMul, Int.reduceNeg, Int.reduceEq, Int.reduceLT, Int.reduceLE, ↓reduceIte, not_true_eq_false, not_false_eq_true, R.rnl, c0, kl, kp, f_X0_make_b68]
        split <;> rfl
    · obtain ⟨l, hl⟩ : ∃ l : Nat, lng a (fpl a k).1 (nl a) = l := ⟨(lng a (fpl a k).1 (nl a)).toNat, by omega⟩
      obtain ⟨p, hp⟩ : ∃ p : Nat, lpn a (fpl a k).2 (np a) = p := ⟨(lpn a (fpl a k).2 (np a)).toNat, by omega⟩
      have el : l < nl a := by omega
      have ep : p < np a := by omega
      have n1 : ¬ ((l : Int) = -1) := by omega
      have n2 : ¬ ((p : Int) = -1) := by omega
      have h : fpl a (k + 1) = (uz (fpl a k).1 l p, uz (fpl a k).2 p ((fpl a k).2 p + len a l)) := by
        show stp a (fpl a k) = _
        unfold stp
        rw [if_neg c, hl, hp, Int.toNat_natCast, Int.toNat_natCast]
      have q : PlS M (up3 (up3 M 0 6 l (zI p)) 0 7 p (zI ((fpl a k).2 p + len a l))) := (PlS.up (.inl rfl)).tr (PlS.up (.inr rfl))
      obtain ⟨N, e1, e2, e3⟩ := ih (k + 1) fu _ (by omega) (by omega) (q.rc hg R) (by rw [h]; exact hP.put)
      simp only [nc1] at e3
      refine ⟨N, q.tr e1, e2, ?_⟩
      rw [hl] at kl
      rw [hp] at kp
      have m1 : up3 M 0 6 l (zI p) 0 7 p = zI ((fpl a k).2 p) := by rw [up3_cell _ _ (by omega)]; exact hP.2 p ep
      have m2 : up3 M 0 6 l (zI p) g 15 l = zI (len a l) := by rw [up3_cell _ _ (by omega)]; exact R.l15 el
      rw [f_X0_make_b34.eq_2]
      simp (disch := omega) only [zl_0, zl_1, zl_2, zl_3, zl_4, zl_5, zl_6, zl_7, zl_8, zl_9, zl_10, zl_11, zl_12, zl_13, zl_14, zl_15, zl_16, zl_17, zl_18, zl_19, zl_20, zl_23, zl_24, zl_31, zl_32, zl_48, zl_50, zl_53, zl_57, zl_59, zl_60, zl_99, zl_100, zl_104, zl_112, zl_114, zl_119, zl_126, zl_127, zl_181, zl_200, zl_500, zl_543, zl_724, zl_999, zl_1000, zl_5000, zl_65536, zl_100000, zl_1000001, zl_1000002, zl_1000003, zl_1000004, zl_2143289344, zI_neg, zI_add, zI_sub, zI_mul, zI_le, zI_lt, zI_eq, ck_ib, ix_nat, ixz_0, ixz_1, ixz_2, ixz_3, ixz_4, ixz_5, ixz_6, ixz_7, ixz_8, ixz_9, ixz_10, ixz_11, ixz_12, ob_some, lt_of, ck_bP, bP_z, bP_o, ite_bP, Int.reduceToNat, Nat.reduceAdd, Nat.reduceMul, Int.reduceAdd, Int.reduceSub, Int.reduceMul, Int.reduceNeg, Int.reduceEq, Int.reduceLT, Int.reduceLE, ↓reduceIte, not_true_eq_false, not_false_eq_true, R.rnl, c0, kl, kp, n1, n2, m1, m2]
      exact e3
theorem k_make_i : ∀ (d k fu : Nat) (M : Mem), k + d = 16 → d < fu → (∀ l, l < k → M 0 6 l = zI (-1)) → ∃ N, PlS M N ∧ (∀ l, l < 16 → N 0 6 l = zI (-1)) ∧ N 0 7 = M 0 7 ∧ f_X0_make_b2 g fu (zI k) M = ob (f_X7_copy g 7 5 0 7 5 N) fun _ P => f_X0_make_b34 g 1000 (zI 0) P := by
  intro d
  induction d with
  | zero =>
    intro k fu M hk hf h
    obtain ⟨fu, rfl⟩ : ∃ f, fu = f + 1 := ⟨fu - 1, by omega⟩
    obtain rfl : k = 16 := by omega
    refine ⟨M, PlS.rf, h, rfl, ?_⟩
    rw [f_X0_make_b2.eq_2]
    exact if_pos (by decide)
  | succ d ih =>
    intro k fu M hk hf h
    obtain ⟨fu, rfl⟩ : ∃ f, fu = f + 1 := ⟨fu - 1, by omega⟩
    have c0 : ¬ ((16 : Int) ≤ (k : Int)) := by omega
    obtain ⟨N, e1, e2, e3, e4⟩ := ih (k + 1) fu (up3 M 0 6 k (zI (-1))) (by omega) (by omega) (fun l hl => by
      by_cases c : l = k
      · subst c; rw [up3_at]
      · rw [up3_slot _ _ c]; exact h l (by omega))
    simp only [nc1] at e4
    refine ⟨N, (PlS.up (.inl rfl)).tr e1, e2, e3.trans (up3_cell _ _ (by omega)), ?_⟩
    rw [f_X0_make_b2.eq_2]
    simp (disch := omega) only [zl_0, zl_1, zl_2, zl_3, zl_4, zl_5, zl_6, zl_7, zl_8, zl_9, zl_10, zl_11, zl_12, zl_13, zl_14, zl_15, zl_16, zl_17, zl_18, zl_19, zl_20, zl_23, zl_24, zl_31, zl_32, zl_48, zl_50, zl_53, zl_57, zl_59, zl_60, zl_99, zl_100, zl_104, zl_112, zl_114, zl_119, zl_126, zl_127, zl_181, zl_200, zl_500, zl_543, zl_724, zl_999, zl_1000, zl_5000, zl_65536, zl_100000, zl_1000001, zl_1000002, zl_1000003, zl_1000004, zl_2143289344, zI_neg, zI_add, zI_sub, zI_mul, zI_le, zI_lt, zI_eq, ck_ib, ix_nat, ixz_0, ixz_1, ixz_2, ixz_3, ixz_4, ixz_5, ixz_6, ixz_7, ixz_8, ixz_9, ixz_10, ixz_11, ixz_12, ob_some, lt_of, ck_bP, bP_z, bP_o, ite_bP, Int.reduceToNat, Nat.reduceAdd, Nat.reduceMul, Int.reduceAdd, Int.reduceSub, Int.reduceMul, Int.reduceNeg, Int.reduceEq, Int.reduceLT, Int.reduceLE, ↓reduceIte, not_true_eq_false, not_false_eq_true, c0]
    exact e4
theorem k_make (W : WF a) (hg : g ≠ 0) (R : RC g M a) : ∃ N, PlS M N ∧ PF a N (fpl a (nl a)) ∧ f_X0_make g M = some ((), N) := by
  have ws := W.sc
  obtain ⟨N, e1, e2, e3, e4⟩ := k_make_i (g := g) 16 0 1000 M (by omega) (by omega) (fun l h => absurd h (Nat.not_lt_zero l))
  have q : PlS M (cp3 N 0 7 (va_cpy (N g 7) (N 0 7) 0 0 5)) := e1.tr (PlS.cp (.inr rfl))
  obtain ⟨P, f1, f2, f3⟩ := k_make_r W hg (nl a) 0 1000 _ (by omega) (by omega) (q.rc hg R) (by
    constructor
    · intro l hl
      rw [cp3_ne _ _ (by omega)]
      exact e2 l hl
    · intro p hp
      rw [cp3_self, cpy_at _ _ (by omega), e1 g 7 (by omega)]
      exact R.p7 hp)
  refine ⟨P, q.tr f1, f2, ?_⟩
  unfold f_X0_make
  have e5 := e4
  rw [ob_of (k_copy (by omega))] at e5
  exact e5.trans f3
/-! the reference's plan -/
theorem k_plans_i1 (W : WF a) : ∀ (d k fu : Nat) (S : Mem), k + d = 5 → d < fu → RM S a → (∀ p, p < k → p < np a → S 0 7 p = zI (dv a p)) → ∃ T, PlS S T ∧ (∀ p, p < np a → T 0 7 p = zI (dv a p)) ∧ f_X8_plans_b2 fu (zI k) S = f_X8_plans_b41 1000 (zI 0) T := by
  intro d
  have ws := W.sc
  induction d with
  | zero =>
    intro k fu S hk hf R h
    obtain ⟨fu, rfl⟩ : ∃ f, fu = f + 1 := ⟨fu - 1, by omega⟩
    obtain rfl : k = 5 := by omega
    refine ⟨S, PlS.rf, fun p hp => h p (by omega) hp, ?_⟩
    rw [f_X8_plans_b2.eq_2]
    exact if_pos (by decide)
  | succ d ih =>
    intro k fu S hk hf R h
    obtain ⟨fu, rfl⟩ : ∃ f, fu = f + 1 := ⟨fu - 1, by omega⟩
    have c0 : ¬ ((5 : Int) ≤ (k : Int)) := by omega
    by_cases c : (np a : Int) ≤ (k : Int)
    · have q : PlS S (up3 S 0 7 k (zI 0)) := PlS.up (.inr rfl)
      obtain ⟨T, e1, e2, e3⟩ := ih (k + 1) fu (up3 S 0 7 k (zI 0)) (by omega) (by omega) (q.rm R) (fun p hp hn => by
        rw [up3_slot _ _ (by omega)]
        exact h p (by omega) hn)
      simp only [nc1] at e3
      refine ⟨T, q.tr e1, e2, ?_⟩
      rw [f_X8_plans_b2.eq_2]
      simp (disch := omega) only [zl_0, zl_1, zl_2, zl_3, zl_4, zl_5, zl_6, zl_7, zl_8, zl_9, zl_10, zl_11, zl_12, zl_13, zl_14, zl_15, zl_16, zl_17, zl_18, zl_19, zl_20, zl_23, zl_24, zl_31, zl_32, zl_48, zl_50, zl_53, zl_57, zl_59, zl_60, zl_99, zl_100, zl_104, zl_112, zl_114, zl_119, zl_126, zl_127, zl_181, zl_200, zl_500, zl_543, zl_724, zl_999, zl_1000, zl_5000, zl_65536, zl_100000, zl_1000001, zl_1000002, zl_1000003, zl_1000004, zl_2143289344, zI_neg, zI_add, zI_sub, zI_mul, zI_le, zI_lt, zI_eq, ck_ib, ix_nat, ixz_0, ixz_1, ixz_2, ixz_3, ixz_4, ixz_5, ixz_6, ixz_7, ixz_8, ixz_9, ixz_10, ixz_11, ixz_12, ob_some, lt_of, ck_bP, bP_z, bP_o, ite_bP, Int.reduceToNat, Nat.reduceAdd, Nat.reduceMul, Int.reduceAdd, Int.reduceSub, Int.reduceMul, Int.reduceNeg, Int.reduceEq, Int.reduceLT, Int.reduceLE, ↓reduceIte, not_true_eq_false, not_false_eq_true, RM.at R, ws.1.1, c0, c, f_X8_plans_b32]
      exact e3
    · have q : PlS S (up3 S 0 7 k (zI (pa a k 3))) := PlS.up (.inr rfl)
      obtain ⟨T, e1, e2, e3⟩ := ih (k + 1) fu (up3 S 0 7 k (zI (pa a k 3))) (by omega) (by omega) (q.rm R) (fun p hp hn => by
        by_cases d : p = k
        · subst d; rw [up3_at]; rfl
        · rw [up3_slot _ _ d]
          exact h p (by omega) hn)
      simp only [nc1] at e3
      refine ⟨T, q.tr e1, e2, ?_⟩
      rw [f_X8_plans_b2.eq_2]
      simp (disch := omega) only [zl_0, zl_1, zl_2, zl_3, zl_4, zl_5, zl_6, zl_7, zl_8, zl_9, zl_10, zl_11, zl_12, zl_13, zl_14, zl_15, zl_16, zl_17, zl_18, zl_19, zl_20, zl_23, zl_24, zl_31, zl_32, zl_48, zl_50, zl_53, zl_57, zl_59, zl_60, zl_99, zl_100, zl_104, zl_112, zl_114, zl_119, zl_126, zl_127, zl_181, zl_200, zl_500, zl_543, zl_724, zl_999, zl_1000, zl_5000, zl_65536, zl_100000, zl_1000001, zl_1000002, zl_1000003, zl_1000004, zl_2143289344, zI_neg, zI_add, zI_sub, zI_mul, zI_le, zI_lt, zI_eq, ck_ib, ix_nat, ixz_0, ixz_1, ixz_2, ixz_3, ixz_4, ixz_5, ixz_6, ixz_7, ixz_8, ixz_9, ixz_10, ixz_11, ixz_12, ob_some, lt_of, ck_bP, bP_z, bP_o, ite_bP, Int.reduceToNat, Nat.reduceAdd, Nat.reduceMul, Int.reduceAdd, Int.reduceSub, Int.reduceMul, Int.reduceNeg, Int.reduceEq, Int.reduceLT, Int.reduceLE, ↓reduceIte, not_true_eq_false, not_false_eq_true, RM.at R, ws.1.1, c0, c, k_pn R, f_X8_plans_b32]
      exact e3
theorem k_plans_i2 (W : WF a) : ∀ (d k fu : Nat) (S : Mem), k + d = 16 → d < fu → RM S a → (∀ l, l < k → S 0 6 l = zI (-1)) → ∃ T, PlS S T ∧ (∀ l, l < 16 → T 0 6 l = zI (-1)) ∧ T 0 7 = S 0 7 ∧ f_X8_plans_b41 fu (zI k) S = if prs a (np a) = 0 then some (zI 0, T) else f_X8_plans_b71 1000 (zI 0) T := by
  intro d
  have ws := W.sc
  have pr := prs_rg W (Nat.le_refl (np a))
  induction d with
  | zero =>
    intro k fu S hk hf R h
    obtain ⟨fu, rfl⟩ : ∃ f, fu = f + 1 := ⟨fu - 1, by omega⟩
    obtain rfl : k = 16 := by omega
    refine ⟨S, PlS.rf, h, rfl, ?_⟩
    rw [f_X8_plans_b41.eq_2]
    refine (if_pos (by decide)).trans ?_
    rw [ob_of (k_present W R)]
    simp (disch := omega) only [zl_0, zl_1, zl_2, zl_3, zl_4, zl_5, zl_6, zl_7, zl_8, zl_9, zl_10, zl_11, zl_12, zl_13, zl_14, zl_15, zl_16, zl_17, zl_18, zl_19, zl_20, zl_23, zl_24, zl_31, zl_32, zl_48, zl_50, zl_53, zl_57, zl_59, zl_60, zl_99, zl_100, zl_104, zl_112, zl_114, zl_119, zl_126, zl_127, zl_181, zl_200, zl_500, zl_543, zl_724, zl_999, zl_1000, zl_5000, zl_65536, zl_100000, zl_1000001, zl_1000002, zl_1000003, zl_1000004, zl_2143289344, zI_neg, zI_add, zI_sub, zI_mul, zI_le, zI_lt, zI_eq, ck_ib, ix_nat, ixz_0, ixz_1, ixz_2, ixz_3, ixz_4, ixz_5, ixz_6, ixz_7, ixz_8, ixz_9, ixz_10, ixz_11, ixz_12, ob_some, lt_of, ck_bP, bP_z, bP_o, ite_bP, Int.reduceToNat, Nat.reduceAdd, Nat.reduceMul, Int.reduceAdd, Int.reduceSub, Int.reduceMul, Int.reduceNeg, Int.reduceEq, Int.reduceLT, Int.reduceLE, ↓reduceIte, not_true_eq_false, not_false_eq_true]
  | succ d ih =>
    intro k fu S hk hf R h
    obtain ⟨fu, rfl⟩ : ∃ f, fu = f + 1 := ⟨fu - 1, by omega⟩
    have c0 : ¬ ((16 : Int) ≤ (k : Int)) := by omega
    have q : PlS S (up3 S 0 6 k (zI (-1))) := PlS.up (.inl rfl)
    obtain ⟨T, e1, e2, e3, e4⟩ := ih (k + 1) fu (up3 S 0 6 k (zI (-1))) (by omega) (by omega) (q.rm R) (fun l hl => by
      by_cases c : l = k
      · subst c; rw [up3_at]
      · rw [up3_slot _ _ c]; exact h l (by omega))
    simp only [nc1] at e4
    refine ⟨T, q.tr e1, e2, e3.trans (up3_cell _ _ (by omega)), ?_⟩
    rw [f_X8_plans_b41.eq_2, ← e4]
    simp (disch := omega) only [zl_0, zl_1, zl_2, zl_3, zl_4, zl_5, zl_6, zl_7, zl_8, zl_9, zl_10, zl_11, zl_12, zl_13, zl_14, zl_15, zl_16, zl_17, zl_18, zl_19, zl_20, zl_23, zl_24, zl_31, zl_32, zl_48, zl_50, zl_53, zl_57, zl_59, zl_60, zl_99, zl_100, zl_104, zl_112, zl_114, zl_119, zl_126, zl_127, zl_181, zl_200, zl_500, zl_543, zl_724, zl_999, zl_1000, zl_5000, zl_65536, zl_100000, zl_1000001, zl_1000002, zl_1000003, zl_1000004, zl_2143289344, zI_neg, zI_add, zI_sub, zI_mul, zI_le, zI_lt, zI_eq, ck_ib, ix_nat, ixz_0, ixz_1, ixz_2, ixz_3, ixz_4, ixz_5, ixz_6, ixz_7, ixz_8, ixz_9, ixz_10, ixz_11, ixz_12, ob_some, lt_of, ck_bP, bP_z, bP_o, ite_bP, Int.reduceToNat, Nat.reduceAdd, Nat.reduceMul, Int.reduceAdd, Int.reduceSub, Int.reduceMul, Int.reduceNeg, Int.reduceEq, Int.reduceLT, Int.reduceLE, ↓reduceIte, not_true_eq_false, not_false_eq_true, c0]
theorem k_plans_l (W : WF a) (R : RM S a) (L : Int32 → Mem → Option (Int32 × Mem)) (r : Int) {f : Nat → Int} (hfr : ∀ l, -1 ≤ f l ∧ f l < 5) (hm : ∀ l, l < 16 → S 0 6 l = zI (f l)) : ∀ (d k fu : Nat), k + d = nl a → d < fu → f_X8_plans_b85 L fu (zI r) (zI (lng a f k)) (zI k) S = if lng a f (nl a) = -1 then L (zI (r + 1)) S else f_X8_plans_b162 L 1000 (zI r) (zI (lng a f (nl a))) (zI (-1)) (zI 0) S := by
  intro d
  have ws := W.sc
  generalize hT : (if lng a f (nl a) = -1 then L (zI (r + 1)) S else f_X8_plans_b162 L 1000 (zI r) (zI (lng a f (nl a))) (zI (-1)) (zI 0) S) = T
  induction d with
  | zero =>
    intro k fu hk hf
    obtain ⟨fu, rfl⟩ : ∃ f, fu = f + 1 := ⟨fu - 1, by omega⟩
    obtain rfl : k = nl a := by omega
    have c0 : ((nl a : Nat) : Int) ≤ ((nl a : Nat) : Int) := Int.le_refl _
    have q := lng_rg (a := a) f (nl a)
    rw [f_X8_plans_b85.eq_2, ← hT]
    simp (disch := omega) only [zl_0, zl_1, zl_2, zl_3, zl_4, zl_5, zl_6, zl_7, zl_8, zl_9, zl_10, zl_11, zl_12, zl_13, zl_14, zl_15, zl_16, zl_17, zl_18, zl_19, zl_20, zl_23, zl_24, zl_31, zl_32, zl_48, zl_50, zl_53, zl_57, zl_59, zl_60, zl_99, zl_100, zl_104, zl_112, zl_114, zl_119, zl_126, zl_127, zl_181, zl_200, zl_500, zl_543, zl_724, zl_999, zl_1000, zl_5000, zl_65536, zl_100000, zl_1000001, zl_1000002, zl_1000003, zl_1000004, zl_2143289344, zI_neg, zI_add, zI_sub, zI_mul, zI_le, zI_lt, zI_eq, ck_ib, ix_nat, ixz_0, ixz_1, ixz_2, ixz_3, ixz_4, ixz_5, ixz_6, ixz_7, ixz_8, ixz_9, ixz_10, ixz_11, ixz_12, ob_some, lt_of, ck_bP, bP_z, bP_o, ite_bP, Int.reduceToNat, Nat.reduceAdd, Nat.reduceMul, Int.reduceAdd, Int.reduceSub, Int.reduceMul, Int.reduceNeg, Int.reduceEq, Int.reduceLT, Int.reduceLE, ↓reduceIte, not_true_eq_false, not_false_eq_true, RM.at R, ws.1.2.2.1, c0, f_X8_plans_b238]
    by_cases c : lng a f (nl a) = -1
    · rw [if_pos (by omega), if_pos c]
    · rw [if_neg (by omega), if_neg c]
  | succ d ih =>
    intro k fu hk hf
    obtain ⟨fu, rfl⟩ : ∃ f, fu = f + 1 := ⟨fu - 1, by omega⟩
    have kk : k < nl a := by omega
    have c0 : ¬ ((nl a : Int) ≤ (k : Int)) := by omega
    have e := ih (k + 1) fu (by omega) (by omega)
    simp only [nc1] at e
    have q := lng_rg (a := a) f k
    have u := hfr k
    have v := W.line kk
    have hk := hm k (by omega)
    rw [f_X8_plans_b85.eq_2]
    simp only [lng] at e
    by_cases hd : la a k 4 = -1
    · by_cases c : f k = -1
      · by_cases c2 : lng a f k = -1
        · rw [if_pos ⟨hd, c, .inl c2⟩] at e
          simp (disch := omega) only [zl_0, zl_1, zl_2, zl_3, zl_4, zl_5, zl_6, zl_7, zl_8, zl_9, zl_10, zl_11, zl_12, zl_13, zl_14, zl_15, zl_16, zl_17, zl_18, zl_19, zl_20, zl_23, zl_24, zl_31, zl_32, zl_48, zl_50, zl_53, zl_57, zl_59, zl_60, zl_99, zl_100, zl_104, zl_112, zl_114, zl_119, zl_126, zl_127, zl_181, zl_200, zl_500, zl_543, zl_724, zl_999, zl_1000, zl_5000, zl_65536, zl_100000, zl_1000001, zl_1000002, zl_1000003, zl_1000004, zl_2143289344, zI_neg, zI_add, zI_sub, zI_mul, zI_le, zI_lt, zI_eq, ck_ib, ix_nat, ixz_0, ixz_1, ixz_2, ixz_3, ixz_4, ixz_5, ixz_6, ixz_7, ixz_8, ixz_9, ixz_10, ixz_11, ixz_12, ob_some, lt_of, ck_bP, bP_z, bP_o, ite_bP, Int.reduceToNat, Nat.reduceAdd, Nat.reduceMul, Int.reduceAdd, Int.reduceSub, Int.reduceMul, Int.reduceNeg, Int.reduceEq, Int.reduceLT, Int.reduceLE, ↓reduceIte, not_true_eq_false, not_false_eq_true, RM.at R, ws.1.2.2.1, c0, k_drf W R kk hd, hk, c, c2, f_X8_plans_b129, f_X8_plans_b133, f_X8_plans_b134, f_X8_plans_b146]
          exact e
        · obtain ⟨l, hl⟩ : ∃ l : Nat, lng a f k = l := ⟨(lng a f k).toNat, by omega⟩
          rw [hl] at e q c2
          rw [hl]
          rw [Int.toNat_natCast] at e
          have hll : l < nl a := by omega
          have w := W.line hll
          have n1 : ¬ ((l : Int) < 0) := by omega
          simp (disch := omega) only [zl_0, zl_1, zl_2, zl_3, zl_4, zl_5, zl_6, zl_7, zl_8, zl_9, zl_10, zl_11, zl_12, zl_13, zl_14, zl_15, zl_16, zl_17, zl_18, zl_19, zl_20, zl_23, zl_24, zl_31, zl_32, zl_48, zl_50, zl_53, zl_57, zl_59, zl_60, zl_99, zl_100, zl_104, zl_112, zl_114, zl_119, zl_126, zl_127, zl_181, zl_200, zl_500, zl_543, zl_724, zl_999, zl_1000, zl_5000, zl_65536, zl_100000, zl_1000001, zl_1000002, zl_1000003, zl_1000004, zl_2143289344, zI_neg, zI_add, zI_sub, zI_mul, zI_le, zI_lt, zI_eq, ck_ib, ix_nat, ixz_0, ixz_1, ixz_2, ixz_3, ixz_4, ixz_5, ixz_6, ixz_7, ixz_8, ixz_9, ixz_10, ixz_11, ixz_12, ob_some, lt_of, ck_bP, bP_z, bP_o, ite_bP, Int.reduceToNat, Nat.reduceAdd, Nat.reduceMul, Int.reduceAdd, Int.reduceSub, Int.reduceMul, Int.reduceNeg, Int.reduceEq, Int.reduceLT, Int.reduceLE, ↓reduceIte, not_true_eq_false, not_false_eq_true, RM.at R, ws.1.2.2.1, c0, k_drf W R kk hd, hk, c, n1, k_length W R kk, k_length W R hll, f_X8_plans_b129, f_X8_plans_b133, f_X8_plans_b134, f_X8_plans_b146]
          by_cases c3 : len a l < len a k
          · rw [if_pos ⟨hd, c, .inr c3⟩] at e
            rw [if_neg (by omega)]
            exact e
          · rw [if_neg (by omega)] at e
            rw [if_pos (by omega)]
            exact e
      · have n1 : (0 : Int) ≤ f k := by omega
        rw [if_neg (fun q => c q.2.1)] at e
        simp (disch := omega) only [zl_0, zl_1, zl_2, zl_3, zl_4, zl_5, zl_6, zl_7, zl_8, zl_9, zl_10, zl_11, zl_12, zl_13, zl_14, zl_15, zl_16, zl_17, zl_18, zl_19, zl_20, zl_23, zl_24, zl_31, zl_32, zl_48, zl_50, zl_53, zl_57, zl_59, zl_60, zl_99, zl_100, zl_104, zl_112, zl_114, zl_119, zl_126, zl_127, zl_181, zl_200, zl_500, zl_543, zl_724, zl_999, zl_1000, zl_5000, zl_65536, zl_100000, zl_1000001, zl_1000002, zl_1000003, zl_1000004, zl_2143289344, zI_neg, zI_add, zI_sub, zI_mul, zI_le, zI_lt, zI_eq, ck_ib, ix_nat, ixz_0, ixz_1, ixz_2, ixz_3, ixz_4, ixz_5, ixz_6, ixz_7, ixz_8, ixz_9, ixz_10, ixz_11, ixz_12, ob_some, lt_of, ck_bP, bP_z, bP_o, ite_bP, Int.reduceToNat, Nat.reduceAdd, Nat.reduceMul, Int.reduceAdd, Int.reduceSub, Int.reduceMul, Int.reduceNeg, Int.reduceEq, Int.reduceLT, Int.reduceLE, ↓reduceIte, not_true_eq_false, not_false_eq_true, RM.at R, ws.1.2.2.1, c0, k_drf W R kk hd, hk, n1, f_X8_plans_b129, f_X8_plans_b133, f_X8_plans_b134, f_X8_plans_b146]
        exact e
    · rw [if_neg (fun q => hd q.1)] at e
      simp (disch := omega) only [zl_0, zl_1, zl_2, zl_3, zl_4, zl_5, zl_6, zl_7, zl_8, zl_9, zl_10, zl_11, zl_12, zl_13, zl_14, zl_15, zl_16, zl_17, zl_18, zl_19, zl_20, zl_23, zl_24, zl_31, zl_32, zl_48, zl_50, zl_53, zl_57, zl_59, zl_60, zl_99, zl_100, zl_104, zl_112, zl_114, zl_119, zl_126, zl_127, zl_181, zl_200, zl_500, zl_543, zl_724, zl_999, zl_1000, zl_5000, zl_65536, zl_100000, zl_1000001, zl_1000002, zl_1000003, zl_1000004, zl_2143289344, zI_neg, zI_add, zI_sub, zI_mul, zI_le, zI_lt, zI_eq, ck_ib, ix_nat, ixz_0, ixz_1, ixz_2, ixz_3, ixz_4, ixz_5, ixz_6, ixz_7, ixz_8, ixz_9, ixz_10, ixz_11, ixz_12, ob_some, lt_of, ck_bP, bP_z, bP_o, ite_bP, Int.reduceToNat, Nat.reduceAdd, Nat.reduceMul, Int.reduceAdd, Int.reduceSub, Int.reduceMul, Int.reduceNeg, Int.reduceEq, Int.reduceLT, Int.reduceLE, ↓reduceIte, not_true_eq_false, not_false_eq_true, RM.at R, ws.1.2.2.1, c0, k_drt W R kk hd, f_X8_plans_b129, f_X8_plans_b133, f_X8_plans_b134, f_X8_plans_b146]
      exact e
theorem k_plans_p (W : WF a) (R : RM S a) (L : Int32 → Mem → Option (Int32 × Mem)) (r : Int) {l : Nat} (hl : l < nl a) {v : Nat → Int} (hv : ∀ p, p < np a → 0 ≤ v p ∧ v p ≤ 110000) (hm : ∀ p, p < np a → S 0 7 p = zI (v p)) {p : Nat} (hp : lpn a v (np a) = p) : ∀ (d k fu : Nat), k + d = np a → d < fu → f_X8_plans_b162 L fu (zI r) (zI l) (zI (lpn a v k)) (zI k) S = L (zI (r + 1)) (up3 (up3 S 0 6 l (zI p)) 0 7 p (zI (v p + len a l))) := by
  intro d
  have ws := W.sc
  have rp := lpn_rg (a := a) v (np a)
  generalize hT : L (zI (r + 1)) (up3 (up3 S 0 6 l (zI p)) 0 7 p (zI (v p + len a l))) = T
  induction d with
  | zero =>
    intro k fu hk hf
    obtain ⟨fu, rfl⟩ : ∃ f, fu = f + 1 := ⟨fu - 1, by omega⟩
    obtain rfl : k = np a := by omega
    have c0 : ((np a : Nat) : Int) ≤ ((np a : Nat) : Int) := Int.le_refl _
    have m1 : up3 S 0 6 l (zI p) 0 7 p = zI (v p) := by rw [up3_cell _ _ (by omega)]; exact hm p (by omega)
    have R2 : RM (up3 S 0 6 l (zI p)) a := RM.off R _ (by omega)
    rw [f_X8_plans_b162.eq_2, ← hT, hp]
    simp (disch := omega) only [zl_0, zl_1, zl_2, zl_3, zl_4, zl_5, zl_6, zl_7, zl_8, zl_9, zl_10, zl_11, zl_12, zl_13, zl_14, zl_15, zl_16, zl_17, zl_18, zl_19, zl_20, zl_23, zl_24, zl_31, zl_32, zl_48, zl_50, zl_53, zl_57, zl_59, zl_60, zl_99, zl_100, zl_104, zl_112, zl_114, zl_119, zl_126, zl_127, zl_181, zl_200, zl_500, zl_543, zl_724, zl_999, zl_1000, zl_5000, zl_65536, zl_100000, zl_1000001, zl_1000002, zl_1000003, zl_1000004, zl_2143289344, zI_neg, zI_add, zI_sub, zI_mul, zI_le, zI_lt, zI_eq, ck_ib, ix_nat, ixz_0, ixz_1, ixz_2, ixz_3, ixz_4, ixz_5, ixz_6, ixz_7, ixz_8, ixz_9, ixz_10, ixz_11, ixz_12, ob_some, lt_of, ck_bP, bP_z, bP_o, ite_bP, Int.reduceToNat, Nat.reduceAdd, Nat.reduceMul, Int.reduceAdd, Int.reduceSub, Int.reduceMul, Int.reduceNeg, Int.reduceEq, Int.reduceLT, Int.reduceLE, ↓reduceIte, not_true_eq_false, not_false_eq_true, RM.at R, ws.1.1, c0, k_length W R2 hl, m1, f_X8_plans_b238]
  | succ d ih =>
    intro k fu hk hf
    obtain ⟨fu, rfl⟩ : ∃ f, fu = f + 1 := ⟨fu - 1, by omega⟩
    have kk : k < np a := by omega
    have c0 : ¬ ((np a : Int) ≤ (k : Int)) := by omega
    have e := ih (k + 1) fu (by omega) (by omega)
    simp only [nc1] at e
    have q := lpn_rg (a := a) v k
    have u := hv k kk
    have w := W.pen kk
    have hk := hm k kk
    rw [f_X8_plans_b162.eq_2]
    simp only [lpn] at e
    by_cases hd : pa a k 6 = 0
    · by_cases c2 : lpn a v k = -1
      · rw [if_pos ⟨hd, .inl c2⟩] at e
        simp (disch := omega) only [zl_0, zl_1, zl_2, zl_3, zl_4, zl_5, zl_6, zl_7, zl_8, zl_9, zl_10, zl_11, zl_12, zl_13, zl_14, zl_15, zl_16, zl_17, zl_18, zl_19, zl_20, zl_23, zl_24, zl_31, zl_32, zl_48, zl_50, zl_53, zl_57, zl_59, zl_60, zl_99, zl_100, zl_104, zl_112, zl_114, zl_119, zl_126, zl_127, zl_181, zl_200, zl_500, zl_543, zl_724, zl_999, zl_1000, zl_5000, zl_65536, zl_100000, zl_1000001, zl_1000002, zl_1000003, zl_1000004, zl_2143289344, zI_neg, zI_add, zI_sub, zI_mul, zI_le, zI_lt, zI_eq, ck_ib, ix_nat, ixz_0, ixz_1, ixz_2, ixz_3, ixz_4, ixz_5, ixz_6, ixz_7, ixz_8, ixz_9, ixz_10, ixz_11, ixz_12, ob_some, lt_of, ck_bP, bP_z, bP_o, ite_bP, Int.reduceToNat, Nat.reduceAdd, Nat.reduceMul, Int.reduceAdd, Int.reduceSub, Int.reduceMul, Int.reduceNeg, Int.reduceEq, Int.reduceLT, Int.reduceLE, ↓reduceIte, not_true_eq_false, not_false_eq_true, RM.at R, ws.1.1, c0, k_pn R, hd, c2, f_X8_plans_b204, f_X8_plans_b209, f_X8_plans_b210]
        exact e
      · obtain ⟨o, ho⟩ : ∃ l : Nat, lpn a v k = l := ⟨(lpn a v k).toNat, by omega⟩
        rw [ho] at e q c2
        rw [ho]
        rw [Int.toNat_natCast] at e
        have ml := hm o (by omega)
        have vl := hv o (by omega)
        have n1 : ¬ ((o : Int) < 0) := by omega
        simp (disch := omega) only [zl_0, zl_1, zl_2, zl_3, zl_4, zl_5, zl_6, zl_7, zl_8, zl_9, zl_10, zl_11, zl_12, zl_13, zl_14, zl_15, zl_16, zl_17, zl_18, zl_19, zl_20, zl_23, zl_24, zl_31, zl_32, zl_48, zl_50, zl_53, zl_57, zl_59, zl_60, zl_99, zl_100, zl_104, zl_112, zl_114, zl_119, zl_126, zl_127, zl_181, zl_200, zl_500, zl_543, zl_724, zl_999, zl_1000, zl_5000, zl_65536, zl_100000, zl_1000001, zl_1000002, zl_1000003, zl_1000004, zl_2143289344, zI_neg, zI_add, zI_sub, zI_mul, zI_le, zI_lt, zI_eq, ck_ib, ix_nat, ixz_0, ixz_1, ixz_2, ixz_3, ixz_4, ixz_5, ixz_6, ixz_7, ixz_8, ixz_9, ixz_10, ixz_11, ixz_12, ob_some, lt_of, ck_bP, bP_z, bP_o, ite_bP, Int.reduceToNat, Nat.reduceAdd, Nat.reduceMul, Int.reduceAdd, Int.reduceSub, Int.reduceMul, Int.reduceNeg, Int.reduceEq, Int.reduceLT, Int.reduceLE, ↓reduceIte, not_true_eq_false, not_false_eq_true, RM.at R, ws.1.1, c0, k_pn R, hd, n1, hk, ml, f_X8_plans_b204, f_X8_plans_b209, f_X8_plans_b210]
        by_cases c3 : v k < v o
        · rw [if_pos ⟨hd, .inr c3⟩] at e
          rw [if_neg (by omega)]
          exact e
        · rw [if_neg (by omega)] at e
          rw [if_pos (by omega)]
          exact e
    · rw [if_neg (fun q => hd q.1)] at e
      simp (disch := omega) only [zl_0, zl_1, zl_2, zl_3, zl_4, zl_5, zl_6, zl_7, zl_8, zl_9, zl_10, zl_11, zl_12, zl_13, zl_14, zl_15, zl_16, zl_17, zl_18, zl_19, zl_20, zl_23, zl_24, zl_31, zl_32, zl_48, zl_50, zl_53, zl_57, zl_59, zl_60, zl_99, zl_100, zl_104, zl_112, zl_114, zl_119, zl_126, zl_127, zl_181, zl_200, zl_500, zl_543, zl_724, zl_999, zl_1000, zl_5000, zl_65536, zl_100000, zl_1000001, zl_1000002, zl_1000003, zl_1000004, zl_2143289344, zI_neg, zI_add, zI_sub, zI_mul, zI_le, zI_lt, zI_eq, ck_ib, ix_nat, ixz_0, ixz_1, ixz_2, ixz_3, ixz_4, ixz_5, ixz_6, ixz_7, ixz_8, ixz_9, ixz_10, ixz_11, ixz_12, ob_some, lt_of, ck_bP, bP_z, bP_o, ite_bP, Int.reduceToNat, Nat.reduceAdd, Nat.reduceMul, Int.reduceAdd, Int.reduceSub, Int.reduceMul, Int.reduceNeg, Int.reduceEq, Int.reduceLT, Int.reduceLE, ↓reduceIte, not_true_eq_false, not_false_eq_true, RM.at R, ws.1.1, c0, k_pn R, hd, f_X8_plans_b204, f_X8_plans_b209, f_X8_plans_b210]
      exact e
theorem k_plans_r (W : WF a) (hz : ¬ pz a (np a)) : ∀ (d k fu : Nat) (S : Mem), k + d = nl a → d < fu → RM S a → PF a S (fpl a k) → ∃ T, PlS S T ∧ PF a T (fpl a (nl a)) ∧ f_X8_plans_b71 fu (zI k) S = some (zI 1, T) := by
  intro d
  have ws := W.sc
  induction d with
  | zero =>
    intro k fu S hk hf R hP
    obtain ⟨fu, rfl⟩ : ∃ f, fu = f + 1 := ⟨fu - 1, by omega⟩
    obtain rfl : k = nl a := by omega
    have c0 : ((nl a : Nat) : Int) ≤ ((nl a : Nat) : Int) := Int.le_refl _
    refine ⟨S, PlS.rf, hP, ?_⟩
    rw [f_X8_plans_b71.eq_2]
    simp (disch := omega) only [zl_0, zl_1, zl_2, zl_3, zl_4, zl_5, zl_6, zl_7, zl_8, zl_9, zl_10, zl_11, zl_12, zl_13, zl_14, zl_15, zl_16, zl_17, zl_18, zl_19, zl_20, zl_23, zl_24, zl_31, zl_32, zl_48, zl_50, zl_53, zl_57, zl_59, zl_60, zl_99, zl_100, zl_104, zl_112, zl_114, zl_119, zl_126, zl_127, zl_181, zl_200, zl_500, zl_543, zl_724, zl_999, zl_1000, zl_5000, zl_65536, zl_100000, zl_1000001, zl_1000002, zl_1000003, zl_1000004, zl_2143289344, zI_neg, zI_add, zI_sub, zI_mul, zI_le, zI_lt, zI_eq, ck_ib, ix_nat, ixz_0, ixz_1, ixz_2, ixz_3, ixz_4, ixz_5, ixz_6, ixz_7, ixz_8, ixz_9, ixz_10, ixz_11, ixz_12, ob_some, lt_of, ck_bP, bP_z, bP_o, ite_bP, Int.reduceToNat, Nat.reduceAdd, Nat.reduceMul, Int.reduceAdd, Int.reduceSub, Int.reduceMul, Int.reduceNeg, Int.reduceEq, Int.reduceLT, Int.reduceLE, ↓reduceIte, not_true_eq_false, not_false_eq_true, RM.at R, ws.1.2.2.1, c0]
  | succ d ih =>
    intro k fu S hk hf R hP
    obtain ⟨fu, rfl⟩ : ∃ f, fu = f + 1 := ⟨fu - 1, by omega⟩
    have kk : k < nl a := by omega
    have c0 : ¬ ((nl a : Int) ≤ (k : Int)) := by omega
    obtain ⟨f1, f2⟩ := fpl_rg W k
    have r1 := lng_rg (a := a) (fpl a k).1 (nl a)
    have r2 := lpn_rg (a := a) (fpl a k).2 (np a)
    have n2 : lpn a (fpl a k).2 (np a) ≠ -1 := fun q => hz (r2.2.2.1 q)
    have kl := k_plans_l W R (f_X8_plans_b71 fu) k f1 hP.1 (nl a) 0 1000 (by omega) (by omega)
    have eq : f_X8_plans_b71 (fu + 1) (zI k) S = f_X8_plans_b85 (f_X8_plans_b71 fu) 1000 (zI k) (zI (lng a (fpl a k).1 0)) (zI (0 : Nat)) S := by
      rw [f_X8_plans_b71.eq_2]
      simp (disch := omega) only [zl_0, zl_1, zl_2, zl_3, zl_4, zl_5, zl_6, zl_7, zl_8, zl_9, zl_10, zl_11, zl_12, zl_13, zl_14, zl_15, zl_16, zl_17, zl_18, zl_19, zl_20, zl_23, zl_24, zl_31, zl_32, zl_48, zl_50, zl_53, zl_57, zl_59, zl_60, zl_99, zl_100, zl_104, zl_112, zl_114, zl_119, zl_126, zl_127, zl_181, zl_200, zl_500, zl_543, zl_724, zl_999, zl_1000, zl_5000, zl_65536, zl_100000, zl_1000001, zl_1000002, zl_1000003, zl_1000004, zl_2143289344, zI_neg, zI_add, zI_sub, zI_mul, zI_le, zI_lt, zI_eq, ck_ib, ix_nat, ixz_0, ixz_1, ixz_2, ixz_3, ixz_4, ixz_5, ixz_6, ixz_7, ixz_8, ixz_9, ixz_10, ixz_11, ixz_12, ob_some, lt_of, ck_bP, bP_z, bP_o, ite_bP, Int.reduceToNat, Nat.reduceAdd, Nat.reduceMul, Int.reduceAdd, Int.reduceSub, Int.reduceMul, Int.reduceNeg, Int.reduceEq, Int.reduceLT, Int.reduceLE, ↓reduceIte, not_true_eq_false, not_false_eq_true, RM.at R, ws.1.2.2.1, c0]
      rfl
    rw [eq, kl]
    by_cases c : lng a (fpl a k).1 (nl a) = -1
    · have h : stp a (fpl a k) = fpl a k := by unfold stp; rw [if_pos (.inl c)]
      have e : fpl a (k + 1) = fpl a k := h
      obtain ⟨T, e1, e2, e3⟩ := ih (k + 1) fu S (by omega) (by omega) R (by rw [e]; exact hP)
      simp only [nc1] at e3
      refine ⟨T, e1, e2, ?_⟩
      rw [if_pos c]
      exact e3
    · rw [if_neg c]
      obtain ⟨l, hl⟩ : ∃ l : Nat, lng a (fpl a k).1 (nl a) = l := ⟨(lng a (fpl a k).1 (nl a)).toNat, by omega⟩
      obtain ⟨p, hp⟩ : ∃ p : Nat, lpn a (fpl a k).2 (np a) = p := ⟨(lpn a (fpl a k).2 (np a)).toNat, by omega⟩
      have el : l < nl a := by omega
      have h : fpl a (k + 1) = (uz (fpl a k).1 l p, uz (fpl a k).2 p ((fpl a k).2 p + len a l)) := by
        show stp a (fpl a k) = _
        unfold stp
        rw [if_neg (fun q => q.elim c n2), hl, hp, Int.toNat_natCast, Int.toNat_natCast]
      have q : PlS S (up3 (up3 S 0 6 l (zI p)) 0 7 p (zI ((fpl a k).2 p + len a l))) := (PlS.up (.inl rfl)).tr (PlS.up (.inr rfl))
      obtain ⟨T, e1, e2, e3⟩ := ih (k + 1) fu _ (by omega) (by omega) (q.rm R) (by rw [h]; exact hP.put)
      simp only [nc1] at e3
      refine ⟨T, q.tr e1, e2, ?_⟩
      rw [hl]
      have kp := k_plans_p W R (f_X8_plans_b71 fu) k el (v := (fpl a k).2) (fun p hp => by have := f2 p hp; omega) hP.2 hp (np a) 0 1000 (by omega) (by omega)
      exact kp.trans e3
theorem k_plans (W : WF a) (R : RM S a) : ∃ T, PlS S T ∧ (¬ pz a (np a) → PF a T (fpl a (nl a))) ∧ (∀ l, l < 16 → T 0 6 l = zI ((fpl a (nl a)).1 l)) ∧ f_X8_plans S = some (zI (bP (¬ pz a (np a))), T) := by
  have ws := W.sc
  obtain ⟨T, e1, e2, e3⟩ := k_plans_i1 W 5 0 1000 S (by omega) (by omega) R (fun p h => absurd h (Nat.not_lt_zero p))
  obtain ⟨U, g1, g2, g3, g4⟩ := k_plans_i2 W 16 0 1000 T (by omega) (by omega) (e1.rm R) (fun p h => absurd h (Nat.not_lt_zero p))
  have q := prs_pz W (np a) (Nat.le_refl _)
  have e4 : f_X8_plans S = if prs a (np a) = 0 then some (zI 0, U) else f_X8_plans_b71 1000 (zI 0) U := e3.trans g4
  by_cases c : pz a (np a)
  · refine ⟨U, e1.tr g1, fun h => absurd c h, fun l hl => by rw [fpl_none c]; exact g2 l hl, ?_⟩
    rw [e4, if_pos (q.2 c), bP_f (fun h => h c)]
  · obtain ⟨V, h1, h2, h3⟩ := k_plans_r W c (nl a) 0 1000 U (by omega) (by omega) (g1.rm (e1.rm R)) ⟨g2, fun p hp => by rw [g3]; exact e2 p hp⟩
    refine ⟨V, (e1.tr g1).tr h1, fun _ => h2, h2.1, ?_⟩
    rw [e4, if_neg (fun h => c (q.1 h)), bP_t c]
    exact h3
/-! what stays: of the class's memory, of the reference's -/
def FC (M N : Mem) : Prop := (∀ g k, g ≠ 0 → g ≠ 2 → N g k = M g k) ∧ N 0 1 = M 0 1 ∧ N 0 2 = M 0 2 ∧ N 0 3 0 = M 0 3 0 ∧ N 0 4 = M 0 4
def FS (S T : Mem) : Prop := (∀ k, k < 181 → T 0 1 k = S 0 1 k) ∧ T 0 2 = S 0 2 ∧ T 0 5 = S 0 5 ∧ T 0 0 4 = S 0 0 4 ∧ T 0 0 6 = S 0 0 6
theorem PlS.fc {M N : Mem} (h : PlS M N) : FC M N := ⟨fun g k hg _ => h g k (fun q => hg q.1), h 0 1 (by omega), h 0 2 (by omega), by rw [h 0 3 (by omega)], h 0 4 (by omega)⟩
theorem PlS.fs {M N : Mem} (h : PlS M N) : FS M N := ⟨fun k _ => by rw [h 0 1 (by omega)], h 0 2 (by omega), h 0 5 (by omega), by rw [h 0 0 (by omega)], by rw [h 0 0 (by omega)]⟩
theorem FC.rf : FC M M := ⟨fun _ _ _ _ => rfl, rfl, rfl, rfl, rfl⟩
theorem FS.rf : FS M M := ⟨fun _ _ => rfl, rfl, rfl, rfl, rfl⟩
theorem FC.tr {M N P : Mem} (h : FC M N) (k : FC N P) : FC M P := ⟨fun g i h1 h2 => (k.1 g i h1 h2).trans (h.1 g i h1 h2), k.2.1.trans h.2.1, k.2.2.1.trans h.2.2.1, k.2.2.2.1.trans h.2.2.2.1, k.2.2.2.2.trans h.2.2.2.2⟩
theorem FS.tr {M N P : Mem} (h : FS M N) (k : FS N P) : FS M P := ⟨fun i h1 => (k.1 i h1).trans (h.1 i h1), k.2.1.trans h.2.1, k.2.2.1.trans h.2.2.1, k.2.2.2.1.trans h.2.2.2.1, k.2.2.2.2.trans h.2.2.2.2⟩
/-- both give one answer, and what matters stays -/
def Q3 (x y : Option (Int32 × Mem)) (M S : Mem) : Prop := ∃ (r : Int32) (N T : Mem), x = some (r, N) ∧ y = some (r, T) ∧ FC M N ∧ FS S T
theorem Q2.q3 {x y : Option (Int32 × Mem)} (h : Q2 x y M S) : Q3 x y M S := by
  obtain ⟨r, h1, h2⟩ := h
  exact ⟨r, M, S, h1, h2, FC.rf, FS.rf⟩
theorem q_fair (W : WF a) (R : RC 1 M a) (Q : RM S a) (x : Int32) : Q3 (f_X7_fair x M) (f_X8_fair x S) M S := by
  obtain ⟨z, h1, h2, rfl⟩ := zI_ex x
  have ws := W.sc
  unfold f_X7_fair f_X8_fair
  rw [ob_of (k_X2_has W R h1 h2), ob_of (k_isLine W Q h1 h2)]
  by_cases c : 0 ≤ z ∧ z < nl a
  · obtain ⟨l, rfl⟩ : ∃ p : Nat, z = p := ⟨z.toNat, by omega⟩
    have hl : l < nl a := by omega
    rw [bP_t c, if_neg (by decide), if_neg (by decide)]
    by_cases hd : la a l 4 = -1
    · rw [ob_of (k_X2_drf W R hl hd), ob_of (k_drf W Q hl hd), if_pos (by decide), if_pos (by decide)]
      obtain ⟨N, n1, n2, n3⟩ := k_make W (by decide) R
      obtain ⟨T, t1, t2, _, t3⟩ := k_plans W Q
      have m := n2.1 l (by omega)
      have fr := (fpl_rg W (nl a)).1 l
      rw [ob_of n3, ob_of t3]
      by_cases d : pz a (np a)
      · rw [fpl_none d (nl a)] at m
        refine ⟨zI (-1000004), N, T, ?_, ?_, n1.fc, t1.fs⟩
        · simp (disch := omega) only [zl_0, zl_1, zl_2, zl_3, zl_4, zl_5, zl_6, zl_7, zl_8, zl_9, zl_10, zl_11, zl_12, zl_13, zl_14, zl_15, zl_16, zl_17, zl_18, zl_19, zl_20, zl_23, zl_24, zl_31, zl_32, zl_48, zl_50, zl_53, zl_57, zl_59, zl_60, zl_99, zl_100, zl_104, zl_112, zl_114, zl_119, zl_126, zl_127, zl_181, zl_200, zl_500, zl_543, zl_724, zl_999, zl_1000, zl_5000, zl_65536, zl_100000, zl_1000001, zl_1000002, zl_1000003, zl_1000004, zl_2143289344, zI_neg, zI_add, zI_sub, zI_mul, zI_le, zI_lt, zI_eq, ck_ib, ix_nat, ixz_0, ixz_1, ixz_2, ixz_3, ixz_4, ixz_5, ixz_6, ixz_7, ixz_8, ixz_9, ixz_10, ixz_11, ixz_12, ob_some, lt_of, ck_bP, bP_z, bP_o, ite_bP, Int.reduceToNat, Nat.reduceAdd, Nat.reduceMul, Int.reduceAdd, Int.reduceSub, Int.reduceMul, Int.reduceNeg, Int.reduceEq, Int.reduceLT, Int.reduceLE, ↓reduceIte, not_true_eq_false, not_false_eq_true, m, f_X7_fair_b76]
        · rw [bP_f (fun q => q d)]
          simp (disch := omega) only [zl_0, zl_1, zl_2, zl_3, zl_4, zl_5, zl_6, zl_7, zl_8, zl_9, zl_10, zl_11, zl_12, zl_13, zl_14, zl_15, zl_16, zl_17, zl_18, zl_19, zl_20, zl_23, zl_24, zl_31, zl_32, zl_48, zl_50, zl_53, zl_57, zl_59, zl_60, zl_99, zl_100, zl_104, zl_112, zl_114, zl_119, zl_126, zl_127, zl_181, zl_200, zl_500, zl_543, zl_724, zl_999, zl_1000, zl_5000, zl_65536, zl_100000, zl_1000001, zl_1000002, zl_1000003, zl_1000004, zl_2143289344, zI_neg, zI_add, zI_sub, zI_mul, zI_le, zI_lt, zI_eq, ck_ib, ix_nat, ixz_0, ixz_1, ixz_2, ixz_3, ixz_4, ixz_5, ixz_6, ixz_7, ixz_8, ixz_9, ixz_10, ixz_11, ixz_12, ob_some, lt_of, ck_bP, bP_z, bP_o, ite_bP, Int.reduceToNat, Nat.reduceAdd, Nat.reduceMul, Int.reduceAdd, Int.reduceSub, Int.reduceMul, Int.reduceNeg, Int.reduceEq, Int.reduceLT, Int.reduceLE, ↓reduceIte, not_true_eq_false, not_false_eq_true, f_X8_fair_b40]
      · have m2 := (t2 d).1 l (by omega)
        have fa := fpl_all W d hl hd
        refine ⟨zI ((fpl a (nl a)).1 l), N, T, ?_, ?_, n1.fc, t1.fs⟩
        · simp (disch := omega) only [zl_0, zl_1, zl_2, zl_3, zl_4, zl_5, zl_6, zl_7, zl_8, zl_9, zl_10, zl_11, zl_12, zl_13, zl_14, zl_15, zl_16, zl_17, zl_18, zl_19, zl_20, zl_23, zl_24, zl_31, zl_32, zl_48, zl_50, zl_53, zl_57, zl_59, zl_60, zl_99, zl_100, zl_104, zl_112, zl_114, zl_119, zl_126, zl_127, zl_181, zl_200, zl_500, zl_543, zl_724, zl_999, zl_1000, zl_5000, zl_65536, zl_100000, zl_1000001, zl_1000002, zl_1000003, zl_1000004, zl_2143289344, zI_neg, zI_add, zI_sub, zI_mul, zI_le, zI_lt, zI_eq, ck_ib, ix_nat, ixz_0, ixz_1, ixz_2, ixz_3, ixz_4, ixz_5, ixz_6, ixz_7, ixz_8, ixz_9, ixz_10, ixz_11, ixz_12, ob_some, lt_of, ck_bP, bP_z, bP_o, ite_bP, Int.reduceToNat, Nat.reduceAdd, Nat.reduceMul, Int.reduceAdd, Int.reduceSub, Int.reduceMul, Int.reduceNeg, Int.reduceEq, Int.reduceLT, Int.reduceLE, ↓reduceIte, not_true_eq_false, not_false_eq_true, m, fa, f_X7_fair_b76]
        · rw [bP_t d]
          simp (disch := omega) only [zl_0, zl_1, zl_2, zl_3, zl_4, zl_5, zl_6, zl_7, zl_8, zl_9, zl_10, zl_11, zl_12, zl_13, zl_14, zl_15, zl_16, zl_17, zl_18, zl_19, zl_20, zl_23, zl_24, zl_31, zl_32, zl_48, zl_50, zl_53, zl_57, zl_59, zl_60, zl_99, zl_100, zl_104, zl_112, zl_114, zl_119, zl_126, zl_127, zl_181, zl_200, zl_500, zl_543, zl_724, zl_999, zl_1000, zl_5000, zl_65536, zl_100000, zl_1000001, zl_1000002, zl_1000003, zl_1000004, zl_2143289344, zI_neg, zI_add, zI_sub, zI_mul, zI_le, zI_lt, zI_eq, ck_ib, ix_nat, ixz_0, ixz_1, ixz_2, ixz_3, ixz_4, ixz_5, ixz_6, ixz_7, ixz_8, ixz_9, ixz_10, ixz_11, ixz_12, ob_some, lt_of, ck_bP, bP_z, bP_o, ite_bP, Int.reduceToNat, Nat.reduceAdd, Nat.reduceMul, Int.reduceAdd, Int.reduceSub, Int.reduceMul, Int.reduceNeg, Int.reduceEq, Int.reduceLT, Int.reduceLE, ↓reduceIte, not_true_eq_false, not_false_eq_true, m2, f_X8_fair_b40]
    · rw [ob_of (k_X2_drt W R hl hd), ob_of (k_drt W Q hl hd), if_neg (by decide), if_neg (by decide)]
      exact ⟨_, M, S, rfl, rfl, FC.rf, FS.rf⟩
  · rw [bP_f c, if_pos (by decide), if_pos (by decide)]
    exact ⟨_, M, S, rfl, rfl, FC.rf, FS.rf⟩
theorem k_fairSpread_l (W : WF a) (R : RM S a) {v : Nat → Int} (hv : ∀ p, p < np a → 0 ≤ v p ∧ v p ≤ 110000) (hm : ∀ p, p < np a → S 0 7 p = zI (v p)) : ∀ (d k fu : Nat), k + d = np a → d < fu → f_X8_fairSpread_b16 fu (zI (mst a v k)) (zI (lst a v (-1) k)) (zI k) S = some (zI (mst a v (np a) - lst a v (-1) (np a)), S) := by
  intro d
  have ws := W.sc
  induction d with
  | zero =>
    intro k fu hk hf
    obtain ⟨fu, rfl⟩ : ∃ f, fu = f + 1 := ⟨fu - 1, by omega⟩
    obtain rfl : k = np a := by omega
    have c0 : ((np a : Nat) : Int) ≤ ((np a : Nat) : Int) := Int.le_refl _
    rw [f_X8_fairSpread_b16.eq_2]
    simp (disch := omega) only [zl_0, zl_1, zl_2, zl_3, zl_4, zl_5, zl_6, zl_7, zl_8, zl_9, zl_10, zl_11, zl_12, zl_13, zl_14, zl_15, zl_16, zl_17, zl_18, zl_19, zl_20, zl_23, zl_24, zl_31, zl_32, zl_48, zl_50, zl_53, zl_57, zl_59, zl_60, zl_99, zl_100, zl_104, zl_112, zl_114, zl_119, zl_126, zl_127, zl_181, zl_200, zl_500, zl_543, zl_724, zl_999, zl_1000, zl_5000, zl_65536, zl_100000, zl_1000001, zl_1000002, zl_1000003, zl_1000004, zl_2143289344, zI_neg, zI_add, zI_sub, zI_mul, zI_le, zI_lt, zI_eq, ck_ib, ix_nat, ixz_0, ixz_1, ixz_2, ixz_3, ixz_4, ixz_5, ixz_6, ixz_7, ixz_8, ixz_9, ixz_10, ixz_11, ixz_12, ob_some, lt_of, ck_bP, bP_z, bP_o, ite_bP, Int.reduceToNat, Nat.reduceAdd, Nat.reduceMul, Int.reduceAdd, Int.reduceSub, Int.reduceMul, Int.reduceNeg, Int.reduceEq, Int.reduceLT, Int.reduceLE, ↓reduceIte, not_true_eq_false, not_false_eq_true, RM.at R, ws.1.1, c0]
  | succ d ih =>
    intro k fu hk hf
    obtain ⟨fu, rfl⟩ : ∃ f, fu = f + 1 := ⟨fu - 1, by omega⟩
    have kk : k < np a := by omega
    have c0 : ¬ ((np a : Int) ≤ (k : Int)) := by omega
    have e := ih (k + 1) fu (by omega) (by omega)
    simp only [nc1] at e
    have i := lst_rg (a := a) (by omega) hv (-1) k (by omega)
    have j := mst_rg (a := a) (by omega) hv k (by omega)
    have u := hv k kk
    have hk := hm k kk
    have w := W.pen kk
    rw [f_X8_fairSpread_b16.eq_2]
    simp only [lst, mst] at e
    by_cases hd : pa a k 6 = 0
    · by_cases c1 : mst a v k < v k
      · rw [if_pos (show pa a k 6 = 0 ∧ mst a v k < v k from ⟨hd, c1⟩)] at e
        have n1 : ¬ (v k ≤ mst a v k) := by omega
        by_cases c2 : lst a v (-1) k = -1 ∨ v k < lst a v (-1) k
        · rw [if_pos ⟨hd, by omega, c2⟩] at e
          simp (disch := omega) only [zl_0, zl_1, zl_2, zl_3, zl_4, zl_5, zl_6, zl_7, zl_8, zl_9, zl_10, zl_11, zl_12, zl_13, zl_14, zl_15, zl_16, zl_17, zl_18, zl_19, zl_20, zl_23, zl_24, zl_31, zl_32, zl_48, zl_50, zl_53, zl_57, zl_59, zl_60, zl_99, zl_100, zl_104, zl_112, zl_114, zl_119, zl_126, zl_127, zl_181, zl_200, zl_500, zl_543, zl_724, zl_999, zl_1000, zl_5000, zl_65536, zl_100000, zl_1000001, zl_1000002, zl_1000003, zl_1000004, zl_2143289344, zI_neg, zI_add, zI_sub, zI_mul, zI_le, zI_lt, zI_eq, ck_ib, ix_nat, ixz_0, ixz_1, ixz_2, ixz_3, ixz_4, ixz_5, ixz_6, ixz_7, ixz_8, ixz_9, ixz_10, ixz_11, ixz_12, ob_some, lt_of, ck_bP, bP_z, bP_o, ite_bP, Int.reduceToNat, Nat.reduceAdd, Nat.reduceMul, Int.reduceAdd, Int.reduceSub, Int.reduceMul, Int.reduceNeg, Int.reduceEq, Int.reduceLT, Int.reduceLE, ↓reduceIte, not_true_eq_false, not_false_eq_true, RM.at R, ws.1.1, c0, k_pn R, hd, hk, n1, f_X8_fairSpread_b56, f_X8_fairSpread_b71, f_X8_fairSpread_b81, f_X8_fairSpread_b82]
          (repeat' split) <;> first | exact e | (exfalso; omega)
        · rw [if_neg (fun q => c2 q.2.2)] at e
          simp (disch := omega) only [zl_0, zl_1, zl_2, zl_3, zl_4, zl_5, zl_6, zl_7, zl_8, zl_9, zl_10, zl_11, zl_12, zl_13, zl_14, zl_15, zl_16, zl_17, zl_18, zl_19, zl_20, zl_23, zl_24, zl_31, zl_32, zl_48, zl_50, zl_53, zl_57, zl_59, zl_60, zl_99, zl_100, zl_104, zl_112, zl_114, zl_119, zl_126, zl_127, zl_181, zl_200, zl_500, zl_543, zl_724, zl_999, zl_1000, zl_5000, zl_65536, zl_100000, zl_1000001, zl_1000002, zl_1000003, zl_1000004, zl_2143289344, zI_neg, zI_add, zI_sub, zI_mul, zI_le, zI_lt, zI_eq, ck_ib, ix_nat, ixz_0, ixz_1, ixz_2, ixz_3, ixz_4, ixz_5, ixz_6, ixz_7, ixz_8, ixz_9, ixz_10, ixz_11, ixz_12, ob_some, lt_of, ck_bP, bP_z, bP_o, ite_bP, Int.reduceToNat, Nat.reduceAdd, Nat.reduceMul, Int.reduceAdd, Int.reduceSub, Int.reduceMul, Int.reduceNeg, Int.reduceEq, Int.reduceLT, Int.reduceLE, ↓reduceIte, not_true_eq_false, not_false_eq_true, RM.at R, ws.1.1, c0, k_pn R, hd, hk, n1, f_X8_fairSpread_b56, f_X8_fairSpread_b71, f_X8_fairSpread_b81, f_X8_fairSpread_b82]
          (repeat' split) <;> first | exact e | (exfalso; omega)
      · rw [if_neg (show ¬ (pa a k 6 = 0 ∧ mst a v k < v k) from fun q => c1 q.2)] at e
        have n1 : v k ≤ mst a v k := by omega
        by_cases c2 : lst a v (-1) k = -1 ∨ v k < lst a v (-1) k
        · rw [if_pos ⟨hd, by omega, c2⟩] at e
          simp (disch := omega) only [zl_0, zl_1, zl_2, zl_3, zl_4, zl_5, zl_6, zl_7, zl_8, zl_9, zl_10, zl_11, zl_12, zl_13, zl_14, zl_15, zl_16, zl_17, zl_18, zl_19, zl_20, zl_23, zl_24, zl_31, zl_32, zl_48, zl_50, zl_53, zl_57, zl_59, zl_60, zl_99, zl_100, zl_104, zl_112, zl_114, zl_119, zl_126, zl_127, zl_181, zl_200, zl_500, zl_543, zl_724, zl_999, zl_1000, zl_5000, zl_65536, zl_100000, zl_1000001, zl_1000002, zl_1000003, zl_1000004, zl_2143289344, zI_neg, zI_add, zI_sub, zI_mul, zI_le, zI_lt, zI_eq, ck_ib, ix_nat, ixz_0, ixz_1, ixz_2, ixz_3, ixz_4, ixz_5, ixz_6, ixz_7, ixz_8, ixz_9, ixz_10, ixz_11, ixz_12, ob_some, lt_of, ck_bP, bP_z, bP_o, ite_bP, Int.reduceToNat, Nat.reduceAdd, Nat.reduceMul, Int.reduceAdd, Int.reduceSub, Int.reduceMul, Int.reduceNeg, Int.reduceEq, Int.reduceLT, Int.reduceLE, ↓reduceIte, not_true_eq_false, not_false_eq_true, RM.at R, ws.1.1, c0, k_pn R, hd, hk, n1, f_X8_fairSpread_b56, f_X8_fairSpread_b71, f_X8_fairSpread_b81, f_X8_fairSpread_b82]
          (repeat' split) <;> first | exact e | (exfalso; omega)
        · rw [if_neg (fun q => c2 q.2.2)] at e
          simp (disch := omega) only [zl_0, zl_1, zl_2, zl_3, zl_4, zl_5, zl_6, zl_7, zl_8, zl_9, zl_10, zl_11, zl_12, zl_13, zl_14, zl_15, zl_16, zl_17, zl_18, zl_19, zl_20, zl_23, zl_24, zl_31, zl_32, zl_48, zl_50, zl_53, zl_57, zl_59, zl_60, zl_99, zl_100, zl_104, zl_112, zl_114, zl_119, zl_126, zl_127, zl_181, zl_200, zl_500, zl_543, zl_724, zl_999, zl_1000, zl_5000, zl_65536, zl_100000, zl_1000001, zl_1000002, zl_1000003, zl_1000004, zl_2143289344, zI_neg, zI_add, zI_sub, zI_mul, zI_le, zI_lt, zI_eq, ck_ib, ix_nat, ixz_0, ixz_1, ixz_2, ixz_3, ixz_4, ixz_5, ixz_6, ixz_7, ixz_8, ixz_9, ixz_10, ixz_11, ixz_12, ob_some, lt_of, ck_bP, bP_z, bP_o, ite_bP, Int.reduceToNat, Nat.reduceAdd, Nat.reduceMul, Int.reduceAdd, Int.reduceSub, Int.reduceMul, Int.reduceNeg, Int.reduceEq, Int.reduceLT, Int.reduceLE, ↓reduceIte, not_true_eq_false, not_false_eq_true, RM.at R, ws.1.1, c0, k_pn R, hd, hk, n1, f_X8_fairSpread_b56, f_X8_fairSpread_b71, f_X8_fairSpread_b81, f_X8_fairSpread_b82]
          (repeat' split) <;> first | exact e | (exfalso; omega)
    · rw [if_neg (show ¬ (pa a k 6 = 0 ∧ mst a v k < v k) from fun q => hd q.1), if_neg (fun q => hd q.1)] at e
      simp (disch := omega) only [zl_0, zl_1, zl_2, zl_3, zl_4, zl_5, zl_6, zl_7, zl_8, zl_9, zl_10, zl_11, zl_12, zl_13, zl_14, zl_15, zl_16, zl_17, zl_18, zl_19, zl_20, zl_23, zl_24, zl_31, zl_32, zl_48, zl_50, zl_53, zl_57, zl_59, zl_60, zl_99, zl_100, zl_104, zl_112, zl_114, zl_119, zl_126, zl_127, zl_181, zl_200, zl_500, zl_543, zl_724, zl_999, zl_1000, zl_5000, zl_65536, zl_100000, zl_1000001, zl_1000002, zl_1000003, zl_1000004, zl_2143289344, zI_neg, zI_add, zI_sub, zI_mul, zI_le, zI_lt, zI_eq, ck_ib, ix_nat, ixz_0, ixz_1, ixz_2, ixz_3, ixz_4, ixz_5, ixz_6, ixz_7, ixz_8, ixz_9, ixz_10, ixz_11, ixz_12, ob_some, lt_of, ck_bP, bP_z, bP_o, ite_bP, Int.reduceToNat, Nat.reduceAdd, Nat.reduceMul, Int.reduceAdd, Int.reduceSub, Int.reduceMul, Int.reduceNeg, Int.reduceEq, Int.reduceLT, Int.reduceLE, ↓reduceIte, not_true_eq_false, not_false_eq_true, RM.at R, ws.1.1, c0, k_pn R, hd, f_X8_fairSpread_b82]
      exact e
theorem q_fairSpread (W : WF a) (R : RC 1 M a) (Q : RM S a) : Q3 (f_X7_fairSpread M) (f_X8_fairSpread S) M S := by
  have ws := W.sc
  obtain ⟨N, n1, n2, n3⟩ := k_make W (by decide) R
  obtain ⟨T, t1, t2, _, t3⟩ := k_plans W Q
  obtain ⟨f1, f2⟩ := fpl_rg W (nl a)
  have f3 : ∀ p, p < np a → 0 ≤ (fpl a (nl a)).2 p ∧ (fpl a (nl a)).2 p ≤ 110000 := fun p hp => by have := f2 p hp; omega
  have ks := k_spreadOf W (n1.rc (by decide) R) (ga := 0) (ka := 7) (v := (fpl a (nl a)).2) (B := 110000) (by omega) (by omega) f3 n2.2
  have lz := lst_pz (a := a) (by omega) f3 (np a) (Nat.le_refl _)
  unfold f_X7_fairSpread f_X8_fairSpread
  rw [ob_of n3, ob_of ks, ob_of t3]
  by_cases d : pz a (np a)
  · rw [if_pos (lz.2 d), bP_f (fun q => q d), if_pos (by decide)]
    exact ⟨_, N, T, rfl, rfl, n1.fc, t1.fs⟩
  · rw [if_neg (fun q => d (lz.1 q)), bP_t d, if_neg (by decide)]
    have e := k_fairSpread_l W (t1.rm Q) f3 (t2 d).2 (np a) 0 1000 (by omega) (by omega)
    exact ⟨_, N, T, rfl, e, n1.fc, t1.fs⟩
end
