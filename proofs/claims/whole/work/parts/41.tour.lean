/-! the tour, of both -/
section
variable {g : Nat} {M S : Mem} {a : Row} {f : Nat → Int}
/-- only the tour's tables differ -/
def TlS (M N : Mem) : Prop := ∀ g k, ¬ (g = 0 ∧ (8 ≤ k ∧ k ≤ 12)) → N g k = M g k
theorem TlS.rf : TlS M M := fun _ _ _ => rfl
theorem TlS.tr {M N P : Mem} (h : TlS M N) (h2 : TlS N P) : TlS M P := fun g k c => (h2 g k c).trans (h g k c)
theorem TlS.up {M : Mem} {k j : Nat} {v : Int32} (h : 8 ≤ k ∧ k ≤ 12) : TlS M (up3 M 0 k j v) := fun g' k' c => up3_cell _ _ (fun q => c ⟨q.1, q.2 ▸ h⟩)
theorem TlS.rc {M N : Mem} (h : TlS M N) (hg : g ≠ 0) (R : RC g M a) : RC g N a := R.same (fun k _ => h g k (fun q => hg q.1))
theorem TlS.rm {M N : Mem} (h : TlS M N) (R : RM M a) : RM N a := R.same (h 0 1 (by omega))
theorem TlS.fc {M N : Mem} (h : TlS M N) : FC M N := ⟨fun g k hg _ => h g k (fun q => hg q.1), h 0 1 (by omega), h 0 2 (by omega), by rw [h 0 3 (by omega)], h 0 4 (by omega)⟩
theorem TlS.fs {M N : Mem} (h : TlS M N) : FS M N := ⟨fun k _ => by rw [h 0 1 (by omega)], h 0 2 (by omega), h 0 5 (by omega), by rw [h 0 0 (by omega)], by rw [h 0 0 (by omega)]⟩
def dN (a : Row) (x y : Int) (l : Nat) (w : Int) : Int := dst x y (bX a l w) (bY a l w)
def nr (a : Row) (x y : Int) (l : Nat) : Int := min (dN a x y l 0) (dN a x y l 1)
def wyl (a : Row) (x y : Int) (l : Nat) : Int := if dN a x y l 1 < dN a x y l 0 then 1 else 0
def Elg (a : Row) (f : Nat → Int) (G : Nat → Prop) (l : Nat) : Prop := f l = a 8 ∧ ¬ G l
noncomputable def nst (a : Row) (f : Nat → Int) (x y : Int) (G : Nat → Prop) : Nat → Int
  | 0 => -1
  | k + 1 => @ite Int (Elg a f G k ∧ (nst a f x y G k = -1 ∨ nr a x y k < nr a x y (nst a f x y G k).toNat)) (Classical.propDecidable _) k (nst a f x y G k)
theorem dN_rg (W : WF a) {l : Nat} (h : l < nl a) {x y : Int} (h3 : 0 ≤ x ∧ x ≤ 99) (h4 : 0 ≤ y ∧ y ≤ 99) (w : Int) : 0 ≤ dN a x y l w ∧ dN a x y l w ≤ 99 := dst_rg h3 h4 (bX_rg W h w) (bY_rg W h w)
theorem nst_rg (x y : Int) (G : Nat → Prop) : ∀ k, -1 ≤ nst a f x y G k ∧ nst a f x y G k < (k : Int) ∧ (nst a f x y G k ≠ -1 → Elg a f G (nst a f x y G k).toNat) ∧ (nst a f x y G k = -1 → ∀ l, l < k → ¬ Elg a f G l) := by
  intro k
  induction k with
  | zero => exact ⟨Int.le_refl _, by show (-1 : Int) < 0; omega, fun h => absurd rfl h, fun _ l h => absurd h (Nat.not_lt_zero l)⟩
  | succ k ih =>
    obtain ⟨i1, i2, i3, i4⟩ := ih
    simp only [nst]
    split
    · rename_i c
      refine ⟨by omega, by omega, fun _ => ?_, fun h => by omega⟩
      rw [Int.toNat_natCast]
      exact c.1
    · rename_i c
      refine ⟨i1, by omega, i3, fun h l hl => ?_⟩
      by_cases q : l = k
      · subst q
        exact fun t => c ⟨t, .inl h⟩
      · exact i4 h l (by omega)
/-- where, how long so far, which are gone -/
abbrev TS : Type := Int × Int × Int × (Nat → Prop)
noncomputable def tix (a : Row) (f : Nat → Int) (s : TS) : Int := nst a f s.1 s.2.1 s.2.2.2 (nl a)
noncomputable def tsp (a : Row) (f : Nat → Int) (s : TS) : TS :=
  (bX a (tix a f s).toNat (1 - wyl a s.1 s.2.1 (tix a f s).toNat), bY a (tix a f s).toNat (1 - wyl a s.1 s.2.1 (tix a f s).toNat), s.2.2.1 + (nr a s.1 s.2.1 (tix a f s).toNat + len a (tix a f s).toNat), fun o => s.2.2.2 o ∨ o = (tix a f s).toNat)
noncomputable def tsn (a : Row) (f : Nat → Int) : Nat → TS
  | 0 => (a 9, a 10, 0, fun _ => False)
  | k + 1 => tsp a f (tsn a f k)
noncomputable def tnx (a : Row) (f : Nat → Int) (k : Nat) : Int := tix a f (tsn a f k)
noncomputable def twy (a : Row) (f : Nat → Int) (k : Nat) : Int := wyl a (tsn a f k).1 (tsn a f k).2.1 (tnx a f k).toNat
theorem wyl_rg (x y : Int) (l : Nat) : 0 ≤ wyl a x y l ∧ wyl a x y l ≤ 1 := by
  unfold wyl
  split <;> omega
theorem tnx_rg (k : Nat) : -1 ≤ tnx a f k ∧ tnx a f k < (nl a : Int) := by
  have := nst_rg (a := a) (f := f) (tsn a f k).1 (tsn a f k).2.1 (tsn a f k).2.2.2 (nl a)
  exact ⟨this.1, this.2.1⟩
theorem tsn_rg (W : WF a) : ∀ k, (∀ j, j < k → tnx a f j ≠ -1) → (0 ≤ (tsn a f k).1 ∧ (tsn a f k).1 ≤ 99) ∧ (0 ≤ (tsn a f k).2.1 ∧ (tsn a f k).2.1 ≤ 99) ∧ cnp (Elg a f (tsn a f k).2.2.2) (nl a) + k ≤ nl a := by
  intro k
  have ws := W.sc
  induction k with
  | zero =>
    intro _
    refine ⟨?_, ?_, cnp_le _ _⟩
    · show 0 ≤ a 9 ∧ a 9 ≤ 99; omega
    · show 0 ≤ a 10 ∧ a 10 ≤ 99; omega
  | succ k ih =>
    intro h
    obtain ⟨i1, i2, i3⟩ := ih (fun j hj => h j (by omega))
    have hk := h k (by omega)
    have r := tnx_rg (a := a) (f := f) k
    have e := (nst_rg (a := a) (f := f) (tsn a f k).1 (tsn a f k).2.1 (tsn a f k).2.2.2 (nl a)).2.2.1 hk
    have hl : (tnx a f k).toNat < nl a := by omega
    refine ⟨bX_rg W hl _, bY_rg W hl _, ?_⟩
    have x := cnp_less (P := Elg a f (tsn a f k).2.2.2) (Q := Elg a f (tsn a f (k + 1)).2.2.2) (i := (tnx a f k).toNat) e (fun q => q.2 (.inr rfl)) (fun j hj => ⟨fun q => ⟨q.1, fun t => t.elim q.2 hj⟩, fun q => ⟨q.1, fun t => q.2 (.inl t)⟩⟩) (nl a) hl
    omega
theorem tnx_lt (W : WF a) {k : Nat} (h : ∀ j, j < k → tnx a f j ≠ -1) (hk : tnx a f k ≠ -1) : k < nl a := by
  have r := (tsn_rg W k h).2.2
  have e := (nst_rg (a := a) (f := f) (tsn a f k).1 (tsn a f k).2.1 (tsn a f k).2.2.2 (nl a)).2.2.1 hk
  have b := tnx_rg (a := a) (f := f) k
  by_cases c : cnp (Elg a f (tsn a f k).2.2.2) (nl a) = 0
  · exact absurd e (cnp_zero (nl a) c _ (by show (tnx a f k).toNat < nl a; omega))
  · omega
theorem tnx_end (W : WF a) (h : ∀ j, j < nl a → tnx a f j ≠ -1) : tnx a f (nl a) = -1 := by
  by_cases c : tnx a f (nl a) = -1
  · exact c
  · exact absurd (tnx_lt W h c) (Nat.lt_irrefl _)
/-- the rows of the tour so far -/
def TF (a : Row) (f : Nat → Int) (C : Mem) (m1 m2 m3 n : Nat) : Prop := ∀ j, j < n → C 0 m1 j = zI (tnx a f j) ∧ C 0 m2 j = zI (twy a f j) ∧ C 0 m3 j = zI (tsn a f (j + 1)).2.2.1
/-- the tour is over, with so many lines -/
def TE (a : Row) (f : Nat → Int) (C : Mem) (m1 m2 m3 n : Nat) : Prop := n ≤ nl a ∧ (∀ j, j < n → tnx a f j ≠ -1) ∧ tnx a f n = -1 ∧ TF a f C m1 m2 m3 n
theorem TE.eq {C D : Mem} {m1 m2 m3 n o1 o2 o3 o : Nat} (h : TE a f C m1 m2 m3 n) (k : TE a f D o1 o2 o3 o) : n = o := by
  have h1 : ¬ n < o := fun q => k.2.1 n q h.2.2.1
  have h2 : ¬ o < n := fun q => h.2.1 o q k.2.2.1
  omega
/-! the class's tour -/
theorem k_near_l (W : WF a) (R : RC g M a) (hfr : ∀ l, -1 ≤ f l ∧ f l < 5) (hm : ∀ l, l < 16 → M 0 6 l = zI (f l)) {G : Nat → Prop} (hG : ∀ l, l < 16 → M 0 12 l = zI (bP (G l))) {x y : Int} (hx : M 0 8 5 = zI x) (hy : M 0 8 6 = zI y) (h3 : 0 ≤ x ∧ x ≤ 99) (h4 : 0 ≤ y ∧ y ≤ 99) : ∀ (d k fu : Nat), k + d = nl a → d < fu → f_X6_nearestLeft_b8 g fu (zI (nst a f x y G k)) (zI (if nst a f x y G k = -1 then 0 else nr a x y (nst a f x y G k).toNat)) (zI k) M = some (zI (nst a f x y G (nl a)), M) := by
  intro d
  have ws := W.sc
  induction d with
  | zero =>
    intro k fu hk hf
    obtain ⟨fu, rfl⟩ : ∃ f, fu = f + 1 := ⟨fu - 1, by omega⟩
    obtain rfl : k = nl a := by omega
    have c0 : ((nl a : Nat) : Int) ≤ ((nl a : Nat) : Int) := Int.le_refl _
    rw [f_X6_nearestLeft_b8.eq_2]
    simp (disch := omega) only [zl_0, zl_1, zl_2, zl_3, zl_4, zl_5, zl_6, zl_7, zl_8, zl_9, zl_10, zl_11, zl_12, zl_13, zl_14, zl_15, zl_16, zl_17, zl_18, zl_19, zl_20, zl_23, zl_24, zl_31, zl_32, zl_48, zl_50, zl_53, zl_57, zl_59, zl_60, zl_99, zl_100, zl_104, zl_112, zl_114, zl_119, zl_126, zl_127, zl_181, zl_200, zl_500, zl_543, zl_724, zl_999, zl_1000, zl_5000, zl_65536, zl_100000, zl_1000001, zl_1000002, zl_1000003, zl_1000004, zl_2143289344, zI_neg, zI_add, zI_sub, zI_mul, zI_le, zI_lt, zI_eq, ck_ib, ix_nat, ixz_0, ixz_1, ixz_2, ixz_3, ixz_4, ixz_5, ixz_6, ixz_7, ixz_8, ixz_9, ixz_10, ixz_11, ixz_12, ob_some, lt_of, ck_bP, bP_z, bP_o, ite_bP, Int.reduceToNat, Nat.reduceAdd, Nat.reduceMul, Int.reduceAdd, Int.reduceSub, Int.reduceMul, Int.reduceNeg, Int.reduceEq, Int.reduceLT, Int.reduceLE, ↓reduceIte, not_true_eq_false, not_false_eq_true, R.rnl, c0]
  | succ d ih =>
    intro k fu hk hf
    obtain ⟨fu, rfl⟩ : ∃ f, fu = f + 1 := ⟨fu - 1, by omega⟩
    have kk : k < nl a := by omega
    have c0 : ¬ ((nl a : Int) ≤ (k : Int)) := by omega
    have e := ih (k + 1) fu (by omega) (by omega)
    simp only [nc1] at e
    have q := nst_rg (a := a) (f := f) x y G k
    have u := hfr k
    have v := W.line kk
    have hk := hm k (by omega)
    have gk := hG k (by omega)
    have t0 : f_X6_travelTo g (zI k) (zI 0) M = some (zI (dN a x y k 0), M) := k_X6_travelTo W R kk (by omega) (by omega) hx hy h3 h4
    have t1 : f_X6_travelTo g (zI k) (zI 1) M = some (zI (dN a x y k 1), M) := k_X6_travelTo W R kk (by omega) (by omega) hx hy h3 h4
    have d0 := dN_rg W kk h3 h4 0
    have d1 := dN_rg W kk h3 h4 1
    have mn0 : mn (zI (dN a x y k 0)) (zI (dN a x y k 1)) = zI (nr a x y k) := mn_zI (by omega) (by omega) (by omega) (by omega)
    have nrr : 0 ≤ nr a x y k ∧ nr a x y k ≤ 99 := by unfold nr; omega
    rw [f_X6_nearestLeft_b8.eq_2]
    by_cases c1 : f k = a 8
    · by_cases c2 : G k
      · have en : nst a f x y G (k + 1) = nst a f x y G k := by
          simp only [nst]
          rw [if_neg (fun q => q.1.2 c2)]
        rw [en] at e
        rw [bP_t c2] at gk
        simp (disch := omega) only [zl_0, zl_1, zl_2, zl_3, zl_4, zl_5, zl_6, zl_7, zl_8, zl_9, zl_10, zl_11, zl_12, zl_13, zl_14, zl_15, zl_16, zl_17, zl_18, zl_19, zl_20, zl_23, zl_24, zl_31, zl_32, zl_48, zl_50, zl_53, zl_57, zl_59, zl_60, zl_99, zl_100, zl_104, zl_112, zl_114, zl_119, zl_126, zl_127, zl_181, zl_200, zl_500, zl_543, zl_724, zl_999, zl_1000, zl_5000, zl_65536, zl_100000, zl_1000001, zl_1000002, zl_1000003, zl_1000004, zl_2143289344, zI_neg, zI_add, zI_sub, zI_mul, zI_le, zI_lt, zI_eq, ck_ib, ix_nat, ixz_0, ixz_1, ixz_2, ixz_3, ixz_4, ixz_5, ixz_6, ixz_7, ixz_8, ixz_9, ixz_10, ixz_11, ixz_12, ob_some, lt_of, ck_bP, bP_z, bP_o, ite_bP, Int.reduceToNat, Nat.reduceAdd, Nat.reduceMul, Int.reduceAdd, Int.reduceSub, Int.reduceMul, Int.reduceNeg, Int.reduceEq, Int.reduceLT, Int.reduceLE, ↓reduceIte, not_true_eq_false, not_false_eq_true, R.rnl, c0, hk, R.t4, c1, gk, f_X6_nearestLeft_b93]
        exact e
      · rw [bP_f c2] at gk
        by_cases c3 : nst a f x y G k = -1
        · have en : nst a f x y G (k + 1) = k := by
            simp only [nst]
            rw [if_pos (show Elg a f G k ∧ (nst a f x y G k = -1 ∨ nr a x y k < nr a x y (nst a f x y G k).toNat) from ⟨⟨c1, c2⟩, .inl c3⟩)]
          rw [en, if_neg (by omega), Int.toNat_natCast] at e
          simp (disch := omega) only [zl_0, zl_1, zl_2, zl_3, zl_4, zl_5, zl_6, zl_7, zl_8, zl_9, zl_10, zl_11, zl_12, zl_13, zl_14, zl_15, zl_16, zl_17, zl_18, zl_19, zl_20, zl_23, zl_24, zl_31, zl_32, zl_48, zl_50, zl_53, zl_57, zl_59, zl_60, zl_99, zl_100, zl_104, zl_112, zl_114, zl_119, zl_126, zl_127, zl_181, zl_200, zl_500, zl_543, zl_724, zl_999, zl_1000, zl_5000, zl_65536, zl_100000, zl_1000001, zl_1000002, zl_1000003, zl_1000004, zl_2143289344, zI_neg, zI_add, zI_sub, zI_mul, zI_le, zI_lt, zI_eq, ck_ib, ix_nat, ixz_0, ixz_1, ixz_2, ixz_3, ixz_4, ixz_5, ixz_6, ixz_7, ixz_8, ixz_9, ixz_10, ixz_11, ixz_12, ob_some, lt_of, ck_bP, bP_z, bP_o, ite_bP, Int.reduceToNat, Nat.reduceAdd, Nat.reduceMul, Int.reduceAdd, Int.reduceSub, Int.reduceMul, Int.reduceNeg, Int.reduceEq, Int.reduceLT, Int.reduceLE, ↓reduceIte, not_true_eq_false, not_false_eq_true, R.rnl, c0, hk, R.t4, c1, gk, t0, t1, mn0, c3, f_X6_nearestLeft_b86, f_X6_nearestLeft_b93]
          exact e
        · rw [if_neg c3]
          obtain ⟨l, hl⟩ : ∃ l : Nat, nst a f x y G k = l := ⟨(nst a f x y G k).toNat, by omega⟩
          rw [hl] at q c3
          have dl0 := dN_rg W (show l < nl a by omega) h3 h4 0
          have dl1 := dN_rg W (show l < nl a by omega) h3 h4 1
          have nrl : 0 ≤ nr a x y l ∧ nr a x y l ≤ 99 := by unfold nr; omega
          by_cases c4 : nr a x y k < nr a x y l
          · have en : nst a f x y G (k + 1) = k := by
              simp only [nst]
              rw [hl, Int.toNat_natCast]
              rw [if_pos (show Elg a f G k ∧ ((l : Int) = -1 ∨ nr a x y k < nr a x y l) from ⟨⟨c1, c2⟩, .inr c4⟩)]
            rw [en, if_neg (by omega), Int.toNat_natCast] at e
            rw [hl, Int.toNat_natCast]
            have c5 : ¬ (nr a x y l ≤ nr a x y k) := by omega
            simp (disch := omega) only [zl_0, zl_1, zl_2, zl_3, zl_4, zl_5, zl_6, zl_7, zl_8, zl_9, zl_10, zl_11, zl_12, zl_13, zl_14, zl_15, zl_16, zl_17, zl_18, zl_19, zl_20, zl_23, zl_24, zl_31, zl_32, zl_48, zl_50, zl_53, zl_57, zl_59, zl_60, zl_99, zl_100, zl_104, zl_112, zl_114, zl_119, zl_126, zl_127, zl_181, zl_200, zl_500, zl_543, zl_724, zl_999, zl_1000, zl_5000, zl_65536, zl_100000, zl_1000001, zl_1000002, zl_1000003, zl_1000004, zl_2143289344, zI_neg, zI_add, zI_sub, zI_mul, zI_le, zI_lt, zI_eq, ck_ib, ix_nat, ixz_0, ixz_1, ixz_2, ixz_3, ixz_4, ixz_5, ixz_6, ixz_7, ixz_8, ixz_9, ixz_10, ixz_11, ixz_12, ob_some, lt_of, ck_bP, bP_z, bP_o, ite_bP, Int.reduceToNat, Nat.reduceAdd, Nat.reduceMul, Int.reduceAdd, Int.reduceSub, Int.reduceMul, Int.reduceNeg, Int.reduceEq, Int.reduceLT, Int.reduceLE, ↓reduceIte, not_true_eq_false, not_false_eq_true, R.rnl, c0, hk, R.t4, c1, gk, t0, t1, mn0, c3, c5, f_X6_nearestLeft_b86, f_X6_nearestLeft_b93]
            exact e
          · have en : nst a f x y G (k + 1) = l := by
              simp only [nst]
              rw [hl, Int.toNat_natCast]
              rw [if_neg (show ¬ (Elg a f G k ∧ ((l : Int) = -1 ∨ nr a x y k < nr a x y l)) from fun q => by omega)]
            rw [en, if_neg (by omega), Int.toNat_natCast] at e
            rw [hl, Int.toNat_natCast]
            have c5 : (nr a x y l ≤ nr a x y k) := by omega
            simp (disch := omega) only [zl_0, zl_1, zl_2, zl_3, zl_4, zl_5, zl_6, zl_7, zl_8, zl_9, zl_10, zl_11, zl_12, zl_13, zl_14, zl_15, zl_16, zl_17, zl_18, zl_19, zl_20, zl_23, zl_24, zl_31, zl_32, zl_48, zl_50, zl_53, zl_57, zl_59, zl_60, zl_99, zl_100, zl_104, zl_112, zl_114, zl_119, zl_126, zl_127, zl_181, zl_200, zl_500, zl_543, zl_724, zl_999, zl_1000, zl_5000, zl_65536, zl_100000, zl_1000001, zl_1000002, zl_1000003, zl_1000004, zl_2143289344, zI_neg, zI_add, zI_sub, zI_mul, zI_le, zI_lt, zI_eq, ck_ib, ix_nat, ixz_0, ixz_1, ixz_2, ixz_3, ixz_4, ixz_5, ixz_6, ixz_7, ixz_8, ixz_9, ixz_10, ixz_11, ixz_12, ob_some, lt_of, ck_bP, bP_z, bP_o, ite_bP, Int.reduceToNat, Nat.reduceAdd, Nat.reduceMul, Int.reduceAdd, Int.reduceSub, Int.reduceMul, Int.reduceNeg, Int.reduceEq, Int.reduceLT, Int.reduceLE, ↓reduceIte, not_true_eq_false, not_false_eq_true, R.rnl, c0, hk, R.t4, c1, gk, t0, t1, mn0, c3, c5, f_X6_nearestLeft_b86, f_X6_nearestLeft_b93]
            exact e
    · have en : nst a f x y G (k + 1) = nst a f x y G k := by
        simp only [nst]
        rw [if_neg (fun q => c1 q.1.1)]
      rw [en] at e
      simp (disch := omega) only [zl_0, zl_1, zl_2, zl_3, zl_4, zl_5, zl_6, zl_7, zl_8, zl_9, zl_10, zl_11, zl_12, zl_13, zl_14, zl_15, zl_16, zl_17, zl_18, zl_19, zl_20, zl_23, zl_24, zl_31, zl_32, zl_48, zl_50, zl_53, zl_57, zl_59, zl_60, zl_99, zl_100, zl_104, zl_112, zl_114, zl_119, zl_126, zl_127, zl_181, zl_200, zl_500, zl_543, zl_724, zl_999, zl_1000, zl_5000, zl_65536, zl_100000, zl_1000001, zl_1000002, zl_1000003, zl_1000004, zl_2143289344, zI_neg, zI_add, zI_sub, zI_mul, zI_le, zI_lt, zI_eq, ck_ib, ix_nat, ixz_0, ixz_1, ixz_2, ixz_3, ixz_4, ixz_5, ixz_6, ixz_7, ixz_8, ixz_9, ixz_10, ixz_11, ixz_12, ob_some, lt_of, ck_bP, bP_z, bP_o, ite_bP, Int.reduceToNat, Nat.reduceAdd, Nat.reduceMul, Int.reduceAdd, Int.reduceSub, Int.reduceMul, Int.reduceNeg, Int.reduceEq, Int.reduceLT, Int.reduceLE, ↓reduceIte, not_true_eq_false, not_false_eq_true, R.rnl, c0, hk, R.t4, c1, f_X6_nearestLeft_b93]
      exact e
theorem nar_0 : vp_nar .boolean (zI 0) = zI 0 := by decide
theorem nar_1 : vp_nar .boolean (zI 1) = zI 1 := by decide
theorem k_goAlong (W : WF a) (hg : g ≠ 0) (R : RC g M a) {l i : Nat} (hl : l < nl a) (hi : i < 16) {x y : Int} (hx : M 0 8 5 = zI x) (hy : M 0 8 6 = zI y) (hn : M 0 8 0 = zI i) (h3 : 0 ≤ x ∧ x ≤ 99) (h4 : 0 ≤ y ∧ y ≤ 99) : ∃ N, TlS M N ∧ N 0 8 0 = zI (i + 1) ∧ N 0 8 5 = zI (bX a l (1 - wyl a x y l)) ∧ N 0 8 6 = zI (bY a l (1 - wyl a x y l)) ∧ (∀ j, N 0 9 j = if j = i then zI l else M 0 9 j) ∧ (∀ j, N 0 10 j = if j = i then zI (wyl a x y l) else M 0 10 j) ∧ (∀ j, N 0 11 j = M 0 11 j) ∧ (∀ j, N 0 12 j = if j = l then zI 1 else M 0 12 j) ∧ f_X6_goAlong g (zI l) M = some (zI (nr a x y l + len a l), N) := by
  have ws := W.sc
  have t0 : f_X6_travelTo g (zI l) (zI 0) M = some (zI (dN a x y l 0), M) := k_X6_travelTo W R hl (by omega) (by omega) hx hy h3 h4
  have t1 : f_X6_travelTo g (zI l) (zI 1) M = some (zI (dN a x y l 1), M) := k_X6_travelTo W R hl (by omega) (by omega) hx hy h3 h4
  have d0 := dN_rg W hl h3 h4 0
  have d1 := dN_rg W hl h3 h4 1
  have main : ∀ w : Int, 0 ≤ w → w ≤ 1 → ∃ N, TlS M N ∧ N 0 8 0 = zI (i + 1) ∧ N 0 8 5 = zI (bX a l (1 - w)) ∧ N 0 8 6 = zI (bY a l (1 - w)) ∧ (∀ j, N 0 9 j = if j = i then zI l else M 0 9 j) ∧ (∀ j, N 0 10 j = if j = i then zI w else M 0 10 j) ∧ (∀ j, N 0 11 j = M 0 11 j) ∧ (∀ j, N 0 12 j = if j = l then zI 1 else M 0 12 j) ∧ f_X6_goAlong_b22 g (zI l) (zI w) M = some (zI (dN a x y l w + len a l), N) := by
    intro w w0 w1
    have tw : f_X6_travelTo g (zI l) (zI w) M = some (zI (dN a x y l w), M) := k_X6_travelTo W R hl (by omega) (by omega) hx hy h3 h4
    have q4 : TlS M (up3 (up3 (up3 (up3 M 0 9 i (zI l)) 0 10 i (zI w)) 0 8 0 (zI (i + 1))) 0 12 l (zI 1)) := (((TlS.up (by omega)).tr (TlS.up (by omega))).tr (TlS.up (by omega))).tr (TlS.up (by omega))
    have kx := k_beginX (q4.rc hg R) hl (by omega) (w := 1 - w) (by omega) (by omega)
    have ky := k_beginY (((q4.tr (TlS.up (k := 8) (j := 5) (v := zI (bX a l (1 - w))) (by omega)))).rc hg R) hl (by omega) (w := 1 - w) (by omega) (by omega)
    refine ⟨up3 (up3 (up3 (up3 (up3 (up3 M 0 9 i (zI l)) 0 10 i (zI w)) 0 8 0 (zI (i + 1))) 0 12 l (zI 1)) 0 8 5 (zI (bX a l (1 - w)))) 0 8 6 (zI (bY a l (1 - w))), (q4.tr (TlS.up (by omega))).tr (TlS.up (by omega)), ?_, ?_, ?_, ?_, ?_, ?_, ?_, ?_⟩
    · simp (disch := omega) only [up3_at, up3_slot, up3_cell]
    · simp (disch := omega) only [up3_at, up3_slot, up3_cell]
    · simp (disch := omega) only [up3_at, up3_slot, up3_cell]
    · intro j
      by_cases c : j = i
      · subst c; rw [if_pos rfl]; simp (disch := omega) only [up3_at, up3_slot, up3_cell]
      · rw [if_neg c]; simp (disch := omega) only [up3_at, up3_slot, up3_cell]
    · intro j
      by_cases c : j = i
      · subst c; rw [if_pos rfl]; simp (disch := omega) only [up3_at, up3_slot, up3_cell]
      · rw [if_neg c]; simp (disch := omega) only [up3_at, up3_slot, up3_cell]
    · intro j
      simp (disch := omega) only [up3_at, up3_slot, up3_cell]
    · intro j
      by_cases c : j = l
      · subst c; rw [if_pos rfl]; simp (disch := omega) only [up3_at, up3_slot, up3_cell]
      · rw [if_neg c]; simp (disch := omega) only [up3_at, up3_slot, up3_cell]
    · unfold f_X6_goAlong_b22
      simp (disch := omega) only [zl_0, zl_1, zl_2, zl_3, zl_4, zl_5, zl_6, zl_7, zl_8, zl_9, zl_10, zl_11, zl_12, zl_13, zl_14, zl_15, zl_16, zl_17, zl_18, zl_19, zl_20, zl_23, zl_24, zl_31, zl_32, zl_48, zl_50, zl_53, zl_57, zl_59, zl_60, zl_99, zl_100, zl_104, zl_112, zl_114, zl_119, zl_126, zl_127, zl_181, zl_200, zl_500, zl_543, zl_724, zl_999, zl_1000, zl_5000, zl_65536, zl_100000, zl_1000001, zl_1000002, zl_1000003, zl_1000004, zl_2143289344, zI_neg, zI_add, zI_sub, zI_mul, zI_le, zI_lt, zI_eq, ck_ib, ix_nat, ixz_0, ixz_1, ixz_2, ixz_3, ixz_4, ixz_5, ixz_6, ixz_7, ixz_8, ixz_9, ixz_10, ixz_11, ixz_12, ob_some, lt_of, ck_bP, bP_z, bP_o, ite_bP, Int.reduceToNat, Nat.reduceAdd, Nat.reduceMul, Int.reduceAdd, Int.reduceSub, Int.reduceMul, Int.reduceNeg, Int.reduceEq, Int.reduceLT, Int.reduceLE, ↓reduceIte, not_true_eq_false, not_false_eq_true, tw, R.l15, hn, up3_at, up3_slot, up3_cell, nar_1, kx, ky]
  unfold f_X6_goAlong
  rw [zl_1, zl_0, ob_of t1, ob_of t0]
  by_cases c : dN a x y l 1 < dN a x y l 0
  · obtain ⟨N, n⟩ := main 1 (by omega) (by omega)
    have e1 : wyl a x y l = 1 := by unfold wyl; rw [if_pos c]
    have e2 : nr a x y l = dN a x y l 1 := by unfold nr; omega
    rw [e1, e2]
    refine ⟨N, n.1, n.2.1, n.2.2.1, n.2.2.2.1, n.2.2.2.2.1, n.2.2.2.2.2.1, n.2.2.2.2.2.2.1, n.2.2.2.2.2.2.2.1, ?_⟩
    rw [if_neg (by rw [zI_le (by omega) (by omega) (by omega) (by omega)]; omega)]
    exact n.2.2.2.2.2.2.2.2
  · obtain ⟨N, n⟩ := main 0 (by omega) (by omega)
    have e1 : wyl a x y l = 0 := by unfold wyl; rw [if_neg c]
    have e2 : nr a x y l = dN a x y l 0 := by unfold nr; omega
    rw [e1, e2]
    refine ⟨N, n.1, n.2.1, n.2.2.1, n.2.2.2.1, n.2.2.2.2.1, n.2.2.2.2.2.1, n.2.2.2.2.2.2.1, n.2.2.2.2.2.2.2.1, ?_⟩
    rw [if_pos (by rw [zI_le (by omega) (by omega) (by omega) (by omega)]; omega)]
    exact n.2.2.2.2.2.2.2.2
/-- the class's memory behind i lines of the tour -/
def TC (g : Nat) (a : Row) (f : Nat → Int) (C : Mem) (i : Nat) : Prop := RC g C a ∧ (∀ l, l < 16 → C 0 6 l = zI (f l)) ∧ C 0 8 0 = zI i ∧ C 0 8 5 = zI (tsn a f i).1 ∧ C 0 8 6 = zI (tsn a f i).2.1 ∧ (∀ l, l < 16 → C 0 12 l = zI (bP ((tsn a f i).2.2.2 l))) ∧ TF a f C 9 10 11 i ∧ ∀ j, j < i → tnx a f j ≠ -1
theorem k_route_l (W : WF a) (hg : g ≠ 0) (hfr : ∀ l, -1 ≤ f l ∧ f l < 5) : ∀ (d i fu : Nat) (M : Mem), i + d = nl a → d < fu → TC g a f M i → ∃ N n, TlS M N ∧ N 0 8 0 = zI (n : Nat) ∧ TE a f N 9 10 11 n ∧ f_X6_make_b47 g fu (zI (tsn a f i).2.2.1) (zI i) M = some ((), N) := by
  intro d
  have ws := W.sc
  induction d with
  | zero =>
    intro i fu M hk hf hT
    obtain ⟨fu, rfl⟩ : ∃ f, fu = f + 1 := ⟨fu - 1, by omega⟩
    obtain rfl : i = nl a := by omega
    obtain ⟨R, hm, hn, hx, hy, hG, hT, hj⟩ := hT
    have c0 : ((nl a : Nat) : Int) ≤ ((nl a : Nat) : Int) := Int.le_refl _
    refine ⟨M, nl a, TlS.rf, hn, ⟨Nat.le_refl _, hj, tnx_end W hj, hT⟩, ?_⟩
    rw [f_X6_make_b47.eq_2]
    simp (disch := omega) only [zl_0, zl_1, zl_2, zl_3, zl_4, zl_5, zl_6, zl_7, zl_8, zl_9, zl_10, zl_11, zl_12, zl_13, zl_14, zl_15, zl_16, zl_17, zl_18, zl_19, zl_20, zl_23, zl_24, zl_31, zl_32, zl_48, zl_50, zl_53, zl_57, zl_59, zl_60, zl_99, zl_100, zl_104, zl_112, zl_114, zl_119, zl_126, zl_127, zl_181, zl_200, zl_500, zl_543, zl_724, zl_999, zl_1000, zl_5000, zl_65536, zl_100000, zl_1000001, zl_1000002, zl_1000003, zl_1000004, zl_2143289344, zI_neg, zI_add, zI_sub, zI_mul, zI_le, zI_lt, zI_eq, ck_ib, ix_nat, ixz_0, ixz_1, ixz_2, ixz_3, ixz_4, ixz_5, ixz_6, ixz_7, ixz_8, ixz_9, ixz_10, ixz_11, ixz_12, ob_some, lt_of, ck_bP, bP_z, bP_o, ite_bP, Int.reduceToNat, Nat.reduceAdd, Nat.reduceMul, Int.reduceAdd, Int.reduceSub, Int.reduceMul, Int.reduceNeg, Int.reduceEq, Int.reduceLT, Int.reduceLE, ↓reduceIte, not_true_eq_false, not_false_eq_true, R.rnl, c0]
  | succ d ih =>
    intro i fu M hk hf hT
    obtain ⟨fu, rfl⟩ : ∃ f, fu = f + 1 := ⟨fu - 1, by omega⟩
    have kk : i < nl a := by omega
    have c0 : ¬ ((nl a : Int) ≤ (i : Int)) := by omega
    obtain ⟨R, hm, hn, hx, hy, hG, hT, hj⟩ := hT
    obtain ⟨r1, r2, r3⟩ := tsn_rg W i hj
    have kn : f_X6_nearestLeft g M = some (zI (tnx a f i), M) := k_near_l W R hfr hm hG hx hy r1 r2 (nl a) 0 1000 (by omega) (by omega)
    have b := tnx_rg (a := a) (f := f) i
    by_cases c : tnx a f i = -1
    · refine ⟨M, i, TlS.rf, hn, ⟨by omega, hj, c, hT⟩, ?_⟩
      rw [c] at kn
      rw [f_X6_make_b47.eq_2]
      simp (disch := omega) only [zl_0, zl_1, zl_2, zl_3, zl_4, zl_5, zl_6, zl_7, zl_8, zl_9, zl_10, zl_11, zl_12, zl_13, zl_14, zl_15, zl_16, zl_17, zl_18, zl_19, zl_20, zl_23, zl_24, zl_31, zl_32, zl_48, zl_50, zl_53, zl_57, zl_59, zl_60, zl_99, zl_100, zl_104, zl_112, zl_114, zl_119, zl_126, zl_127, zl_181, zl_200, zl_500, zl_543, zl_724, zl_999, zl_1000, zl_5000, zl_65536, zl_100000, zl_1000001, zl_1000002, zl_1000003, zl_1000004, zl_2143289344, zI_neg, zI_add, zI_sub, zI_mul, zI_le, zI_lt, zI_eq, ck_ib, ix_nat, ixz_0, ixz_1, ixz_2, ixz_3, ixz_4, ixz_5, ixz_6, ixz_7, ixz_8, ixz_9, ixz_10, ixz_11, ixz_12, ob_some, lt_of, ck_bP, bP_z, bP_o, ite_bP, Int.reduceToNat, Nat.reduceAdd, Nat.reduceMul, Int.reduceAdd, Int.reduceSub, Int.reduceMul, Int.reduceNeg, Int.reduceEq, Int.reduceLT, Int.reduceLE, ↓reduceIte, not_true_eq_false, not_false_eq_true, R.rnl, c0, kn]
    · obtain ⟨l, hl⟩ : ∃ l : Nat, tnx a f i = l := ⟨(tnx a f i).toNat, by omega⟩
      have ell : l < nl a := by omega
      have n1 : ¬ ((l : Int) = -1) := by omega
      obtain ⟨N, e1, e2, e3, e4, e5, e6, e7, e8, e9⟩ := k_goAlong W hg R ell (by omega) hx hy hn r1 r2
      have es : tsn a f (i + 1) = tsp a f (tsn a f i) := rfl
      have et : (tix a f (tsn a f i)).toNat = l := by
        show (tnx a f i).toNat = l
        rw [hl, Int.toNat_natCast]
      have ew : twy a f i = wyl a (tsn a f i).1 (tsn a f i).2.1 l := by
        unfold twy
        rw [hl, Int.toNat_natCast]
      have s3 : (tsn a f (i + 1)).2.2.1 = (tsn a f i).2.2.1 + (nr a (tsn a f i).1 (tsn a f i).2.1 l + len a l) := by rw [es]; unfold tsp; rw [et]
      have q : TlS M (up3 N 0 11 i (zI (tsn a f (i + 1)).2.2.1)) := e1.tr (TlS.up (by omega))
      obtain ⟨P, n, p1, p2, p3, p4⟩ := ih (i + 1) fu (up3 N 0 11 i (zI (tsn a f (i + 1)).2.2.1)) (by omega) (by omega) ⟨q.rc hg R, by
          intro o ho; rw [q 0 6 (by omega)]; exact hm o ho, by
          rw [up3_cell _ _ (by omega)]; exact e2, by
          rw [up3_cell _ _ (by omega), e3, es]; unfold tsp; rw [et], by
          rw [up3_cell _ _ (by omega), e4, es]; unfold tsp; rw [et], by
          intro o ho
          rw [up3_cell _ _ (by omega), e8 o, es]
          unfold tsp
          rw [et]
          by_cases co : o = l
          · rw [if_pos co, bP_t (.inr co)]
          · rw [if_neg co, hG o ho, bP_c (show (tsn a f i).2.2.2 o ↔ ((tsn a f i).2.2.2 o ∨ o = l) from ⟨fun t => .inl t, fun t => t.resolve_right co⟩)], by
          intro j hj2
          rw [up3_cell _ _ (show ¬ (0 = 0 ∧ 9 = 11) by omega), up3_cell _ _ (show ¬ (0 = 0 ∧ 10 = 11) by omega), e5 j, e6 j]
          by_cases cj : j = i
          · subst cj
            rw [if_pos rfl, if_pos rfl, up3_at, hl, ew]
            exact ⟨rfl, rfl, rfl⟩
          · rw [if_neg cj, if_neg cj, up3_slot _ _ cj, e7 j]
            exact hT j (by omega), by
          intro j hj2
          by_cases cj : j = i
          · subst cj; exact c
          · exact hj j (by omega)⟩
      simp only [nc1] at p4
      refine ⟨P, n, q.tr p1, p2, p3, ?_⟩
      rw [hl] at kn
      rw [s3] at p4
      rw [f_X6_make_b47.eq_2]
      simp (disch := omega) only [zl_0, zl_1, zl_2, zl_3, zl_4, zl_5, zl_6, zl_7, zl_8, zl_9, zl_10, zl_11, zl_12, zl_13, zl_14, zl_15, zl_16, zl_17, zl_18, zl_19, zl_20, zl_23, zl_24, zl_31, zl_32, zl_48, zl_50, zl_53, zl_57, zl_59, zl_60, zl_99, zl_100, zl_104, zl_112, zl_114, zl_119, zl_126, zl_127, zl_181, zl_200, zl_500, zl_543, zl_724, zl_999, zl_1000, zl_5000, zl_65536, zl_100000, zl_1000001, zl_1000002, zl_1000003, zl_1000004, zl_2143289344, zI_neg, zI_add, zI_sub, zI_mul, zI_le, zI_lt, zI_eq, ck_ib, ix_nat, ixz_0, ixz_1, ixz_2, ixz_3, ixz_4, ixz_5, ixz_6, ixz_7, ixz_8, ixz_9, ixz_10, ixz_11, ixz_12, ob_some, lt_of, ck_bP, bP_z, bP_o, ite_bP, Int.reduceToNat, Nat.reduceAdd, Nat.reduceMul, Int.reduceAdd, Int.reduceSub, Int.reduceMul, Int.reduceNeg, Int.reduceEq, Int.reduceLT, Int.reduceLE, ↓reduceIte, not_true_eq_false, not_false_eq_true, R.rnl, c0, kn, n1, e9]
      exact p4
theorem k_route_i : ∀ (d k fu : Nat) (M : Mem), k + d = 16 → d < fu → (∀ l, l < k → M 0 12 l = zI 0) → ∃ N, TlS M N ∧ (∀ l, l < 16 → N 0 12 l = zI 0) ∧ N 0 8 = M 0 8 ∧ f_X6_make_b23 g fu (zI k) M = f_X6_make_b47 g 1000 (zI 0) (zI 0) N := by
  intro d
  induction d with
  | zero =>
    intro k fu M hk hf h
    obtain ⟨fu, rfl⟩ : ∃ f, fu = f + 1 := ⟨fu - 1, by omega⟩
    obtain rfl : k = 16 := by omega
    refine ⟨M, TlS.rf, h, rfl, ?_⟩
    rw [f_X6_make_b23.eq_2]
    exact if_pos (by decide)
  | succ d ih =>
    intro k fu M hk hf h
    obtain ⟨fu, rfl⟩ : ∃ f, fu = f + 1 := ⟨fu - 1, by omega⟩
    have c0 : ¬ ((16 : Int) ≤ (k : Int)) := by omega
    obtain ⟨N, e1, e2, e3, e4⟩ := ih (k + 1) fu (up3 M 0 12 k (zI 0)) (by omega) (by omega) (fun l hl => by
      by_cases c : l = k
      · subst c; rw [up3_at]
      · rw [up3_slot _ _ c]; exact h l (by omega))
    simp only [nc1] at e4
    refine ⟨N, (TlS.up (by omega)).tr e1, e2, e3.trans (up3_cell _ _ (by omega)), ?_⟩
    rw [f_X6_make_b23.eq_2]
    simp (disch := omega) only [zl_0, zl_1, zl_2, zl_3, zl_4, zl_5, zl_6, zl_7, zl_8, zl_9, zl_10, zl_11, zl_12, zl_13, zl_14, zl_15, zl_16, zl_17, zl_18, zl_19, zl_20, zl_23, zl_24, zl_31, zl_32, zl_48, zl_50, zl_53, zl_57, zl_59, zl_60, zl_99, zl_100, zl_104, zl_112, zl_114, zl_119, zl_126, zl_127, zl_181, zl_200, zl_500, zl_543, zl_724, zl_999, zl_1000, zl_5000, zl_65536, zl_100000, zl_1000001, zl_1000002, zl_1000003, zl_1000004, zl_2143289344, zI_neg, zI_add, zI_sub, zI_mul, zI_le, zI_lt, zI_eq, ck_ib, ix_nat, ixz_0, ixz_1, ixz_2, ixz_3, ixz_4, ixz_5, ixz_6, ixz_7, ixz_8, ixz_9, ixz_10, ixz_11, ixz_12, ob_some, lt_of, ck_bP, bP_z, bP_o, ite_bP, Int.reduceToNat, Nat.reduceAdd, Nat.reduceMul, Int.reduceAdd, Int.reduceSub, Int.reduceMul, Int.reduceNeg, Int.reduceEq, Int.reduceLT, Int.reduceLE, ↓reduceIte, not_true_eq_false, not_false_eq_true, c0, nar_0]
    exact e4
theorem k_route (W : WF a) (hg : g ≠ 0) (R : RC g M a) (hfr : ∀ l, -1 ≤ f l ∧ f l < 5) (hm : ∀ l, l < 16 → M 0 6 l = zI (f l)) : ∃ N n, TlS M N ∧ N 0 8 0 = zI (n : Nat) ∧ TE a f N 9 10 11 n ∧ f_X6_make g M = some ((), N) := by
  have ws := W.sc
  have q : TlS M (up3 (up3 (up3 M 0 8 0 (zI 0)) 0 8 5 (zI (a 9))) 0 8 6 (zI (a 10))) := ((TlS.up (by omega)).tr (TlS.up (by omega))).tr (TlS.up (by omega))
  obtain ⟨N, e1, e2, e3, e4⟩ := k_route_i (g := g) 16 0 1000 (up3 (up3 (up3 M 0 8 0 (zI 0)) 0 8 5 (zI (a 9))) 0 8 6 (zI (a 10))) (by omega) (by omega) (fun l h => absurd h (Nat.not_lt_zero l))
  obtain ⟨P, n, p1, p2, p3, p4⟩ := k_route_l W hg hfr (nl a) 0 1000 N (by omega) (by omega) ⟨(q.tr e1).rc hg R, by
    intro o ho; rw [(q.tr e1) 0 6 (by omega)]; exact hm o ho, by
    rw [e3]; simp (disch := omega) only [up3_at, up3_slot, up3_cell]; rfl, by
    rw [e3]; simp (disch := omega) only [up3_at, up3_slot, up3_cell]; rfl, by
    rw [e3]; simp (disch := omega) only [up3_at, up3_slot, up3_cell]; rfl, by
    intro o ho; rw [e2 o ho, bP_f (show ¬ (tsn a f 0).2.2.2 o from fun h => h)], fun j h => absurd h (Nat.not_lt_zero j), fun j h => absurd h (Nat.not_lt_zero j)⟩
  refine ⟨P, n, (q.tr e1).tr p1, p2, p3, ?_⟩
  have e5 : f_X6_make g M = f_X6_make_b23 g 1000 (zI 0) (up3 (up3 (up3 M 0 8 0 (zI 0)) 0 8 5 (zI (a 9))) 0 8 6 (zI (a 10))) := by
    unfold f_X6_make
    simp (disch := omega) only [zl_0, zl_1, zl_2, zl_3, zl_4, zl_5, zl_6, zl_7, zl_8, zl_9, zl_10, zl_11, zl_12, zl_13, zl_14, zl_15, zl_16, zl_17, zl_18, zl_19, zl_20, zl_23, zl_24, zl_31, zl_32, zl_48, zl_50, zl_53, zl_57, zl_59, zl_60, zl_99, zl_100, zl_104, zl_112, zl_114, zl_119, zl_126, zl_127, zl_181, zl_200, zl_500, zl_543, zl_724, zl_999, zl_1000, zl_5000, zl_65536, zl_100000, zl_1000001, zl_1000002, zl_1000003, zl_1000004, zl_2143289344, zI_neg, zI_add, zI_sub, zI_mul, zI_le, zI_lt, zI_eq, ck_ib, ix_nat, ixz_0, ixz_1, ixz_2, ixz_3, ixz_4, ixz_5, ixz_6, ixz_7, ixz_8, ixz_9, ixz_10, ixz_11, ixz_12, ob_some, lt_of, ck_bP, bP_z, bP_o, ite_bP, Int.reduceToNat, Nat.reduceAdd, Nat.reduceMul, Int.reduceAdd, Int.reduceSub, Int.reduceMul, Int.reduceNeg, Int.reduceEq, Int.reduceLT, Int.reduceLE, ↓reduceIte, not_true_eq_false, not_false_eq_true, up3_cell, R.t5, R.t6]
  exact e5.trans (e4.trans p4)
/-! the reference's tour -/
theorem i32_distS (G : Int32) (j l : Int32) : ((G ||| j) >>> l) &&& zI 1 = ((G >>> l) &&& zI 1) ||| ((j >>> l) &&& zI 1) := by
  rw [Int32.shiftRight_or]
  exact i32_dist _ _ _
theorem i32_orz (x y : Int32) : x ||| y = zI 0 ↔ x = zI 0 ∧ y = zI 0 := by
  constructor
  · intro h
    have e : ∀ i, (x ||| y).toBitVec.getLsbD i = false := fun i => by rw [h]; exact BitVec.getLsbD_zero
    constructor
    · apply Int32.toBitVec_inj.1
      apply BitVec.eq_of_getLsbD_eq
      intro i hi
      have t := e i
      rw [Int32.toBitVec_or, BitVec.getLsbD_or, Bool.or_eq_false_iff] at t
      rw [t.1]
      exact BitVec.getLsbD_zero.symm
    · apply Int32.toBitVec_inj.1
      apply BitVec.eq_of_getLsbD_eq
      intro i hi
      have t := e i
      rw [Int32.toBitVec_or, BitVec.getLsbD_or, Bool.or_eq_false_iff] at t
      rw [t.2]
      exact BitVec.getLsbD_zero.symm
  · rintro ⟨rfl, rfl⟩
    decide
theorem bt_sh : ∀ j : Fin 16, ∀ l : Fin 16, ((bt j.val >>> (zI (l.val : Nat) &&& zI 31)) &&& zI 1 = zI 0) ↔ l.val ≠ j.val := by decide +kernel
/-- the bits hold the set -/
def GB (G : Int32) (P : Nat → Prop) : Prop := ∀ o : Nat, o < 16 → (((G >>> (zI o &&& zI 31)) &&& zI 1 = zI 0) ↔ ¬ P o)
theorem GB.zero : GB (zI 0) (fun _ => False) := by
  intro o ho
  have h : ∀ l : Fin 16, ((zI 0 >>> (zI (l.val : Nat) &&& zI 31)) &&& zI 1 = zI 0) := by decide +kernel
  exact ⟨fun _ t => t, fun _ => h ⟨o, ho⟩⟩
theorem GB.put {G : Int32} {P : Nat → Prop} (h : GB G P) {l : Nat} (hl : l < 16) : GB (G ||| (zI 1 <<< (zI l &&& zI 31))) (fun o => P o ∨ o = l) := by
  intro o ho
  have b := bt_sh ⟨l, hl⟩ ⟨o, ho⟩
  simp only at b
  rw [i32_distS, i32_orz, h o ho]
  rw [show zI 1 <<< (zI l &&& zI 31) = bt l from rfl, b]
  constructor
  · rintro ⟨h1, h2⟩ t
    exact t.elim h1 h2
  · intro t
    exact ⟨fun q => t (.inl q), fun q => t (.inr q)⟩
noncomputable def enk (a : Row) (x y : Int) (i : Int) : Int := if i = -1 then 0 else wyl a x y i.toNat
noncomputable def nek (a : Row) (x y : Int) (i : Int) : Int := if i = -1 then 999 else nr a x y i.toNat
theorem k_tin_s (W : WF a) (R : RM S a) (L : Int32 → Int32 → Int32 → Int32 → Int32 → Int32 → Mem → Option (Int32 × Mem)) (hfr : ∀ l, -1 ≤ f l ∧ f l < 5) (hm : ∀ l, l < 16 → S 0 6 l = zI (f l)) {G : Nat → Prop} {gb : Int32} (hG : GB gb G) {x y : Int} (h3 : 0 ≤ x ∧ x ≤ 99) (h4 : 0 ≤ y ∧ y ≤ 99) (X3 X4 : Int32) {l : Nat} (kk : l < nl a) (fu : Nat) {nx en ne : Int} (r1 : 0 ≤ ne ∧ ne ≤ 999) : (Elg a f G l ∧ nr a x y l < ne → f_X8_tours_b51 L (fu + 1 + 1) (zI x) (zI y) X3 X4 gb (zI nx) (zI en) (zI ne) (zI (2 * (l : Int))) S = f_X8_tours_b51 L fu (zI x) (zI y) X3 X4 gb (zI l) (zI (wyl a x y l)) (zI (nr a x y l)) (zI (2 * (l : Int) + 1 + 1)) S) ∧ (¬ (Elg a f G l ∧ nr a x y l < ne) → f_X8_tours_b51 L (fu + 1 + 1) (zI x) (zI y) X3 X4 gb (zI nx) (zI en) (zI ne) (zI (2 * (l : Int))) S = f_X8_tours_b51 L fu (zI x) (zI y) X3 X4 gb (zI nx) (zI en) (zI ne) (zI (2 * (l : Int) + 1 + 1)) S) := by
  have ws := W.sc
  have u := hfr l
  have hk := hm l (by omega)
  have gl := hG l (by omega)
  have t0 : f_X8_far (zI x) (zI y) (zI l) (zI 0) S = some (zI (dN a x y l 0), S) := k_far W R kk (by omega) (by omega) h3 h4
  have t1 : f_X8_far (zI x) (zI y) (zI l) (zI 1) S = some (zI (dN a x y l 1), S) := k_far W R kk (by omega) (by omega) h3 h4
  have d0 := dN_rg W kk h3 h4 0
  have d1 := dN_rg W kk h3 h4 1
  have z0 : zI (2 * (l : Int)) / zI 2 = zI l := by
    have z := zI_half ⟨2 * l, by omega⟩
    simp only at z
    rw [show (2 * l / 2) = l by omega] at z
    exact z
  have z1 : zI (2 * (l : Int) + 1) / zI 2 = zI l := by
    have z := zI_half ⟨2 * l + 1, by omega⟩
    simp only at z
    rw [show ((2 * l + 1) / 2) = l by omega] at z
    exact z
  have y0 : 2 * (l : Int) - l * 2 = 0 := by omega
  have y1 : 2 * (l : Int) + 1 - l * 2 = 1 := by omega
  have c0 : ¬ (2 * (nl a : Int) ≤ 2 * (l : Int)) := by omega
  have c9 : ¬ (2 * (nl a : Int) ≤ 2 * (l : Int) + 1) := by omega
  rw [f_X8_tours_b51.eq_2]
  have s1 : ∀ (nx en ne : Int), 0 ≤ ne → ne ≤ 999 → f_X8_tours_b51 L (fu + 1) (zI x) (zI y) X3 X4 gb (zI nx) (zI en) (zI ne) (zI (2 * (l : Int) + 1)) S = @ite _ (Elg a f G l ∧ dN a x y l 1 < ne) (Classical.propDecidable _) (f_X8_tours_b51 L fu (zI x) (zI y) X3 X4 gb (zI l) (zI 1) (zI (dN a x y l 1)) (zI (2 * (l : Int) + 1 + 1)) S) (f_X8_tours_b51 L fu (zI x) (zI y) X3 X4 gb (zI nx) (zI en) (zI ne) (zI (2 * (l : Int) + 1 + 1)) S) := by
    intro nx en ne q1 q2
    rw [f_X8_tours_b51.eq_2]
    by_cases c1 : f l = a 8
    · by_cases c2 : G l
      · rw [if_neg (fun q => q.1.2 c2)]
        have c3 : ¬ ((gb >>> (zI l &&& zI 31)) &&& zI 1 = zI 0) := fun q => gl.1 q c2
        simp (disch := omega) only [zl_0, zl_1, zl_2, zl_3, zl_4, zl_5, zl_6, zl_7, zl_8, zl_9, zl_10, zl_11, zl_12, zl_13, zl_14, zl_15, zl_16, zl_17, zl_18, zl_19, zl_20, zl_23, zl_24, zl_31, zl_32, zl_48, zl_50, zl_53, zl_57, zl_59, zl_60, zl_99, zl_100, zl_104, zl_112, zl_114, zl_119, zl_126, zl_127, zl_181, zl_200, zl_500, zl_543, zl_724, zl_999, zl_1000, zl_5000, zl_65536, zl_100000, zl_1000001, zl_1000002, zl_1000003, zl_1000004, zl_2143289344, zI_neg, zI_add, zI_sub, zI_mul, zI_le, zI_lt, zI_eq, ck_ib, ix_nat, ixz_0, ixz_1, ixz_2, ixz_3, ixz_4, ixz_5, ixz_6, ixz_7, ixz_8, ixz_9, ixz_10, ixz_11, ixz_12, ob_some, lt_of, ck_bP, bP_z, bP_o, ite_bP, Int.reduceToNat, Nat.reduceAdd, Nat.reduceMul, Int.reduceAdd, Int.reduceSub, Int.reduceMul, Int.reduceNeg, Int.reduceEq, Int.reduceLT, Int.reduceLE, ↓reduceIte, not_true_eq_false, not_false_eq_true, RM.at R, ws.1.2.2.1, z1, y1, c9, hk, c1, c3, f_X8_tours_b118, f_X8_tours_b119, f_X8_tours_b143, f_X8_tours_b159, f_X8_tours_b173]
      · have c3 : ((gb >>> (zI l &&& zI 31)) &&& zI 1 = zI 0) := gl.2 c2
        by_cases c4 : dN a x y l 1 < ne
        · rw [if_pos ⟨⟨c1, c2⟩, c4⟩]
          have c5 : ¬ (ne ≤ dN a x y l 1) := by omega
          simp (disch := omega) only [zl_0, zl_1, zl_2, zl_3, zl_4, zl_5, zl_6, zl_7, zl_8, zl_9, zl_10, zl_11, zl_12, zl_13, zl_14, zl_15, zl_16, zl_17, zl_18, zl_19, zl_20, zl_23, zl_24, zl_31, zl_32, zl_48, zl_50, zl_53, zl_57, zl_59, zl_60, zl_99, zl_100, zl_104, zl_112, zl_114, zl_119, zl_126, zl_127, zl_181, zl_200, zl_500, zl_543, zl_724, zl_999, zl_1000, zl_5000, zl_65536, zl_100000, zl_1000001, zl_1000002, zl_1000003, zl_1000004, zl_2143289344, zI_neg, zI_add, zI_sub, zI_mul, zI_le, zI_lt, zI_eq, ck_ib, ix_nat, ixz_0, ixz_1, ixz_2, ixz_3, ixz_4, ixz_5, ixz_6, ixz_7, ixz_8, ixz_9, ixz_10, ixz_11, ixz_12, ob_some, lt_of, ck_bP, bP_z, bP_o, ite_bP, Int.reduceToNat, Nat.reduceAdd, Nat.reduceMul, Int.reduceAdd, Int.reduceSub, Int.reduceMul, Int.reduceNeg, Int.reduceEq, Int.reduceLT, Int.reduceLE, ↓reduceIte, not_true_eq_false, not_false_eq_true, RM.at R, ws.1.2.2.1, z1, y1, c9, hk, c1, c3, t1, c5, f_X8_tours_b118, f_X8_tours_b119, f_X8_tours_b143, f_X8_tours_b159, f_X8_tours_b173]
        · rw [if_neg (fun q => c4 q.2)]
          have c5 : (ne ≤ dN a x y l 1) := by omega
          simp (disch := omega) only [zl_0, zl_1, zl_2, zl_3, zl_4, zl_5, zl_6, zl_7, zl_8, zl_9, zl_10, zl_11, zl_12, zl_13, zl_14, zl_15, zl_16, zl_17, zl_18, zl_19, zl_20, zl_23, zl_24, zl_31, zl_32, zl_48, zl_50, zl_53, zl_57, zl_59, zl_60, zl_99, zl_100, zl_104, zl_112, zl_114, zl_119, zl_126, zl_127, zl_181, zl_200, zl_500, zl_543, zl_724, zl_999, zl_1000, zl_5000, zl_65536, zl_100000, zl_1000001, zl_1000002, zl_1000003, zl_1000004, zl_2143289344, zI_neg, zI_add, zI_sub, zI_mul, zI_le, zI_lt, zI_eq, ck_ib, ix_nat, ixz_0, ixz_1, ixz_2, ixz_3, ixz_4, ixz_5, ixz_6, ixz_7, ixz_8, ixz_9, ixz_10, ixz_11, ixz_12, ob_some, lt_of, ck_bP, bP_z, bP_o, ite_bP, Int.reduceToNat, Nat.reduceAdd, Nat.reduceMul, Int.reduceAdd, Int.reduceSub, Int.reduceMul, Int.reduceNeg, Int.reduceEq, Int.reduceLT, Int.reduceLE, ↓reduceIte, not_true_eq_false, not_false_eq_true, RM.at R, ws.1.2.2.1, z1, y1, c9, hk, c1, c3, t1, c5, f_X8_tours_b118, f_X8_tours_b119, f_X8_tours_b143, f_X8_tours_b159, f_X8_tours_b173]
    · rw [if_neg (fun q => c1 q.1.1)]
      simp (disch := omega) only [zl_0, zl_1, zl_2, zl_3, zl_4, zl_5, zl_6, zl_7, zl_8, zl_9, zl_10, zl_11, zl_12, zl_13, zl_14, zl_15, zl_16, zl_17, zl_18, zl_19, zl_20, zl_23, zl_24, zl_31, zl_32, zl_48, zl_50, zl_53, zl_57, zl_59, zl_60, zl_99, zl_100, zl_104, zl_112, zl_114, zl_119, zl_126, zl_127, zl_181, zl_200, zl_500, zl_543, zl_724, zl_999, zl_1000, zl_5000, zl_65536, zl_100000, zl_1000001, zl_1000002, zl_1000003, zl_1000004, zl_2143289344, zI_neg, zI_add, zI_sub, zI_mul, zI_le, zI_lt, zI_eq, ck_ib, ix_nat, ixz_0, ixz_1, ixz_2, ixz_3, ixz_4, ixz_5, ixz_6, ixz_7, ixz_8, ixz_9, ixz_10, ixz_11, ixz_12, ob_some, lt_of, ck_bP, bP_z, bP_o, ite_bP, Int.reduceToNat, Nat.reduceAdd, Nat.reduceMul, Int.reduceAdd, Int.reduceSub, Int.reduceMul, Int.reduceNeg, Int.reduceEq, Int.reduceLT, Int.reduceLE, ↓reduceIte, not_true_eq_false, not_false_eq_true, RM.at R, ws.1.2.2.1, z1, y1, c9, hk, c1, f_X8_tours_b118, f_X8_tours_b119, f_X8_tours_b143, f_X8_tours_b159, f_X8_tours_b173]
  by_cases c1 : f l = a 8
  · by_cases c2 : G l
    · refine ⟨fun q => absurd c2 q.1.2, fun _ => ?_⟩
      have c3 : ¬ ((gb >>> (zI l &&& zI 31)) &&& zI 1 = zI 0) := fun q => gl.1 q c2
      have e := s1 nx en ne (by omega) (by omega)
      rw [if_neg (fun q => q.1.2 c2)] at e
      rw [← e]
      simp (disch := omega) only [zl_0, zl_1, zl_2, zl_3, zl_4, zl_5, zl_6, zl_7, zl_8, zl_9, zl_10, zl_11, zl_12, zl_13, zl_14, zl_15, zl_16, zl_17, zl_18, zl_19, zl_20, zl_23, zl_24, zl_31, zl_32, zl_48, zl_50, zl_53, zl_57, zl_59, zl_60, zl_99, zl_100, zl_104, zl_112, zl_114, zl_119, zl_126, zl_127, zl_181, zl_200, zl_500, zl_543, zl_724, zl_999, zl_1000, zl_5000, zl_65536, zl_100000, zl_1000001, zl_1000002, zl_1000003, zl_1000004, zl_2143289344, zI_neg, zI_add, zI_sub, zI_mul, zI_le, zI_lt, zI_eq, ck_ib, ix_nat, ixz_0, ixz_1, ixz_2, ixz_3, ixz_4, ixz_5, ixz_6, ixz_7, ixz_8, ixz_9, ixz_10, ixz_11, ixz_12, ob_some, lt_of, ck_bP, bP_z, bP_o, ite_bP, Int.reduceToNat, Nat.reduceAdd, Nat.reduceMul, Int.reduceAdd, Int.reduceSub, Int.reduceMul, Int.reduceNeg, Int.reduceEq, Int.reduceLT, Int.reduceLE, ↓reduceIte, not_true_eq_false, not_false_eq_true, RM.at R, ws.1.2.2.1, z0, y0, c0, hk, c1, c3, f_X8_tours_b118, f_X8_tours_b119, f_X8_tours_b143, f_X8_tours_b159, f_X8_tours_b173]
    · have c3 : ((gb >>> (zI l &&& zI 31)) &&& zI 1 = zI 0) := gl.2 c2
      by_cases c4 : dN a x y l 0 < ne
      · have c5 : ¬ (ne ≤ dN a x y l 0) := by omega
        refine ⟨fun _ => ?_, fun q => absurd ⟨⟨c1, c2⟩, by unfold nr; omega⟩ q⟩
        have e := s1 l 0 (dN a x y l 0) (by omega) (by omega)
        by_cases c6 : dN a x y l 1 < dN a x y l 0
        · rw [if_pos ⟨⟨c1, c2⟩, c6⟩] at e
          rw [show wyl a x y l = 1 by unfold wyl; rw [if_pos c6], show nr a x y l = dN a x y l 1 by unfold nr; omega, ← e]
          simp (disch := omega) only [zl_0, zl_1, zl_2, zl_3, zl_4, zl_5, zl_6, zl_7, zl_8, zl_9, zl_10, zl_11, zl_12, zl_13, zl_14, zl_15, zl_16, zl_17, zl_18, zl_19, zl_20, zl_23, zl_24, zl_31, zl_32, zl_48, zl_50, zl_53, zl_57, zl_59, zl_60, zl_99, zl_100, zl_104, zl_112, zl_114, zl_119, zl_126, zl_127, zl_181, zl_200, zl_500, zl_543, zl_724, zl_999, zl_1000, zl_5000, zl_65536, zl_100000, zl_1000001, zl_1000002, zl_1000003, zl_1000004, zl_2143289344, zI_neg, zI_add, zI_sub, zI_mul, zI_le, zI_lt, zI_eq, ck_ib, ix_nat, ixz_0, ixz_1, ixz_2, ixz_3, ixz_4, ixz_5, ixz_6, ixz_7, ixz_8, ixz_9, ixz_10, ixz_11, ixz_12, ob_some, lt_of, ck_bP, bP_z, bP_o, ite_bP, Int.reduceToNat, Nat.reduceAdd, Nat.reduceMul, Int.reduceAdd, Int.reduceSub, Int.reduceMul, Int.reduceNeg, Int.reduceEq, Int.reduceLT, Int.reduceLE, ↓reduceIte, not_true_eq_false, not_false_eq_true, RM.at R, ws.1.2.2.1, z0, y0, c0, hk, c1, c3, t0, c5, f_X8_tours_b118, f_X8_tours_b119, f_X8_tours_b143, f_X8_tours_b159, f_X8_tours_b173]
        · rw [if_neg (fun q => c6 q.2)] at e
          rw [show wyl a x y l = 0 by unfold wyl; rw [if_neg c6], show nr a x y l = dN a x y l 0 by unfold nr; omega, ← e]
          simp (disch := omega) only [zl_0, zl_1, zl_2, zl_3, zl_4, zl_5, zl_6, zl_7, zl_8, zl_9, zl_10, zl_11, zl_12, zl_13, zl_14, zl_15, zl_16, zl_17, zl_18, zl_19, zl_20, zl_23, zl_24, zl_31, zl_32, zl_48, zl_50, zl_53, zl_57, zl_59, zl_60, zl_99, zl_100, zl_104, zl_112, zl_114, zl_119, zl_126, zl_127, zl_181, zl_200, zl_500, zl_543, zl_724, zl_999, zl_1000, zl_5000, zl_65536, zl_100000, zl_1000001, zl_1000002, zl_1000003, zl_1000004, zl_2143289344, zI_neg, zI_add, zI_sub, zI_mul, zI_le, zI_lt, zI_eq, ck_ib, ix_nat, ixz_0, ixz_1, ixz_2, ixz_3, ixz_4, ixz_5, ixz_6, ixz_7, ixz_8, ixz_9, ixz_10, ixz_11, ixz_12, ob_some, lt_of, ck_bP, bP_z, bP_o, ite_bP, Int.reduceToNat, Nat.reduceAdd, Nat.reduceMul, Int.reduceAdd, Int.reduceSub, Int.reduceMul, Int.reduceNeg, Int.reduceEq, Int.reduceLT, Int.reduceLE, ↓reduceIte, not_true_eq_false, not_false_eq_true, RM.at R, ws.1.2.2.1, z0, y0, c0, hk, c1, c3, t0, c5, f_X8_tours_b118, f_X8_tours_b119, f_X8_tours_b143, f_X8_tours_b159, f_X8_tours_b173]
      · have c5 : (ne ≤ dN a x y l 0) := by omega
        have e := s1 nx en ne (by omega) (by omega)
        have st : f_X8_tours_b51 L (fu + 1 + 1) (zI x) (zI y) X3 X4 gb (zI nx) (zI en) (zI ne) (zI (2 * (l : Int))) S = f_X8_tours_b51 L (fu + 1) (zI x) (zI y) X3 X4 gb (zI nx) (zI en) (zI ne) (zI (2 * (l : Int) + 1)) S := by
          rw [f_X8_tours_b51.eq_2]
          simp (disch := omega) only [zl_0, zl_1, zl_2, zl_3, zl_4, zl_5, zl_6, zl_7, zl_8, zl_9, zl_10, zl_11, zl_12, zl_13, zl_14, zl_15, zl_16, zl_17, zl_18, zl_19, zl_20, zl_23, zl_24, zl_31, zl_32, zl_48, zl_50, zl_53, zl_57, zl_59, zl_60, zl_99, zl_100, zl_104, zl_112, zl_114, zl_119, zl_126, zl_127, zl_181, zl_200, zl_500, zl_543, zl_724, zl_999, zl_1000, zl_5000, zl_65536, zl_100000, zl_1000001, zl_1000002, zl_1000003, zl_1000004, zl_2143289344, zI_neg, zI_add, zI_sub, zI_mul, zI_le, zI_lt, zI_eq, ck_ib, ix_nat, ixz_0, ixz_1, ixz_2, ixz_3, ixz_4, ixz_5, ixz_6, ixz_7, ixz_8, ixz_9, ixz_10, ixz_11, ixz_12, ob_some, lt_of, ck_bP, bP_z, bP_o, ite_bP, Int.reduceToNat, Nat.reduceAdd, Nat.reduceMul, Int.reduceAdd, Int.reduceSub, Int.reduceMul, Int.reduceNeg, Int.reduceEq, Int.reduceLT, Int.reduceLE, ↓reduceIte, not_true_eq_false, not_false_eq_true, RM.at R, ws.1.2.2.1, z0, y0, c0, hk, c1, c3, t0, c5, f_X8_tours_b118, f_X8_tours_b119, f_X8_tours_b143, f_X8_tours_b159, f_X8_tours_b173]
        rw [← f_X8_tours_b51.eq_2, st, e]
        by_cases c6 : dN a x y l 1 < ne
        · rw [if_pos ⟨⟨c1, c2⟩, c6⟩]
          refine ⟨fun _ => ?_, fun q => absurd ⟨⟨c1, c2⟩, by unfold nr; omega⟩ q⟩
          rw [show wyl a x y l = 1 by unfold wyl; rw [if_pos (by omega)], show nr a x y l = dN a x y l 1 by unfold nr; omega]
        · rw [if_neg (fun q => c6 q.2)]
          refine ⟨fun q => absurd q.2 (by unfold nr; omega), fun _ => rfl⟩
  · refine ⟨fun q => absurd q.1.1 c1, fun _ => ?_⟩
    have e := s1 nx en ne (by omega) (by omega)
    rw [if_neg (fun q => c1 q.1.1)] at e
    rw [← e]
    simp (disch := omega) only [zl_0, zl_1, zl_2, zl_3, zl_4, zl_5, zl_6, zl_7, zl_8, zl_9, zl_10, zl_11, zl_12, zl_13, zl_14, zl_15, zl_16, zl_17, zl_18, zl_19, zl_20, zl_23, zl_24, zl_31, zl_32, zl_48, zl_50, zl_53, zl_57, zl_59, zl_60, zl_99, zl_100, zl_104, zl_112, zl_114, zl_119, zl_126, zl_127, zl_181, zl_200, zl_500, zl_543, zl_724, zl_999, zl_1000, zl_5000, zl_65536, zl_100000, zl_1000001, zl_1000002, zl_1000003, zl_1000004, zl_2143289344, zI_neg, zI_add, zI_sub, zI_mul, zI_le, zI_lt, zI_eq, ck_ib, ix_nat, ixz_0, ixz_1, ixz_2, ixz_3, ixz_4, ixz_5, ixz_6, ixz_7, ixz_8, ixz_9, ixz_10, ixz_11, ixz_12, ob_some, lt_of, ck_bP, bP_z, bP_o, ite_bP, Int.reduceToNat, Nat.reduceAdd, Nat.reduceMul, Int.reduceAdd, Int.reduceSub, Int.reduceMul, Int.reduceNeg, Int.reduceEq, Int.reduceLT, Int.reduceLE, ↓reduceIte, not_true_eq_false, not_false_eq_true, RM.at R, ws.1.2.2.1, z0, y0, c0, hk, c1, f_X8_tours_b118, f_X8_tours_b119, f_X8_tours_b143, f_X8_tours_b159, f_X8_tours_b173]
theorem k_tin_l (W : WF a) (R : RM S a) (L : Int32 → Int32 → Int32 → Int32 → Int32 → Int32 → Mem → Option (Int32 × Mem)) (hfr : ∀ l, -1 ≤ f l ∧ f l < 5) (hm : ∀ l, l < 16 → S 0 6 l = zI (f l)) {G : Nat → Prop} {gb : Int32} (hG : GB gb G) {x y : Int} (h3 : 0 ≤ x ∧ x ≤ 99) (h4 : 0 ≤ y ∧ y ≤ 99) (X3 X4 : Int32) {j : Int} (hj : nst a f x y G (nl a) = j) : ∀ (d k fu : Nat), k + d = nl a → 2 * d < fu → f_X8_tours_b51 L fu (zI x) (zI y) X3 X4 gb (zI (nst a f x y G k)) (zI (enk a x y (nst a f x y G k))) (zI (nek a x y (nst a f x y G k))) (zI (2 * (k : Int))) S = f_X8_tours_b191 L (zI x) (zI y) X3 X4 gb (zI j) (zI (enk a x y j)) (zI (nek a x y j)) (zI (if j = -1 then 0 else 1)) S := by
  intro d
  have ws := W.sc
  induction d with
  | zero =>
    intro k fu hk hf
    obtain ⟨fu, rfl⟩ : ∃ f, fu = f + 1 := ⟨fu - 1, by omega⟩
    obtain rfl : k = nl a := by omega
    have q := nst_rg (a := a) (f := f) x y G (nl a)
    rw [f_X8_tours_b51.eq_2, hj]
    rw [hj] at q
    by_cases c : j = -1
    · rw [if_pos c]
      simp (disch := omega) only [zl_0, zl_1, zl_2, zl_3, zl_4, zl_5, zl_6, zl_7, zl_8, zl_9, zl_10, zl_11, zl_12, zl_13, zl_14, zl_15, zl_16, zl_17, zl_18, zl_19, zl_20, zl_23, zl_24, zl_31, zl_32, zl_48, zl_50, zl_53, zl_57, zl_59, zl_60, zl_99, zl_100, zl_104, zl_112, zl_114, zl_119, zl_126, zl_127, zl_181, zl_200, zl_500, zl_543, zl_724, zl_999, zl_1000, zl_5000, zl_65536, zl_100000, zl_1000001, zl_1000002, zl_1000003, zl_1000004, zl_2143289344, zI_neg, zI_add, zI_sub, zI_mul, zI_le, zI_lt, zI_eq, ck_ib, ix_nat, ixz_0, ixz_1, ixz_2, ixz_3, ixz_4, ixz_5, ixz_6, ixz_7, ixz_8, ixz_9, ixz_10, ixz_11, ixz_12, ob_some, lt_of, ck_bP, bP_z, bP_o, ite_bP, Int.reduceToNat, Nat.reduceAdd, Nat.reduceMul, Int.reduceAdd, Int.reduceSub, Int.reduceMul, Int.reduceNeg, Int.reduceEq, Int.reduceLT, Int.reduceLE, ↓reduceIte, not_true_eq_false, not_false_eq_true, RM.at R, ws.1.2.2.1, Int.le_refl, c]
    · rw [if_neg c]
      have c2 : ¬ (j < 0) := by omega
      simp (disch := omega) only [zl_0, zl_1, zl_2, zl_3, zl_4, zl_5, zl_6, zl_7, zl_8, zl_9, zl_10, zl_11, zl_12, zl_13, zl_14, zl_15, zl_16, zl_17, zl_18, zl_19, zl_20, zl_23, zl_24, zl_31, zl_32, zl_48, zl_50, zl_53, zl_57, zl_59, zl_60, zl_99, zl_100, zl_104, zl_112, zl_114, zl_119, zl_126, zl_127, zl_181, zl_200, zl_500, zl_543, zl_724, zl_999, zl_1000, zl_5000, zl_65536, zl_100000, zl_1000001, zl_1000002, zl_1000003, zl_1000004, zl_2143289344, zI_neg, zI_add, zI_sub, zI_mul, zI_le, zI_lt, zI_eq, ck_ib, ix_nat, ixz_0, ixz_1, ixz_2, ixz_3, ixz_4, ixz_5, ixz_6, ixz_7, ixz_8, ixz_9, ixz_10, ixz_11, ixz_12, ob_some, lt_of, ck_bP, bP_z, bP_o, ite_bP, Int.reduceToNat, Nat.reduceAdd, Nat.reduceMul, Int.reduceAdd, Int.reduceSub, Int.reduceMul, Int.reduceNeg, Int.reduceEq, Int.reduceLT, Int.reduceLE, ↓reduceIte, not_true_eq_false, not_false_eq_true, RM.at R, ws.1.2.2.1, Int.le_refl, c2]
  | succ d ih =>
    intro k fu hk hf
    obtain ⟨fu, rfl⟩ : ∃ f, fu = f + 1 + 1 := ⟨fu - 2, by omega⟩
    have kk : k < nl a := by omega
    have e := ih (k + 1) fu (by omega) (by omega)
    rw [← e, show 2 * ((k + 1 : Nat) : Int) = 2 * (k : Int) + 1 + 1 by omega]
    have q := nst_rg (a := a) (f := f) x y G k
    have dk0 := dN_rg W kk h3 h4 0
    have dk1 := dN_rg W kk h3 h4 1
    have nb : 0 ≤ nek a x y (nst a f x y G k) ∧ nek a x y (nst a f x y G k) ≤ 999 := by
      unfold nek
      split
      · omega
      · have dl0 := dN_rg W (show (nst a f x y G k).toNat < nl a by omega) h3 h4 0
        have dl1 := dN_rg W (show (nst a f x y G k).toNat < nl a by omega) h3 h4 1
        unfold nr
        omega
    have s := k_tin_s W R L hfr hm hG h3 h4 X3 X4 kk fu (nx := nst a f x y G k) (en := enk a x y (nst a f x y G k)) nb
    have iff : (nst a f x y G k = -1 ∨ nr a x y k < nr a x y (nst a f x y G k).toNat) ↔ nr a x y k < nek a x y (nst a f x y G k) := by
      unfold nek
      by_cases c : nst a f x y G k = -1
      · rw [if_pos c]
        exact ⟨fun _ => by unfold nr; omega, fun _ => .inl c⟩
      · rw [if_neg c]
        exact ⟨fun t => t.resolve_left c, .inr⟩
    by_cases c : Elg a f G k ∧ nr a x y k < nek a x y (nst a f x y G k)
    · have en : nst a f x y G (k + 1) = k := by
        simp only [nst]
        rw [if_pos ⟨c.1, iff.2 c.2⟩]
      rw [s.1 c, en]
      unfold enk nek
      rw [if_neg (by omega), if_neg (by omega), Int.toNat_natCast]
    · have en : nst a f x y G (k + 1) = nst a f x y G k := by
        simp only [nst]
        rw [if_neg (fun t => c ⟨t.1, iff.1 t.2⟩)]
      rw [s.2 c, en]
theorem k_tours_l (W : WF a) (hfr : ∀ l, -1 ≤ f l ∧ f l < 5) : ∀ (d n fu : Nat) (S : Mem) (gb : Int32), n + d = nl a → d + 2 ≤ fu → RM S a → (∀ l, l < 16 → S 0 6 l = zI (f l)) → GB gb (tsn a f n).2.2.2 → TF a f S 8 9 10 n → (∀ j, j < n → tnx a f j ≠ -1) → ∃ T o, TlS S T ∧ TE a f T 8 9 10 o ∧ f_X8_tours_b32 fu (zI (tsn a f n).1) (zI (tsn a f n).2.1) (zI n) (zI (tsn a f n).2.2.1) gb (zI 1) S = some (zI (o : Nat), T) := by
  intro d
  have ws := W.sc
  induction d with
  | zero =>
    intro n fu S gb hn hf R hm hG hT hj
    obtain ⟨fu, rfl⟩ : ∃ f, fu = f + 1 + 1 := ⟨fu - 2, by omega⟩
    obtain rfl : n = nl a := by omega
    have c := tnx_end W hj
    obtain ⟨r1, r2, r3⟩ := tsn_rg W _ hj
    refine ⟨S, nl a, TlS.rf, ⟨Nat.le_refl _, hj, c, hT⟩, ?_⟩
    have e := k_tin_l W R (f_X8_tours_b32 (fu + 1)) hfr hm hG r1 r2 (zI (nl a)) (zI (tsn a f (nl a)).2.2.1) (j := -1) c (nl a) 0 1000 (by omega) (by omega)
    rw [f_X8_tours_b32.eq_2]
    refine (if_neg (by decide)).trans (e.trans ?_)
    unfold f_X8_tours_b191 f_X8_tours_b274
    rw [if_pos rfl, zl_0, if_pos rfl, f_X8_tours_b32.eq_2]
    exact if_pos rfl
  | succ d ih =>
    intro n fu S gb hn hf R hm hG hT hj
    obtain ⟨fu, rfl⟩ : ∃ f, fu = f + 1 + 1 := ⟨fu - 2, by omega⟩
    obtain ⟨r1, r2, r3⟩ := tsn_rg W _ hj
    have b := tnx_rg (a := a) (f := f) n
    have e := k_tin_l W R (f_X8_tours_b32 (fu + 1)) hfr hm hG r1 r2 (zI n) (zI (tsn a f n).2.2.1) (j := tnx a f n) rfl (nl a) 0 1000 (by omega) (by omega)
    have e0 : f_X8_tours_b32 (fu + 1 + 1) (zI (tsn a f n).1) (zI (tsn a f n).2.1) (zI n) (zI (tsn a f n).2.2.1) gb (zI 1) S = f_X8_tours_b191 (f_X8_tours_b32 (fu + 1)) (zI (tsn a f n).1) (zI (tsn a f n).2.1) (zI n) (zI (tsn a f n).2.2.1) gb (zI (tnx a f n)) (zI (enk a (tsn a f n).1 (tsn a f n).2.1 (tnx a f n))) (zI (nek a (tsn a f n).1 (tsn a f n).2.1 (tnx a f n))) (zI (if tnx a f n = -1 then 0 else 1)) S := by
      rw [f_X8_tours_b32.eq_2]
      exact (if_neg (by decide)).trans e
    rw [e0]
    by_cases c : tnx a f n = -1
    · refine ⟨S, n, TlS.rf, ⟨by omega, hj, c, hT⟩, ?_⟩
      unfold f_X8_tours_b191 f_X8_tours_b274
      rw [if_pos c, zl_0, if_pos rfl, f_X8_tours_b32.eq_2]
      exact if_pos rfl
    · obtain ⟨l, hl⟩ : ∃ l : Nat, tnx a f n = l := ⟨(tnx a f n).toNat, by omega⟩
      have ell : l < nl a := by omega
      have n16 : n < 16 := by have := tnx_lt W hj c; omega
      have es : tsn a f (n + 1) = tsp a f (tsn a f n) := rfl
      have et : (tix a f (tsn a f n)).toNat = l := by
        show (tnx a f n).toNat = l
        rw [hl, Int.toNat_natCast]
      have ew : twy a f n = wyl a (tsn a f n).1 (tsn a f n).2.1 l := by
        unfold twy
        rw [hl, Int.toNat_natCast]
      have wr := wyl_rg (a := a) (tsn a f n).1 (tsn a f n).2.1 l
      have s1 : (tsn a f (n + 1)).1 = bX a l (1 - wyl a (tsn a f n).1 (tsn a f n).2.1 l) := by rw [es]; unfold tsp; rw [et]
      have s2 : (tsn a f (n + 1)).2.1 = bY a l (1 - wyl a (tsn a f n).1 (tsn a f n).2.1 l) := by rw [es]; unfold tsp; rw [et]
      have s3 : (tsn a f (n + 1)).2.2.1 = (tsn a f n).2.2.1 + (nr a (tsn a f n).1 (tsn a f n).2.1 l + len a l) := by rw [es]; unfold tsp; rw [et]
      have q : TlS S (up3 (up3 (up3 S 0 8 n (zI l)) 0 9 n (zI (wyl a (tsn a f n).1 (tsn a f n).2.1 l))) 0 10 n (zI ((tsn a f n).2.2.1 + (nr a (tsn a f n).1 (tsn a f n).2.1 l + len a l)))) := ((TlS.up (by omega)).tr (TlS.up (by omega))).tr (TlS.up (by omega))
      obtain ⟨T, o, p1, p2, p3⟩ := ih (n + 1) (fu + 1) _ (gb ||| (zI 1 <<< (zI l &&& zI 31))) (by omega) (by omega) (q.rm R) (by
          intro o ho; rw [q 0 6 (by omega)]; exact hm o ho) (by
          rw [es]
          have := hG.put (l := l) (by omega)
          unfold tsp
          rw [et]
          exact this) (by
          intro j hj2
          by_cases cj : j = n
          · subst cj
            rw [s3, ew, hl]
            simp (disch := omega) only [up3_at, up3_cell, and_self]
          · simp (disch := omega) only [up3_slot, up3_cell]
            exact hT j (by omega)) (by
          intro j hj2
          by_cases cj : j = n
          · subst cj; exact c
          · exact hj j (by omega))
      simp only [nc1] at p3
      refine ⟨T, o, q.tr p1, p2, ?_⟩
      rw [← p3, s1, s2, s3]
      have en : enk a (tsn a f n).1 (tsn a f n).2.1 (tnx a f n) = wyl a (tsn a f n).1 (tsn a f n).2.1 l := by unfold enk; rw [if_neg c, hl, Int.toNat_natCast]
      have em : nek a (tsn a f n).1 (tsn a f n).2.1 (tnx a f n) = nr a (tsn a f n).1 (tsn a f n).2.1 l := by unfold nek; rw [if_neg c, hl, Int.toNat_natCast]
      rw [en, em, if_neg c, hl]
      generalize wyl a (tsn a f n).1 (tsn a f n).2.1 l = w at *
      have R3 := q.rm R
      have k1 := k_ln R3 (l := l) (w := 2 - 2 * w) (by omega) (by omega) (by omega)
      have k2 := k_ln R3 (l := l) (w := 3 - 2 * w) (by omega) (by omega) (by omega)
      have x1 : la a l (2 - 2 * w).toNat = bX a l (1 - w) := by
        unfold bX
        rcases (by omega : w = 0 ∨ w = 1) with rfl | rfl
        · rw [if_neg (by omega)]; rfl
        · rw [if_pos (by omega)]; rfl
      have x2 : la a l (3 - 2 * w).toNat = bY a l (1 - w) := by
        unfold bY
        rcases (by omega : w = 0 ∨ w = 1) with rfl | rfl
        · rw [if_neg (by omega)]; rfl
        · rw [if_pos (by omega)]; rfl
      rw [x1] at k1
      rw [x2] at k2
      unfold f_X8_tours_b191 f_X8_tours_b274
      simp (disch := omega) only [zl_0, zl_1, zl_2, zl_3, zl_4, zl_5, zl_6, zl_7, zl_8, zl_9, zl_10, zl_11, zl_12, zl_13, zl_14, zl_15, zl_16, zl_17, zl_18, zl_19, zl_20, zl_23, zl_24, zl_31, zl_32, zl_48, zl_50, zl_53, zl_57, zl_59, zl_60, zl_99, zl_100, zl_104, zl_112, zl_114, zl_119, zl_126, zl_127, zl_181, zl_200, zl_500, zl_543, zl_724, zl_999, zl_1000, zl_5000, zl_65536, zl_100000, zl_1000001, zl_1000002, zl_1000003, zl_1000004, zl_2143289344, zI_neg, zI_add, zI_sub, zI_mul, zI_le, zI_lt, zI_eq, ck_ib, ix_nat, ixz_0, ixz_1, ixz_2, ixz_3, ixz_4, ixz_5, ixz_6, ixz_7, ixz_8, ixz_9, ixz_10, ixz_11, ixz_12, ob_some, lt_of, ck_bP, bP_z, bP_o, ite_bP, Int.reduceToNat, Nat.reduceAdd, Nat.reduceMul, Int.reduceAdd, Int.reduceSub, Int.reduceMul, Int.reduceNeg, Int.reduceEq, Int.reduceLT, Int.reduceLE, ↓reduceIte, not_true_eq_false, not_false_eq_true, k_length W R ell, k1, k2]
theorem k_tours (W : WF a) (R : RM S a) : ∃ T o, FS S T ∧ TE a (fpl a (nl a)).1 T 8 9 10 o ∧ f_X8_tours S = some (zI (o : Nat), T) := by
  have ws := W.sc
  obtain ⟨T, t1, t2, t3, t4⟩ := k_plans W R
  obtain ⟨f1, f2⟩ := fpl_rg W (nl a)
  obtain ⟨V, o, v1, v2, v3⟩ := k_tours_l W f1 (nl a) 0 1000 T (zI 0) (by omega) (by omega) (t1.rm R) t3 GB.zero (fun j h => absurd h (Nat.not_lt_zero j)) (fun j h => absurd h (Nat.not_lt_zero j))
  refine ⟨V, o, t1.fs.tr v1.fs, v2, ?_⟩
  unfold f_X8_tours
  rw [ob_of t4]
  simp (disch := omega) only [zl_0, zl_1, zl_2, zl_3, zl_4, zl_5, zl_6, zl_7, zl_8, zl_9, zl_10, zl_11, zl_12, zl_13, zl_14, zl_15, zl_16, zl_17, zl_18, zl_19, zl_20, zl_23, zl_24, zl_31, zl_32, zl_48, zl_50, zl_53, zl_57, zl_59, zl_60, zl_99, zl_100, zl_104, zl_112, zl_114, zl_119, zl_126, zl_127, zl_181, zl_200, zl_500, zl_543, zl_724, zl_999, zl_1000, zl_5000, zl_65536, zl_100000, zl_1000001, zl_1000002, zl_1000003, zl_1000004, zl_2143289344, zI_neg, zI_add, zI_sub, zI_mul, zI_le, zI_lt, zI_eq, ck_ib, ix_nat, ixz_0, ixz_1, ixz_2, ixz_3, ixz_4, ixz_5, ixz_6, ixz_7, ixz_8, ixz_9, ixz_10, ixz_11, ixz_12, ob_some, lt_of, ck_bP, bP_z, bP_o, ite_bP, Int.reduceToNat, Nat.reduceAdd, Nat.reduceMul, Int.reduceAdd, Int.reduceSub, Int.reduceMul, Int.reduceNeg, Int.reduceEq, Int.reduceLT, Int.reduceLE, ↓reduceIte, not_true_eq_false, not_false_eq_true, RM.at (t1.rm R)]
  exact v3
theorem q_tour (W : WF a) (R : RC 1 M a) (Q : RM S a) (x y : Int32) : Q3 (f_X7_tour x y M) (f_X8_tour x y S) M S := by
  obtain ⟨z, h1, h2, rfl⟩ := zI_ex x
  obtain ⟨v, h3, h4, rfl⟩ := zI_ex y
  have ws := W.sc
  unfold f_X7_tour f_X7_tour_b13 f_X8_tour f_X8_tour_b13
  by_cases c : z < 0
  · rw [zl_0, if_pos ((zI_lt h1 h2 (by omega) (by omega)).2 c), if_pos ((zI_lt h1 h2 (by omega) (by omega)).2 c)]
    exact ⟨_, M, S, rfl, rfl, FC.rf, FS.rf⟩
  · have c2 : ¬ (zI z < zI 0) := fun q => c ((zI_lt h1 h2 (by omega) (by omega)).1 q)
    have k1 : f_X7_isIn (zI v) (zI 0) (zI 2) M = some (zI (bP (0 ≤ v ∧ v ≤ 2)), M) := k_isIn h3 h4 (by omega) (by omega) (by omega) (by omega)
    have k2 : f_X8_in (zI v) (zI 0) (zI 2) S = some (zI (bP (0 ≤ v ∧ v ≤ 2)), S) := k_in h3 h4 (by omega) (by omega) (by omega) (by omega)
    rw [zl_0, zl_2, if_neg c2, if_neg c2, ob_of k1, ob_of k2]
    by_cases d : 0 ≤ v ∧ v ≤ 2
    · rw [bP_t d, if_neg (show ¬ (zI 1 = zI 0) by decide), if_neg (show ¬ (zI 1 = zI 0) by decide), R.t4, show S 0 1 (ix 8) = zI (a 8) by rw [zl_8, ixz_8]; exact Q 8 (by omega)]
      by_cases e : a 8 = -1
      · rw [e, if_pos (show zI (-1) = -1 by decide), if_neg (show ¬ (zI 0 ≤ zI (-1)) by decide)]
        exact ⟨_, M, S, rfl, rfl, FC.rf, FS.rf⟩
      · have n1 : ¬ (zI (a 8) = -1) := by rw [zm_1, zI_eq (by omega) (by omega) (by omega) (by omega)]; exact e
        have n2 : zI 0 ≤ zI (a 8) := by rw [zI_le (by omega) (by omega) (by omega) (by omega)]; omega
        rw [if_neg n1, if_pos n2]
        obtain ⟨f1, f2⟩ := fpl_rg W (nl a)
        obtain ⟨N, n1, n2, n3⟩ := k_make W (by decide) R
        obtain ⟨P, n, p1, p2, p3, p4⟩ := k_route W (by decide) (n1.rc (by decide) R) f1 n2.1
        obtain ⟨T, o, t1, t2, t3⟩ := k_tours W Q
        obtain rfl := p3.eq t2
        rw [ob_of n3, ob_of p4, ob_of t3, p2]
        have nb := p3.1
        by_cases i : z < n
        · obtain ⟨j, rfl⟩ : ∃ p : Nat, z = p := ⟨z.toNat, by omega⟩
          have u := p3.2.2.2 j (by omega)
          have w := t2.2.2.2 j (by omega)
          rcases (by omega : v = 0 ∨ v = 1 ∨ v = 2) with rfl | rfl | rfl
          · refine ⟨zI (tnx a (fpl a (nl a)).1 j), P, T, ?_, ?_, n1.fc.tr p1.fc, t1⟩
            · simp (disch := omega) only [zl_0, zl_1, zl_2, zl_3, zl_4, zl_5, zl_6, zl_7, zl_8, zl_9, zl_10, zl_11, zl_12, zl_13, zl_14, zl_15, zl_16, zl_17, zl_18, zl_19, zl_20, zl_23, zl_24, zl_31, zl_32, zl_48, zl_50, zl_53, zl_57, zl_59, zl_60, zl_99, zl_100, zl_104, zl_112, zl_114, zl_119, zl_126, zl_127, zl_181, zl_200, zl_500, zl_543, zl_724, zl_999, zl_1000, zl_5000, zl_65536, zl_100000, zl_1000001, zl_1000002, zl_1000003, zl_1000004, zl_2143289344, zI_neg, zI_add, zI_sub, zI_mul, zI_le, zI_lt, zI_eq, ck_ib, ix_nat, ixz_0, ixz_1, ixz_2, ixz_3, ixz_4, ixz_5, ixz_6, ixz_7, ixz_8, ixz_9, ixz_10, ixz_11, ixz_12, ob_some, lt_of, ck_bP, bP_z, bP_o, ite_bP, Int.reduceToNat, Nat.reduceAdd, Nat.reduceMul, Int.reduceAdd, Int.reduceSub, Int.reduceMul, Int.reduceNeg, Int.reduceEq, Int.reduceLT, Int.reduceLE, ↓reduceIte, not_true_eq_false, not_false_eq_true, i, u.1]
            · simp (disch := omega) only [zl_0, zl_1, zl_2, zl_3, zl_4, zl_5, zl_6, zl_7, zl_8, zl_9, zl_10, zl_11, zl_12, zl_13, zl_14, zl_15, zl_16, zl_17, zl_18, zl_19, zl_20, zl_23, zl_24, zl_31, zl_32, zl_48, zl_50, zl_53, zl_57, zl_59, zl_60, zl_99, zl_100, zl_104, zl_112, zl_114, zl_119, zl_126, zl_127, zl_181, zl_200, zl_500, zl_543, zl_724, zl_999, zl_1000, zl_5000, zl_65536, zl_100000, zl_1000001, zl_1000002, zl_1000003, zl_1000004, zl_2143289344, zI_neg, zI_add, zI_sub, zI_mul, zI_le, zI_lt, zI_eq, ck_ib, ix_nat, ixz_0, ixz_1, ixz_2, ixz_3, ixz_4, ixz_5, ixz_6, ixz_7, ixz_8, ixz_9, ixz_10, ixz_11, ixz_12, ob_some, lt_of, ck_bP, bP_z, bP_o, ite_bP, Int.reduceToNat, Nat.reduceAdd, Nat.reduceMul, Int.reduceAdd, Int.reduceSub, Int.reduceMul, Int.reduceNeg, Int.reduceEq, Int.reduceLT, Int.reduceLE, ↓reduceIte, not_true_eq_false, not_false_eq_true, i, w.1, f_X8_tour_b73]
          · refine ⟨zI (twy a (fpl a (nl a)).1 j), P, T, ?_, ?_, n1.fc.tr p1.fc, t1⟩
            · simp (disch := omega) only [zl_0, zl_1, zl_2, zl_3, zl_4, zl_5, zl_6, zl_7, zl_8, zl_9, zl_10, zl_11, zl_12, zl_13, zl_14, zl_15, zl_16, zl_17, zl_18, zl_19, zl_20, zl_23, zl_24, zl_31, zl_32, zl_48, zl_50, zl_53, zl_57, zl_59, zl_60, zl_99, zl_100, zl_104, zl_112, zl_114, zl_119, zl_126, zl_127, zl_181, zl_200, zl_500, zl_543, zl_724, zl_999, zl_1000, zl_5000, zl_65536, zl_100000, zl_1000001, zl_1000002, zl_1000003, zl_1000004, zl_2143289344, zI_neg, zI_add, zI_sub, zI_mul, zI_le, zI_lt, zI_eq, ck_ib, ix_nat, ixz_0, ixz_1, ixz_2, ixz_3, ixz_4, ixz_5, ixz_6, ixz_7, ixz_8, ixz_9, ixz_10, ixz_11, ixz_12, ob_some, lt_of, ck_bP, bP_z, bP_o, ite_bP, Int.reduceToNat, Nat.reduceAdd, Nat.reduceMul, Int.reduceAdd, Int.reduceSub, Int.reduceMul, Int.reduceNeg, Int.reduceEq, Int.reduceLT, Int.reduceLE, ↓reduceIte, not_true_eq_false, not_false_eq_true, i, u.2.1]
            · simp (disch := omega) only [zl_0, zl_1, zl_2, zl_3, zl_4, zl_5, zl_6, zl_7, zl_8, zl_9, zl_10, zl_11, zl_12, zl_13, zl_14, zl_15, zl_16, zl_17, zl_18, zl_19, zl_20, zl_23, zl_24, zl_31, zl_32, zl_48, zl_50, zl_53, zl_57, zl_59, zl_60, zl_99, zl_100, zl_104, zl_112, zl_114, zl_119, zl_126, zl_127, zl_181, zl_200, zl_500, zl_543, zl_724, zl_999, zl_1000, zl_5000, zl_65536, zl_100000, zl_1000001, zl_1000002, zl_1000003, zl_1000004, zl_2143289344, zI_neg, zI_add, zI_sub, zI_mul, zI_le, zI_lt, zI_eq, ck_ib, ix_nat, ixz_0, ixz_1, ixz_2, ixz_3, ixz_4, ixz_5, ixz_6, ixz_7, ixz_8, ixz_9, ixz_10, ixz_11, ixz_12, ob_some, lt_of, ck_bP, bP_z, bP_o, ite_bP, Int.reduceToNat, Nat.reduceAdd, Nat.reduceMul, Int.reduceAdd, Int.reduceSub, Int.reduceMul, Int.reduceNeg, Int.reduceEq, Int.reduceLT, Int.reduceLE, ↓reduceIte, not_true_eq_false, not_false_eq_true, i, w.2.1, f_X8_tour_b73]
          · refine ⟨zI (tsn a (fpl a (nl a)).1 (j + 1)).2.2.1, P, T, ?_, ?_, n1.fc.tr p1.fc, t1⟩
            · simp (disch := omega) only [zl_0, zl_1, zl_2, zl_3, zl_4, zl_5, zl_6, zl_7, zl_8, zl_9, zl_10, zl_11, zl_12, zl_13, zl_14, zl_15, zl_16, zl_17, zl_18, zl_19, zl_20, zl_23, zl_24, zl_31, zl_32, zl_48, zl_50, zl_53, zl_57, zl_59, zl_60, zl_99, zl_100, zl_104, zl_112, zl_114, zl_119, zl_126, zl_127, zl_181, zl_200, zl_500, zl_543, zl_724, zl_999, zl_1000, zl_5000, zl_65536, zl_100000, zl_1000001, zl_1000002, zl_1000003, zl_1000004, zl_2143289344, zI_neg, zI_add, zI_sub, zI_mul, zI_le, zI_lt, zI_eq, ck_ib, ix_nat, ixz_0, ixz_1, ixz_2, ixz_3, ixz_4, ixz_5, ixz_6, ixz_7, ixz_8, ixz_9, ixz_10, ixz_11, ixz_12, ob_some, lt_of, ck_bP, bP_z, bP_o, ite_bP, Int.reduceToNat, Nat.reduceAdd, Nat.reduceMul, Int.reduceAdd, Int.reduceSub, Int.reduceMul, Int.reduceNeg, Int.reduceEq, Int.reduceLT, Int.reduceLE, ↓reduceIte, not_true_eq_false, not_false_eq_true, i, u.2.2]
            · simp (disch := omega) only [zl_0, zl_1, zl_2, zl_3, zl_4, zl_5, zl_6, zl_7, zl_8, zl_9, zl_10, zl_11, zl_12, zl_13, zl_14, zl_15, zl_16, zl_17, zl_18, zl_19, zl_20, zl_23, zl_24, zl_31, zl_32, zl_48, zl_50, zl_53, zl_57, zl_59, zl_60, zl_99, zl_100, zl_104, zl_112, zl_114, zl_119, zl_126, zl_127, zl_181, zl_200, zl_500, zl_543, zl_724, zl_999, zl_1000, zl_5000, zl_65536, zl_100000, zl_1000001, zl_1000002, zl_1000003, zl_1000004, zl_2143289344, zI_neg, zI_add, zI_sub, zI_mul, zI_le, zI_lt, zI_eq, ck_ib, ix_nat, ixz_0, ixz_1, ixz_2, ixz_3, ixz_4, ixz_5, ixz_6, ixz_7, ixz_8, ixz_9, ixz_10, ixz_11, ixz_12, ob_some, lt_of, ck_bP, bP_z, bP_o, ite_bP, Int.reduceToNat, Nat.reduceAdd, Nat.reduceMul, Int.reduceAdd, Int.reduceSub, Int.reduceMul, Int.reduceNeg, Int.reduceEq, Int.reduceLT, Int.reduceLE, ↓reduceIte, not_true_eq_false, not_false_eq_true, i, w.2.2, f_X8_tour_b73]
        · refine ⟨zI (-1000004), P, T, ?_, ?_, n1.fc.tr p1.fc, t1⟩
          · simp (disch := omega) only [zl_0, zl_1, zl_2, zl_3, zl_4, zl_5, zl_6, zl_7, zl_8, zl_9, zl_10, zl_11, zl_12, zl_13, zl_14, zl_15, zl_16, zl_17, zl_18, zl_19, zl_20, zl_23, zl_24, zl_31, zl_32, zl_48, zl_50, zl_53, zl_57, zl_59, zl_60, zl_99, zl_100, zl_104, zl_112, zl_114, zl_119, zl_126, zl_127, zl_181, zl_200, zl_500, zl_543, zl_724, zl_999, zl_1000, zl_5000, zl_65536, zl_100000, zl_1000001, zl_1000002, zl_1000003, zl_1000004, zl_2143289344, zI_neg, zI_add, zI_sub, zI_mul, zI_le, zI_lt, zI_eq, ck_ib, ix_nat, ixz_0, ixz_1, ixz_2, ixz_3, ixz_4, ixz_5, ixz_6, ixz_7, ixz_8, ixz_9, ixz_10, ixz_11, ixz_12, ob_some, lt_of, ck_bP, bP_z, bP_o, ite_bP, Int.reduceToNat, Nat.reduceAdd, Nat.reduceMul, Int.reduceAdd, Int.reduceSub, Int.reduceMul, Int.reduceNeg, Int.reduceEq, Int.reduceLT, Int.reduceLE, ↓reduceIte, not_true_eq_false, not_false_eq_true, i]
          · simp (disch := omega) only [zl_0, zl_1, zl_2, zl_3, zl_4, zl_5, zl_6, zl_7, zl_8, zl_9, zl_10, zl_11, zl_12, zl_13, zl_14, zl_15, zl_16, zl_17, zl_18, zl_19, zl_20, zl_23, zl_24, zl_31, zl_32, zl_48, zl_50, zl_53, zl_57, zl_59, zl_60, zl_99, zl_100, zl_104, zl_112, zl_114, zl_119, zl_126, zl_127, zl_181, zl_200, zl_500, zl_543, zl_724, zl_999, zl_1000, zl_5000, zl_65536, zl_100000, zl_1000001, zl_1000002, zl_1000003, zl_1000004, zl_2143289344, zI_neg, zI_add, zI_sub, zI_mul, zI_le, zI_lt, zI_eq, ck_ib, ix_nat, ixz_0, ixz_1, ixz_2, ixz_3, ixz_4, ixz_5, ixz_6, ixz_7, ixz_8, ixz_9, ixz_10, ixz_11, ixz_12, ob_some, lt_of, ck_bP, bP_z, bP_o, ite_bP, Int.reduceToNat, Nat.reduceAdd, Nat.reduceMul, Int.reduceAdd, Int.reduceSub, Int.reduceMul, Int.reduceNeg, Int.reduceEq, Int.reduceLT, Int.reduceLE, ↓reduceIte, not_true_eq_false, not_false_eq_true, i]
    · rw [bP_f d, if_pos (show zI 0 = zI 0 from rfl), if_pos (show zI 0 = zI 0 from rfl)]
      exact ⟨_, M, S, rfl, rfl, FC.rf, FS.rf⟩
end
