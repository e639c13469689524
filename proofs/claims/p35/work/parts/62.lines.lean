/-! the law's look at the lines -/
section
variable {M : Mem} {a : Row}
variable {L : Int32 → Int32 → Int32 → Int32 → Int32 → Int32 → Mem → Option (Int32 × Mem)} {x1 x2 x3 x4 x8 s0 : Int32} {k : Nat}
theorem m_l341 : f_L_lines_b341 L x1 x2 x3 x4 (zI k) s0 M = L x1 x2 x3 x4 s0 (zI ((k : Int) + 1)) M := by
  unfold f_L_lines_b341
  simp only [zl_1, zI_add, lt_of]
theorem m_l317 (W : WF a) (R : RC 1 M a) (hk : k < nl a) : f_L_lines_b317 L x1 x2 x3 x4 (zI 1) (zI k) M = L x1 x2 x3 x4 (zI 1) (zI ((k : Int) + 1)) M := by
  have ws := W.sc
  have t := tsI_bit (a := a) k k (by omega) (nl a) (by omega)
  rw [bP_f (fun q => q.2.1 rfl)] at t
  unfold f_L_lines_b317
  rw [zl_0, if_neg (show ¬ zI 1 = zI 0 by decide), ob_of (a_touching W R hk), zl_31, zl_1, t, if_pos rfl, m_l341]
theorem m_l237 (W : WF a) (R : RC 1 M a) (hk : k < nl a) : ∀ d j fu, j + d = k → d < fu → f_L_lines_b237 L fu x1 x2 x3 x4 (zI 1) (zI k) (zI j) M = L x1 x2 x3 x4 (zI 1) (zI ((k : Int) + 1)) M := by
  intro d
  have ws := W.sc
  induction d with
  | zero =>
    intro j fu hj hf
    obtain ⟨fu, rfl⟩ : ∃ f, fu = f + 1 := ⟨fu - 1, by omega⟩
    obtain rfl : j = k := by omega
    rw [f_L_lines_b237.eq_2]
    dsimp only
    rw [if_pos (Int32.le_refl _), m_l317 W R hk]
  | succ d ih =>
    intro j fu hj hf
    obtain ⟨fu, rfl⟩ : ∃ f, fu = f + 1 := ⟨fu - 1, by omega⟩
    have jk : j < k := by omega
    have jl : j < nl a := by omega
    have c0 : ¬ ((k : Int) ≤ (j : Int)) := by omega
    have e := ih (j + 1) fu (by omega) (by omega)
    simp only [nc1] at e
    have t1 := tsI_bit (a := a) k j (by omega) (nl a) (by omega)
    have t2 := tsI_bit (a := a) j k (by omega) (nl a) (by omega)
    have v1 := a_touch W R hk jl
    have v2 := a_touch W R jl hk
    have sy := tch_sym (a := a) (l := k) (o := j)
    rw [bP_c (show (k = j ∨ tch a k j) ↔ tch a k j from ⟨fun t => t.elim (fun q => by omega) id, .inr⟩)] at v1
    rw [bP_c (show (j = k ∨ tch a j k) ↔ tch a k j from ⟨fun t => t.elim (fun q => by omega) sy.2, fun t => .inr (sy.1 t)⟩)] at v2
    rw [bP_c (show (j < nl a ∧ j ≠ k ∧ tch a k j) ↔ tch a k j from ⟨fun t => t.2.2, fun t => ⟨jl, by omega, t⟩⟩)] at t1
    rw [bP_c (show (k < nl a ∧ k ≠ j ∧ tch a j k) ↔ tch a k j from ⟨fun t => sy.2 t.2.2, fun t => ⟨hk, by omega, sy.1 t⟩⟩)] at t2
    rw [f_L_lines_b237.eq_2]
    dsimp only
    rw [if_neg (by rw [zI_le (by omega) (by omega) (by omega) (by omega)]; exact c0), zl_0, if_neg (show ¬ zI 1 = zI 0 by decide), ob_of v1, ob_of v2, if_pos rfl, ob_of (a_touching W R hk), zl_31, zl_1, t1, if_pos rfl, ob_of (a_touching W R jl), t2, if_pos rfl]
    unfold f_L_lines_b309
    rw [zl_1, zI_add, lt_of, e]
theorem m_l215 (W : WF a) (R : RC 1 M a) (hk : k < nl a) : f_L_lines_b215 L x1 x2 x3 x4 (zI k) M = L x1 x2 x3 x4 (zI 1) (zI ((k : Int) + 1)) M := by
  have ws := W.sc
  have e := m_l237 (L := L) (x1 := x1) (x2 := x2) (x3 := x3) (x4 := x4) W R hk k 0 1000 (by omega) (by omega)
  unfold f_L_lines_b215 f_L_lines_b232
  rw [ob_of (a_touch W R hk hk), bP_t (.inl rfl), zl_1, if_pos rfl, zl_0]
  exact e
theorem m_l170 (W : WF a) (R : RC 1 M a) (X : XW a) (hk : k < nl a) : f_L_lines_b170 L x1 x2 x3 x4 (zI k) (zI (bP (la a k 4 ≠ -1))) M = L x1 x2 x3 x4 (zI 1) (zI ((k : Int) + 1)) M := by
  have ws := W.sc
  have e := m_l215 (L := L) (x1 := x1) (x2 := x2) (x3 := x3) (x4 := x4) W R hk
  unfold f_L_lines_b170
  by_cases hd : la a k 4 = -1
  · rw [bP_f (fun t => t hd), zl_0, if_pos rfl, e]
  · have t := W.drawn hk hd
    have x := X.2 k hk hd
    have sh := a_shade W R hk hd
    have v7 := a_line7 W R hk
    have v9 := a_line9 W R hk
    rw [if_neg hd] at v7 v9
    rw [bP_t hd, zl_0, if_neg (show ¬ zI 1 = zI 0 by decide), zl_7, ob_of v7, zl_4, ob_of (a_cnt4 W R), if_neg (by rw [zI_lt (by omega) (by omega) (by omega) (by omega)]; omega), zl_9, ob_of v9, if_neg (by rw [zI_lt (by omega) (by omega) (by omega) (by omega)]; omega), ob_of v9, zl_1065353216, if_neg (by rw [zI_lt (by omega) (by omega) (by omega) (by omega)]; omega), e]
theorem m_lundrawn (W : WF a) (R : RC 1 M a) (X : XW a) (hk : k < nl a) (hd : la a k 4 = -1) (v1 v2 v3 v4 : Int) : f_L_lines_b56 L (zI v1) (zI v2) (zI v3) (zI v4) (zI k) (zI (-1000004)) (zI 0) M = L (zI v1) (zI v2) (zI (v3 + len a k)) (zI v4) (zI 1) (zI ((k : Int) + 1)) M := by
  have ws := W.sc
  have v := W.line hk
  have e := m_l170 (L := L) (x1 := zI v1) (x2 := zI v2) (x3 := zI (v3 + len a k)) (x4 := zI v4) W R X hk
  have l8 := a_line8 W R hk
  have l9 := a_line9 W R hk
  rw [if_pos hd] at l8 l9
  rw [bP_f (fun t => t hd)] at e
  unfold f_L_lines_b56 f_L_lines_b69 f_L_lines_b83 f_L_lines_b114 f_L_lines_b136
  rw [zl_0, if_pos rfl, lt_of, if_pos rfl, lt_of, zl_8, ob_of l8, lt_of, if_pos rfl, zl_4, ob_of (a_line4 W R hk), lt_of, ob_of (a_line4 W R hk), zI_add, zI_add, zI_add, zI_add, Int.add_zero, Int.add_zero, Int.add_zero, if_neg (by rw [zI_le (by omega) (by omega) (by omega) (by omega)]; omega), if_pos (by rw [zI_lt (by omega) (by omega) (by omega) (by omega)]; omega), if_pos rfl, if_pos rfl, ob_of l8, if_pos rfl, zl_9, ob_of l9, zm_1000004, if_pos rfl]
  exact e
theorem m_ldrawn (W : WF a) (R : RC 1 M a) (X : XW a) (hk : k < nl a) (hd : la a k 4 ≠ -1) (v1 v2 v3 v4 : Int) : f_L_lines_b56 L (zI v1) (zI v2) (zI v3) (zI v4) (zI k) (zI (la a k 4)) (zI 1) M = L (zI (v1 + 1)) (zI (v2 + bP (la a k 4 ≠ -1 ∧ a 7 < la a k 6))) (zI v3) (zI (v4 + 2)) (zI 1) (zI ((k : Int) + 1)) M := by
  have ws := W.sc
  have v := W.line hk
  have e := m_l170 (L := L) (x1 := zI (v1 + 1)) (x2 := zI (v2 + bP (la a k 4 ≠ -1 ∧ a 7 < la a k 6))) (x3 := zI v3) (x4 := zI (v4 + 2)) W R X hk
  have l8 := a_line8 W R hk
  rw [if_neg hd] at l8
  rw [bP_t hd] at e
  have n0 : ¬ zI 1 = zI 0 := by decide
  unfold f_L_lines_b56 f_L_lines_b69 f_L_lines_b83 f_L_lines_b114 f_L_lines_b136
  rw [zl_0, if_neg n0, lt_of, if_neg n0, lt_of, zl_8, ob_of l8, lt_of, if_neg n0, lt_of, zl_4, ob_of (a_line4 W R hk), zl_1, zl_2, zI_add, zI_add, zI_add, zI_add, Int.add_zero, if_neg (by rw [zI_le (by omega) (by omega) (by omega) (by omega)]; omega), if_neg (by rw [zI_lt (by omega) (by omega) (by omega) (by omega)]; omega), if_pos rfl, if_neg n0]
  exact e
theorem m_l389 (W : WF a) (R : RC 1 M a) : f_L_lines_b389 (zI (nd a (nl a))) (zI (nw a (nl a))) (zI (lft a (nl a))) (zI (2 * nd a (nl a))) (zI 1) (zI (nd a (nl a))) M = some (zI 1, M) := by
  have ws := W.sc
  have sl := seams_le W
  have nr := nd_rg (a := a) (nl a)
  obtain ⟨r, r1, r2⟩ := a_meanShade W R
  have hf : zI (2 * nd a (nl a)) / zI 2 = zI (nd a (nl a)) := by
    obtain ⟨m, hm⟩ : ∃ m : Nat, nd a (nl a) = m := ⟨(nd a (nl a)).toNat, by omega⟩
    have z := zI_half ⟨2 * m, by omega⟩
    simp only at z
    rw [hm, show (2 * (m : Int)) = ((2 * m : Nat) : Int) by omega, z, show 2 * m / 2 = m by omega]
  unfold f_L_lines_b389 f_L_lines_b460 f_L_lines_b469 f_L_lines_b476 f_L_lines_b477
  rw [zl_0, if_neg (show ¬ zI 1 = zI 0 by decide), zl_2, ob_of (a_cnt2 W R), if_pos rfl, if_pos rfl, zl_3, ob_of (a_cnt3 W R), if_pos rfl, zl_8, ob_of (a_cnt8 W R), if_pos rfl, ob_of (a_seams W R), if_neg (by rw [zI_lt (by omega) (by omega) (by omega) (by omega)]; omega), ob_of (a_seams W R), hf, if_neg (by rw [zI_lt (by omega) (by omega) (by omega) (by omega)]; omega), ob_of r1, zm_1000004, zl_1]
  rcases r2 with ⟨c1, c2⟩ | ⟨c1, c2, c3⟩
  · rw [if_pos (by rw [c2]), if_pos (by rw [c1]), if_pos rfl, ck_of bl_1]
  · rw [if_neg (by rw [zI_eq (by omega) (by omega) (by omega) (by omega)]; omega), if_neg (by rw [zI_eq (by omega) (by omega) (by omega) (by omega)]; exact c1), if_pos rfl, ck_of bl_1]
theorem m_l355 (W : WF a) (R : RC 1 M a) : ∀ d k fu, k + d = np a → d < fu → f_L_lines_b355 fu (zI (nd a (nl a))) (zI (nw a (nl a))) (zI (lft a (nl a))) (zI (2 * nd a (nl a))) (zI 1) (zI (sby a (nl a) k)) (zI k) M = some (zI 1, M) := by
  intro d
  have ws := W.sc
  induction d with
  | zero =>
    intro k fu hk hf
    obtain ⟨fu, rfl⟩ : ∃ f, fu = f + 1 := ⟨fu - 1, by omega⟩
    obtain rfl : k = np a := by omega
    rw [f_L_lines_b355.eq_2]
    dsimp only
    rw [zl_0, ob_of (a_cnt0 W R), if_pos (Int32.le_refl _), sby_nd W (nl a) (Nat.le_refl _), m_l389 W R]
  | succ d ih =>
    intro k fu hk hf
    obtain ⟨fu, rfl⟩ : ∃ f, fu = f + 1 := ⟨fu - 1, by omega⟩
    have kk : k < np a := by omega
    have c0 : ¬ ((np a : Int) ≤ (k : Int)) := by omega
    have e := ih (k + 1) fu (by omega) (by omega)
    simp only [nc1] at e
    rw [f_L_lines_b355.eq_2]
    dsimp only
    rw [zl_0, ob_of (a_cnt0 W R), if_neg (by rw [zI_le (by omega) (by omega) (by omega) (by omega)]; exact c0), if_neg (show ¬ zI 1 = zI 0 by decide), zl_10, ob_of (a_pen10 W R kk), lt_of, zl_1, zI_add, lt_of, zI_add]
    exact e
theorem m_lines_l (W : WF a) (R : RC 1 M a) (X : XW a) : ∀ d k fu, k + d = nl a → d < fu → f_L_lines_b15 fu (zI (nd a k)) (zI (nw a k)) (zI (lft a k)) (zI (2 * nd a k)) (zI 1) (zI k) M = some (zI 1, M) := by
  intro d
  have ws := W.sc
  induction d with
  | zero =>
    intro k fu hk hf
    obtain ⟨fu, rfl⟩ : ∃ f, fu = f + 1 := ⟨fu - 1, by omega⟩
    obtain rfl : k = nl a := by omega
    have e := m_l355 W R (np a) 0 1000 (by omega) (by omega)
    rw [f_L_lines_b15.eq_2]
    dsimp only
    rw [zl_1, ob_of (a_cnt1 W R), if_pos (Int32.le_refl _)]
    unfold f_L_lines_b349
    rw [zl_0]
    exact e
  | succ d ih =>
    intro k fu hk hf
    obtain ⟨fu, rfl⟩ : ∃ f, fu = f + 1 := ⟨fu - 1, by omega⟩
    have kk : k < nl a := by omega
    have c0 : ¬ ((nl a : Int) ≤ (k : Int)) := by omega
    have e := ih (k + 1) fu (by omega) (by omega)
    simp only [nc1] at e
    have en : nd a (k + 1) = nd a k + bP (la a k 4 ≠ -1) := rfl
    have ew : nw a (k + 1) = nw a k + bP (la a k 4 ≠ -1 ∧ a 7 < la a k 6) := rfl
    have el : lft a (k + 1) = lft a k + if la a k 4 = -1 then len a k else 0 := rfl
    rw [en, ew, el] at e
    have l5 := a_line5 W R kk
    have l6 := a_line6 W R kk
    rw [f_L_lines_b15.eq_2]
    dsimp only
    by_cases hd : la a k 4 = -1
    · rw [if_pos hd] at l5 l6 e
      rw [bP_f (fun t => t hd), bP_f (fun t => t.1 hd), Int.add_zero, Int.add_zero] at e
      rw [zl_1, ob_of (a_cnt1 W R), if_neg (by rw [zI_le (by omega) (by omega) (by omega) (by omega)]; exact c0), zl_0, if_neg (show ¬ zI 1 = zI 0 by decide), zl_6, ob_of l6, zl_5, ob_of l5, if_neg (show ¬ zI 0 = zI 1 by decide), m_lundrawn W R X kk hd]
      exact e
    · rw [if_neg hd] at l5 l6 e
      rw [bP_t hd, Int.add_zero, show 2 * (nd a k + 1) = 2 * nd a k + 2 by omega] at e
      rw [zl_1, ob_of (a_cnt1 W R), if_neg (by rw [zI_le (by omega) (by omega) (by omega) (by omega)]; exact c0), zl_0, if_neg (show ¬ zI 1 = zI 0 by decide), zl_6, ob_of l6, zl_5, ob_of l5, if_pos rfl, m_ldrawn W R X kk hd]
      exact e
theorem m_lines (W : WF a) (R : RC 1 M a) (X : XW a) : f_L_lines M = some (zI 1, M) := by
  have e := m_lines_l W R X (nl a) 0 1000 (by omega) (by have w := W.sc; omega)
  unfold f_L_lines
  rw [zl_0, zl_1]
  exact e
end
