/-! the law's look at the pens -/
section
variable {M : Mem} {a : Row}
def hnd (a : Row) : Int := if a 8 = -1 then -1000004 else a 8
theorem hnd_rg (W : WF a) : -1000004 ≤ hnd a ∧ hnd a ≤ 4 := by
  have ws := W.sc
  unfold hnd
  split <;> omega
theorem hnd_k (W : WF a) (k : Nat) : hnd a = (k : Int) ↔ a 8 = k := by
  have ws := W.sc
  unfold hnd
  split <;> omega
/-- what holds besides, between the law's calls -/
def XW (a : Row) : Prop := (∀ p, p < np a → pa a p 6 = 1 → a 8 ≠ p) ∧ ∀ l, l < nl a → la a l 4 ≠ -1 → la a l 5 ≤ a 7
def lsx (a : Row) (k : Nat) : Int := if lst a (dv a) (-1) k = -1 then 1000000 else lst a (dv a) (-1) k
/-- the least of all, and the least but one's own -/
theorem lst_but (W : WF a) {k : Nat} (hk : k < np a) (h6 : pa a k 6 = 0) : ∀ n, n ≤ np a → (n ≤ k → lst a (dv a) (-1) n = lst a (dv a) k n) ∧ (k < n → lst a (dv a) (-1) n = if lst a (dv a) k n = -1 then dv a k else min (lst a (dv a) k n) (dv a k)) := by
  intro n
  induction n with
  | zero => intro _; exact ⟨fun _ => rfl, fun h => absurd h (Nat.not_lt_zero k)⟩
  | succ n ih =>
    intro hn
    obtain ⟨i1, i2⟩ := ih (by omega)
    have r1 := lst_rg (a := a) (by omega) (dv_rg W) k n (by omega)
    have rk := dv_rg W k hk
    have rn := dv_rg W n (by omega)
    simp only [lst]
    refine ⟨fun h => ?_, fun h => ?_⟩
    · rw [i1 (by omega)]
      (repeat' split) <;> omega
    · by_cases c : n = k
      · subst c
        rw [i1 (by omega)]
        (repeat' split) <;> omega
      · rw [i2 (by omega)]
        (repeat' split) <;> omega
theorem strk_room (W : WF a) {k : Nat} (hk : k < np a) (h6 : pa a k 6 = 0) (hl : lst a (dv a) k (np a) ≠ -1) : strk a k ↔ lst a (dv a) k (np a) + a 2 - pa a k 3 < 0 := by
  have ws := W.sc
  have h := (lst_but W hk h6 (np a) (Nat.le_refl _)).2 hk
  rw [if_neg hl] at h
  have e : dv a k = pa a k 3 := rfl
  unfold strk
  rw [h, e]
  omega
theorem strk_one (W : WF a) {k : Nat} (hk : k < np a) (hl : lst a (dv a) k (np a) = -1) : ¬ strk a k := by
  have ws := W.sc
  intro s
  have h := (lst_but W hk s.1 (np a) (Nat.le_refl _)).2 hk
  rw [if_pos hl] at h
  have e : dv a k = pa a k 3 := rfl
  have s2 := s.2
  rw [h, e] at s2
  omega
theorem mst_ge {v : Nat → Int} : ∀ n p, p < n → pa a p 6 = 0 → v p ≤ mst a v n := by
  intro n
  induction n with
  | zero => intro p h; exact absurd h (Nat.not_lt_zero p)
  | succ n ih =>
    intro p h h6
    simp only [mst]
    by_cases c : p = n
    · subst c
      split <;> omega
    · have := ih p (by omega) h6
      split <;> omega
theorem stb_or : ∀ n, stb a n = zI 0 ∨ ∃ p, p < n ∧ strk a p := by
  intro n
  induction n with
  | zero => exact .inl rfl
  | succ n ih =>
    by_cases c : strk a n
    · exact .inr ⟨n, Nat.lt_succ_self n, c⟩
    · rcases ih with h | ⟨p, h1, h2⟩
      · left
        show @ite Int32 (strk a n) (Classical.propDecidable _) _ _ = _
        rw [if_neg c, h]
      · exact .inr ⟨p, Nat.lt_succ_of_lt h1, h2⟩
theorem stb_succ (k : Nat) (hk : k < 5) : stb a (k + 1) = stb a k ||| (zI (bP (strk a k)) <<< (zI k &&& zI 31)) := by
  show @ite Int32 (strk a k) (Classical.propDecidable _) _ _ = _
  by_cases c : strk a k
  · rw [if_pos c, bP_t c]
  · rw [if_neg c, bP_f c]
    have e : ∀ j : Fin 5, zI 0 <<< (zI (j.val : Nat) &&& zI 31) = zI 0 := by decide
    have e1 := e ⟨k, hk⟩
    simp only at e1
    rw [e1, i32_or0]
variable {L : Int32 → Int32 → Int32 → Int32 → Int32 → Int32 → Mem → Option (Int32 × Mem)} {x1 x2 x3 x4 x8 s0 : Int32} {k : Nat}
theorem m_p299 : f_L_pens_b299 L x1 x2 x3 x4 (zI k) M = L x1 x2 x3 x4 (zI 1) (zI ((k : Int) + 1)) M := by
  unfold f_L_pens_b299 f_L_pens_b304
  simp only [zl_1, zI_add, lt_of]
theorem m_p286 (P : Prop) : f_L_pens_b286 L x1 x2 x3 x4 (zI k) (zI (bP P)) (zI (bP P)) M = L x1 x2 x3 x4 (zI 1) (zI ((k : Int) + 1)) M := by
  unfold f_L_pens_b286
  rw [if_pos rfl, m_p299]
theorem m_p269 (W : WF a) (R : RC 1 M a) (hk : k < np a) : f_L_pens_b269 L x1 x2 x3 x4 (zI k) (zI (bP (strk a k))) M = L x1 x2 x3 x4 (zI 1) (zI ((k : Int) + 1)) M := by
  have e := m_p286 (L := L) (x1 := x1) (x2 := x2) (x3 := x3) (x4 := x4) (k := k) (M := M) (strk a k)
  unfold f_L_pens_b269
  rw [zl_8, ob_of (a_pen8 W R hk)]
  rcases bP_or (strk a k) with c | c
  · rw [c.2] at e ⊢
    rw [zl_1, if_pos rfl, e]
  · rw [c.2] at e ⊢
    rw [zl_1, if_neg (by decide), zl_0, e]
theorem m_p232 (W : WF a) (R : RC 1 M a) (hk : k < np a) : f_L_pens_b232 L x1 x2 x3 x4 (zI k) (zI (bP (pa a k 6 = 0))) (zI 1) M = L x1 x2 x3 x4 (zI 1) (zI ((k : Int) + 1)) M := by
  have ws := W.sc
  have u := W.pen hk
  have i := lst_rg (a := a) (by omega) (dv_rg W) k (np a) (by omega)
  unfold f_L_pens_b232
  rw [ob_of (a_room W R hk), zl_0, if_neg (show ¬ zI 1 = zI 0 by decide), zm_1000004, zm_1000002]
  unfold rmv
  by_cases d : pa a k 6 = 1
  · rw [if_pos d, if_neg (show ¬ zI (-1000002) = zI (-1000004) by decide), bP_f (by omega), if_pos rfl, if_pos rfl, m_p299]
  · rw [if_neg d]
    by_cases f : lst a (dv a) k (np a) = -1
    · rw [if_pos f, if_pos rfl, m_p299]
    · rw [if_neg f, if_neg (by rw [zI_eq (by omega) (by omega) (by omega) (by omega)]; omega), bP_t (by omega), if_neg (show ¬ zI 1 = zI 0 by decide)]
      have s := strk_room W hk (by omega) f
      have e := m_p269 (L := L) (x1 := x1) (x2 := x2) (x3 := x3) (x4 := x4) W R hk
      by_cases t : strk a k
      · rw [bP_t t] at e
        rw [if_neg (by rw [zI_le (by omega) (by omega) (by omega) (by omega)]; have := s.1 t; omega), zl_1, e]
      · rw [bP_f t] at e
        have q : ¬ (lst a (dv a) k (np a) + a 2 - pa a k 3 < 0) := fun q => t (s.2 q)
        rw [if_pos (by rw [zI_le (by omega) (by omega) (by omega) (by omega)]; omega), e]
theorem m_p224 (W : WF a) (R : RC 1 M a) (hk : k < np a) (s : Int32) : f_L_pens_b224 L x1 x2 x3 x4 (zI k) (zI (bP (pa a k 6 = 0))) s s M = L x1 x2 x3 x4 (zI 1) (zI ((k : Int) + 1)) M := by
  unfold f_L_pens_b224
  rw [if_pos rfl, zl_1, m_p232 W R hk]
theorem m_p195 (W : WF a) (R : RC 1 M a) (hk : k < np a) : f_L_pens_b195 L x1 x2 x3 x4 (zI k) (zI (bP (pa a k 6 = 0))) M = L x1 x2 x3 x4 (zI 1) (zI ((k : Int) + 1)) M := by
  have ws := W.sc
  have u := W.pen hk
  unfold f_L_pens_b195
  rw [zl_9, ob_of (a_pen9 W R hk), zl_4, ob_of (a_pen4 W R hk), zl_21, ob_of (a_cnt21 W R)]
  by_cases c : pa a k 4 ≤ a 3
  · rw [if_pos (by rw [zI_le (by omega) (by omega) (by omega) (by omega)]; exact c), bP_f (show ¬ a 3 < pa a k 4 by omega), zl_0, m_p224 W R hk]
  · rw [if_neg (by rw [zI_le (by omega) (by omega) (by omega) (by omega)]; exact c), bP_t (show a 3 < pa a k 4 by omega), zl_1, m_p224 W R hk]
theorem m_p169 (W : WF a) (R : RC 1 M a) (X : XW a) (hk : k < np a) (s : Int32) : f_L_pens_b169 L x1 x2 x3 (zI (hnd a)) (zI k) (zI (bP (pa a k 6 = 0))) s s M = L x1 x2 x3 (zI (hnd a)) (zI 1) (zI ((k : Int) + 1)) M := by
  have ws := W.sc
  have u := W.pen hk
  have hr := hnd_rg W
  have e := m_p195 (L := L) (x1 := x1) (x2 := x2) (x3 := x3) (x4 := zI (hnd a)) W R hk
  unfold f_L_pens_b169
  rw [if_pos rfl]
  by_cases c : pa a k 6 = 0
  · rw [bP_t c] at e ⊢
    rw [if_neg (show ¬ zI 1 = 0 by decide), e]
  · rw [bP_f c] at e ⊢
    have x := X.1 k hk (by omega)
    have x2 : ¬ hnd a = k := fun q => x ((hnd_k W k).1 q)
    have st : ¬ strk a k := fun q => c q.1
    rw [if_pos (show zI 0 = 0 by decide), zl_8, ob_of (a_pen8 W R hk), bP_f st, if_pos (show zI 0 = 0 by decide), if_neg (by rw [zI_eq (by omega) (by omega) (by omega) (by omega)]; exact x2), e]
theorem m_p97 (W : WF a) (R : RC 1 M a) (X : XW a) (hk : k < np a) : f_L_pens_b97 L x1 x3 (zI (hnd a)) (zI k) (zI (bP (pa a k 6 = 0))) s0 M = L x1 s0 (x3 ||| (zI (bP (strk a k)) <<< (zI k &&& zI 31))) (zI (hnd a)) (zI 1) (zI ((k : Int) + 1)) M := by
  have ws := W.sc
  have u := W.pen hk
  have hr := hnd_rg W
  unfold f_L_pens_b97
  rw [zl_8, ob_of (a_pen8 W R hk), lt_of, zl_2, ob_of (a_pen2 W R hk), zl_0, if_neg (by rw [zI_lt (by omega) (by omega) (by omega) (by omega)]; omega), ob_of (a_pen2 W R hk), zl_1, ob_of (a_pen1 W R hk), if_neg (by rw [zI_lt (by omega) (by omega) (by omega) (by omega)]; omega), zl_4, ob_of (a_pen4 W R hk), if_neg (by rw [zI_lt (by omega) (by omega) (by omega) (by omega)]; omega), zl_6, ob_of (a_pen6 W R hk), zl_31]
  by_cases c : a 8 = k
  · have e : zI (hnd a) = zI k := by rw [(hnd_k W k).2 c]
    rw [bP_t c, if_pos e, m_p169 W R X hk]
  · have e : ¬ zI (hnd a) = zI k := by rw [zI_eq (by omega) (by omega) (by omega) (by omega)]; exact fun q => c ((hnd_k W k).1 q)
    rw [bP_f c, if_neg e, m_p169 W R X hk]
theorem m_pens_l (W : WF a) (R : RC 1 M a) (X : XW a) : ∀ d k fu, k + d = np a → d < fu → f_L_pens_b20 fu (zI (mst a (dv a) k)) (zI (lsx a k)) (stb a k) (zI (hnd a)) (zI 1) (zI k) M = some (zI 1, M) := by
  intro d
  have ws := W.sc
  have hr := hnd_rg W
  induction d with
  | zero =>
    intro k fu hk hf
    obtain ⟨fu, rfl⟩ : ∃ f, fu = f + 1 := ⟨fu - 1, by omega⟩
    obtain rfl : k = np a := by omega
    have ml := mst_rg (a := a) (by omega) (dv_rg W) (np a) (Nat.le_refl _)
    have ll := lst_rg (a := a) (by omega) (dv_rg W) (-1) (np a) (Nat.le_refl _)
    rw [f_L_pens_b20.eq_2]
    dsimp only
    rw [zl_0, ob_of (a_cnt0 W R), if_pos (Int32.le_refl _)]
    unfold f_L_pens_b312 f_L_pens_b341 f_L_pens_b361 f_L_pens_b366
    rw [zl_0, if_neg (show ¬ zI 1 = zI 0 by decide), ob_of (a_strikers W R), if_pos rfl, ob_of (a_spread W R), zl_20, zm_1000004, zl_1]
    by_cases c : lst a (dv a) (-1) (np a) = -1
    · have m1 := ml.2.2.2 c
      rw [if_pos c, if_neg (by rw [zI_le (by omega) (by omega) (by omega) (by omega)]; omega), if_pos rfl]
      have s0 : stb a (np a) = zI 0 := by
        rcases stb_or (a := a) (np a) with h | ⟨p, h1, h2⟩
        · exact h
        · have g := mst_ge (v := dv a) (np a) p h1 h2.1
          have := dv_rg W p h1
          omega
      rw [s0, if_pos rfl, ck_of bl_1]
    · have m1 : mst a (dv a) (np a) ≠ -1 := fun q => c (ml.2.2.1 q)
      have e : lsx a (np a) = lst a (dv a) (-1) (np a) := if_neg c
      rw [if_neg c, if_pos (by rw [zI_le (by omega) (by omega) (by omega) (by omega)]; omega), e, zI_sub, if_pos rfl]
      by_cases s0 : stb a (np a) = zI 0
      · rw [if_pos s0, ck_of bl_1]
      · rcases stb_or (a := a) (np a) with h | ⟨p, h1, h2⟩
        · exact absurd h s0
        · have g := mst_ge (v := dv a) (np a) p h1 h2.1
          have g2 : dv a p = pa a p 3 := rfl
          have h3 := h2.2
          rw [if_neg s0, ob_of (a_spread W R), if_neg c, ob_of (a_cnt20 W R), if_neg (by rw [zI_le (by omega) (by omega) (by omega) (by omega)]; omega), ck_of bl_1]
  | succ d ih =>
    intro k fu hk hf
    obtain ⟨fu, rfl⟩ : ∃ f, fu = f + 1 := ⟨fu - 1, by omega⟩
    have kk : k < np a := by omega
    have c0 : ¬ ((np a : Int) ≤ (k : Int)) := by omega
    have e := ih (k + 1) fu (by omega) (by omega)
    have u := W.pen kk
    have rk := dv_rg W k kk
    have ml := mst_rg (a := a) (by omega) (dv_rg W) k (by omega)
    have ll := lst_rg (a := a) (by omega) (dv_rg W) (-1) k (by omega)
    rw [stb_succ k (by omega)] at e
    simp only [nc1] at e
    have p97 := fun y1 y3 y0 => m_p97 (L := f_L_pens_b20 fu) (x1 := y1) (x3 := y3) (s0 := y0) W R X kk
    have lx : -1 ≤ lsx a k ∧ lsx a k ≤ 1000000 := by unfold lsx; split <;> omega
    rw [f_L_pens_b20.eq_2]
    dsimp only
    rw [zl_0, ob_of (a_cnt0 W R), if_neg (by rw [zI_le (by omega) (by omega) (by omega) (by omega)]; exact c0), if_neg (show ¬ zI 1 = zI 0 by decide), zl_3, ob_of (a_pen3 W R kk), zl_7, ob_of (a_pen7 W R kk), zl_1]
    unfold f_L_pens_b60 f_L_pens_b78 f_L_pens_b79 f_L_pens_b96
    rw [zl_0]
    by_cases c : pa a k 6 = 0
    · rw [bP_t c] at p97
      have em : mst a (dv a) (k + 1) = if mst a (dv a) k < dv a k then dv a k else mst a (dv a) k := by
        simp only [mst, c, true_and]
      have el : lsx a (k + 1) = if lsx a k ≤ dv a k then lsx a k else dv a k := by
        unfold lsx
        simp only [lst, c, true_and]
        (repeat' split) <;> omega
      rw [em, el] at e
      have e3 : dv a k = pa a k 3 := rfl
      rw [e3] at e rk
      rw [if_pos (by rw [c]), if_neg (show ¬ zI 1 = zI 0 by decide)]
      simp only [if_neg (show ¬ zI 1 = zI 0 by decide)]
      by_cases t1 : pa a k 3 ≤ mst a (dv a) k
      · rw [if_neg (show ¬ mst a (dv a) k < pa a k 3 by omega)] at e
        rw [if_pos (by rw [zI_le (by omega) (by omega) (by omega) (by omega)]; exact t1)]
        by_cases t2 : lsx a k ≤ pa a k 3
        · rw [if_pos t2] at e
          rw [if_pos (by rw [zI_le (by omega) (by omega) (by omega) (by omega)]; exact t2), p97, e]
        · rw [if_neg t2] at e
          rw [if_neg (by rw [zI_le (by omega) (by omega) (by omega) (by omega)]; exact t2), p97, e]
      · rw [if_pos (show mst a (dv a) k < pa a k 3 by omega)] at e
        rw [if_neg (by rw [zI_le (by omega) (by omega) (by omega) (by omega)]; exact t1)]
        by_cases t2 : lsx a k ≤ pa a k 3
        · rw [if_pos t2] at e
          rw [if_pos (by rw [zI_le (by omega) (by omega) (by omega) (by omega)]; exact t2), p97, e]
        · rw [if_neg t2] at e
          rw [if_neg (by rw [zI_le (by omega) (by omega) (by omega) (by omega)]; exact t2), p97, e]
    · rw [bP_f c] at p97
      have em : mst a (dv a) (k + 1) = mst a (dv a) k := by
        simp only [mst, c, false_and, ↓reduceIte]
      have el : lsx a (k + 1) = lsx a k := by
        unfold lsx
        simp only [lst, c, false_and, ↓reduceIte]
      rw [em, el] at e
      rw [if_neg (by rw [zI_eq (by omega) (by omega) (by omega) (by omega)]; exact c), if_pos rfl, if_pos rfl, p97, e]
theorem m_pens (W : WF a) (R : RC 1 M a) (X : XW a) : f_L_pens M = some (zI 1, M) := by
  have e := m_pens_l W R X (np a) 0 1000 (by omega) (by have w := W.sc; omega)
  unfold f_L_pens
  rw [zl_5, ob_of (a_cnt5 W R), zm_1, zl_1000000, zl_0, zl_1]
  exact e
end
