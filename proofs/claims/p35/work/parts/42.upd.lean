/-! the plotter's own changes, of both -/
section
variable {g : Nat} {M N S : Mem} {a b : Row}
theorem tsI_c {n l : Nat} (hl : ∀ o, o < n → ∀ w, w < 4 → la b o w = la a o w) (hll : ∀ w, w < 4 → la b l w = la a l w) : tsI b l n = tsI a l n := by
  induction n with
  | zero => rfl
  | succ n ih =>
    have i := ih (fun o ho => hl o (by omega))
    have h := hl n (by omega)
    have t : tch b l n ↔ tch a l n := by
      unfold tch
      rw [h 0 (by omega), h 1 (by omega), h 2 (by omega), h 3 (by omega), hll 0 (by omega), hll 1 (by omega), hll 2 (by omega), hll 3 (by omega)]
    simp only [tsI]
    rw [i]
    by_cases c : n ≠ l ∧ tch a l n
    · rw [if_pos c, if_pos ⟨c.1, t.2 c.2⟩]
    · rw [if_neg c, if_neg (fun q => c ⟨q.1, t.1 q.2⟩)]
theorem len_c {l : Nat} (h : ∀ w, w < 4 → la b l w = la a l w) : len b l = len a l := by
  unfold len
  rw [h 0 (by omega), h 1 (by omega), h 2 (by omega), h 3 (by omega)]
theorem np_c (h : b 0 = a 0) : np b = np a := by unfold np; rw [h]
theorem nl_c (h : b 1 = a 1) : nl b = nl a := by unfold nl; rw [h]
def PenOk (g : Nat) (N : Mem) (b : Row) (p : Nat) : Prop := N g 3 p = zI (pa b p 0) ∧ N g 4 p = zI (pa b p 1) ∧ N g 5 p = zI (pa b p 5) ∧ N g 6 p = zI (pa b p 2) ∧ N g 7 p = zI (pa b p 3) ∧ N g 8 p = zI (pa b p 4) ∧ N g 9 p = zI (pa b p 6)
def ScOk (g : Nat) (N : Mem) (b : Row) : Prop := N g 0 3 = zI (b 7) ∧ N g 0 4 = zI (b 8) ∧ N g 0 5 = zI (b 9) ∧ N g 0 6 = zI (b 10) ∧ N g 0 7 = zI (b 11) ∧ N g 0 8 = zI (b 12)
theorem RC.g1 (R : RC g M a) (h0 : b 0 = a 0) (h1 : b 1 = a 1) (hm : ∀ k, 10 ≤ k → k ≤ 16 → N g k = M g k) (hm2 : N g 2 = M g 2) (hl : ∀ l, l < nl a → ∀ w, w < 4 → la b l w = la a l w) (hs : ∀ i, i < 5 → N g 1 i = zI (b (2 + i))) (hp : ∀ p, p < np a → PenOk g N b p) (h17 : ∀ l, l < nl a → N g 17 l = zI (la b l 4)) (hd : ∀ l, l < nl a → la b l 4 ≠ -1 → N g 18 l = zI (la b l 5) ∧ N g 19 l = zI (la b l 6)) (hsh : ∀ l, l < nl a → la b l 4 ≠ -1 → ∃ k, 1 ≤ k ∧ k ≤ pa b (la b l 4).toNat 1 ∧ N g 20 l = zI k ∧ la b l 7 = shI k (pa b (la b l 4).toNat 1)) (hsc : ScOk g N b) : RC g N b := by
  have n1 := np_c h0
  have n2 := nl_c h1
  refine ⟨hs, ⟨?_, ?_⟩, ?_, ?_, ?_, ?_, hsc⟩
  · rw [hm2, n1]; exact R.rnp
  · rw [hm 10 (by omega) (by omega), n2]; exact R.rnl
  · intro p hpp
    rw [n1] at hpp
    exact hp p hpp
  · intro l hll
    rw [n2] at hll
    have r := R.rline hll
    have e := hl l hll
    rw [hm 11 (by omega) (by omega), hm 12 (by omega) (by omega), hm 13 (by omega) (by omega), hm 14 (by omega) (by omega), hm 15 (by omega) (by omega), hm 16 (by omega) (by omega), e 0 (by omega), e 1 (by omega), e 2 (by omega), e 3 (by omega), len_c e, n2, tsI_c (a := a) (b := b) hl e]
    exact ⟨r.1, r.2.1, r.2.2.1, r.2.2.2.1, r.2.2.2.2.1, r.2.2.2.2.2.1, h17 l hll⟩
  · intro l hll
    rw [n2] at hll
    exact hd l hll
  · intro l hll
    rw [n2] at hll
    exact hsh l hll
theorem RC.g2 (R : RC g M a) (h0 : b 0 = a 0) (h1 : b 1 = a 1) (hl : ∀ l w, la b l w = la a l w) (hc : ∀ p, pa b p 1 = pa a p 1) (hm : ∀ k, 10 ≤ k → N g k = M g k) (hm2 : N g 2 = M g 2) (hs : ∀ i, i < 5 → N g 1 i = zI (b (2 + i))) (hp : ∀ p, p < np a → PenOk g N b p) (hsc : ScOk g N b) : RC g N b := by
  refine R.g1 h0 h1 (fun k h _ => hm k h) hm2 (fun l _ w _ => hl l w) hs hp ?_ ?_ ?_ hsc
  · intro l h
    rw [hm 17 (by omega), hl]
    exact R.l17 h
  · intro l h hd
    rw [hl] at hd
    rw [hm 18 (by omega), hm 19 (by omega), hl, hl]
    exact R.rdrawn h hd
  · intro l h hd
    rw [hl] at hd
    rw [hm 20 (by omega), hl, hl, hc]
    exact R.rshade h hd
def PenWf (b : Row) (p : Nat) : Prop := (pa b p 0 = 0 ∨ pa b p 0 = 1) ∧ 10 ≤ pa b p 1 ∧ pa b p 1 ≤ 5000 ∧ 0 ≤ pa b p 2 ∧ pa b p 2 ≤ pa b p 1 ∧ 0 ≤ pa b p 3 ∧ pa b p 3 ≤ b 7 ∧ 0 ≤ pa b p 4 ∧ pa b p 4 ≤ b 7 ∧ 0 ≤ pa b p 5 ∧ pa b p 5 ≤ 21 ∧ (pa b p 6 = 0 ∨ pa b p 6 = 1)
def ScWf (b : Row) : Prop := 0 ≤ b 2 ∧ b 2 ≤ 500 ∧ 1 ≤ b 3 ∧ b 3 ≤ 200 ∧ 0 ≤ b 4 ∧ b 4 ≤ 100 ∧ 0 ≤ b 5 ∧ b 5 ≤ 50 ∧ 0 ≤ b 6 ∧ b 6 ≤ 50 ∧ 0 ≤ b 7 ∧ b 7 ≤ 100000 ∧ -1 ≤ b 8 ∧ b 8 < b 0 ∧ 0 ≤ b 9 ∧ b 9 ≤ 99 ∧ 0 ≤ b 10 ∧ b 10 ≤ 99
theorem WF.g1 (W : WF a) (h0 : b 0 = a 0) (h1 : b 1 = a 1) (hsc : ScWf b) (hp : ∀ p, p < np a → PenWf b p) (hl : ∀ l, l < nl a → ∀ w, w < 4 → la b l w = la a l w) (h4 : ∀ l, l < nl a → -1 ≤ la b l 4 ∧ la b l 4 < a 0) (hd : ∀ l, l < nl a → la b l 4 ≠ -1 → (0 ≤ la b l 5 ∧ la b l 5 ≤ 100000 ∧ 0 ≤ la b l 6 ∧ la b l 6 ≤ 100100) ∧ ∃ k c, 1 ≤ k ∧ k ≤ c ∧ c ≤ 5000 ∧ la b l 7 = shI k c) : WF b := by
  have n1 := np_c h0
  have n2 := nl_c h1
  have w := W.1
  refine ⟨?_, ?_, ?_, ?_, ?_⟩
  · unfold ScWf at hsc
    rw [h0] at hsc
    rw [h0, h1]
    omega
  · intro p h
    rw [n1] at h
    exact hp p h
  · intro l h
    rw [n2] at h
    have e := hl l h
    have v := W.2.2.1 l h
    have f := h4 l h
    rw [e 0 (by omega), e 1 (by omega), e 2 (by omega), e 3 (by omega), h0]
    omega
  · intro l h
    rw [n2] at h
    exact fun q => (hd l h q).1
  · intro l h
    rw [n2] at h
    exact fun q => (hd l h q).2
theorem WF.g2 (W : WF a) (h0 : b 0 = a 0) (h1 : b 1 = a 1) (hl : ∀ l w, la b l w = la a l w) (hsc : ScWf b) (hp : ∀ p, p < np a → PenWf b p) : WF b := by
  refine W.g1 h0 h1 hsc hp (fun l _ w _ => hl l w) ?_ ?_
  · intro l h
    have v := W.2.2.1 l h
    rw [hl]
    omega
  · intro l h q
    rw [hl] at q
    rw [hl, hl, hl]
    exact ⟨W.drawn h q, W.shade h q⟩
theorem WF.scw (W : WF a) : ScWf a := by
  have w := W.1
  unfold ScWf
  omega
theorem WF.penw (W : WF a) {p : Nat} (h : p < np a) : PenWf a p := W.pen h
theorem pa_sc (a : Row) {i : Nat} (h : i < 13) (v : Int) (p w : Nat) : pa (uz a i v) p w = pa a p w := uz_ne a v (by omega)
theorem la_sc (a : Row) {i : Nat} (h : i < 53) (v : Int) (l w : Nat) : la (uz a i v) l w = la a l w := uz_ne a v (by omega)
theorem la_pn (a : Row) {p0 w0 : Nat} (h : p0 < 5) (h2 : w0 < 8) (v : Int) (l w : Nat) : la (uz a (13 + 8 * p0 + w0) v) l w = la a l w := uz_ne a v (by omega)
theorem pa_pn (a : Row) {p0 w0 p w : Nat} (hw : w0 < 8) (hw2 : w < 8) (v : Int) : pa (uz a (13 + 8 * p0 + w0) v) p w = if p = p0 ∧ w = w0 then v else pa a p w := by
  unfold pa
  by_cases c : p = p0 ∧ w = w0
  · rw [if_pos c, c.1, c.2, uz_at]
  · rw [if_neg c, uz_ne a v (by omega)]
theorem RC.s7 (R : RC g M a) (v : Int) : RC g (up3 M g 0 3 (zI v)) (uz a 7 v) := by
  refine R.g2 (uz_ne a v (by omega)) (uz_ne a v (by omega)) (la_sc a (by omega) v) (fun p => pa_sc a (by omega) v p 1) (fun k h => up3_cell _ _ (by omega)) (up3_cell _ _ (by omega)) ?_ ?_ ?_
  · intro i hi
    rw [up3_cell _ _ (by omega), uz_ne a v (by omega)]
    exact R.rset hi
  · intro p hp
    have q := R.rpen hp
    unfold PenOk
    simp (disch := omega) only [up3_cell, pa_sc]
    exact q
  · have q := R.rsc
    unfold ScOk
    simp (disch := omega) only [up3_at, up3_slot, uz_at, uz_ne, q, and_self]
theorem WF.s7 (W : WF a) {v : Int} (h : a 7 ≤ v) (h2 : v ≤ 100000) : WF (uz a 7 v) := by
  have ws := W.sc
  have q := W.scw
  refine W.g2 (uz_ne a v (by omega)) (uz_ne a v (by omega)) (la_sc a (by omega) v) ?_ ?_
  · unfold ScWf at q
    unfold ScWf
    simp (disch := omega) only [uz_at, uz_ne]
    omega
  · intro p hp
    have r := W.penw hp
    unfold PenWf at r
    unfold PenWf
    simp (disch := omega) only [pa_sc, uz_at, uz_ne]
    omega
theorem RC.s8 (R : RC g M a) (v : Int) : RC g (up3 M g 0 4 (zI v)) (uz a 8 v) := by
  refine R.g2 (uz_ne a v (by omega)) (uz_ne a v (by omega)) (la_sc a (by omega) v) (fun p => pa_sc a (by omega) v p 1) (fun k h => up3_cell _ _ (by omega)) (up3_cell _ _ (by omega)) ?_ ?_ ?_
  · intro i hi
    rw [up3_cell _ _ (by omega), uz_ne a v (by omega)]
    exact R.rset hi
  · intro p hp
    have q := R.rpen hp
    unfold PenOk
    simp (disch := omega) only [up3_cell, pa_sc]
    exact q
  · have q := R.rsc
    unfold ScOk
    simp (disch := omega) only [up3_at, up3_slot, uz_at, uz_ne, q, and_self]
theorem WF.s8 (W : WF a) {v : Int} (h : -1 ≤ v) (h2 : v < (np a : Int)) : WF (uz a 8 v) := by
  have ws := W.sc
  have q := W.scw
  refine W.g2 (uz_ne a v (by omega)) (uz_ne a v (by omega)) (la_sc a (by omega) v) ?_ ?_
  · unfold ScWf at q
    unfold ScWf
    simp (disch := omega) only [uz_at, uz_ne]
    omega
  · intro p hp
    have r := W.penw hp
    unfold PenWf at r
    unfold PenWf
    simp (disch := omega) only [pa_sc, uz_at, uz_ne]
    omega
theorem RC.s9 (R : RC g M a) (v : Int) : RC g (up3 M g 0 5 (zI v)) (uz a 9 v) := by
  refine R.g2 (uz_ne a v (by omega)) (uz_ne a v (by omega)) (la_sc a (by omega) v) (fun p => pa_sc a (by omega) v p 1) (fun k h => up3_cell _ _ (by omega)) (up3_cell _ _ (by omega)) ?_ ?_ ?_
  · intro i hi
    rw [up3_cell _ _ (by omega), uz_ne a v (by omega)]
    exact R.rset hi
  · intro p hp
    have q := R.rpen hp
    unfold PenOk
    simp (disch := omega) only [up3_cell, pa_sc]
    exact q
  · have q := R.rsc
    unfold ScOk
    simp (disch := omega) only [up3_at, up3_slot, uz_at, uz_ne, q, and_self]
theorem WF.s9 (W : WF a) {v : Int} (h : 0 ≤ v) (h2 : v ≤ 99) : WF (uz a 9 v) := by
  have ws := W.sc
  have q := W.scw
  refine W.g2 (uz_ne a v (by omega)) (uz_ne a v (by omega)) (la_sc a (by omega) v) ?_ ?_
  · unfold ScWf at q
    unfold ScWf
    simp (disch := omega) only [uz_at, uz_ne]
    omega
  · intro p hp
    have r := W.penw hp
    unfold PenWf at r
    unfold PenWf
    simp (disch := omega) only [pa_sc, uz_at, uz_ne]
    omega
theorem RC.s10 (R : RC g M a) (v : Int) : RC g (up3 M g 0 6 (zI v)) (uz a 10 v) := by
  refine R.g2 (uz_ne a v (by omega)) (uz_ne a v (by omega)) (la_sc a (by omega) v) (fun p => pa_sc a (by omega) v p 1) (fun k h => up3_cell _ _ (by omega)) (up3_cell _ _ (by omega)) ?_ ?_ ?_
  · intro i hi
    rw [up3_cell _ _ (by omega), uz_ne a v (by omega)]
    exact R.rset hi
  · intro p hp
    have q := R.rpen hp
    unfold PenOk
    simp (disch := omega) only [up3_cell, pa_sc]
    exact q
  · have q := R.rsc
    unfold ScOk
    simp (disch := omega) only [up3_at, up3_slot, uz_at, uz_ne, q, and_self]
theorem WF.s10 (W : WF a) {v : Int} (h : 0 ≤ v) (h2 : v ≤ 99) : WF (uz a 10 v) := by
  have ws := W.sc
  have q := W.scw
  refine W.g2 (uz_ne a v (by omega)) (uz_ne a v (by omega)) (la_sc a (by omega) v) ?_ ?_
  · unfold ScWf at q
    unfold ScWf
    simp (disch := omega) only [uz_at, uz_ne]
    omega
  · intro p hp
    have r := W.penw hp
    unfold PenWf at r
    unfold PenWf
    simp (disch := omega) only [pa_sc, uz_at, uz_ne]
    omega
theorem RC.s11 (R : RC g M a) (v : Int) : RC g (up3 M g 0 7 (zI v)) (uz a 11 v) := by
  refine R.g2 (uz_ne a v (by omega)) (uz_ne a v (by omega)) (la_sc a (by omega) v) (fun p => pa_sc a (by omega) v p 1) (fun k h => up3_cell _ _ (by omega)) (up3_cell _ _ (by omega)) ?_ ?_ ?_
  · intro i hi
    rw [up3_cell _ _ (by omega), uz_ne a v (by omega)]
    exact R.rset hi
  · intro p hp
    have q := R.rpen hp
    unfold PenOk
    simp (disch := omega) only [up3_cell, pa_sc]
    exact q
  · have q := R.rsc
    unfold ScOk
    simp (disch := omega) only [up3_at, up3_slot, uz_at, uz_ne, q, and_self]
theorem WF.s11 (W : WF a) {v : Int}  : WF (uz a 11 v) := by
  have ws := W.sc
  have q := W.scw
  refine W.g2 (uz_ne a v (by omega)) (uz_ne a v (by omega)) (la_sc a (by omega) v) ?_ ?_
  · unfold ScWf at q
    unfold ScWf
    simp (disch := omega) only [uz_at, uz_ne]
    omega
  · intro p hp
    have r := W.penw hp
    unfold PenWf at r
    unfold PenWf
    simp (disch := omega) only [pa_sc, uz_at, uz_ne]
    omega
theorem RC.s12 (R : RC g M a) (v : Int) : RC g (up3 M g 0 8 (zI v)) (uz a 12 v) := by
  refine R.g2 (uz_ne a v (by omega)) (uz_ne a v (by omega)) (la_sc a (by omega) v) (fun p => pa_sc a (by omega) v p 1) (fun k h => up3_cell _ _ (by omega)) (up3_cell _ _ (by omega)) ?_ ?_ ?_
  · intro i hi
    rw [up3_cell _ _ (by omega), uz_ne a v (by omega)]
    exact R.rset hi
  · intro p hp
    have q := R.rpen hp
    unfold PenOk
    simp (disch := omega) only [up3_cell, pa_sc]
    exact q
  · have q := R.rsc
    unfold ScOk
    simp (disch := omega) only [up3_at, up3_slot, uz_at, uz_ne, q, and_self]
theorem WF.s12 (W : WF a) {v : Int}  : WF (uz a 12 v) := by
  have ws := W.sc
  have q := W.scw
  refine W.g2 (uz_ne a v (by omega)) (uz_ne a v (by omega)) (la_sc a (by omega) v) ?_ ?_
  · unfold ScWf at q
    unfold ScWf
    simp (disch := omega) only [uz_at, uz_ne]
    omega
  · intro p hp
    have r := W.penw hp
    unfold PenWf at r
    unfold PenWf
    simp (disch := omega) only [pa_sc, uz_at, uz_ne]
    omega
theorem RC.s1 (R : RC g M a) {i : Nat} (hi : i < 5) (v : Int) : RC g (up3 M g 1 i (zI v)) (uz a (2 + i) v) := by
  refine R.g2 (uz_ne a v (by omega)) (uz_ne a v (by omega)) (la_sc a (by omega) v) (fun p => pa_sc a (by omega) v p 1) (fun k h => up3_cell _ _ (by omega)) (up3_cell _ _ (by omega)) ?_ ?_ ?_
  · intro j hj
    by_cases c : j = i
    · subst c; rw [up3_at, uz_at]
    · rw [up3_slot _ _ c, uz_ne a v (by omega)]
      exact R.rset hj
  · intro p hp
    have q := R.rpen hp
    unfold PenOk
    simp (disch := omega) only [up3_cell, pa_sc]
    exact q
  · have q := R.rsc
    unfold ScOk
    simp (disch := omega) only [up3_cell, uz_ne, q, and_self]
theorem WF.s1 (W : WF a) {i : Nat} {v : Int} (hi : i < 5) (h : (if i = 1 then 1 else 0) ≤ v) (h2 : v ≤ if i = 0 then 500 else if i = 1 then 200 else if i = 2 then 100 else 50) : WF (uz a (2 + i) v) := by
  have ws := W.sc
  have q := W.scw
  refine W.g2 (uz_ne a v (by omega)) (uz_ne a v (by omega)) (la_sc a (by omega) v) ?_ ?_
  · unfold ScWf at q
    unfold ScWf
    rcases (by omega : i = 0 ∨ i = 1 ∨ i = 2 ∨ i = 3 ∨ i = 4) with rfl | rfl | rfl | rfl | rfl
    all_goals (simp (disch := omega) only [uz_at, uz_ne, Nat.reduceAdd]; simp at h h2; omega)
  · intro p hp
    have r := W.penw hp
    unfold PenWf at r
    unfold PenWf
    simp (disch := omega) only [pa_sc, uz_ne]
    exact r
theorem RC.q2 (R : RC g M a) {p : Nat} (hp : p < np a) (h5 : np a ≤ 5) (v : Int) : RC g (up3 M g 6 p (zI v)) (uz a (13 + 8 * p + 2) v) := by
  refine R.g2 (uz_ne a v (by omega)) (uz_ne a v (by omega)) (la_pn a (by omega) (by omega) v) (fun q => by rw [pa_pn a (by omega) (by omega), if_neg (by omega)]) (fun k h => up3_cell _ _ (by omega)) (up3_cell _ _ (by omega)) ?_ ?_ ?_
  · intro i hi
    rw [up3_cell _ _ (by omega), uz_ne a v (by omega)]
    exact R.rset hi
  · intro o ho
    have q := R.rpen ho
    unfold PenOk
    by_cases c : o = p
    · subst c
      simp (disch := omega) only [up3_at, up3_cell, pa_pn, q, Nat.reduceEqDiff, and_true, and_false, ↓reduceIte]
    · simp (disch := omega) only [up3_slot, up3_cell, pa_pn, c, false_and, ↓reduceIte]
      exact q
  · have q := R.rsc
    unfold ScOk
    simp (disch := omega) only [up3_cell, uz_ne, q, and_self]
theorem WF.q2 (W : WF a) {p : Nat} {v : Int} (hp : p < np a) (h : 0 ≤ v) (h2 : v ≤ pa a p 1) : WF (uz a (13 + 8 * p + 2) v) := by
  have ws := W.sc
  have q := W.scw
  refine W.g2 (uz_ne a v (by omega)) (uz_ne a v (by omega)) (la_pn a (by omega) (by omega) v) ?_ ?_
  · unfold ScWf at q
    unfold ScWf
    simp (disch := omega) only [uz_ne]
    exact q
  · intro o ho
    have r := W.penw ho
    have rp := W.penw hp
    unfold PenWf at r rp
    unfold PenWf
    rw [uz_ne a v (show 7 ≠ 13 + 8 * p + 2 by omega)]
    simp (disch := omega) only [pa_pn]
    by_cases c : o = p
    · subst c
      simp
      omega
    · simp only [c, false_and, ↓reduceIte]
      exact r
theorem RC.q3 (R : RC g M a) {p : Nat} (hp : p < np a) (h5 : np a ≤ 5) (v : Int) : RC g (up3 M g 7 p (zI v)) (uz a (13 + 8 * p + 3) v) := by
  refine R.g2 (uz_ne a v (by omega)) (uz_ne a v (by omega)) (la_pn a (by omega) (by omega) v) (fun q => by rw [pa_pn a (by omega) (by omega), if_neg (by omega)]) (fun k h => up3_cell _ _ (by omega)) (up3_cell _ _ (by omega)) ?_ ?_ ?_
  · intro i hi
    rw [up3_cell _ _ (by omega), uz_ne a v (by omega)]
    exact R.rset hi
  · intro o ho
    have q := R.rpen ho
    unfold PenOk
    by_cases c : o = p
    · subst c
      simp (disch := omega) only [up3_at, up3_cell, pa_pn, q, Nat.reduceEqDiff, and_true, and_false, ↓reduceIte]
    · simp (disch := omega) only [up3_slot, up3_cell, pa_pn, c, false_and, ↓reduceIte]
      exact q
  · have q := R.rsc
    unfold ScOk
    simp (disch := omega) only [up3_cell, uz_ne, q, and_self]
theorem WF.q3 (W : WF a) {p : Nat} {v : Int} (hp : p < np a) (h : 0 ≤ v) (h2 : v ≤ a 7) : WF (uz a (13 + 8 * p + 3) v) := by
  have ws := W.sc
  have q := W.scw
  refine W.g2 (uz_ne a v (by omega)) (uz_ne a v (by omega)) (la_pn a (by omega) (by omega) v) ?_ ?_
  · unfold ScWf at q
    unfold ScWf
    simp (disch := omega) only [uz_ne]
    exact q
  · intro o ho
    have r := W.penw ho
    have rp := W.penw hp
    unfold PenWf at r rp
    unfold PenWf
    rw [uz_ne a v (show 7 ≠ 13 + 8 * p + 3 by omega)]
    simp (disch := omega) only [pa_pn]
    by_cases c : o = p
    · subst c
      simp
      omega
    · simp only [c, false_and, ↓reduceIte]
      exact r
theorem RC.q4 (R : RC g M a) {p : Nat} (hp : p < np a) (h5 : np a ≤ 5) (v : Int) : RC g (up3 M g 8 p (zI v)) (uz a (13 + 8 * p + 4) v) := by
  refine R.g2 (uz_ne a v (by omega)) (uz_ne a v (by omega)) (la_pn a (by omega) (by omega) v) (fun q => by rw [pa_pn a (by omega) (by omega), if_neg (by omega)]) (fun k h => up3_cell _ _ (by omega)) (up3_cell _ _ (by omega)) ?_ ?_ ?_
  · intro i hi
    rw [up3_cell _ _ (by omega), uz_ne a v (by omega)]
    exact R.rset hi
  · intro o ho
    have q := R.rpen ho
    unfold PenOk
    by_cases c : o = p
    · subst c
      simp (disch := omega) only [up3_at, up3_cell, pa_pn, q, Nat.reduceEqDiff, and_true, and_false, ↓reduceIte]
    · simp (disch := omega) only [up3_slot, up3_cell, pa_pn, c, false_and, ↓reduceIte]
      exact q
  · have q := R.rsc
    unfold ScOk
    simp (disch := omega) only [up3_cell, uz_ne, q, and_self]
theorem WF.q4 (W : WF a) {p : Nat} {v : Int} (hp : p < np a) (h : 0 ≤ v) (h2 : v ≤ a 7) : WF (uz a (13 + 8 * p + 4) v) := by
  have ws := W.sc
  have q := W.scw
  refine W.g2 (uz_ne a v (by omega)) (uz_ne a v (by omega)) (la_pn a (by omega) (by omega) v) ?_ ?_
  · unfold ScWf at q
    unfold ScWf
    simp (disch := omega) only [uz_ne]
    exact q
  · intro o ho
    have r := W.penw ho
    have rp := W.penw hp
    unfold PenWf at r rp
    unfold PenWf
    rw [uz_ne a v (show 7 ≠ 13 + 8 * p + 4 by omega)]
    simp (disch := omega) only [pa_pn]
    by_cases c : o = p
    · subst c
      simp
      omega
    · simp only [c, false_and, ↓reduceIte]
      exact r
theorem RC.q6 (R : RC g M a) {p : Nat} (hp : p < np a) (h5 : np a ≤ 5) (v : Int) : RC g (up3 M g 9 p (zI v)) (uz a (13 + 8 * p + 6) v) := by
  refine R.g2 (uz_ne a v (by omega)) (uz_ne a v (by omega)) (la_pn a (by omega) (by omega) v) (fun q => by rw [pa_pn a (by omega) (by omega), if_neg (by omega)]) (fun k h => up3_cell _ _ (by omega)) (up3_cell _ _ (by omega)) ?_ ?_ ?_
  · intro i hi
    rw [up3_cell _ _ (by omega), uz_ne a v (by omega)]
    exact R.rset hi
  · intro o ho
    have q := R.rpen ho
    unfold PenOk
    by_cases c : o = p
    · subst c
      simp (disch := omega) only [up3_at, up3_cell, pa_pn, q, Nat.reduceEqDiff, and_true, and_false, ↓reduceIte]
    · simp (disch := omega) only [up3_slot, up3_cell, pa_pn, c, false_and, ↓reduceIte]
      exact q
  · have q := R.rsc
    unfold ScOk
    simp (disch := omega) only [up3_cell, uz_ne, q, and_self]
theorem WF.q6 (W : WF a) {p : Nat} {v : Int} (hp : p < np a) (h : v = 0 ∨ v = 1) : WF (uz a (13 + 8 * p + 6) v) := by
  have ws := W.sc
  have q := W.scw
  refine W.g2 (uz_ne a v (by omega)) (uz_ne a v (by omega)) (la_pn a (by omega) (by omega) v) ?_ ?_
  · unfold ScWf at q
    unfold ScWf
    simp (disch := omega) only [uz_ne]
    exact q
  · intro o ho
    have r := W.penw ho
    have rp := W.penw hp
    unfold PenWf at r rp
    unfold PenWf
    rw [uz_ne a v (show 7 ≠ 13 + 8 * p + 6 by omega)]
    simp (disch := omega) only [pa_pn]
    by_cases c : o = p
    · subst c
      simp
      omega
    · simp only [c, false_and, ↓reduceIte]
      exact r
end
