/-! a line is drawn, of both -/
section
variable {g : Nat} {M N S : Mem} {a b : Row}
theorem la_ln (a : Row) {l0 w0 l w : Nat} (hw : w0 < 8) (hw2 : w < 8) (v : Int) : la (uz a (53 + 8 * l0 + w0) v) l w = if l = l0 ∧ w = w0 then v else la a l w := by
  unfold la
  by_cases c : l = l0 ∧ w = w0
  · rw [if_pos c, c.1, c.2, uz_at]
  · rw [if_neg c, uz_ne a v (by omega)]
theorem pa_ln (a : Row) {l0 w0 : Nat} (v : Int) {p w : Nat} (hp : p < 5) (hw : w < 8) : pa (uz a (53 + 8 * l0 + w0) v) p w = pa a p w := uz_ne a v (by omega)
def ldr (a : Row) (l : Nat) (p t v s : Int) : Row := uz (uz (uz (uz a (53 + 8 * l + 4) p) (53 + 8 * l + 5) t) (53 + 8 * l + 6) v) (53 + 8 * l + 7) s
theorem ldr_sc (a : Row) (l : Nat) (p t v s : Int) {i : Nat} (h : i < 53) : ldr a l p t v s i = a i := by
  unfold ldr
  simp (disch := omega) only [uz_ne]
theorem ldr_pa (a : Row) (l : Nat) (p t v s : Int) {q w : Nat} (hq : q < 5) (hw : w < 8) : pa (ldr a l p t v s) q w = pa a q w := ldr_sc a l p t v s (by omega)
theorem ldr_la (a : Row) (l : Nat) (p t v s : Int) (o : Nat) {w : Nat} (hw : w < 8) : la (ldr a l p t v s) o w = if o = l then (if w = 4 then p else if w = 5 then t else if w = 6 then v else if w = 7 then s else la a o w) else la a o w := by
  unfold ldr
  by_cases c : o = l
  · subst c
    rw [if_pos rfl]
    simp (disch := omega) only [la_ln, true_and]
    (repeat' split) <;> first | rfl | omega
  · rw [if_neg c]
    simp (disch := omega) only [la_ln, c, false_and, ↓reduceIte]
theorem RC.ld (W : WF a) (R : RC g M a) {l p : Nat} (hl : l < nl a) (hp : p < np a) (t v : Int) {k : Int} (h1 : 1 ≤ k) (h2 : k ≤ pa a p 1) : RC g (up3 (up3 (up3 (up3 M g 17 l (zI p)) g 18 l (zI t)) g 19 l (zI v)) g 20 l (zI k)) (ldr a l p t v (shI k (pa a p 1))) := by
  have ws := W.sc
  refine R.g1 (ldr_sc a l p t v _ (by omega)) (ldr_sc a l p t v _ (by omega)) ?_ ?_ ?_ ?_ ?_ ?_ ?_ ?_ ?_
  · intro k h1 h2
    simp (disch := omega) only [up3_cell]
  · simp (disch := omega) only [up3_cell]
  · intro o ho w hw
    rw [ldr_la _ _ _ _ _ _ _ (by omega)]
    split
    · (repeat' split) <;> first | rfl | omega
    · rfl
  · intro i hi
    simp (disch := omega) only [up3_cell]
    rw [ldr_sc _ _ _ _ _ _ (by omega)]
    exact R.rset hi
  · intro o ho
    have q := R.rpen ho
    unfold PenOk
    simp (disch := omega) only [up3_cell, ldr_pa]
    exact q
  · intro o ho
    rw [ldr_la _ _ _ _ _ _ _ (by omega)]
    by_cases c : o = l
    · subst c
      simp (disch := omega) only [up3_cell, up3_at, ↓reduceIte]
    · rw [if_neg c]
      simp (disch := omega) only [up3_cell, up3_slot]
      exact R.l17 ho
  · intro o ho
    rw [ldr_la _ _ _ _ _ _ _ (show 4 < 8 by omega), ldr_la _ _ _ _ _ _ _ (show 5 < 8 by omega), ldr_la _ _ _ _ _ _ _ (show 6 < 8 by omega)]
    by_cases c : o = l
    · subst c
      intro _
      simp (disch := omega) only [up3_cell, up3_at, ↓reduceIte, Nat.reduceEqDiff, and_self]
    · rw [if_neg c, if_neg c, if_neg c]
      intro hd
      simp (disch := omega) only [up3_cell, up3_slot]
      exact R.rdrawn ho hd
  · intro o ho
    rw [ldr_la _ _ _ _ _ _ _ (show 4 < 8 by omega), ldr_la _ _ _ _ _ _ _ (show 7 < 8 by omega)]
    by_cases c : o = l
    · subst c
      intro _
      refine ⟨k, h1, ?_, ?_, ?_⟩
      · simp only [↓reduceIte, Int.toNat_natCast]
        rw [ldr_pa _ _ _ _ _ _ (by omega) (by omega)]
        exact h2
      · rw [up3_at]
      · simp only [↓reduceIte, Int.toNat_natCast, Nat.reduceEqDiff]
        rw [ldr_pa _ _ _ _ _ _ (by omega) (by omega)]
    · rw [if_neg c, if_neg c]
      intro hd
      have v := W.line ho
      simp (disch := omega) only [up3_cell, up3_slot]
      rw [ldr_pa _ _ _ _ _ _ (by omega) (by omega)]
      exact R.rshade ho hd
  · have q := R.rsc
    unfold ScOk
    simp (disch := omega) only [up3_cell, ldr_sc]
    exact q
theorem WF.ld (W : WF a) {l p : Nat} (hp : p < np a) {t v k c : Int} (h1 : 1 ≤ k) (h2 : k ≤ c) (h3 : c ≤ 5000) (h4 : 0 ≤ t ∧ t ≤ 100000) (h5 : 0 ≤ v ∧ v ≤ 100100) : WF (ldr a l p t v (shI k c)) := by
  have ws := W.sc
  refine W.g1 (ldr_sc _ _ _ _ _ _ (by omega)) (ldr_sc _ _ _ _ _ _ (by omega)) ?_ ?_ ?_ ?_ ?_
  · have q := W.scw
    unfold ScWf at q
    unfold ScWf
    simp (disch := omega) only [ldr_sc]
    exact q
  · intro o ho
    have q := W.penw ho
    unfold PenWf at q
    unfold PenWf
    rw [ldr_sc _ _ _ _ _ _ (show 7 < 53 by omega)]
    simp (disch := omega) only [ldr_pa]
    exact q
  · intro o ho w hw
    rw [ldr_la _ _ _ _ _ _ _ (by omega)]
    split
    · (repeat' split) <;> first | rfl | omega
    · rfl
  · intro o ho
    have q := W.line ho
    rw [ldr_la _ _ _ _ _ _ _ (by omega)]
    split
    · rw [if_pos rfl]; omega
    · omega
  · intro o ho
    rw [ldr_la _ _ _ _ _ _ _ (show 4 < 8 by omega), ldr_la _ _ _ _ _ _ _ (show 5 < 8 by omega), ldr_la _ _ _ _ _ _ _ (show 6 < 8 by omega), ldr_la _ _ _ _ _ _ _ (show 7 < 8 by omega)]
    by_cases q : o = l
    · rw [if_pos q, if_pos q, if_pos q, if_pos q]
      intro _
      refine ⟨?_, k, c, h1, h2, h3, rfl⟩
      simp only [Nat.reduceEqDiff, ↓reduceIte]
      omega
    · rw [if_neg q, if_neg q, if_neg q, if_neg q]
      intro hd
      exact ⟨W.drawn ho hd, W.shade ho hd⟩
theorem bX_c {l : Nat} (h : ∀ w, w < 4 → la b l w = la a l w) (w : Int) : bX b l w = bX a l w := by
  unfold bX
  rw [h 0 (by omega), h 2 (by omega)]
theorem bY_c {l : Nat} (h : ∀ w, w < 4 → la b l w = la a l w) (w : Int) : bY b l w = bY a l w := by
  unfold bY
  rw [h 1 (by omega), h 3 (by omega)]
theorem ik_c {p l : Nat} (h : ∀ w, w < 4 → la b l w = la a l w) (hp : pa b p 0 = pa a p 0) : ik b p l = ik a p l := by
  unfold ik
  rw [len_c h, hp]
/-- the row behind a line -/
def drw (a : Row) (l p : Nat) (w : Int) : Row := uz (uz (uz (ldr (uz (uz (uz (uz (a) (7) (a 7 + (dst (a 9) (a 10) (bX a l w) (bY a l w) + len a l))) (12) (a 12 + dst (a 9) (a 10) (bX a l w) (bY a l w))) (9) (bX a l (1 - w))) (10) (bY a l (1 - w))) l p (a 7 + (dst (a 9) (a 10) (bX a l w) (bY a l w) + len a l)) (a 7 + (dst (a 9) (a 10) (bX a l w) (bY a l w) + len a l) + a 4) (shI (pa a p 2) (pa a p 1))) (13 + 8 * p + 2) (pa a p 2 - ik a p l)) (13 + 8 * p + 3) (pa a p 3 + len a l)) (13 + 8 * p + 4) (0)
theorem k_drawByHand_wf (W : WF a) {l p : Nat} {w : Int} (h : l < nl a) (h0 : 0 ≤ w) (h2 : w ≤ 1) (hp : a 8 = p) (hd : la a l 4 = -1) (hi : ik a p l ≤ pa a p 2) (ht : a 7 + (dst (a 9) (a 10) (bX a l w) (bY a l w) + len a l) ≤ 100000) : WF (drw a l p w) := by
  have ws := W.sc
  have u := W.line h
  have hpn : p < np a := by omega
  have v := W.pen hpn
  have ir := ik_rg W (p := p) h
  have dr := dst_rg (x := a 9) (y := a 10) (by omega) (by omega) (bX_rg W h w) (bY_rg W h w)
  have bx := bX_rg W h (1 - w)
  have by' := bY_rg W h (1 - w)
  have W1 : WF (uz (a) (7) (a 7 + (dst (a 9) (a 10) (bX a l w) (bY a l w) + len a l))) := W.s7 (by omega) ht
  have W2 : WF (uz (uz (a) (7) (a 7 + (dst (a 9) (a 10) (bX a l w) (bY a l w) + len a l))) (12) (a 12 + dst (a 9) (a 10) (bX a l w) (bY a l w))) := W1.s12
  have W3 : WF (uz (uz (uz (a) (7) (a 7 + (dst (a 9) (a 10) (bX a l w) (bY a l w) + len a l))) (12) (a 12 + dst (a 9) (a 10) (bX a l w) (bY a l w))) (9) (bX a l (1 - w))) := W2.s9 bx.1 bx.2
  have W4 : WF (uz (uz (uz (uz (a) (7) (a 7 + (dst (a 9) (a 10) (bX a l w) (bY a l w) + len a l))) (12) (a 12 + dst (a 9) (a 10) (bX a l w) (bY a l w))) (9) (bX a l (1 - w))) (10) (bY a l (1 - w))) := W3.s10 by'.1 by'.2
  have n4 : (uz (uz (uz (uz (a) (7) (a 7 + (dst (a 9) (a 10) (bX a l w) (bY a l w) + len a l))) (12) (a 12 + dst (a 9) (a 10) (bX a l w) (bY a l w))) (9) (bX a l (1 - w))) (10) (bY a l (1 - w))) 0 = a 0 := rfl
  have p4 : ∀ q w0, pa (uz (uz (uz (uz (a) (7) (a 7 + (dst (a 9) (a 10) (bX a l w) (bY a l w) + len a l))) (12) (a 12 + dst (a 9) (a 10) (bX a l w) (bY a l w))) (9) (bX a l (1 - w))) (10) (bY a l (1 - w))) q w0 = pa a q w0 := fun q w0 => by simp (disch := omega) only [pa_sc]
  have l4 : ∀ o w0, la (uz (uz (uz (uz (a) (7) (a 7 + (dst (a 9) (a 10) (bX a l w) (bY a l w) + len a l))) (12) (a 12 + dst (a 9) (a 10) (bX a l w) (bY a l w))) (9) (bX a l (1 - w))) (10) (bY a l (1 - w))) o w0 = la a o w0 := fun o w0 => by simp (disch := omega) only [la_sc]
  have W5 : WF (ldr (uz (uz (uz (uz (a) (7) (a 7 + (dst (a 9) (a 10) (bX a l w) (bY a l w) + len a l))) (12) (a 12 + dst (a 9) (a 10) (bX a l w) (bY a l w))) (9) (bX a l (1 - w))) (10) (bY a l (1 - w))) l p (a 7 + (dst (a 9) (a 10) (bX a l w) (bY a l w) + len a l)) (a 7 + (dst (a 9) (a 10) (bX a l w) (bY a l w) + len a l) + a 4) (shI (pa a p 2) (pa a p 1))) := W4.ld (l := l) (p := p) hpn (by omega) v.2.2.2.2.1 v.2.2.1 (by omega) (by omega)
  have p5 : ∀ q w0, q < 5 → w0 < 8 → pa (ldr (uz (uz (uz (uz (a) (7) (a 7 + (dst (a 9) (a 10) (bX a l w) (bY a l w) + len a l))) (12) (a 12 + dst (a 9) (a 10) (bX a l w) (bY a l w))) (9) (bX a l (1 - w))) (10) (bY a l (1 - w))) l p (a 7 + (dst (a 9) (a 10) (bX a l w) (bY a l w) + len a l)) (a 7 + (dst (a 9) (a 10) (bX a l w) (bY a l w) + len a l) + a 4) (shI (pa a p 2) (pa a p 1))) q w0 = pa a q w0 := fun q w0 h1 h2 => by rw [ldr_pa _ _ _ _ _ _ h1 h2, p4]
  have t5 : (ldr (uz (uz (uz (uz (a) (7) (a 7 + (dst (a 9) (a 10) (bX a l w) (bY a l w) + len a l))) (12) (a 12 + dst (a 9) (a 10) (bX a l w) (bY a l w))) (9) (bX a l (1 - w))) (10) (bY a l (1 - w))) l p (a 7 + (dst (a 9) (a 10) (bX a l w) (bY a l w) + len a l)) (a 7 + (dst (a 9) (a 10) (bX a l w) (bY a l w) + len a l) + a 4) (shI (pa a p 2) (pa a p 1))) 7 = a 7 + (dst (a 9) (a 10) (bX a l w) (bY a l w) + len a l) := by rw [ldr_sc _ _ _ _ _ _ (by omega)]; simp (disch := omega) only [uz_at, uz_ne]
  have n5 : np (ldr (uz (uz (uz (uz (a) (7) (a 7 + (dst (a 9) (a 10) (bX a l w) (bY a l w) + len a l))) (12) (a 12 + dst (a 9) (a 10) (bX a l w) (bY a l w))) (9) (bX a l (1 - w))) (10) (bY a l (1 - w))) l p (a 7 + (dst (a 9) (a 10) (bX a l w) (bY a l w) + len a l)) (a 7 + (dst (a 9) (a 10) (bX a l w) (bY a l w) + len a l) + a 4) (shI (pa a p 2) (pa a p 1))) = np a := np_c (by rw [ldr_sc _ _ _ _ _ _ (by omega)]; exact n4)
  generalize hb5 : ldr (uz (uz (uz (uz (a) (7) (a 7 + (dst (a 9) (a 10) (bX a l w) (bY a l w) + len a l))) (12) (a 12 + dst (a 9) (a 10) (bX a l w) (bY a l w))) (9) (bX a l (1 - w))) (10) (bY a l (1 - w))) l p (a 7 + (dst (a 9) (a 10) (bX a l w) (bY a l w) + len a l)) (a 7 + (dst (a 9) (a 10) (bX a l w) (bY a l w) + len a l) + a 4) (shI (pa a p 2) (pa a p 1)) = c5 at W5 p5 t5 n5
  have W6 : WF (uz c5 (13 + 8 * p + 2) (pa a p 2 - ik a p l)) := W5.q2 (p := p) (by rw [n5]; exact hpn) (by omega) (by rw [p5 p 1 (by omega) (by omega)]; omega)
  have W7 : WF (uz (uz c5 (13 + 8 * p + 2) (pa a p 2 - ik a p l)) (13 + 8 * p + 3) (pa a p 3 + len a l)) := W6.q3 (p := p) (by rw [np_c (uz_ne _ _ (by omega)), n5]; exact hpn) (by omega) (by rw [uz_ne _ _ (by omega), t5]; omega)
  have W8 : WF (drw a l p w) := by
    unfold drw
    rw [hb5]
    exact W7.q4 (p := p) (by rw [np_c (uz_ne _ _ (by omega)), np_c (uz_ne _ _ (by omega)), n5]; exact hpn) (by omega) (by rw [uz_ne _ _ (by omega), uz_ne _ _ (by omega), t5]; omega)
  exact W8
theorem k_drawByHand (W : WF a) (R : RC g M a) {l p : Nat} {w : Int} (h : l < nl a) (h0 : 0 ≤ w) (h2 : w ≤ 1) (hp : a 8 = p) (hd : la a l 4 = -1) (hi : ik a p l ≤ pa a p 2) (ht : a 7 + (dst (a 9) (a 10) (bX a l w) (bY a l w) + len a l) ≤ 100000) : ∃ N, f_X5_drawByHand g (zI l) (zI w) M = some ((), N) ∧ RC g N (drw a l p w) ∧ OG g M N := by
  have ws := W.sc
  have u := W.line h
  have hpn : p < np a := by omega
  have v := W.pen hpn
  have ir := ik_rg W (p := p) h
  have dr := dst_rg (x := a 9) (y := a 10) (by omega) (by omega) (bX_rg W h w) (bY_rg W h w)
  have bx := bX_rg W h (1 - w)
  have by' := bY_rg W h (1 - w)
  have W1 : WF (uz (a) (7) (a 7 + (dst (a 9) (a 10) (bX a l w) (bY a l w) + len a l))) := W.s7 (by omega) ht
  have W2 : WF (uz (uz (a) (7) (a 7 + (dst (a 9) (a 10) (bX a l w) (bY a l w) + len a l))) (12) (a 12 + dst (a 9) (a 10) (bX a l w) (bY a l w))) := W1.s12
  have W3 : WF (uz (uz (uz (a) (7) (a 7 + (dst (a 9) (a 10) (bX a l w) (bY a l w) + len a l))) (12) (a 12 + dst (a 9) (a 10) (bX a l w) (bY a l w))) (9) (bX a l (1 - w))) := W2.s9 bx.1 bx.2
  have W4 : WF (uz (uz (uz (uz (a) (7) (a 7 + (dst (a 9) (a 10) (bX a l w) (bY a l w) + len a l))) (12) (a 12 + dst (a 9) (a 10) (bX a l w) (bY a l w))) (9) (bX a l (1 - w))) (10) (bY a l (1 - w))) := W3.s10 by'.1 by'.2
  have n4 : (uz (uz (uz (uz (a) (7) (a 7 + (dst (a 9) (a 10) (bX a l w) (bY a l w) + len a l))) (12) (a 12 + dst (a 9) (a 10) (bX a l w) (bY a l w))) (9) (bX a l (1 - w))) (10) (bY a l (1 - w))) 0 = a 0 := rfl
  have p4 : ∀ q w0, pa (uz (uz (uz (uz (a) (7) (a 7 + (dst (a 9) (a 10) (bX a l w) (bY a l w) + len a l))) (12) (a 12 + dst (a 9) (a 10) (bX a l w) (bY a l w))) (9) (bX a l (1 - w))) (10) (bY a l (1 - w))) q w0 = pa a q w0 := fun q w0 => by simp (disch := omega) only [pa_sc]
  have l4 : ∀ o w0, la (uz (uz (uz (uz (a) (7) (a 7 + (dst (a 9) (a 10) (bX a l w) (bY a l w) + len a l))) (12) (a 12 + dst (a 9) (a 10) (bX a l w) (bY a l w))) (9) (bX a l (1 - w))) (10) (bY a l (1 - w))) o w0 = la a o w0 := fun o w0 => by simp (disch := omega) only [la_sc]
  have W5 : WF (ldr (uz (uz (uz (uz (a) (7) (a 7 + (dst (a 9) (a 10) (bX a l w) (bY a l w) + len a l))) (12) (a 12 + dst (a 9) (a 10) (bX a l w) (bY a l w))) (9) (bX a l (1 - w))) (10) (bY a l (1 - w))) l p (a 7 + (dst (a 9) (a 10) (bX a l w) (bY a l w) + len a l)) (a 7 + (dst (a 9) (a 10) (bX a l w) (bY a l w) + len a l) + a 4) (shI (pa a p 2) (pa a p 1))) := W4.ld (l := l) (p := p) hpn (by omega) v.2.2.2.2.1 v.2.2.1 (by omega) (by omega)
  have p5 : ∀ q w0, q < 5 → w0 < 8 → pa (ldr (uz (uz (uz (uz (a) (7) (a 7 + (dst (a 9) (a 10) (bX a l w) (bY a l w) + len a l))) (12) (a 12 + dst (a 9) (a 10) (bX a l w) (bY a l w))) (9) (bX a l (1 - w))) (10) (bY a l (1 - w))) l p (a 7 + (dst (a 9) (a 10) (bX a l w) (bY a l w) + len a l)) (a 7 + (dst (a 9) (a 10) (bX a l w) (bY a l w) + len a l) + a 4) (shI (pa a p 2) (pa a p 1))) q w0 = pa a q w0 := fun q w0 h1 h2 => by rw [ldr_pa _ _ _ _ _ _ h1 h2, p4]
  have t5 : (ldr (uz (uz (uz (uz (a) (7) (a 7 + (dst (a 9) (a 10) (bX a l w) (bY a l w) + len a l))) (12) (a 12 + dst (a 9) (a 10) (bX a l w) (bY a l w))) (9) (bX a l (1 - w))) (10) (bY a l (1 - w))) l p (a 7 + (dst (a 9) (a 10) (bX a l w) (bY a l w) + len a l)) (a 7 + (dst (a 9) (a 10) (bX a l w) (bY a l w) + len a l) + a 4) (shI (pa a p 2) (pa a p 1))) 7 = a 7 + (dst (a 9) (a 10) (bX a l w) (bY a l w) + len a l) := by rw [ldr_sc _ _ _ _ _ _ (by omega)]; simp (disch := omega) only [uz_at, uz_ne]
  have n5 : np (ldr (uz (uz (uz (uz (a) (7) (a 7 + (dst (a 9) (a 10) (bX a l w) (bY a l w) + len a l))) (12) (a 12 + dst (a 9) (a 10) (bX a l w) (bY a l w))) (9) (bX a l (1 - w))) (10) (bY a l (1 - w))) l p (a 7 + (dst (a 9) (a 10) (bX a l w) (bY a l w) + len a l)) (a 7 + (dst (a 9) (a 10) (bX a l w) (bY a l w) + len a l) + a 4) (shI (pa a p 2) (pa a p 1))) = np a := np_c (by rw [ldr_sc _ _ _ _ _ _ (by omega)]; exact n4)
  generalize hb5 : ldr (uz (uz (uz (uz (a) (7) (a 7 + (dst (a 9) (a 10) (bX a l w) (bY a l w) + len a l))) (12) (a 12 + dst (a 9) (a 10) (bX a l w) (bY a l w))) (9) (bX a l (1 - w))) (10) (bY a l (1 - w))) l p (a 7 + (dst (a 9) (a 10) (bX a l w) (bY a l w) + len a l)) (a 7 + (dst (a 9) (a 10) (bX a l w) (bY a l w) + len a l) + a 4) (shI (pa a p 2) (pa a p 1)) = c5 at W5 p5 t5 n5
  have R2 : RC g (up3 (up3 (M) g 0 3 (zI (a 7 + (dst (a 9) (a 10) (bX a l w) (bY a l w) + len a l)))) g 0 8 (zI (a 12 + dst (a 9) (a 10) (bX a l w) (bY a l w)))) (uz (uz (a) (7) (a 7 + (dst (a 9) (a 10) (bX a l w) (bY a l w) + len a l))) (12) (a 12 + dst (a 9) (a 10) (bX a l w) (bY a l w))) := (R.s7 _).s12 _
  have R3 : RC g (up3 (up3 (up3 (M) g 0 3 (zI (a 7 + (dst (a 9) (a 10) (bX a l w) (bY a l w) + len a l)))) g 0 8 (zI (a 12 + dst (a 9) (a 10) (bX a l w) (bY a l w)))) g 0 5 (zI (bX a l (1 - w)))) (uz (uz (uz (a) (7) (a 7 + (dst (a 9) (a 10) (bX a l w) (bY a l w) + len a l))) (12) (a 12 + dst (a 9) (a 10) (bX a l w) (bY a l w))) (9) (bX a l (1 - w))) := R2.s9 _
  have R4 : RC g (up3 (up3 (up3 (up3 (M) g 0 3 (zI (a 7 + (dst (a 9) (a 10) (bX a l w) (bY a l w) + len a l)))) g 0 8 (zI (a 12 + dst (a 9) (a 10) (bX a l w) (bY a l w)))) g 0 5 (zI (bX a l (1 - w)))) g 0 6 (zI (bY a l (1 - w)))) (uz (uz (uz (uz (a) (7) (a 7 + (dst (a 9) (a 10) (bX a l w) (bY a l w) + len a l))) (12) (a 12 + dst (a 9) (a 10) (bX a l w) (bY a l w))) (9) (bX a l (1 - w))) (10) (bY a l (1 - w))) := R3.s10 _
  have R5 : RC g (up3 (up3 (up3 (up3 (up3 (up3 (up3 (up3 (M) g 0 3 (zI (a 7 + (dst (a 9) (a 10) (bX a l w) (bY a l w) + len a l)))) g 0 8 (zI (a 12 + dst (a 9) (a 10) (bX a l w) (bY a l w)))) g 0 5 (zI (bX a l (1 - w)))) g 0 6 (zI (bY a l (1 - w)))) g 17 l (zI (p))) g 18 l (zI (a 7 + (dst (a 9) (a 10) (bX a l w) (bY a l w) + len a l)))) g 19 l (zI (a 7 + (dst (a 9) (a 10) (bX a l w) (bY a l w) + len a l) + a 4))) g 20 l (zI (pa a p 2))) c5 := by
    rw [← hb5]
    have q := R4.ld W4 (l := l) (p := p) h hpn (a 7 + (dst (a 9) (a 10) (bX a l w) (bY a l w) + len a l)) (a 7 + (dst (a 9) (a 10) (bX a l w) (bY a l w) + len a l) + a 4) (k := pa a p 2) (by omega) (by rw [p4]; omega)
    rw [p4] at q
    exact q
  have R8 : RC g (up3 (up3 (up3 (up3 (up3 (up3 (up3 (up3 (up3 (up3 (up3 (M) g 0 3 (zI (a 7 + (dst (a 9) (a 10) (bX a l w) (bY a l w) + len a l)))) g 0 8 (zI (a 12 + dst (a 9) (a 10) (bX a l w) (bY a l w)))) g 0 5 (zI (bX a l (1 - w)))) g 0 6 (zI (bY a l (1 - w)))) g 17 l (zI (p))) g 18 l (zI (a 7 + (dst (a 9) (a 10) (bX a l w) (bY a l w) + len a l)))) g 19 l (zI (a 7 + (dst (a 9) (a 10) (bX a l w) (bY a l w) + len a l) + a 4))) g 20 l (zI (pa a p 2))) g 6 p (zI (pa a p 2 - ik a p l))) g 7 p (zI (pa a p 3 + len a l))) g 8 p (zI (0))) (drw a l p w) := by
    unfold drw
    rw [hb5]
    exact ((R5.q2 (p := p) (by rw [n5]; exact hpn) (by rw [n5]; omega) _).q3 (p := p) (by rw [np_c (uz_ne _ _ (by omega)), n5]; exact hpn) (by rw [np_c (uz_ne _ _ (by omega)), n5]; omega) _).q4 (p := p) (by rw [np_c (uz_ne _ _ (by omega)), np_c (uz_ne _ _ (by omega)), n5]; exact hpn) (by rw [np_c (uz_ne _ _ (by omega)), np_c (uz_ne _ _ (by omega)), n5]; omega) _
  refine ⟨up3 (up3 (up3 (up3 (up3 (up3 (up3 (up3 (up3 (up3 (up3 (M) g 0 3 (zI (a 7 + (dst (a 9) (a 10) (bX a l w) (bY a l w) + len a l)))) g 0 8 (zI (a 12 + dst (a 9) (a 10) (bX a l w) (bY a l w)))) g 0 5 (zI (bX a l (1 - w)))) g 0 6 (zI (bY a l (1 - w)))) g 17 l (zI (p))) g 18 l (zI (a 7 + (dst (a 9) (a 10) (bX a l w) (bY a l w) + len a l)))) g 19 l (zI (a 7 + (dst (a 9) (a 10) (bX a l w) (bY a l w) + len a l) + a 4))) g 20 l (zI (pa a p 2))) g 6 p (zI (pa a p 2 - ik a p l))) g 7 p (zI (pa a p 3 + len a l))) g 8 p (zI (0)), ?_, R8, ?_⟩
  · have tv := k_X5_travelTo W R h h0 h2
    have kx := k_beginX R2 h (by omega) (w := 1 - w) (by omega) (by omega)
    have ky := k_beginY R3 h (by omega) (w := 1 - w) (by omega) (by omega)
    rw [bX_c (a := a) (b := uz (uz (a) (7) (a 7 + (dst (a 9) (a 10) (bX a l w) (bY a l w) + len a l))) (12) (a 12 + dst (a 9) (a 10) (bX a l w) (bY a l w))) (fun w0 _ => by simp (disch := omega) only [la_sc])] at kx
    rw [bY_c (a := a) (b := uz (uz (uz (a) (7) (a 7 + (dst (a 9) (a 10) (bX a l w) (bY a l w) + len a l))) (12) (a 12 + dst (a 9) (a 10) (bX a l w) (bY a l w))) (9) (bX a l (1 - w))) (fun w0 _ => by simp (disch := omega) only [la_sc])] at ky
    have kk := k_inkFor W5 R5 (p := p) (l := l) (by rw [n5]; exact hpn) (by rw [← hb5, nl_c (a := a) (by rw [ldr_sc _ _ _ _ _ _ (by omega)]; simp (disch := omega) only [uz_ne])]; exact h)
    rw [ik_c (a := a) (fun w0 hw => by
      rw [← hb5, ldr_la _ _ _ _ _ _ _ (by omega), l4]
      (repeat' split) <;> first | rfl | omega) (p5 p 0 (by omega) (by omega))] at kk
    unfold f_X5_drawByHand
    simp (disch := omega) only [zl_21, zl_22, zl_25, zl_40, zl_64, zl_150, zl_400, zl_1000000, zl_1065353216, zl_25214903, zl_2147483647, zl_32768, zl_1024, zl_0, zl_1, zl_2, zl_3, zl_4, zl_5, zl_6, zl_7, zl_8, zl_9, zl_10, zl_11, zl_12, zl_13, zl_14, zl_15, zl_16, zl_17, zl_18, zl_19, zl_20, zl_23, zl_24, zl_31, zl_32, zl_48, zl_50, zl_53, zl_57, zl_59, zl_60, zl_99, zl_100, zl_104, zl_112, zl_114, zl_119, zl_126, zl_127, zl_181, zl_200, zl_500, zl_543, zl_724, zl_999, zl_1000, zl_5000, zl_65536, zl_100000, zl_1000001, zl_1000002, zl_1000003, zl_1000004, zl_2143289344, zI_neg, zI_add, zI_sub, zI_mul, zI_le, zI_lt, zI_eq, ck_ib, ix_nat, ixz_0, ixz_1, ixz_2, ixz_3, ixz_4, ixz_5, ixz_6, ixz_7, ixz_8, ixz_9, ixz_10, ixz_11, ixz_12, ob_some, lt_of, ck_bP, bP_z, bP_o, ite_bP, Int.reduceToNat, Nat.reduceAdd, Nat.reduceMul, Int.reduceAdd, Int.reduceSub, Int.reduceMul, Int.reduceNeg, Int.reduceEq, Int.reduceLT, Int.reduceLE, ↓reduceIte, not_true_eq_false, not_false_eq_true, tv, kx, ky, kk, R.l15, R.t3, R.t4, R.t8, hp, R.rset, R.p6, R.p7, R.p8, Nat.reduceAdd, up3_at, up3_slot, up3_cell]
  · intro i k c
    simp (disch := omega) only [up3_cell]
theorem drw_eq (a : Row) {l p : Nat} (w : Int) (hp : p < 5) : uz (uz (uz (uz (uz (uz (uz (uz (uz (uz (uz (a) (12) (a 12 + dst (a 9) (a 10) (bX a l w) (bY a l w))) (7) (a 7 + (dst (a 9) (a 10) (bX a l w) (bY a l w) + len a l))) (9) (bX a l (1 - w))) (10) (bY a l (1 - w))) (53 + 8 * l + 7) (shI (pa a p 2) (pa a p 1))) (13 + 8 * p + 2) (pa a p 2 - ik a p l)) (13 + 8 * p + 3) (pa a p 3 + len a l)) (13 + 8 * p + 4) (0)) (53 + 8 * l + 4) ((p : Int))) (53 + 8 * l + 5) (a 7 + (dst (a 9) (a 10) (bX a l w) (bY a l w) + len a l))) (53 + 8 * l + 6) (a 7 + (dst (a 9) (a 10) (bX a l w) (bY a l w) + len a l) + a 4) = drw a l p w := by
  funext k
  unfold drw ldr uz
  generalize a 7 + (dst (a 9) (a 10) (bX a l w) (bY a l w) + len a l) = t
  generalize shI (pa a p 2) (pa a p 1) = sh
  generalize a 12 + dst (a 9) (a 10) (bX a l w) (bY a l w) = tt
  generalize bX a l (1 - w) = x
  generalize bY a l (1 - w) = y
  generalize pa a p 2 - ik a p l = i1
  generalize pa a p 3 + len a l = i2
  by_cases c : k < 13
  · rw [if_neg (show ¬ k = 53 + 8 * l + 6 by omega), if_neg (show ¬ k = 53 + 8 * l + 5 by omega), if_neg (show ¬ k = 53 + 8 * l + 4 by omega), if_neg (show ¬ k = 13 + 8 * p + 4 by omega), if_neg (show ¬ k = 13 + 8 * p + 3 by omega), if_neg (show ¬ k = 13 + 8 * p + 2 by omega), if_neg (show ¬ k = 53 + 8 * l + 7 by omega)]
    (repeat' split) <;> first | rfl | omega
  · (repeat' split) <;> first | rfl | omega
/-- the answer of drawing -/
noncomputable def dwr (a : Row) (z v : Int) : Int × Row := if ¬ (0 ≤ z ∧ z < nl a) ∨ ¬ (0 ≤ v ∧ v ≤ 1) then (-1000001, a) else if rsn a z.toNat v 0 = 0 then (a 7 + (dst (a 9) (a 10) (bX a z.toNat v) (bY a z.toNat v) + len a z.toNat), drw a z.toNat (a 8).toNat v) else (-1000002, a)
theorem rsn_ok (W : WF a) {l : Nat} {w : Int} (h : rsn a l w 0 = 0) : ∃ p : Nat, a 8 = p ∧ la a l 4 = -1 ∧ ik a p l ≤ pa a p 2 ∧ a 7 + (dst (a 9) (a 10) (bX a l w) (bY a l w) + len a l) ≤ 100000 := by
  obtain ⟨r1, r2, r3, r4, r5, r6, r7⟩ := (rsn_zero l w 0).1 h
  refine ⟨(a 8).toNat, by omega, r2, r4, by omega⟩
theorem drw_wf (W : WF a) {l p : Nat} {w : Int} (h : l < nl a) (h0 : 0 ≤ w) (h2 : w ≤ 1) (hp : a 8 = p) (hd : la a l 4 = -1) (hi : ik a p l ≤ pa a p 2) (ht : a 7 + (dst (a 9) (a 10) (bX a l w) (bY a l w) + len a l) ≤ 100000) : WF (drw a l p w) := k_drawByHand_wf W h h0 h2 hp hd hi ht
theorem dwr_wf (W : WF a) (z v : Int) : WF (dwr a z v).2 := by
  have ws := W.sc
  unfold dwr
  by_cases c : 0 ≤ z ∧ z < nl a
  · by_cases d : 0 ≤ v ∧ v ≤ 1
    · rw [if_neg (fun q => q.elim (fun t => t c) (fun t => t d))]
      by_cases e : rsn a z.toNat v 0 = 0
      · rw [if_pos e]
        obtain ⟨p, p1, p2, p3, p4⟩ := rsn_ok W e
        show WF (drw a z.toNat (a 8).toNat v)
        rw [p1, Int.toNat_natCast]
        exact drw_wf W (by omega) d.1 d.2 p1 p2 p3 p4
      · rw [if_neg e]
        exact W
    · rw [if_pos (.inr d)]
      exact W
  · rw [if_pos (.inl c)]
    exact W
end
