/-! the law's acts -/
section
variable {M N P : Mem} {a b c : Row} {ns n : Nat} {h : Nat → Row}
theorem zI_div {x y : Int} (h1 : 0 ≤ x) (h2 : x < 2147483648) (h3 : 0 < y) (h4 : y < 2147483648) : zI x / zI y = zI (x / y) := by
  have b1 : 0 ≤ x / y := Int.ediv_nonneg h1 (by omega)
  have b2 : x / y ≤ x := Int.ediv_le_self y h1
  apply Int32.toInt_inj.1
  rw [Int32.toInt_div_of_ne_right _ _ (by rw [zm_1, Ne, zI_eq (by omega) (by omega) (by omega) (by omega)]; omega), zI_toInt (by omega) h2, zI_toInt (by omega) h4, zI_toInt (by omega) (by omega), Int.tdiv_eq_ediv_of_nonneg h1]
theorem pss_pa (a : Row) (z : Int) {p w : Nat} (hw : w < 8) (h4 : w ≠ 4) : pa (pss a z) p w = pa a p w := by
  unfold pss
  split
  · rw [pa_pn _ (by omega) hw, if_neg (fun t => h4 t.2), pa_sc _ (by omega)]
  · rw [pa_sc _ (by omega)]
theorem pss_la (W : WF a) (z : Int) (l w : Nat) : la (pss a z) l w = la a l w := by
  have ws := W.sc
  unfold pss
  split
  · rw [la_pn _ (by omega) (by omega), la_sc _ (by omega)]
  · rw [la_sc _ (by omega)]
theorem pss_0 (a : Row) (z : Int) : pss a z 0 = a 0 ∧ pss a z 1 = a 1 ∧ pss a z 8 = a 8 ∧ pss a z 5 = a 5 ∧ pss a z 6 = a 6 := ⟨pss_f _ _ (by omega) (by omega), pss_f _ _ (by omega) (by omega), pss_f _ _ (by omega) (by omega), pss_f _ _ (by omega) (by omega), pss_f _ _ (by omega) (by omega)⟩
theorem swr_0 (a : Row) (p : Int) : swr a p 0 = a 0 ∧ swr a p 1 = a 1 ∧ swr a p 5 = a 5 ∧ swr a p 7 = a 7 + a 5 ∧ swr a p 8 = p ∧ swr a p 11 = a 11 + 1 := by
  have q := pss_0 a (a 5)
  have t := pss_7 a (a 5)
  unfold swr
  simp (disch := omega) only [uz_at, uz_ne]
  exact ⟨q.1, q.2.1, q.2.2.2.1, t, trivial, trivial⟩
theorem swr_pa (a : Row) (z : Int) {p w : Nat} (hw : w < 8) (h4 : w ≠ 4) : pa (swr a z) p w = pa a p w := by
  unfold swr
  rw [pa_sc _ (by omega), pa_sc _ (by omega), pss_pa _ _ hw h4]
theorem swr_la (W : WF a) (z : Int) (l w : Nat) : la (swr a z) l w = la a l w := by
  unfold swr
  rw [la_sc _ (by omega), la_sc _ (by omega), pss_la W]
theorem clr_0 (W : WF a) : clr a 0 = a 0 ∧ clr a 1 = a 1 ∧ clr a 6 = a 6 ∧ clr a 7 = a 7 + a 6 ∧ clr a 8 = a 8 ∧ pa (clr a) (a 8).toNat 4 = 0 := by
  have ws := W.sc
  have q := pss_0 a (a 6)
  have t := pss_7 a (a 6)
  have z : pa (clr a) (a 8).toNat 4 = 0 := by
    unfold clr
    rw [pa_pn _ (by omega) (by omega), if_pos ⟨rfl, rfl⟩]
  refine ⟨?_, ?_, ?_, ?_, ?_, z⟩
  · unfold clr; rw [uz_ne _ _ (by omega)]; exact q.1
  · unfold clr; rw [uz_ne _ _ (by omega)]; exact q.2.1
  · unfold clr; rw [uz_ne _ _ (by omega)]; exact q.2.2.2.2
  · unfold clr; rw [uz_ne _ _ (by omega)]; exact t
  · unfold clr; rw [uz_ne _ _ (by omega)]; exact q.2.2.1
theorem clr_pa (a : Row) {p w : Nat} (hw : w < 8) (h4 : w ≠ 4) : pa (clr a) p w = pa a p w := by
  unfold clr
  rw [pa_pn _ (by omega) hw, if_neg (fun t => h4 t.2), pss_pa _ _ hw h4]
theorem clr_la (W : WF a) (l w : Nat) : la (clr a) l w = la a l w := by
  have ws := W.sc
  unfold clr
  rw [la_pn _ (by omega) (by omega), pss_la W]
theorem drw_sc (a : Row) {l p : Nat} (v : Int) : drw a l p v 0 = a 0 ∧ drw a l p v 1 = a 1 ∧ drw a l p v 4 = a 4 ∧ drw a l p v 8 = a 8 ∧ drw a l p v 9 = bX a l (1 - v) ∧ drw a l p v 10 = bY a l (1 - v) ∧ drw a l p v 12 = a 12 + dst (a 9) (a 10) (bX a l v) (bY a l v) := by
  unfold drw ldr
  simp (disch := omega) only [uz_at, uz_ne, and_self]
theorem drw_pa (a : Row) {l p : Nat} (v : Int) {q w : Nat} (hq : q < 5) (hp : p < 5) (hw : w < 8) : pa (drw a l p v) q w = if q = p then (if w = 2 then pa a p 2 - ik a p l else if w = 3 then pa a p 3 + len a l else if w = 4 then 0 else pa a q w) else pa a q w := by
  unfold drw
  rw [pa_pn _ (by omega) hw, pa_pn _ (by omega) hw, pa_pn _ (by omega) hw, ldr_pa _ _ _ _ _ _ hq hw, pa_sc _ (by omega), pa_sc _ (by omega), pa_sc _ (by omega), pa_sc _ (by omega)]
  (repeat' split) <;> first | rfl | omega
theorem drw_la (a : Row) {l p : Nat} (v : Int) {o w : Nat} (hp : p < 5) (hw : w < 8) : la (drw a l p v) o w = if o = l then (if w = 4 then (p : Int) else if w = 5 then drw a l p v 7 else if w = 6 then drw a l p v 7 + a 4 else if w = 7 then shI (pa a p 2) (pa a p 1) else la a o w) else la a o w := by
  rw [drw_7]
  unfold drw
  rw [la_pn _ hp (by omega), la_pn _ hp (by omega), la_pn _ hp (by omega), ldr_la _ _ _ _ _ _ _ hw, la_sc _ (by omega), la_sc _ (by omega), la_sc _ (by omega), la_sc _ (by omega)]
/-- what holds between the acts -/
def SA (ns : Nat) (M : Mem) (a : Row) : Prop := WF a ∧ RC 1 M a ∧ (∃ n h, HV M ns n h) ∧ XW a ∧ np a = 3 ∧ nl a = 8
theorem XW.of (X : XW a) (h0 : b 0 = a 0) (h1 : b 1 = a 1) (h7 : a 7 ≤ b 7) (hp : ∀ p, p < np a → pa b p 6 = 1 → b 8 ≠ p) (hl : ∀ l, l < nl a → la b l 4 ≠ -1 → la b l 5 ≤ b 7) : XW b := by
  have n1 := np_c h0
  have n2 := nl_c h1
  exact ⟨fun p h => hp p (by rw [← n1]; exact h), fun l h => hl l (by rw [← n2]; exact h)⟩
theorem SA.to (S : SA ns M a) {x : Option ((Int32 × Nat) × Mem)} {r : Int} (D : DN x r n h a b) (Wb : WF b) (X : XW b) (h0 : b 0 = a 0) (h1 : b 1 = a 1) : ∃ (ns' : Nat) (P : Mem), x = some ((zI r, ns'), P) ∧ SA ns' P b := by
  obtain ⟨ns', P, d1, d2, d3⟩ := D
  exact ⟨ns', P, d1, Wb, d2, ⟨_, _, d3⟩, X, (np_c h0).trans S.2.2.2.2.1, (nl_c h1).trans S.2.2.2.2.2⟩
theorem rsn_why (l : Nat) (v : Int) : (rsn a l v 0 = 1 → ¬ 0 ≤ a 8) ∧ (rsn a l v 0 = 2 → la a l 4 ≠ -1) ∧ (rsn a l v 0 = 3 → 0 ≤ a 8 ∧ strk a (a 8).toNat) := by
  unfold rsn
  by_cases s : strk a (a 8).toNat
  · rw [if_pos s]
    refine ⟨?_, ?_, fun h => ⟨?_, s⟩⟩
    · (repeat' split) <;> omega
    · (repeat' split) <;> omega
    · revert h
      (repeat' split) <;> omega
  · rw [if_neg s]
    refine ⟨?_, ?_, fun h => ?_⟩
    · (repeat' split) <;> omega
    · (repeat' split) <;> omega
    · exfalso
      revert h
      (repeat' split) <;> omega
theorem m_d267 (W : WF a) (R : RC 1 M a) {l : Nat} (hl : l < nl a) {v : Int} (d : 0 ≤ v ∧ v ≤ 1) (e9 : a 9 = bX a l (1 - v)) (e10 : a 10 = bY a l (1 - v)) (rs : rsn a l v 0 = 2) (s : Int32) : f_L_draws_b267 ns (zI l) (zI v) s s M = some ((zI 1, ns), M) := by
  unfold f_L_draws_b267 f_L_draws_b323
  rw [if_pos rfl, zl_6, ob_of (a_cnt6 W R), zl_2, zl_3, zl_7, zI_mul, zI_sub, zI_sub, zl_1]
  rcases (by omega : v = 0 ∨ v = 1) with rfl | rfl
  · have x : a 9 = la a l 2 := e9
    have y : a 10 = la a l 3 := e10
    rw [show (2 - 2 * 0 : Int) = 2 by rfl, show (3 - 2 * 0 : Int) = 3 by rfl, ob_of (a_line2 W R hl), if_pos (by rw [x]), ob_of (a_cnt7 W R), ob_of (a_line3 W R hl), if_pos (by rw [y]), ob_of (a_whyNot W R hl d), rs, if_pos rfl, ck_of bl_1]
  · have x : a 9 = la a l 0 := e9
    have y : a 10 = la a l 1 := e10
    rw [show (2 - 2 * 1 : Int) = 0 by rfl, show (3 - 2 * 1 : Int) = 1 by rfl, ob_of (a_line0 W R hl), if_pos (by rw [x]), ob_of (a_cnt7 W R), ob_of (a_line1 W R hl), if_pos (by rw [y]), ob_of (a_whyNot W R hl d), rs, if_pos rfl, ck_of bl_1]
theorem m_draws_no (W : WF a) (R : RC 1 M a) {l : Nat} (hl : l < nl a) {v : Int} (d : 0 ≤ v ∧ v ≤ 1) (e : rsn a l v 0 ≠ 0) : f_L_draws ns (zI l) (zI v) M = some ((zI 1, ns), M) := by
  have ws := W.sc
  have hr := hnd_rg W
  have rr := rsn_rg (a := a) l v 0
  obtain ⟨w1, w2, w3⟩ := rsn_why (a := a) l v
  have l5 := a_line5 W R hl
  have q73 : f_L_draws_b73 ns (zI (rsn a l v 0)) (zI (hnd a)) M = some ((zI 1, ns), M) := by
    unfold f_L_draws_b73 f_L_draws_b90 f_L_draws_b95
    by_cases c : rsn a l v 0 = 3
    · obtain ⟨s1, s2⟩ := w3 c
      have eh : hnd a = ((a 8).toNat : Int) := by unfold hnd; rw [if_neg (by omega)]; omega
      have p8 := a_pen8 W R (p := (a 8).toNat) (by omega)
      rw [bP_t s2] at p8
      rw [c, zl_3, if_pos rfl, eh, zl_8, ob_of p8, zl_1, if_pos rfl, ck_of bl_1]
    · rw [zl_3, if_neg (by rw [zI_eq (by omega) (by omega) (by omega) (by omega)]; exact c), zl_1, ck_of bl_1]
  have q58 : f_L_draws_b58 ns (zI l) (zI (rsn a l v 0)) (zI (hnd a)) M = some ((zI 1, ns), M) := by
    unfold f_L_draws_b58
    by_cases c : rsn a l v 0 = 2
    · rw [if_neg (w2 c)] at l5
      rw [zl_2, if_pos (by rw [c]), zl_5, ob_of l5, zl_1, if_pos rfl, q73]
    · rw [zl_2, if_neg (by rw [zI_eq (by omega) (by omega) (by omega) (by omega)]; exact c), q73]
  have c5 : f_X7_count (zI 5) M = some (zI (hnd a), M) := a_cnt5 W R
  unfold f_L_draws
  rw [ob_of (a_whyNot W R hl d), zl_4, ob_of (a_cnt4 W R), zl_5, ob_of c5, zl_0, if_neg (by rw [zI_le (by omega) (by omega) (by omega) (by omega)]; omega), ob_of (b_draw_no W R hl d e)]
  dsimp only
  rw [zm_1000002, if_pos rfl, ob_of (a_cnt4 W R), if_pos rfl, zl_1]
  by_cases c : rsn a l v 0 = 1
  · have eh : hnd a = -1000004 := if_pos (by have := w1 c; omega)
    rw [if_pos (by rw [c]), zm_1000004, if_pos (by rw [eh]), q58]
  · rw [if_neg (by rw [zI_eq (by omega) (by omega) (by omega) (by omega)]; exact c), q58]
theorem m_draws (S : SA ns M a) {l : Nat} (hl8 : l < 8) {v : Int} (d : 0 ≤ v ∧ v ≤ 1) : ∃ (ns' : Nat) (P : Mem) (c : Row), f_L_draws ns (zI l) (zI v) M = some ((zI 1, ns'), P) ∧ SA ns' P c ∧ a 7 ≤ c 7 ∧ c 7 ≤ a 7 + 300 := by
  have S0 := S
  obtain ⟨W, R, ⟨n, h, H⟩, X, h3, h8⟩ := S
  have ws := W.sc
  have hl : l < nl a := by omega
  have vv := W.line hl
  by_cases e : rsn a l v 0 = 0
  · obtain ⟨p, p1, p2, p3, p4⟩ := rsn_ok W e
    have hp : p < np a := by omega
    have u := W.pen hp
    have dr := dst_rg (x := a 9) (y := a 10) (by omega) (by omega) (bX_rg W hl v) (bY_rg W hl v)
    have Wc := drw_wf W hl d.1 d.2 p1 p2 p3 p4
    obtain ⟨s0, s1, s4, s8, s9, s10, s12⟩ := drw_sc a (l := l) (p := p) v
    have s7 := drw_7 a (l := l) (p := p) v
    have qa := fun (q w : Nat) (hq : q < 5) (hw : w < 8) => drw_pa a (l := l) (p := p) v hq (show p < 5 by omega) hw
    have ql := fun (o w : Nat) (hw : w < 8) => drw_la a (l := l) (p := p) v (o := o) (show p < 5 by omega) hw
    have D := b_draw W R H hl d e p1
    have Xc : XW (drw a l p v) := X.of s0 s1 (by omega) (fun q hq h6 => by
      rw [qa q 6 (by omega) (by omega)] at h6
      simp only [Nat.reduceEqDiff, ↓reduceIte, ite_self] at h6
      rw [s8]
      exact X.1 q hq h6) (fun o ho h4 => by
      rw [ql o 4 (by omega)] at h4
      rw [ql o 5 (by omega)]
      by_cases q : o = l
      · simp only [q, Nat.reduceEqDiff, ↓reduceIte]
        exact Int.le_refl _
      · rw [if_neg q] at h4 ⊢
        have := X.2 o ho h4
        omega)
    obtain ⟨ns', P, d1, Sc⟩ := S0.to D Wc Xc s0 s1
    have Rc := Sc.2.1
    have c0 : ¬ a 8 = -1 := by omega
    have c5 : f_X7_count (zI 5) M = some (zI p, M) := by rw [a_cnt5 W R, if_neg c0, p1]
    have hpc : p < np (drw a l p v) := by rw [np_c s0]; exact hp
    have hlc : l < nl (drw a l p v) := by rw [nl_c s1]; exact hl
    have a0 : pa (drw a l p v) p 0 = pa a p 0 := by rw [qa p 0 (by omega) (by omega), if_pos rfl]; rfl
    have a2 : pa (drw a l p v) p 2 = pa a p 2 - ik a p l := by rw [qa p 2 (by omega) (by omega), if_pos rfl]; rfl
    have a3 : pa (drw a l p v) p 3 = pa a p 3 + len a l := by rw [qa p 3 (by omega) (by omega), if_pos rfl]; rfl
    have a4 : pa (drw a l p v) p 4 = 0 := by rw [qa p 4 (by omega) (by omega), if_pos rfl]; rfl
    have b4 : la (drw a l p v) l 4 = p := by rw [ql l 4 (by omega), if_pos rfl]; rfl
    have b5 : la (drw a l p v) l 5 = drw a l p v 7 := by rw [ql l 5 (by omega), if_pos rfl]; rfl
    have b6 : la (drw a l p v) l 6 = drw a l p v 7 + a 4 := by rw [ql l 6 (by omega), if_pos rfl]; rfl
    have bw : ∀ w, w < 4 → la (drw a l p v) l w = la a l w := fun w hw => by
      rw [ql l w (by omega), if_pos rfl, if_neg (by omega), if_neg (by omega), if_neg (by omega), if_neg (by omega)]
    have l6 := a_line6 Wc Rc hlc
    have l7 := a_line7 Wc Rc hlc
    have l8 := a_line8 Wc Rc hlc
    have nb : ¬ la (drw a l p v) l 4 = -1 := by omega
    rw [if_neg nb] at l6 l7 l8
    have t9 : drw a l p v 9 = bX (drw a l p v) l (1 - v) := by rw [s9, bX_c bw]
    have t10 : drw a l p v 10 = bY (drw a l p v) l (1 - v) := by rw [s10, bY_c bw]
    have rs : rsn (drw a l p v) l v 0 = 2 := by
      unfold rsn
      rw [if_neg (by omega), if_pos nb]
    have q267 := fun s => m_d267 (ns := ns') Wc Rc hlc d t9 t10 rs s
    have ek : ik a p l = (1 + pa a p 0) * len a l := by
      unfold ik
      rcases u.1 with z | z
      · rw [z, if_neg (by omega)]; omega
      · rw [z, if_pos rfl]; omega
    refine ⟨ns', P, drw a l p v, ?_, Sc, by omega, by omega⟩
    generalize hb : drw a l p v = b at *
    unfold f_L_draws
    rw [ob_of (a_whyNot W R hl d), e, zl_4, ob_of (a_cnt4 W R), zl_5, ob_of c5, zl_0, if_pos (Int32.le_refl _), zl_2, ob_of (a_pen2 W R hp), zl_3, ob_of (a_pen3 W R hp), zl_10, ob_of (a_cnt10 W R), ob_of (a_line4 W R hl), ob_of d1]
    dsimp only
    rw [lt_of, ob_of (a_cnt10 Wc Rc), lt_of, zI_sub, zI_add, zI_add, if_pos (by congr 1; omega), ob_of (a_cnt4 Wc Rc), if_pos (by rw [s7]), ob_of (a_pen2 Wc Rc hpc), ob_of (a_pen0 Wc Rc hpc), zl_1, zI_add, zI_mul, zI_sub, if_pos (by rw [a2, a0, ek]), ob_of (a_pen3 Wc Rc hpc), zI_add, if_pos (by rw [a3]), ob_of (a_pen4 Wc Rc hpc), a4, if_pos rfl, zl_6, ob_of l6, b4, if_pos rfl, zl_7, ob_of l7, b5, if_pos (by rw [s7]), zl_8, ob_of l8, zl_22, ob_of (a_cnt22 Wc Rc)]
    by_cases z : a 4 = 0
    · rw [if_pos (by rw [s4, z]; exact Int32.le_refl _), bP_f (by omega), q267]
    · rw [if_neg (by rw [s4, zI_le (by omega) (by omega) (by omega) (by omega)]; omega), bP_t (by omega), q267]
  · exact ⟨ns, M, a, m_draws_no W R hl d e, S0, by omega, by omega⟩
theorem m_acts (S : SA ns M a) (ht : a 7 ≤ 50000) {y : Int} (y1 : 0 ≤ y) (y2 : y < 2147483648) : ∃ (ns' : Nat) (P : Mem) (c : Row), f_L_acts ns (zI y) M = some ((zI 1, ns'), P) ∧ SA ns' P c ∧ a 7 ≤ c 7 ∧ c 7 ≤ a 7 + 300 := by
  have S0 := S
  obtain ⟨W, R, ⟨n, h, H⟩, X, h3, h8⟩ := S
  have ws := W.sc
  obtain ⟨z, hz⟩ : ∃ z : Int, z = y / 8 := ⟨_, rfl⟩
  obtain ⟨p, hp⟩ : ∃ p : Nat, (p : Int) = z - z / 3 * 3 := ⟨(z - z / 3 * 3).toNat, by omega⟩
  obtain ⟨l, hl⟩ : ∃ l : Nat, (l : Int) = z / 4 - z / 4 / 8 * 8 := ⟨(z / 4 - z / 4 / 8 * 8).toNat, by omega⟩
  have pn : p < np a := by omega
  have ln : l < nl a := by omega
  have u := W.pen pn
  have vv := W.line ln
  have c5 : f_X7_count (zI 5) M = some (zI (hnd a), M) := a_cnt5 W R
  have hr := hnd_rg W
  have m0 : zI (-1000002) < zI 0 := by decide
  unfold f_L_acts
  rw [zl_8, zI_div y1 y2 (by decide) (by decide), ← hz, lt_of, zl_3, zI_div (by omega) (by omega) (by decide) (by decide), zI_mul, zI_sub, ← hp, lt_of, zl_4, zI_div (by omega) (by omega) (by decide) (by decide), zI_div (by omega) (by omega) (by decide) (by decide), zI_mul, zI_sub, ← hl, lt_of, ob_of (a_cnt4 W R), zI_mul, zI_sub]
  by_cases k0 : y - z * 8 = 0
  · rw [k0, zl_0, if_pos rfl, zl_9, ob_of (a_cnt9 W R)]
    by_cases c : (p : Int) = a 8 ∨ pa a p 6 = 1
    · refine ⟨ns, M, a, ?_, S0, by omega, by omega⟩
      rw [ob_of (b_take_no W R pn c)]
      dsimp only
      rw [lt_of, if_pos m0, zm_1000002, if_pos rfl, ob_of (a_cnt9 W R), if_pos rfl]
      unfold f_L_acts_b158
      rw [zl_1, ck_of bl_1]
    · obtain ⟨s0, s1, s5, s7, s8, s11⟩ := swr_0 a p
      have c2 : pa a p 6 ≠ 1 := fun t => c (.inr t)
      have Wc := swr_wf W (p := (p : Int)) (by omega) (by omega) (by omega)
      obtain ⟨ns', P, d1, Sc⟩ := S0.to (b_take W R H pn c (by omega)) Wc (X.of s0 s1 (by omega) (fun q hq h6 => by
        rw [swr_pa _ _ (by omega) (by omega)] at h6
        rw [s8]
        intro t
        obtain rfl : p = q := by omega
        exact c2 h6) (fun o ho h4 => by
        rw [swr_la W] at h4 ⊢
        have := X.2 o ho h4
        omega)) s0 s1
      have Rc := Sc.2.1
      have cn5 : f_X7_count (zI 5) P = some (zI p, P) := by rw [a_cnt5 Wc Rc, s8, if_neg (by omega)]
      refine ⟨ns', P, swr a p, ?_, Sc, by omega, by omega⟩
      rw [ob_of d1]
      dsimp only
      rw [lt_of, if_neg (by rw [zI_lt (by omega) (by omega) (by omega) (by omega)]; omega), zl_5, ob_of cn5, if_pos rfl, ob_of (a_cnt9 Wc Rc), zl_1, zI_add, if_pos (by rw [s11]), ob_of (a_cnt4 Wc Rc), zl_23, ob_of (a_cnt23 Wc Rc), zI_add, if_pos (by rw [s7, s5])]
      unfold f_L_acts_b158
      rw [ck_of bl_1]
  rw [zl_0, if_neg (by rw [zI_eq (by omega) (by omega) (by omega) (by omega)]; exact k0), zl_1]
  by_cases k1 : y - z * 8 = 1
  · rw [k1, if_pos rfl, zl_7, ob_of (a_pen7 W R pn), zI_sub]
    have e : ¬ pa a p 6 = 1 - pa a p 6 := by omega
    by_cases f : a 8 = p
    · refine ⟨ns, M, a, ?_, S0, by omega, by omega⟩
      have eh : hnd a = p := (hnd_k W p).2 f
      rw [ob_of (b_leave_no W R pn (by omega) e f)]
      dsimp only
      rw [lt_of, if_pos m0, zl_5, ob_of c5, if_pos (by rw [eh])]
      unfold f_L_acts_b220
      rw [ck_of bl_1]
    · obtain ⟨r, r1, r2, D⟩ := b_leave W R H pn (v := 1 - pa a p 6) (by omega) e f
      have Wc : WF (uz a (13 + 8 * p + 6) (1 - pa a p 6)) := W.q6 pn (by omega)
      have s0 : uz a (13 + 8 * p + 6) (1 - pa a p 6) 0 = a 0 := uz_ne _ _ (by omega)
      have s1 : uz a (13 + 8 * p + 6) (1 - pa a p 6) 1 = a 1 := uz_ne _ _ (by omega)
      have s7 : uz a (13 + 8 * p + 6) (1 - pa a p 6) 7 = a 7 := uz_ne _ _ (by omega)
      have s8 : uz a (13 + 8 * p + 6) (1 - pa a p 6) 8 = a 8 := uz_ne _ _ (by omega)
      obtain ⟨ns', P, d1, Sc⟩ := S0.to D Wc (X.of s0 s1 (by omega) (fun q hq h6 => by
        rw [pa_pn _ (by omega) (by omega)] at h6
        rw [s8]
        by_cases t : q = p
        · rw [t]; exact f
        · rw [if_neg (fun w => t w.1)] at h6
          exact X.1 q hq h6) (fun o ho h4 => by
        rw [la_pn _ (by omega) (by omega)] at h4 ⊢
        have := X.2 o ho h4
        omega)) s0 s1
      have Rc := Sc.2.1
      have p7 := a_pen7 Wc Rc (p := p) (by rw [np_c s0]; exact pn)
      rw [pa_pn _ (by omega) (by omega), if_pos ⟨rfl, rfl⟩] at p7
      refine ⟨ns', P, _, ?_, Sc, by omega, by omega⟩
      rw [ob_of d1]
      dsimp only
      rw [lt_of, if_neg (by rw [zI_lt (by omega) (by omega) (by omega) (by omega)]; omega), ob_of p7, if_pos rfl]
      unfold f_L_acts_b220
      rw [ck_of bl_1]
  rw [if_neg (by rw [zI_eq (by omega) (by omega) (by omega) (by omega)]; exact k1), zl_2]
  by_cases k2 : y - z * 8 = 2
  · rw [k2, if_pos rfl, ob_of (a_pen1 W R pn), ob_of (a_pen2 W R pn), zI_sub, lt_of]
    by_cases e : pa a p 1 - pa a p 2 = 0
    · refine ⟨ns, M, a, ?_, S0, by omega, by omega⟩
      rw [ob_of (b_refill_no W R pn e)]
      dsimp only
      rw [if_pos (by rw [e])]
      unfold f_L_acts_b253 f_L_acts_b276
      rw [zm_1000002, if_pos rfl, zl_2, ob_of (a_pen2 W R pn), zl_1, ob_of (a_pen1 W R pn), if_pos (by congr 1; omega), ck_of bl_1]
    · have Wc : WF (uz a (13 + 8 * p + 2) (pa a p 1)) := W.q2 pn (by omega) (by omega)
      have s0 : uz a (13 + 8 * p + 2) (pa a p 1) 0 = a 0 := uz_ne _ _ (by omega)
      have s1 : uz a (13 + 8 * p + 2) (pa a p 1) 1 = a 1 := uz_ne _ _ (by omega)
      have s7 : uz a (13 + 8 * p + 2) (pa a p 1) 7 = a 7 := uz_ne _ _ (by omega)
      have s8 : uz a (13 + 8 * p + 2) (pa a p 1) 8 = a 8 := uz_ne _ _ (by omega)
      obtain ⟨ns', P, d1, Sc⟩ := S0.to (b_refill W R H pn e) Wc (X.of s0 s1 (by omega) (fun q hq h6 => by
        rw [pa_pn _ (by omega) (by omega), if_neg (fun w => by omega)] at h6
        rw [s8]
        exact X.1 q hq h6) (fun o ho h4 => by
        rw [la_pn _ (by omega) (by omega)] at h4 ⊢
        have := X.2 o ho h4
        omega)) s0 s1
      have Rc := Sc.2.1
      have p1 := a_pen1 Wc Rc (p := p) (by rw [np_c s0]; exact pn)
      have p2 := a_pen2 Wc Rc (p := p) (by rw [np_c s0]; exact pn)
      rw [pa_pn _ (by omega) (by omega), if_neg (fun w => by omega)] at p1
      rw [pa_pn _ (by omega) (by omega), if_pos ⟨rfl, rfl⟩] at p2
      refine ⟨ns', P, _, ?_, Sc, by omega, by omega⟩
      rw [ob_of d1]
      dsimp only
      rw [if_neg (by rw [zI_eq (by omega) (by omega) (by omega) (by omega)]; exact e)]
      unfold f_L_acts_b253 f_L_acts_b276
      rw [if_pos rfl, zl_2, ob_of p2, zl_1, ob_of p1, if_pos rfl, ck_of bl_1]
  rw [if_neg (by rw [zI_eq (by omega) (by omega) (by omega) (by omega)]; exact k2)]
  by_cases k3 : y - z * 8 = 3
  · have l6 := a_line6 W R ln
    have l5 := a_line5 W R ln
    rw [k3, if_pos rfl, zl_6]
    by_cases hd : la a l 4 = -1
    · rw [if_pos hd] at l6 l5
      refine ⟨ns, M, a, ?_, S0, by omega, by omega⟩
      rw [ob_of l6, if_neg (by decide)]
      unfold f_L_acts_b303 f_L_acts_b323 f_L_acts_b353 f_L_acts_b358
      rw [ob_of (b_erase_no W R ln hd)]
      dsimp only
      rw [zl_0, if_neg (by decide), zm_1000002, if_pos rfl, zl_5, ob_of l5, if_pos rfl, if_pos (by decide), zl_1, ck_of bl_1]
    · rw [if_neg hd] at l6
      obtain ⟨q, hq⟩ : ∃ q : Nat, la a l 4 = q := ⟨(la a l 4).toNat, by omega⟩
      have qn : q < np a := by omega
      have Wc := W.e17 ln
      have s0 : uz a (53 + 8 * l + 4) (-1) 0 = a 0 := uz_ne _ _ (by omega)
      have s1 : uz a (53 + 8 * l + 4) (-1) 1 = a 1 := uz_ne _ _ (by omega)
      have s7 : uz a (53 + 8 * l + 4) (-1) 7 = a 7 := uz_ne _ _ (by omega)
      have s8 : uz a (53 + 8 * l + 4) (-1) 8 = a 8 := uz_ne _ _ (by omega)
      obtain ⟨ns', P, d1, Sc⟩ := S0.to (b_erase W R H ln hd) Wc (X.of s0 s1 (by omega) (fun o ho h6 => by
        rw [pa_ln _ _ (by omega) (by omega)] at h6
        rw [s8]
        exact X.1 o ho h6) (fun o ho h4 => by
        rw [la_ln _ (by omega) (by omega)] at h4
        rw [la_ln _ (by omega) (by omega), if_neg (fun w => by omega)]
        have t : ¬ (o = l ∧ 4 = 4) := fun w => h4 (if_pos w)
        rw [if_neg t] at h4
        have := X.2 o ho h4
        omega)) s0 s1
      have Rc := Sc.2.1
      have p2 := a_pen2 Wc Rc (p := q) (by rw [np_c s0]; exact qn)
      have l5c := a_line5 Wc Rc (l := l) (by rw [nl_c s1]; exact ln)
      rw [pa_ln _ _ (by omega) (by omega)] at p2
      rw [la_ln _ (by omega) (by omega), if_pos (show l = l ∧ 4 = 4 from ⟨rfl, rfl⟩), if_pos rfl] at l5c
      rw [hq] at l6 d1
      refine ⟨ns', P, _, ?_, Sc, by omega, by omega⟩
      have g0 : zI 0 ≤ zI (q : Int) := by rw [zI_le (by omega) (by omega) (by omega) (by omega)]; omega
      have g1 : ¬ zI (q : Int) < zI 0 := by rw [zI_lt (by omega) (by omega) (by omega) (by omega)]; omega
      rw [ob_of l6, if_pos g0, ob_of (a_pen2 W R qn)]
      unfold f_L_acts_b303 f_L_acts_b323 f_L_acts_b353 f_L_acts_b358
      rw [ob_of d1]
      dsimp only
      rw [zl_0, if_pos g0, if_pos rfl, zl_5, ob_of l5c, if_pos rfl, if_neg g1, zl_2, ob_of p2, if_pos rfl, zl_1, ck_of bl_1]
  rw [if_neg (by rw [zI_eq (by omega) (by omega) (by omega) (by omega)]; exact k3)]
  by_cases k4 : y - z * 8 = 4
  · rw [k4, if_pos rfl, zl_5, ob_of c5]
    by_cases hh : 0 ≤ a 8
    · have eh : hnd a = ((a 8).toNat : Int) := by unfold hnd; rw [if_neg (by omega)]; omega
      have qn : (a 8).toNat < np a := by omega
      have Wc := clr_wf W hh (by omega)
      obtain ⟨s0, s1, s6, s7, s8, s4⟩ := clr_0 W
      obtain ⟨ns', P, d1, Sc⟩ := S0.to (b_clean W R H hh (by omega)) Wc (X.of s0 s1 (by omega) (fun o ho h6 => by
        rw [clr_pa _ (by omega) (by omega)] at h6
        rw [s8]
        exact X.1 o ho h6) (fun o ho h4 => by
        rw [clr_la W] at h4 ⊢
        have := X.2 o ho h4
        omega)) s0 s1
      have Rc := Sc.2.1
      have p4 := a_pen4 Wc Rc (p := (a 8).toNat) (by rw [np_c s0]; exact qn)
      rw [s4] at p4
      refine ⟨ns', P, _, ?_, Sc, by omega, by omega⟩
      have g0 : zI 0 ≤ zI ((a 8).toNat : Int) := by rw [zI_le (by omega) (by omega) (by omega) (by omega)]; omega
      have g1 : ¬ zI ((a 8).toNat : Int) < zI 0 := by rw [zI_lt (by omega) (by omega) (by omega) (by omega)]; omega
      rw [eh, if_pos g0, ob_of (a_pen4 W R qn)]
      unfold f_L_acts_b383 f_L_acts_b426 f_L_acts_b431
      rw [ob_of d1]
      dsimp only
      rw [if_pos rfl, zl_0, if_neg g1, zl_4, ob_of p4, if_pos rfl, ob_of (a_cnt4 Wc Rc), zl_24, ob_of (a_cnt24 Wc Rc), zI_add, if_pos (by rw [s7, s6]), zl_1, ck_of bl_1]
    · have eh : hnd a = -1000004 := if_pos (by omega)
      refine ⟨ns, M, a, ?_, S0, by omega, by omega⟩
      rw [eh, if_neg (by decide)]
      unfold f_L_acts_b383 f_L_acts_b426 f_L_acts_b431
      rw [ob_of (b_clean_no W R hh)]
      dsimp only
      rw [zm_1000002, if_pos rfl, zl_0, if_pos (by decide), zl_1, ck_of bl_1]
  rw [if_neg (by rw [zI_eq (by omega) (by omega) (by omega) (by omega)]; exact k4), zl_5]
  by_cases k5 : y - z * 8 = 5
  · rw [k5, if_pos rfl, zl_20, zI_div (by omega) (by omega) (by decide) (by decide), zI_mul, zI_sub, zI_add, zI_add, zI_add]
    have Wc := pss_wf W (n := 1 + (z - z / 20 * 20)) (by omega) (by omega)
    obtain ⟨s0, s1, s8, s5, s6⟩ := pss_0 a (1 + (z - z / 20 * 20))
    have s7 := pss_7 a (1 + (z - z / 20 * 20))
    obtain ⟨ns', P, d1, Sc⟩ := S0.to (b_waits W R H (z := 1 + (z - z / 20 * 20)) (by omega) (by omega)) Wc (X.of s0 s1 (by omega) (fun o ho h6 => by
      rw [pss_pa _ _ (by omega) (by omega)] at h6
      rw [s8]
      exact X.1 o ho h6) (fun o ho h4 => by
      rw [pss_la W] at h4 ⊢
      have := X.2 o ho h4
      omega)) s0 s1
    refine ⟨ns', P, _, ?_, Sc, by omega, by omega⟩
    rw [ob_of d1]
    dsimp only
    rw [if_pos (by congr 1; omega)]
    unfold f_L_acts_b459
    rw [ck_of bl_1]
  rw [if_neg (by rw [zI_eq (by omega) (by omega) (by omega) (by omega)]; exact k5), zl_64, zI_div (by omega) (by omega) (by decide) (by decide), zI_div (by omega) (by omega) (by decide) (by decide), zI_mul, zI_sub]
  obtain ⟨ns', P, b, d1, d2, d3, d4⟩ := m_draws S0 (l := l) (by omega) (v := z / 64 - z / 64 / 2 * 2) (by omega)
  refine ⟨ns', P, b, ?_, d2, d3, d4⟩
  rw [ob_of d1]
  dsimp only
  rw [ck_of bl_1]
end
