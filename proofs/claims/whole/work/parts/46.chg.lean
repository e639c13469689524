/-! the changes, but pen, line and play -/
section
variable {g : Nat} {M N S : Mem} {a b : Row}
theorem OH.rc (h : OH M N) (R : RC 1 M a) : RC 1 N a := R.same (fun k _ => h 1 k (by omega))
theorem INV.look {ns : Nat} (I : INV ns M S) : ∃ (a : Row) (n : Nat) (h : Nat → Row), WF a ∧ RC 1 M a ∧ RM S a ∧ HV M ns n h ∧ HS S n h ∧ TX M S := I
theorem ch_take {ns : Nat} (I : INV ns M S) (x : Int32) : CH (f_X7_take ns x M) (f_X8_take x S) := by
  have I0 := I
  obtain ⟨a, n, h, W, R, Q, H, q, X⟩ := I
  obtain ⟨z, h1, h2, rfl⟩ := zI_ex x
  have ws := W.sc
  obtain ⟨T1, k1, k2, k3⟩ := k_keeps S
  have Q1 : RM T1 a := Q.same (k3 0 1 (by omega))
  obtain ⟨T2, u1, u2, u3⟩ := k_takes W Q1 h1 h2
  unfold f_X7_take f_X8_take
  rw [ob_of (k_X4_has W R h1 h2), ob_of k1, ob_of u1]
  unfold tkr at u2 ⊢
  by_cases c : 0 ≤ z ∧ z < np a
  · obtain ⟨p, rfl⟩ : ∃ p : Nat, z = p := ⟨z.toNat, by omega⟩
    have hp : p < np a := by omega
    have ce : ¬ ¬ (0 ≤ (p : Int) ∧ (p : Int) < (np a : Int)) := fun q => q c
    rw [if_neg ce, Int.toNat_natCast] at u2
    rw [bP_t c, if_neg (show ¬ (zI 1 = 0) by decide), if_neg ce, Int.toNat_natCast, ob_of (k_errorOfTaking W R hp)]
    by_cases c1 : (p : Int) = a 8 ∨ pa a p 6 = 1
    · rw [if_pos c1] at u2
      rw [if_pos c1, if_pos c1, if_neg (show ¬ (zI (-1000002) = 0) by decide), ob_of (k_acted_e (-1000002) (by decide) (by decide) T2)]
      exact ⟨_, ns, M, T2, rfl, rfl, ch_no W R H q X k3 u3 u2⟩
    · rw [if_neg c1] at u2
      rw [if_neg c1, if_neg c1]
      by_cases c4 : a 7 + a 5 ≤ 100000
      · rw [if_pos c4] at u2
        rw [if_pos c4, if_pos c4, if_pos (show zI 0 = 0 by decide)]
        obtain ⟨ns', N, n1, n2, n3⟩ := k_record W R H
        obtain ⟨P, p1, p2, p3⟩ := k_swapTo W (n3.rc R) c4 p
        obtain ⟨T, t1, t2⟩ := ch_ok (swr_wf W c4 (by omega) (by omega)) H.1 q X n2 n3 p3 p2 Q k2 k3 u3 u2 (a 8 + 1) (by omega) (by omega)
        rw [ob_of n1, ob_of p1, ob_of t1, zl_1, zI_add, Int.add_comm]
        exact ⟨_, ns', P, T, rfl, rfl, t2⟩
      · rw [if_neg c4] at u2
        rw [if_neg c4, if_neg c4, if_neg (show ¬ (zI (-1000003) = 0) by decide), ob_of (k_acted_e (-1000003) (by decide) (by decide) T2)]
        exact ⟨_, ns, M, T2, rfl, rfl, ch_no W R H q X k3 u3 u2⟩
  · rw [if_pos c] at u2
    rw [bP_f c, if_pos (show zI 0 = 0 by decide), if_pos c, ob_of (k_acted_e (-1000001) (by decide) (by decide) T2)]
    exact ⟨_, ns, M, T2, rfl, rfl, ch_no W R H q X k3 u3 u2⟩
theorem ch_home {ns : Nat} (I : INV ns M S) : CH (f_X7_home ns M) (f_X8_home S) := by
  obtain ⟨a, n, h, W, R, Q, H, q, X⟩ := I
  have ws := W.sc
  obtain ⟨T1, k1, k2, k3⟩ := k_keeps S
  have Q1 : RM T1 a := Q.same (k3 0 1 (by omega))
  obtain ⟨T2, u1, u2, u3⟩ := k_goesHome W Q1
  unfold f_X7_home f_X8_home
  rw [ob_of (k_errorOfGoingHome W R), ob_of k1, ob_of u1]
  unfold hmr at u2 ⊢
  by_cases c : 0 ≤ a 8
  · have ce : ¬ ¬ (0 ≤ a 8) := fun q => q c
    rw [if_neg ce] at u2
    rw [if_neg ce, if_neg ce]
    by_cases c4 : a 7 + a 5 ≤ 100000
    · rw [if_pos c4] at u2
      rw [if_pos c4, if_pos c4, if_pos (show zI 0 = 0 by decide)]
      obtain ⟨ns', N, n1, n2, n3⟩ := k_record W R H
      obtain ⟨P, p1, p2, p3⟩ := k_swapTo W (n3.rc R) c4 (-1)
      obtain ⟨T, t1, t2⟩ := ch_ok (swr_wf W c4 (by omega) (by omega)) H.1 q X n2 n3 p3 p2 Q k2 k3 u3 u2 (a 8) (by omega) (by omega)
      rw [ob_of n1, zm_1, ob_of p1, ob_of t1]
      exact ⟨_, ns', P, T, rfl, rfl, t2⟩
    · rw [if_neg c4] at u2
      rw [if_neg c4, if_neg c4, if_neg (show ¬ (zI (-1000003) = 0) by decide), ob_of (k_acted_e (-1000003) (by decide) (by decide) T2)]
      exact ⟨_, ns, M, T2, rfl, rfl, ch_no W R H q X k3 u3 u2⟩
  · rw [if_pos c] at u2
    rw [if_pos c, if_pos c, if_neg (show ¬ (zI (-1000002) = 0) by decide), ob_of (k_acted_e (-1000002) (by decide) (by decide) T2)]
    exact ⟨_, ns, M, T2, rfl, rfl, ch_no W R H q X k3 u3 u2⟩
theorem ch_waits {ns : Nat} (I : INV ns M S) (x : Int32) : CH (f_X7_waits ns x M) (f_X8_waits x S) := by
  obtain ⟨a, n, h, W, R, Q, H, q, X⟩ := I
  obtain ⟨z, h1, h2, rfl⟩ := zI_ex x
  have ws := W.sc
  obtain ⟨T1, k1, k2, k3⟩ := k_keeps S
  have Q1 : RM T1 a := Q.same (k3 0 1 (by omega))
  obtain ⟨T2, u1, u2, u3⟩ := k_waited W Q1 h1 h2
  unfold f_X7_waits f_X8_waits
  rw [ob_of (k_errorOfWaiting W R h1 h2), ob_of k1, ob_of u1]
  unfold wtr at u2 ⊢
  by_cases c : 1 ≤ z ∧ z ≤ 200
  · have ce : ¬ ¬ (1 ≤ z ∧ z ≤ 200) := fun q => q c
    rw [if_neg ce] at u2
    rw [if_neg ce, if_neg ce]
    by_cases c4 : a 7 + z ≤ 100000
    · rw [if_pos c4] at u2
      rw [if_pos c4, if_pos c4, if_pos (show zI 0 = 0 by decide)]
      obtain ⟨ns', N, n1, n2, n3⟩ := k_record W R H
      obtain ⟨P, p1, p2, p3⟩ := k_passIdly W (n3.rc R) (show 0 ≤ z by omega) c4
      obtain ⟨T, t1, t2⟩ := ch_ok (pss_wf W (by omega) c4) H.1 q X n2 n3 p3 p2 Q k2 k3 u3 u2 (a 7 + z) (by omega) (by omega)
      rw [ob_of n1, ob_of p1, ob_of t1, p2.t3, pss_7]
      exact ⟨_, ns', P, T, rfl, rfl, t2⟩
    · rw [if_neg c4] at u2
      rw [if_neg c4, if_neg c4, if_neg (show ¬ (zI (-1000003) = 0) by decide), ob_of (k_acted_e (-1000003) (by decide) (by decide) T2)]
      exact ⟨_, ns, M, T2, rfl, rfl, ch_no W R H q X k3 u3 u2⟩
  · rw [if_pos c] at u2
    rw [if_pos c, if_pos c, if_neg (show ¬ (zI (-1000001) = 0) by decide), ob_of (k_acted_e (-1000001) (by decide) (by decide) T2)]
    exact ⟨_, ns, M, T2, rfl, rfl, ch_no W R H q X k3 u3 u2⟩
theorem ch_clean {ns : Nat} (I : INV ns M S) : CH (f_X7_clean ns M) (f_X8_clean S) := by
  obtain ⟨a, n, h, W, R, Q, H, q, X⟩ := I
  have ws := W.sc
  obtain ⟨T1, k1, k2, k3⟩ := k_keeps S
  have Q1 : RM T1 a := Q.same (k3 0 1 (by omega))
  obtain ⟨T2, u1, u2, u3⟩ := k_cleans W Q1
  unfold f_X7_clean f_X8_clean
  rw [ob_of (k_errorOfCleaning W R), ob_of k1, ob_of u1]
  unfold cnr at u2 ⊢
  by_cases c : 0 ≤ a 8
  · have ce : ¬ ¬ (0 ≤ a 8) := fun q => q c
    have v := W.pen (show (a 8).toNat < np a by omega)
    rw [if_neg ce] at u2
    rw [if_neg ce, if_neg ce]
    by_cases c4 : a 7 + a 6 ≤ 100000
    · rw [if_pos c4] at u2
      rw [if_pos c4, if_pos c4, if_pos (show zI 0 = 0 by decide)]
      obtain ⟨ns', N, n1, n2, n3⟩ := k_record W R H
      obtain ⟨P, p1, p2, p3⟩ := k_cleanHand W (n3.rc R) c c4
      obtain ⟨T, t1, t2⟩ := ch_ok (clr_wf W c c4) H.1 q X n2 n3 p3 p2 Q k2 k3 u3 u2 (pa a (a 8).toNat 4) (by omega) (by omega)
      rw [ob_of n1, ob_of p1, ob_of t1]
      exact ⟨_, ns', P, T, rfl, rfl, t2⟩
    · rw [if_neg c4] at u2
      rw [if_neg c4, if_neg c4, if_neg (show ¬ (zI (-1000003) = 0) by decide), ob_of (k_acted_e (-1000003) (by decide) (by decide) T2)]
      exact ⟨_, ns, M, T2, rfl, rfl, ch_no W R H q X k3 u3 u2⟩
  · rw [if_pos c] at u2
    rw [if_pos c, if_pos c, if_neg (show ¬ (zI (-1000002) = 0) by decide), ob_of (k_acted_e (-1000002) (by decide) (by decide) T2)]
    exact ⟨_, ns, M, T2, rfl, rfl, ch_no W R H q X k3 u3 u2⟩
theorem drw_7 (a : Row) {l p : Nat} (w : Int) : drw a l p w 7 = a 7 + (dst (a 9) (a 10) (bX a l w) (bY a l w) + len a l) := by
  unfold drw ldr
  simp (disch := omega) only [uz_at, uz_ne]
theorem ch_draw {ns : Nat} (I : INV ns M S) (x y : Int32) : CH (f_X7_draw ns x y M) (f_X8_draw x y S) := by
  obtain ⟨a, n, h, W, R, Q, H, q, X⟩ := I
  obtain ⟨z, h1, h2, rfl⟩ := zI_ex x
  obtain ⟨v, h3, h4, rfl⟩ := zI_ex y
  have ws := W.sc
  obtain ⟨T1, k1, k2, k3⟩ := k_keeps S
  have Q1 : RM T1 a := Q.same (k3 0 1 (by omega))
  obtain ⟨T2, u1, u2, u3⟩ := k_draws W Q1 h1 h2 h3 h4
  unfold f_X7_draw f_X7_draw_b23 f_X8_draw
  rw [ob_of (k_X2_has W R h1 h2), ob_of k1, ob_of u1]
  unfold dwr at u2 ⊢
  by_cases c : 0 ≤ z ∧ z < nl a
  · obtain ⟨l, rfl⟩ : ∃ p : Nat, z = p := ⟨z.toNat, by omega⟩
    have hl : l < nl a := by omega
    have ki : f_X7_isIn (zI v) 0 1 M = some (zI (bP (0 ≤ v ∧ v ≤ 1)), M) := by
      rw [zl_0, zl_1]; exact k_isIn h3 h4 (by omega) (by omega) (by omega) (by omega)
    rw [bP_t c, if_neg (show ¬ (zI 1 = 0) by decide), ob_of ki]
    by_cases d : 0 ≤ v ∧ v ≤ 1
    · have ce : ¬ (¬ (0 ≤ (l : Int) ∧ (l : Int) < (nl a : Int)) ∨ ¬ (0 ≤ v ∧ v ≤ 1)) := fun q => q.elim (fun t => t c) (fun t => t d)
      rw [if_neg ce, Int.toNat_natCast] at u2
      have kr := k_reasonAgainst W R hl d.1 d.2 (t := 0) (by omega) (by omega)
      rw [bP_t d, if_neg (show ¬ (zI 1 = 0) by decide), if_neg ce, Int.toNat_natCast, zl_0, ob_of kr]
      by_cases e : rsn a l v 0 = 0
      · rw [if_pos e] at u2
        rw [if_pos e, e, if_pos (show zI 0 = zI 0 from rfl)]
        obtain ⟨p, p1, p2, p3, p4⟩ := rsn_ok W e
        rw [p1, Int.toNat_natCast] at u2
        have dr := dst_rg (x := a 9) (y := a 10) (by omega) (by omega) (bX_rg W hl v) (bY_rg W hl v)
        have vv := W.line hl
        obtain ⟨ns', N, n1, n2, n3⟩ := k_record W R H
        obtain ⟨P, o1, o2, o3⟩ := k_drawByHand W (n3.rc R) hl d.1 d.2 p1 p2 p3 p4
        obtain ⟨T, t1, t2⟩ := ch_ok (drw_wf W hl d.1 d.2 p1 p2 p3 p4) H.1 q X n2 n3 o3 o2 Q k2 k3 u3 u2 (a 7 + (dst (a 9) (a 10) (bX a l v) (bY a l v) + len a l)) (by omega) (by omega)
        rw [ob_of n1, ob_of o1, ob_of t1, o2.t3, drw_7]
        exact ⟨_, ns', P, T, rfl, rfl, t2⟩
      · rw [if_neg e] at u2
        have rr := rsn_rg (a := a) l v 0
        rw [if_neg e, if_neg (show ¬ (zI (rsn a l v 0) = zI 0) by rw [zI_eq (by omega) (by omega) (by omega) (by omega)]; exact e), ob_of (k_acted_e (-1000002) (by decide) (by decide) T2)]
        exact ⟨_, ns, M, T2, rfl, rfl, ch_no W R H q X k3 u3 u2⟩
    · rw [if_pos (.inr d)] at u2
      rw [bP_f d, if_pos (show zI 0 = 0 by decide), if_pos (.inr d), ob_of (k_acted_e (-1000001) (by decide) (by decide) T2)]
      exact ⟨_, ns, M, T2, rfl, rfl, ch_no W R H q X k3 u3 u2⟩
  · rw [if_pos (.inl c)] at u2
    rw [bP_f c, if_pos (show zI 0 = 0 by decide), if_pos (.inl c), ob_of (k_acted_e (-1000001) (by decide) (by decide) T2)]
    exact ⟨_, ns, M, T2, rfl, rfl, ch_no W R H q X k3 u3 u2⟩
/-! a refusal ahead of what is kept -/
theorem ch_same {ns : Nat} (I : INV ns M S) (r : Int32) : CH (some ((r, ns), M)) (some (r, S)) := ⟨r, ns, M, S, rfl, rfl, I⟩
theorem RC.e17 (W : WF a) (R : RC g M a) {l : Nat} (hl : l < nl a) : RC g (up3 M g 17 l (zI (-1))) (uz a (53 + 8 * l + 4) (-1)) := by
  refine R.g1 (uz_ne _ _ (by omega)) (uz_ne _ _ (by omega)) (fun k _ _ => up3_cell _ _ (by omega)) (up3_cell _ _ (by omega)) ?_ ?_ ?_ ?_ ?_ ?_ ?_
  · intro o ho w hw
    rw [la_ln _ (by omega) (by omega), if_neg (by omega)]
  · intro i hi
    rw [up3_cell _ _ (by omega), uz_ne _ _ (by omega)]
    exact R.rset hi
  · intro p hp
    have q := R.rpen hp
    have ws := W.sc
    unfold PenOk
    simp (disch := omega) only [up3_cell, pa_ln]
    exact q
  · intro o ho
    rw [la_ln _ (by omega) (by omega)]
    by_cases c : o = l
    · subst c
      rw [up3_at, if_pos ⟨rfl, rfl⟩]
    · rw [up3_slot _ _ c, if_neg (fun t => c t.1)]
      exact R.l17 ho
  · intro o ho hd
    rw [la_ln _ (by omega) (by omega)] at hd
    have c : o ≠ l := fun t => hd (if_pos ⟨t, rfl⟩)
    rw [if_neg (fun t => c t.1)] at hd
    rw [up3_cell _ _ (by omega), up3_cell _ _ (by omega), la_ln _ (by omega) (by omega), la_ln _ (by omega) (by omega), if_neg (by omega), if_neg (by omega)]
    exact R.rdrawn ho hd
  · intro o ho hd
    rw [la_ln _ (by omega) (by omega)] at hd
    have c : o ≠ l := fun t => hd (if_pos ⟨t, rfl⟩)
    rw [if_neg (fun t => c t.1)] at hd
    obtain ⟨k, q1, q2, q3, q4⟩ := R.rshade ho hd
    rw [up3_cell _ _ (by omega), la_ln _ (by omega) (by omega), la_ln _ (by omega) (by omega), if_neg (fun t => c t.1), if_neg (fun t => c t.1)]
    have e : pa (uz a (53 + 8 * l + 4) (-1)) (la a o 4).toNat 1 = pa a (la a o 4).toNat 1 := by
      by_cases c5 : (la a o 4).toNat < 5
      · exact pa_ln _ _ c5 (by omega)
      · have v := W.line ho
        have ws := W.sc
        omega
    rw [e]
    exact ⟨k, q1, q2, q3, q4⟩
  · have q := R.rsc
    unfold ScOk
    simp (disch := omega) only [up3_cell, uz_ne]
    exact q
end
