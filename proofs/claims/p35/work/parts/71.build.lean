/-! what the law builds ahead of its acts -/
section
variable {M N P : Mem} {a b c : Row} {ns n : Nat} {h : Nat → Row}
def BA (p0 l0 : Nat) (ns : Nat) (M : Mem) (a : Row) : Prop := WF a ∧ RC 1 M a ∧ (∃ n h, HV M ns n h) ∧ (np a = p0 ∧ nl a = l0) ∧ (a 7 = 0 ∧ a 2 = 60 ∧ a 3 = 40 ∧ a 8 = -1) ∧ (∀ p, p < np a → pa a p 6 = 0 ∧ (p < 2 → pa a p 5 = 20 + p)) ∧ ∀ l, l < nl a → la a l 4 = -1
theorem BA.xw {p0 l0 : Nat} (B : BA p0 l0 ns M a) : XW a := ⟨fun p hp h6 => by
  have := (B.2.2.2.2.2.1 p hp).1
  omega, fun l hl h4 => absurd (B.2.2.2.2.2.2 l hl) h4⟩
theorem BA.start : BA 0 0 0 M0 a00 := by
  have n0 : np a00 = 0 := by decide
  have l0 : nl a00 = 0 := by decide
  refine ⟨?_, ?_, ⟨0, fun _ => a00, ?_⟩, ⟨n0, l0⟩, by decide, fun p hp => by rw [n0] at hp; exact absurd hp (Nat.not_lt_zero _), fun l hl => by rw [l0] at hl; exact absurd hl (Nat.not_lt_zero _)⟩
  · refine ⟨by decide, ?_, ?_, ?_, ?_⟩
    · intro p hp; rw [n0] at hp; exact absurd hp (Nat.not_lt_zero _)
    · intro p hp; rw [l0] at hp; exact absurd hp (Nat.not_lt_zero _)
    · intro p hp; rw [l0] at hp; exact absurd hp (Nat.not_lt_zero _)
    · intro p hp; rw [l0] at hp; exact absurd hp (Nat.not_lt_zero _)
  · refine ⟨?_, ⟨by rw [n0]; decide, by rw [l0]; decide⟩, ?_, ?_, ?_, ?_, by decide⟩
    · intro i hi
      rcases (show i = 0 ∨ i = 1 ∨ i = 2 ∨ i = 3 ∨ i = 4 by omega) with rfl | rfl | rfl | rfl | rfl <;> decide
    · intro p hp; rw [n0] at hp; exact absurd hp (Nat.not_lt_zero _)
    · intro p hp; rw [l0] at hp; exact absurd hp (Nat.not_lt_zero _)
    · intro p hp; rw [l0] at hp; exact absurd hp (Nat.not_lt_zero _)
    · intro p hp; rw [l0] at hp; exact absurd hp (Nat.not_lt_zero _)
  · exact ⟨by decide, fun i hi => absurd hi (Nat.not_lt_zero _), 0, by decide, by decide, by decide, .inr ⟨by decide, by decide, by decide⟩, fun i hi => absurd hi (Nat.not_lt_zero _)⟩
theorem bd_pen {k : Nat} (B : BA k 0 ns M a) (hk : k < 2) {kd cp : Int} (c1 : 0 ≤ kd ∧ kd ≤ 1) (c2 : 10 ≤ cp ∧ cp ≤ 5000) : ∃ (ns' : Nat) (P : Mem) (c : Row), f_X7_pen ns (zI kd) (zI cp) (zI 2) (zI k) M = some ((zI k, ns'), P) ∧ BA (k + 1) 0 ns' P c := by
  obtain ⟨W, R, ⟨n, h, H⟩, ⟨h3, h8⟩, ⟨e7, e2, e3, e8⟩, hp, hl⟩ := B
  have hn : np a < 5 := by omega
  obtain ⟨ns', P, d1, d2, d3⟩ := b_pen W R H hn c1 c2 (hd := 2) (sl := (k : Int)) (by omega) (by omega) (.inl rfl) (fun ⟨q, q1, q2⟩ => by
    have := (hp q q1).2 (by omega)
    omega)
  have s1 : ∀ i, 1 ≤ i → i < 13 → pnr a kd cp (10 * 2 + (k : Int)) i = a i := fun i i1 i2 => pnr_sc a kd cp _ i1 i2
  have e1 : nl (pnr a kd cp (10 * 2 + (k : Int))) = nl a := nl_c (s1 1 (by omega) (by omega))
  have e0 := pnr_np W kd cp (10 * 2 + (k : Int))
  rw [h3] at d1
  refine ⟨ns', P, _, d1, pnr_wf W hn (by omega) c2 (by omega), d2, ⟨_, _, d3⟩, ⟨by omega, by omega⟩, ⟨by rw [s1 7 (by omega) (by omega)]; exact e7, by rw [s1 2 (by omega) (by omega)]; exact e2, by rw [s1 3 (by omega) (by omega)]; exact e3, by rw [s1 8 (by omega) (by omega)]; exact e8⟩, fun q hq => ?_, fun l ll => by omega⟩
  rw [pnr_pa _ _ _ _ (by omega), pnr_pa _ _ _ _ (by omega)]
  by_cases t : q = np a
  · rw [if_pos t, if_pos t]
    refine ⟨by simp, fun _ => ?_⟩
    rw [if_neg (by omega), if_neg (by omega), if_pos rfl]
    omega
  · rw [if_neg t, if_neg t]
    exact hp q (by omega)
theorem bd_pen3 (B : BA 2 0 ns M a) {cp : Int} (c2 : 10 ≤ cp ∧ cp ≤ 5000) : ∃ (ns' : Nat) (P : Mem) (c : Row), f_X7_pen ns (zI 0) (zI cp) (zI 0) (zI 1) M = some ((zI 2, ns'), P) ∧ BA 3 0 ns' P c := by
  obtain ⟨W, R, ⟨n, h, H⟩, ⟨h3, h8⟩, ⟨e7, e2, e3, e8⟩, hp, hl⟩ := B
  have hn : np a < 5 := by omega
  obtain ⟨ns', P, d1, d2, d3⟩ := b_pen W R H hn (kd := 0) (by omega) c2 (hd := 0) (sl := 1) (by omega) (by omega) (.inr rfl) (fun ⟨q, q1, q2⟩ => by
    have := (hp q q1).2 (by omega)
    omega)
  have s1 : ∀ i, 1 ≤ i → i < 13 → pnr a 0 cp (10 * 0 + 1) i = a i := fun i i1 i2 => pnr_sc a 0 cp _ i1 i2
  have e1 : nl (pnr a 0 cp (10 * 0 + 1)) = nl a := nl_c (s1 1 (by omega) (by omega))
  have e0 := pnr_np W 0 cp (10 * 0 + 1)
  rw [h3] at d1
  refine ⟨ns', P, _, d1, pnr_wf W hn (by omega) c2 (by omega), d2, ⟨_, _, d3⟩, ⟨by omega, by omega⟩, ⟨by rw [s1 7 (by omega) (by omega)]; exact e7, by rw [s1 2 (by omega) (by omega)]; exact e2, by rw [s1 3 (by omega) (by omega)]; exact e3, by rw [s1 8 (by omega) (by omega)]; exact e8⟩, fun q hq => ?_, fun l ll => by omega⟩
  rw [pnr_pa _ _ _ _ (by omega), pnr_pa _ _ _ _ (by omega)]
  by_cases t : q = np a
  · rw [if_pos t, if_pos t]
    exact ⟨by simp, fun _ => by omega⟩
  · rw [if_neg t, if_neg t]
    exact hp q (by omega)
theorem bd_line {k : Nat} (B : BA 3 k ns M a) (hk : k < 8) {x y x2 y2 : Int} (h1 : 0 ≤ x ∧ x ≤ 99) (h2 : 0 ≤ y ∧ y ≤ 99) (h4 : 0 ≤ x2 ∧ x2 ≤ 99) (h5 : 0 ≤ y2 ∧ y2 ≤ 99) (hd : x ≠ x2) : ∃ (ns' : Nat) (P : Mem) (c : Row), f_X7_line ns (zI x) (zI y) (zI x2) (zI y2) M = some ((zI k, ns'), P) ∧ BA 3 (k + 1) ns' P c := by
  obtain ⟨W, R, ⟨n, h, H⟩, ⟨h3, h8⟩, ⟨e7, e2, e3, e8⟩, hp, hl⟩ := B
  have ws := W.sc
  have hn : nl a < 16 := by omega
  obtain ⟨ns', P, d1, d2, d3⟩ := b_line W R H hn h1 h2 h4 h5 hd
  have s1 : ∀ i, i ≠ 1 → i < 53 → lnr a x y x2 y2 i = a i := fun i i1 i2 => lnr_sc a x y x2 y2 i1 i2
  have e1 := lnr_nl W x y x2 y2
  have e0 := lnr_np a x y x2 y2
  rw [h8] at d1
  refine ⟨ns', P, _, d1, lnr_wf W hn h1 h2 h4 h5 (fun t => hd t.1), d2, ⟨_, _, d3⟩, ⟨by omega, by omega⟩, ⟨by rw [s1 7 (by omega) (by omega)]; exact e7, by rw [s1 2 (by omega) (by omega)]; exact e2, by rw [s1 3 (by omega) (by omega)]; exact e3, by rw [s1 8 (by omega) (by omega)]; exact e8⟩, fun q hq => ?_, fun l ll => ?_⟩
  · rw [lnr_pa _ _ _ _ _ (by omega) (by omega), lnr_pa _ _ _ _ _ (by omega) (by omega)]
    exact hp q (by omega)
  · rw [lnr_la _ _ _ _ _ (by omega)]
    by_cases t : l = nl a
    · rw [if_pos t]; rfl
    · rw [if_neg t]; exact hl l (by omega)
theorem bd_sets (B : BA 3 8 ns M a) {v w : Int} (h1 : 0 ≤ v ∧ v ≤ 500) (h2 : 1 ≤ w ∧ w ≤ 200) {p : Nat} (hp3 : p < 3) : ∃ (n1 n2 n3 : Nat) (P1 P2 P3 : Mem) (c : Row), f_X7_set ns (zI 0) (zI v) M = some ((zI 60, n1), P1) ∧ f_X7_set n1 (zI 1) (zI w) P1 = some ((zI 40, n2), P2) ∧ f_X7_take n2 (zI p) P2 = some ((zI 0, n3), P3) ∧ SA n3 P3 c ∧ c 7 ≤ 100 := by
  obtain ⟨W, R, ⟨n, h, H⟩, ⟨h3, h8⟩, ⟨e7, e2, e3, e8⟩, hp, hl⟩ := B
  have ws := W.sc
  have l0 : lo5 0 ≤ v ∧ v ≤ hi5 0 := by
    have x : lo5 0 = 0 := rfl
    have y : hi5 0 = 500 := rfl
    omega
  have l1 : lo5 1 ≤ w ∧ w ≤ hi5 1 := by
    have x : lo5 1 = 1 := rfl
    have y : hi5 1 = 200 := rfl
    omega
  obtain ⟨n1, P1, d1, R1, H1⟩ := b_set W R H (i := 0) (by omega) l0
  have W1 : WF (uz a (2 + 0) v) := W.s1 (i := 0) (by omega) l0.1 l0.2
  have q1 : ∀ i, i ≠ 2 → uz a (2 + 0) v i = a i := fun i hi => uz_ne _ _ (by omega)
  have np1 : np (uz a (2 + 0) v) = np a := np_c (q1 0 (by omega))
  obtain ⟨n2, P2, d2, R2, H2⟩ := b_set W1 R1 H1 (i := 1) (by omega) l1
  have W2 : WF (uz (uz a (2 + 0) v) (2 + 1) w) := W1.s1 (i := 1) (by omega) l1.1 l1.2
  have q2 : ∀ i, i ≠ 2 → i ≠ 3 → uz (uz a (2 + 0) v) (2 + 1) w i = a i := fun i hi hj => (uz_ne _ _ (by omega)).trans (q1 i hi)
  have np2 : np (uz (uz a (2 + 0) v) (2 + 1) w) = np a := np_c (q2 0 (by omega) (by omega))
  have nl2 : nl (uz (uz a (2 + 0) v) (2 + 1) w) = nl a := nl_c (q2 1 (by omega) (by omega))
  have pq : ∀ q u, pa (uz (uz a (2 + 0) v) (2 + 1) w) q u = pa a q u := fun q u => q2 _ (by omega) (by omega)
  have lq : ∀ q u, la (uz (uz a (2 + 0) v) (2 + 1) w) q u = la a q u := fun q u => q2 _ (by omega) (by omega)
  have t8 : uz (uz a (2 + 0) v) (2 + 1) w 8 = -1 := (q2 8 (by omega) (by omega)).trans e8
  have t7 : uz (uz a (2 + 0) v) (2 + 1) w 7 = 0 := (q2 7 (by omega) (by omega)).trans e7
  have t5 : uz (uz a (2 + 0) v) (2 + 1) w 5 = a 5 := q2 5 (by omega) (by omega)
  have p6 := (hp p (by omega)).1
  generalize uz (uz a (2 + 0) v) (2 + 1) w = b at *
  obtain ⟨n3, P3, d3, R3, H3⟩ := b_take W2 R2 H2 (p := p) (by omega) (by rw [pq]; omega) (by omega)
  have W3 := swr_wf W2 (p := (p : Int)) (by omega) (by omega) (by omega)
  obtain ⟨s0, s1, s5, s7, s8, s11⟩ := swr_0 b p
  rw [e2] at d1
  rw [uz_ne _ _ (by omega), e3] at d2
  rw [t8] at d3
  refine ⟨n1, n2, n3, P1, P2, P3, swr b p, d1, d2, d3, ⟨W3, R3, ⟨_, _, H3⟩, ⟨fun q hq h6 => ?_, fun l hl2 h4 => ?_⟩, by rw [np_c s0]; omega, by rw [nl_c s1]; omega⟩, by omega⟩
  · rw [np_c s0] at hq
    rw [swr_pa _ _ (by omega) (by omega), pq] at h6
    have := (hp q (by omega)).1
    omega
  · rw [nl_c s1] at hl2
    rw [swr_la W2, lq] at h4
    exact absurd (hl l (by omega)) h4
theorem sa_undo (S : SA ns M a) (ht : a 7 ≤ 50000) : ∃ (n1 m : Nat) (P1 P2 : Mem), f_X7_waits ns (zI 9) M = some ((zI (a 7 + 9), n1), P1) ∧ f_X7_undo n1 P1 = some (zI m, P2) ∧ m < 4 ∧ RC 1 P2 a := by
  obtain ⟨W, R, ⟨n, h, H⟩, X, h3, h8⟩ := S
  have ws := W.sc
  obtain ⟨n1, P1, d1, R1, H1⟩ := b_waits W R H (z := 9) (by omega) (by omega)
  have n4 := H.1
  have key : ∃ m, phn n = m + 1 ∧ m < 4 ∧ phh n h a m = a := by
    unfold phn phh
    by_cases c : n = 4
    · rw [if_pos c, if_pos c]
      exact ⟨3, rfl, by omega, rfl⟩
    · rw [if_neg c, if_neg c]
      refine ⟨n, rfl, by omega, ?_⟩
      show (if n < n then h n else a) = a
      rw [if_neg (Nat.lt_irrefl n)]
  obtain ⟨m, m1, m2, m3⟩ := key
  rw [m1] at H1
  obtain ⟨P2, u1, u2, u3, u4⟩ := b_undo H1
  rw [m3] at u3
  exact ⟨n1, m, P1, P2, d1, u1, m2, u3⟩
theorem zI_rem {x y : Int} (h1 : 0 ≤ x) (h2 : x < 2147483648) (h3 : 0 < y) (h4 : y < 2147483648) : zI x - zI x / zI y * zI y = zI (x - x / y * y) := by
  rw [zI_div h1 h2 h3 h4, zI_mul, zI_sub]
end
