/-! an order is done, by both -/
section
variable {g : Nat} {M N S T : Mem} {a b : Row}
/-- reason, cause and row of an order -/
def ordm (x : Int × Row) : Int × Int × Row := (if x.1 ≤ -1000001 then 3 else 0, -1000004, x.2)
noncomputable def ordd (a : Row) (v w : Int) : Int × Int × Row := if ¬ (0 ≤ v ∧ v < nl a) then (2, -1000004, a) else if rsn a v.toNat w 0 = 0 then (0, -1000004, drw a v.toNat (a 8).toNat w) else (3, rsn a v.toNat w 0, a)
noncomputable def ord (a : Row) (L v : Int) : Int × Int × Row :=
  if L = 100 then ordd a v 0 else if L = 104 then ordm (hmr a) else if L = 112 then (if ¬ (0 ≤ v ∧ v < np a) then (2, -1000004, a) else ordm (tkr a v)) else if L = 114 then ordd a v 1 else if L = 119 then ordm (wtr a v) else ordm (cnr a)
theorem ordd_wf (W : WF a) {v w : Int} (h0 : 0 ≤ w) (h2 : w ≤ 1) : WF (ordd a v w).2.2 := by
  have ws := W.sc
  unfold ordd
  by_cases c : 0 ≤ v ∧ v < nl a
  · rw [if_neg (fun q => q c)]
    by_cases e : rsn a v.toNat w 0 = 0
    · rw [if_pos e]
      obtain ⟨p, p1, p2, p3, p4⟩ := rsn_ok W e
      show WF (drw a v.toNat (a 8).toNat w)
      rw [p1, Int.toNat_natCast]
      exact drw_wf W (by omega) h0 h2 p1 p2 p3 p4
    · rw [if_neg e]
      exact W
  · rw [if_pos c]
    exact W
theorem ord_wf (W : WF a) (L v : Int) : WF (ord a L v).2.2 := by
  unfold ord
  by_cases c1 : L = 100
  · rw [if_pos c1]; exact ordd_wf W (by omega) (by omega)
  · rw [if_neg c1]
    by_cases c2 : L = 104
    · rw [if_pos c2]; exact hmr_wf W
    · rw [if_neg c2]
      by_cases c3 : L = 112
      · rw [if_pos c3]
        by_cases d : 0 ≤ v ∧ v < np a
        · rw [if_neg (fun q => q d)]; exact tkr_wf W v
        · rw [if_pos d]; exact W
      · rw [if_neg c3]
        by_cases c4 : L = 114
        · rw [if_pos c4]; exact ordd_wf W (by omega) (by omega)
        · rw [if_neg c4]
          by_cases c5 : L = 119
          · rw [if_pos c5]; exact wtr_wf W v
          · rw [if_neg c5]; exact cnr_wf W
theorem ordd_r (a : Row) (v w : Int) : 0 ≤ (ordd a v w).1 ∧ (ordd a v w).1 ≤ 3 ∧ ((ordd a v w).1 = 0 → (ordd a v w).2.1 = -1000004) ∧ -1000004 ≤ (ordd a v w).2.1 ∧ (ordd a v w).2.1 ≤ 7 := by
  have rr := rsn_rg (a := a) v.toNat w 0
  unfold ordd
  by_cases c : 0 ≤ v ∧ v < nl a
  · rw [if_neg (fun q => q c)]
    by_cases e : rsn a v.toNat w 0 = 0
    · rw [if_pos e]; exact ⟨by simp, by simp, fun _ => rfl, by simp, by simp⟩
    · rw [if_neg e]; exact ⟨by simp, by simp, fun h => by simp at h, (by show -1000004 ≤ rsn a v.toNat w 0; omega), rr.2⟩
  · rw [if_pos c]; exact ⟨by simp, by simp, fun h => by simp at h, by simp, by simp⟩
theorem ordm_r (x : Int × Row) : 0 ≤ (ordm x).1 ∧ (ordm x).1 ≤ 3 ∧ ((ordm x).1 = 0 → (ordm x).2.1 = -1000004) ∧ -1000004 ≤ (ordm x).2.1 ∧ (ordm x).2.1 ≤ 7 := by
  unfold ordm
  refine ⟨?_, ?_, fun _ => rfl, (by decide : (-1000004 : Int) ≤ -1000004), (by decide : (-1000004 : Int) ≤ 7)⟩
  · show 0 ≤ (if x.1 ≤ -1000001 then (3 : Int) else 0)
    split <;> decide
  · show (if x.1 ≤ -1000001 then (3 : Int) else 0) ≤ 3
    split <;> decide
theorem ord_r (a : Row) (L v : Int) : 0 ≤ (ord a L v).1 ∧ (ord a L v).1 ≤ 3 ∧ ((ord a L v).1 = 0 → (ord a L v).2.1 = -1000004) ∧ -1000004 ≤ (ord a L v).2.1 ∧ (ord a L v).2.1 ≤ 7 := by
  unfold ord
  by_cases c1 : L = 100
  · rw [if_pos c1]; exact ordd_r a v 0
  · rw [if_neg c1]
    by_cases c2 : L = 104
    · rw [if_pos c2]; exact ordm_r _
    · rw [if_neg c2]
      by_cases c3 : L = 112
      · rw [if_pos c3]
        by_cases d : 0 ≤ v ∧ v < np a
        · rw [if_neg (fun q => q d)]; exact ordm_r _
        · rw [if_pos d]; exact ⟨by simp, by simp, fun h => by simp at h, by simp, by simp⟩
      · rw [if_neg c3]
        by_cases c4 : L = 114
        · rw [if_pos c4]; exact ordd_r a v 1
        · rw [if_neg c4]
          by_cases c5 : L = 119
          · rw [if_pos c5]; exact ordm_r _
          · rw [if_neg c5]; exact ordm_r _
/-- the class: only the plotter and the cause differ -/
def OC (g : Nat) (M N : Mem) : Prop := (∀ h k, h ≠ g → ¬ (h = 0 ∧ k = 3) → N h k = M h k) ∧ ∀ j, j ≠ 4 → N 0 3 j = M 0 3 j
theorem OG.oc (hg : g ≠ 0) (h : OG g M N) : OC g M N := ⟨fun i k c _ => h i k c, fun j _ => by rw [h 0 3 (by omega)]⟩
/-- what the class's part of an order gives -/
def OrC (g : Nat) (f : Option (Int32 × Mem)) (M : Mem) (o : Int × Int × Row) : Prop := ∃ N, f = some (zI o.1, N) ∧ RC g N o.2.2 ∧ N 0 3 4 = zI o.2.1 ∧ OC g M N
theorem or_take (W : WF a) (hg : g ≠ 0) (R : RC g M a) (h4 : M 0 3 4 = zI (-1000004)) {v : Int} (h1 : -2147483648 ≤ v) (h2 : v < 2147483648) : OrC g (f_X3_takeIn g (zI v) M) M (if ¬ (0 ≤ v ∧ v < np a) then (2, -1000004, a) else ordm (tkr a v)) := by
  have ws := W.sc
  unfold f_X3_takeIn
  rw [ob_of (k_X4_has W R h1 h2)]
  by_cases c : 0 ≤ v ∧ v < np a
  · obtain ⟨p, rfl⟩ : ∃ p : Nat, v = p := ⟨v.toNat, by omega⟩
    have hp : p < np a := by omega
    rw [bP_t c, if_neg (show ¬ (zI 1 = 0) by decide), if_neg (show ¬ ¬ (0 ≤ (p : Int) ∧ (p : Int) < (np a : Int)) from fun q => q c), ob_of (k_errorOfTaking W R hp)]
    unfold tkr
    rw [if_neg (show ¬ ¬ (0 ≤ (p : Int) ∧ (p : Int) < (np a : Int)) from fun q => q c), Int.toNat_natCast]
    by_cases c1 : (p : Int) = a 8 ∨ pa a p 6 = 1
    · rw [if_pos c1, if_pos c1]
      exact ⟨M, rfl, R, h4, OG.rf.oc hg⟩
    · rw [if_neg c1, if_neg c1]
      by_cases c4 : a 7 + a 5 ≤ 100000
      · rw [if_pos c4, if_pos c4, if_pos (show zI 0 = 0 by decide)]
        obtain ⟨P, p1, p2, p3⟩ := k_swapTo W R c4 p
        refine ⟨P, ?_, p2, by rw [p3 0 3 (by omega)]; exact h4, p3.oc hg⟩
        rw [ob_of p1]
        unfold ordm
        rw [if_neg (show ¬ (a 8 + 1 ≤ -1000001) by omega)]
        rfl
      · rw [if_neg c4, if_neg c4]
        exact ⟨M, rfl, R, h4, OG.rf.oc hg⟩
  · rw [bP_f c, if_pos (show zI 0 = 0 by decide), if_pos c]
    exact ⟨M, rfl, R, h4, OG.rf.oc hg⟩
theorem or_draw (W : WF a) (hg : g ≠ 0) (R : RC g M a) (h4 : M 0 3 4 = zI (-1000004)) {v w : Int} (h1 : -2147483648 ≤ v) (h2 : v < 2147483648) (w0 : 0 ≤ w) (w1 : w ≤ 1) : OrC g (f_X3_drawIn g (zI v) (zI w) M) M (ordd a v w) := by
  have ws := W.sc
  unfold f_X3_drawIn ordd
  rw [ob_of (k_X2_has W R h1 h2)]
  by_cases c : 0 ≤ v ∧ v < nl a
  · obtain ⟨l, rfl⟩ : ∃ p : Nat, v = p := ⟨v.toNat, by omega⟩
    have hl : l < nl a := by omega
    have kr := k_reasonAgainst W R hl w0 w1 (t := 0) (by omega) (by omega)
    have rr := rsn_rg (a := a) l w 0
    rw [bP_t c, if_neg (show ¬ (zI 1 = 0) by decide), if_neg (show ¬ ¬ (0 ≤ (l : Int) ∧ (l : Int) < (nl a : Int)) from fun q => q c), Int.toNat_natCast, zl_0, ob_of kr]
    by_cases e : rsn a l w 0 = 0
    · rw [if_pos e, e, if_pos rfl]
      obtain ⟨p, p1, p2, p3, p4⟩ := rsn_ok W e
      obtain ⟨P, o1, o2, o3⟩ := k_drawByHand W R hl w0 w1 p1 p2 p3 p4
      refine ⟨P, ?_, ?_, by rw [o3 0 3 (by omega)]; exact h4, o3.oc hg⟩
      · rw [ob_of o1]
      · show RC g P (drw a l (a 8).toNat w)
        rw [p1, Int.toNat_natCast]
        exact o2
    · rw [if_neg e, if_neg (show ¬ (zI (rsn a l w 0) = zI 0) by rw [zI_eq (by omega) (by omega) (by omega) (by omega)]; exact e)]
      exact ⟨up3 M 0 3 4 (zI (rsn a l w 0)), rfl, R.same (fun k _ => up3_cell _ _ (by omega)), up3_at _ _ _ _ _, fun h k c1 c2 => up3_cell _ _ (by omega), fun j hj => up3_slot _ _ hj⟩
  · rw [bP_f c, if_pos (show zI 0 = 0 by decide), if_pos c]
    exact ⟨M, rfl, R, h4, OG.rf.oc hg⟩
theorem or_home (W : WF a) (hg : g ≠ 0) (R : RC g M a) (h4 : M 0 3 4 = zI (-1000004)) : OrC g (f_X3_goHomeIn g M) M (ordm (hmr a)) := by
  have ws := W.sc
  unfold f_X3_goHomeIn hmr
  rw [ob_of (k_errorOfGoingHome W R)]
  by_cases c : 0 ≤ a 8
  · rw [if_neg (show ¬ ¬ 0 ≤ a 8 from fun q => q c), if_neg (show ¬ ¬ 0 ≤ a 8 from fun q => q c)]
    by_cases c4 : a 7 + a 5 ≤ 100000
    · rw [if_pos c4, if_pos c4, if_pos (show zI 0 = 0 by decide), zm_1]
      obtain ⟨P, p1, p2, p3⟩ := k_swapTo W R c4 (-1)
      refine ⟨P, ?_, p2, by rw [p3 0 3 (by omega)]; exact h4, p3.oc hg⟩
      rw [ob_of p1]
      unfold ordm
      rw [if_neg (show ¬ (a 8 ≤ -1000001) by omega)]
      rfl
    · rw [if_neg c4, if_neg c4]
      exact ⟨M, rfl, R, h4, OG.rf.oc hg⟩
  · rw [if_pos (show ¬ 0 ≤ a 8 from c), if_pos (show ¬ 0 ≤ a 8 from c)]
    exact ⟨M, rfl, R, h4, OG.rf.oc hg⟩
theorem or_wait (W : WF a) (hg : g ≠ 0) (R : RC g M a) (h4 : M 0 3 4 = zI (-1000004)) {v : Int} (h1 : -2147483648 ≤ v) (h2 : v < 2147483648) : OrC g (f_X3_waitIn g (zI v) M) M (ordm (wtr a v)) := by
  have ws := W.sc
  unfold f_X3_waitIn wtr
  rw [ob_of (k_errorOfWaiting W R h1 h2)]
  by_cases c : 1 ≤ v ∧ v ≤ 200
  · rw [if_neg (show ¬ ¬ (1 ≤ v ∧ v ≤ 200) from fun q => q c), if_neg (show ¬ ¬ (1 ≤ v ∧ v ≤ 200) from fun q => q c)]
    by_cases c4 : a 7 + v ≤ 100000
    · rw [if_pos c4, if_pos c4, if_pos (show zI 0 = 0 by decide)]
      obtain ⟨P, p1, p2, p3⟩ := k_passIdly W R (show 0 ≤ v by omega) c4
      refine ⟨P, ?_, p2, by rw [p3 0 3 (by omega)]; exact h4, p3.oc hg⟩
      rw [ob_of p1]
      unfold ordm
      rw [if_neg (show ¬ (a 7 + v ≤ -1000001) by omega)]
      rfl
    · rw [if_neg c4, if_neg c4]
      exact ⟨M, rfl, R, h4, OG.rf.oc hg⟩
  · rw [if_pos c, if_pos c]
    exact ⟨M, rfl, R, h4, OG.rf.oc hg⟩
theorem or_clean (W : WF a) (hg : g ≠ 0) (R : RC g M a) (h4 : M 0 3 4 = zI (-1000004)) : OrC g (f_X3_cleanIn g M) M (ordm (cnr a)) := by
  have ws := W.sc
  unfold f_X3_cleanIn cnr
  rw [ob_of (k_errorOfCleaning W R)]
  by_cases c : 0 ≤ a 8
  · have u := W.pen (show (a 8).toNat < np a by omega)
    rw [if_neg (show ¬ ¬ 0 ≤ a 8 from fun q => q c), if_neg (show ¬ ¬ 0 ≤ a 8 from fun q => q c)]
    by_cases c4 : a 7 + a 6 ≤ 100000
    · rw [if_pos c4, if_pos c4, if_pos (show zI 0 = 0 by decide)]
      obtain ⟨P, p1, p2, p3⟩ := k_cleanHand W R c c4
      refine ⟨P, ?_, p2, by rw [p3 0 3 (by omega)]; exact h4, p3.oc hg⟩
      rw [ob_of p1]
      unfold ordm
      rw [if_neg (show ¬ (pa a (a 8).toNat 4 ≤ -1000001) by omega)]
      rfl
    · rw [if_neg c4, if_neg c4]
      exact ⟨M, rfl, R, h4, OG.rf.oc hg⟩
  · rw [if_pos (show ¬ 0 ≤ a 8 from c), if_pos (show ¬ 0 ≤ a 8 from c)]
    exact ⟨M, rfl, R, h4, OG.rf.oc hg⟩
theorem k_doing (W : WF a) (hg : g ≠ 0) (R : RC g M a) (h4 : M 0 3 4 = zI (-1000004)) {L v : Int} (h1 : -2147483648 ≤ v) (h2 : v < 2147483648) (h5 : 0 ≤ L) (h6 : L ≤ 1000) : OrC g (f_X3_reasonOfDoing g (zI L) (zI v) M) M (ord a L v) := by
  have fin : ∀ (f : Option (Int32 × Mem)) (o : Int × Int × Row), OrC g f M o → OrC g (ob f fun r N => some (r, N)) M o := by
    rintro f o ⟨N, n1, n2⟩
    exact ⟨N, by rw [ob_of n1], n2⟩
  have e : ∀ k : Int, 0 ≤ k → k ≤ 1000 → (zI L = zI k ↔ L = k) := fun k a1 a2 => zI_eq (by omega) (by omega) (by omega) (by omega)
  unfold f_X3_reasonOfDoing ord
  rw [zl_100, zl_104, zl_112, zl_114, zl_119, zl_0, zl_1]
  by_cases c1 : L = 100
  · rw [if_pos ((e 100 (by omega) (by omega)).2 c1), if_pos c1]
    exact fin _ _ (or_draw W hg R h4 h1 h2 (by omega) (by omega))
  · rw [if_neg (fun q => c1 ((e 100 (by omega) (by omega)).1 q)), if_neg c1]
    by_cases c2 : L = 104
    · rw [if_pos ((e 104 (by omega) (by omega)).2 c2), if_pos c2]
      exact fin _ _ (or_home W hg R h4)
    · rw [if_neg (fun q => c2 ((e 104 (by omega) (by omega)).1 q)), if_neg c2]
      by_cases c3 : L = 112
      · rw [if_pos ((e 112 (by omega) (by omega)).2 c3), if_pos c3]
        exact fin _ _ (or_take W hg R h4 h1 h2)
      · rw [if_neg (fun q => c3 ((e 112 (by omega) (by omega)).1 q)), if_neg c3]
        by_cases c4 : L = 114
        · rw [if_pos ((e 114 (by omega) (by omega)).2 c4), if_pos c4]
          exact fin _ _ (or_draw W hg R h4 h1 h2 (by omega) (by omega))
        · rw [if_neg (fun q => c4 ((e 114 (by omega) (by omega)).1 q)), if_neg c4]
          by_cases c5 : L = 119
          · rw [if_pos ((e 119 (by omega) (by omega)).2 c5), if_pos c5]
            exact fin _ _ (or_wait W hg R h4 h1 h2)
          · rw [if_neg (fun q => c5 ((e 119 (by omega) (by omega)).1 q)), if_neg c5]
            exact fin _ _ (or_clean W hg R h4)
/-! the reference: only its row and its cause differ -/
def OD (S T : Mem) : Prop := (∀ h k, ¬ (h = 0 ∧ (k = 0 ∨ k = 1)) → T h k = S h k) ∧ ∀ j, j ≠ 10 → T 0 0 j = S 0 0 j
theorem OS.od (h : OS S T) : OD S T := ⟨fun i k c => h i k (by omega), fun j _ => by rw [h 0 0 (by omega)]⟩
def OrR (f : Option (Int32 × Mem)) (S : Mem) (o : Int × Int × Row) : Prop := ∃ T, f = some (zI o.1, T) ∧ RM T o.2.2 ∧ T 0 0 10 = zI o.2.1 ∧ OD S T
/-- behind what 'does' answers -/
theorem or_b116 {L : Int32} {s0 : Int} {x : Int × Row} (hb : -2147483648 ≤ x.1) (hb2 : x.1 < 2147483648) (h10 : S 0 0 10 = zI (-1000004)) (hd : ∃ T, f_X8_does L S = some (zI x.1, T) ∧ RM T x.2 ∧ OS S T) : OrR (f_X8_doesNext_b116 L (zI s0) S) S (if x.1 ≤ -1000001 then 3 else 0, if x.1 ≤ -1000001 then s0 else -1000004, x.2) := by
  obtain ⟨T, t1, t2, t3⟩ := hd
  unfold f_X8_doesNext_b116
  rw [ob_of t1, zm_1000001]
  have e : zI (-1000001) < zI x.1 ↔ -1000001 < x.1 := zI_lt (by omega) (by omega) hb hb2
  by_cases c : x.1 ≤ -1000001
  · rw [if_neg (fun q => by have := e.1 q; omega), if_pos c, if_pos c]
    exact ⟨up3 T 0 0 10 (zI s0), rfl, t2.same (up3_cell _ _ (by omega)), up3_at _ _ _ _ _, fun h k q => by rw [up3_cell _ _ (by omega)]; exact t3 h k (by omega), fun j hj => by rw [up3_slot _ _ hj, t3 0 0 (by omega)]⟩
  · rw [if_pos (e.2 (by omega)), if_neg c, if_neg c]
    exact ⟨T, rfl, t2, by rw [t3 0 0 (by omega)]; exact h10, t3.od⟩
theorem tkr_b (W : WF a) (z : Int) : -2147483648 ≤ (tkr a z).1 ∧ (tkr a z).1 < 2147483648 := by
  have ws := W.sc
  unfold tkr
  (repeat' split) <;> constructor <;> (dsimp only; omega)
theorem hmr_b (W : WF a) : -2147483648 ≤ (hmr a).1 ∧ (hmr a).1 < 2147483648 := by
  have ws := W.sc
  unfold hmr
  (repeat' split) <;> constructor <;> (dsimp only; omega)
theorem wtr_b (W : WF a) (n : Int) : -2147483648 ≤ (wtr a n).1 ∧ (wtr a n).1 < 2147483648 := by
  have ws := W.sc
  unfold wtr
  split
  · constructor <;> (dsimp only; omega)
  · rename_i c
    have c2 : 1 ≤ n ∧ n ≤ 200 := Classical.byContradiction c
    split
    · constructor
      · show (_ : Int) ≤ a 7 + n; omega
      · show a 7 + n < (_ : Int); omega
    · constructor <;> (dsimp only; omega)
theorem cnr_b (W : WF a) : -2147483648 ≤ (cnr a).1 ∧ (cnr a).1 < 2147483648 := by
  have ws := W.sc
  unfold cnr
  split
  · constructor <;> (dsimp only; omega)
  · rename_i c
    have u := W.pen (show (a 8).toNat < np a by omega)
    split
    · constructor
      · show (_ : Int) ≤ pa a (a 8).toNat 4; omega
      · show pa a (a 8).toNat 4 < (_ : Int); omega
    · constructor <;> (dsimp only; omega)
theorem dwr_b (W : WF a) (z v : Int) : -2147483648 ≤ (dwr a z v).1 ∧ (dwr a z v).1 < 2147483648 := by
  have ws := W.sc
  unfold dwr
  by_cases c : ¬ (0 ≤ z ∧ z < nl a) ∨ ¬ (0 ≤ v ∧ v ≤ 1)
  · rw [if_pos c]; constructor <;> (dsimp only; omega)
  · rw [if_neg c]
    by_cases e : rsn a z.toNat v 0 = 0
    · rw [if_pos e]
      obtain ⟨p, p1, p2, p3, p4⟩ := rsn_ok W e
      have hl : z.toNat < nl a := by omega
      have dr := dst_rg (x := a 9) (y := a 10) (by omega) (by omega) (bX_rg W hl v) (bY_rg W hl v)
      have vv := W.line hl
      constructor
      · show (_ : Int) ≤ a 7 + (dst (a 9) (a 10) (bX a z.toNat v) (bY a z.toNat v) + len a z.toNat); omega
      · show a 7 + (dst (a 9) (a 10) (bX a z.toNat v) (bY a z.toNat v) + len a z.toNat) < (_ : Int); omega
    · rw [if_neg e]; constructor <;> (dsimp only; omega)
theorem or_dn (W : WF a) (Q : RM S a) (h10 : S 0 0 10 = zI (-1000004)) {v w : Int} (h8 : S 0 0 8 = zI v) (h1 : -2147483648 ≤ v) (h2 : v < 2147483648) (w0 : 0 ≤ w) (w1 : w ≤ 1) {L : Int} (hL : (L = 100 ∧ w = 0) ∨ (L = 114 ∧ w = 1)) : OrR (f_X8_doesNext_b47 (zI L) S) S (ordd a v w) := by
  have ws := W.sc
  have kd : ∃ T, f_X8_does (zI L) S = some (zI (dwr a v w).1, T) ∧ RM T (dwr a v w).2 ∧ OS S T := by
    obtain ⟨T, t1, t2, t3⟩ := k_draws W Q h1 h2 (v := w) (by omega) (by omega)
    refine ⟨T, ?_, t2, t3⟩
    unfold f_X8_does
    rw [h8, zl_0, zl_1]
    rcases hL with ⟨rfl, rfl⟩ | ⟨rfl, rfl⟩
    · rw [if_pos (show zI 100 = 100 by decide), ob_of t1]
    · rw [if_neg (show ¬ zI 114 = 100 by decide), if_neg (show ¬ zI 114 = 104 by decide), if_neg (show ¬ zI 114 = 112 by decide), if_pos (show zI 114 = 114 by decide), ob_of t1]
  have n112 : ¬ (zI L = 112) := by rw [zl_112, zI_eq (by omega) (by omega) (by omega) (by omega)]; omega
  unfold f_X8_doesNext_b47 f_X8_doesNext_b52 f_X8_doesNext_b70 f_X8_doesNext_b85 f_X8_doesNext_b87
  rw [if_neg n112, if_neg (show ¬ ((1 : Int32) = 0) by decide), h8, ob_of (k_isLine W Q h1 h2)]
  unfold ordd
  by_cases c : 0 ≤ v ∧ v < nl a
  · obtain ⟨l, rfl⟩ : ∃ p : Nat, v = p := ⟨v.toNat, by omega⟩
    have hl : l < nl a := by omega
    have kw := k_why W Q hl w0 w1 (t := 0) (by omega) (by omega)
    have e2 : (if zI L = 100 then f_X8_doesNext_b107 (zI L) (zI l) 0 S else f_X8_doesNext_b107 (zI L) (zI l) 1 S) = f_X8_doesNext_b116 (zI L) (zI (rsn a l w 0)) S := by
      unfold f_X8_doesNext_b107
      rw [zl_0, zl_1]
      rcases hL with ⟨rfl, rfl⟩ | ⟨rfl, rfl⟩
      · rw [if_pos (show zI 100 = 100 by decide), ob_of kw]
      · rw [if_neg (show ¬ zI 114 = 100 by decide), ob_of kw]
    rw [bP_t c, if_neg (show ¬ (zI 1 = 0) by decide), if_neg (show ¬ ((1 : Int32) = 0) by decide), h8, e2, if_neg (show ¬ ¬ (0 ≤ (l : Int) ∧ (l : Int) < (nl a : Int)) from fun q => q c), Int.toNat_natCast]
    have bb := dwr_b W (l : Int) w
    have ob := or_b116 (s0 := rsn a l w 0) bb.1 bb.2 h10 kd
    unfold dwr at ob
    rw [if_neg (show ¬ (¬ (0 ≤ (l : Int) ∧ (l : Int) < (nl a : Int)) ∨ ¬ (0 ≤ w ∧ w ≤ 1)) from fun q => q.elim (fun t => t c) (fun t => t ⟨w0, w1⟩)), Int.toNat_natCast] at ob
    by_cases e : rsn a l w 0 = 0
    · rw [if_pos e] at ob
      rw [if_pos e]
      obtain ⟨p, p1, p2, p3, p4⟩ := rsn_ok W e
      have dr := dst_rg (x := a 9) (y := a 10) (by omega) (by omega) (bX_rg W hl w) (bY_rg W hl w)
      have vv := W.line hl
      have ng : ¬ (a 7 + (dst (a 9) (a 10) (bX a l w) (bY a l w) + len a l) ≤ -1000001) := by omega
      simp only [if_neg ng] at ob
      exact ob
    · rw [if_neg e] at ob
      rw [if_neg e]
      simp only [show ((-1000002 : Int) ≤ -1000001) = True from eq_true (by decide), ↓reduceIte] at ob
      exact ob
  · rw [bP_f c, if_pos (show zI 0 = 0 by decide), if_pos c]
    exact ⟨S, rfl, Q, h10, OS.rf.od⟩
theorem k_doesIt (W : WF a) (Q : RM S a) (h10 : S 0 0 10 = zI (-1000004)) {L v : Int} (h8 : S 0 0 8 = zI v) (h1 : -2147483648 ≤ v) (h2 : v < 2147483648) (h5 : L = 100 ∨ L = 104 ∨ L = 112 ∨ L = 114 ∨ L = 119 ∨ L = 99) : OrR (if zI L = 100 then f_X8_doesNext_b47 (zI L) S else if zI L = 114 then f_X8_doesNext_b47 (zI L) S else f_X8_doesNext_b52 (zI L) 0 S) S (ord a L v) := by
  have ws := W.sc
  have e : ∀ k : Int, 0 ≤ k → k ≤ 1000 → (zI L = zI k ↔ L = k) := fun k a1 a2 => zI_eq (by omega) (by omega) (by omega) (by omega)
  by_cases c1 : L = 100
  · subst c1
    rw [if_pos (show zI 100 = 100 by decide)]
    exact or_dn W Q h10 h8 h1 h2 (by omega) (by omega) (.inl ⟨rfl, rfl⟩)
  · by_cases c4 : L = 114
    · subst c4
      rw [if_neg (show ¬ zI 114 = 100 by decide), if_pos (show zI 114 = 114 by decide)]
      exact or_dn W Q h10 h8 h1 h2 (by omega) (by omega) (.inr ⟨rfl, rfl⟩)
    · have m1 : ¬ (zI L = 100) := by rw [zl_100]; exact fun q => c1 ((e 100 (by omega) (by omega)).1 q)
      have m2 : ¬ (zI L = 114) := by rw [zl_114]; exact fun q => c4 ((e 114 (by omega) (by omega)).1 q)
      rw [if_neg m1, if_neg m2]
      unfold f_X8_doesNext_b52 f_X8_doesNext_b70 f_X8_doesNext_b85 f_X8_doesNext_b87
      unfold ord
      rw [if_neg c1]
      have z : zI (-1000004) = -1000004 := zm_1000004.symm
      rw [if_pos (show (0 : Int32) = 0 from rfl), if_pos (show (0 : Int32) = 0 from rfl), ← z]
      have fix : ∀ x : Int × Row, OrR (f_X8_doesNext_b116 (zI L) (zI (-1000004)) S) S (if x.1 ≤ -1000001 then 3 else 0, if x.1 ≤ -1000001 then -1000004 else -1000004, x.2) → OrR (f_X8_doesNext_b116 (zI L) (zI (-1000004)) S) S (ordm x) := by
        intro x h
        rw [show (if x.1 ≤ -1000001 then (-1000004 : Int) else -1000004) = -1000004 by split <;> rfl] at h
        exact h
      by_cases c3 : L = 112
      · subst c3
        rw [if_pos (show zI 112 = 112 by decide), if_neg (show ¬ (112 : Int) = 104 by decide), if_pos rfl, h8, ob_of (k_isPen W Q h1 h2)]
        by_cases d : 0 ≤ v ∧ v < np a
        · rw [bP_t d, if_neg (show ¬ (zI 1 = 0) by decide), if_pos (show (0 : Int32) = 0 from rfl), if_pos (show (0 : Int32) = 0 from rfl), if_neg (show ¬ ¬ (0 ≤ v ∧ v < np a) from fun q => q d)]
          have bb := tkr_b W v
          refine fix _ (or_b116 bb.1 bb.2 h10 ?_)
          obtain ⟨T, t1, t2, t3⟩ := k_takes W Q h1 h2
          refine ⟨T, ?_, t2, t3⟩
          unfold f_X8_does
          rw [h8, if_neg (show ¬ zI 112 = 100 by decide), if_neg (show ¬ zI 112 = 104 by decide), if_pos (show zI 112 = 112 by decide), ob_of t1]
        · rw [bP_f d, if_pos (show zI 0 = 0 by decide), if_pos d]
          exact ⟨S, rfl, Q, h10, OS.rf.od⟩
      · have m3 : ¬ (zI L = 112) := by rw [zl_112]; exact fun q => c3 ((e 112 (by omega) (by omega)).1 q)
        rw [if_neg m3]
        by_cases c2 : L = 104
        · subst c2
          rw [if_pos rfl]
          have bb := hmr_b W
          refine fix _ (or_b116 bb.1 bb.2 h10 ?_)
          obtain ⟨T, t1, t2, t3⟩ := k_goesHome W Q
          refine ⟨T, ?_, t2, t3⟩
          unfold f_X8_does
          rw [if_neg (show ¬ zI 104 = 100 by decide), if_pos (show zI 104 = 104 by decide), ob_of t1]
        · rw [if_neg c2, if_neg c3, if_neg c4]
          by_cases c5 : L = 119
          · subst c5
            rw [if_pos rfl]
            have bb := wtr_b W v
            refine fix _ (or_b116 bb.1 bb.2 h10 ?_)
            obtain ⟨T, t1, t2, t3⟩ := k_waited W Q h1 h2
            refine ⟨T, ?_, t2, t3⟩
            unfold f_X8_does
            rw [h8, if_neg (show ¬ zI 119 = 100 by decide), if_neg (show ¬ zI 119 = 104 by decide), if_neg (show ¬ zI 119 = 112 by decide), if_neg (show ¬ zI 119 = 114 by decide), if_pos (show zI 119 = 119 by decide), ob_of t1]
          · obtain rfl : L = 99 := by omega
            rw [if_neg c5]
            have bb := cnr_b W
            refine fix _ (or_b116 bb.1 bb.2 h10 ?_)
            obtain ⟨T, t1, t2, t3⟩ := k_cleans W Q
            refine ⟨T, ?_, t2, t3⟩
            unfold f_X8_does
            rw [if_neg (show ¬ zI 99 = 100 by decide), if_neg (show ¬ zI 99 = 104 by decide), if_neg (show ¬ zI 99 = 112 by decide), if_neg (show ¬ zI 99 = 114 by decide), if_neg (show ¬ zI 99 = 119 by decide), ob_of t1]
end
