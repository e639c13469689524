/-! the history: by hand -/
def iniP (k j : Nat) : Int32 := if k = 1 then tabF j else if k = 0 ∧ j = 4 then (-1) else 0
def newP (M : Mem) (g : Nat) : Mem := fun g' k j => if g' = g then iniP k j else M g' k j
theorem newP_new (M : Mem) (g k : Nat) : newP M g g k = iniP k := by funext j; simp [newP]
theorem newP_old (M : Mem) {g g' : Nat} (k : Nat) (h : g' ≠ g) : newP M g g' k = M g' k := by funext j; simp [newP, h]
theorem adC_new (G : GG) (ns k : Nat) : adC G (3 + ns) k = szC G ns + k := by
  unfold adC szC
  rw [if_neg (by omega), if_neg (by omega)]
  omega
theorem iniP_0 (k : Nat) (h0 : k ≠ 0) (h1 : k ≠ 1) : iniP k = fun _ => 0 := by funext j; simp [iniP, h0, h1]
theorem iniP_1 : iniP 1 = tabF := by funext j; simp [iniP]
theorem fi_new (G : GG) (ns : Nat) : ∀ k, k < 21 → (fi_X5_init G (szC G ns))[k]? = some (entP G (3 + ns) k (iniP k)) := by
  intro k hk
  have e := adC_new G ns
  rcases (show k = 0 ∨ k = 1 ∨ k = 2 ∨ k = 3 ∨ k = 4 ∨ k = 5 ∨ k = 6 ∨ k = 7 ∨ k = 8 ∨ k = 9 ∨ k = 10 ∨ k = 11 ∨ k = 12 ∨ k = 13 ∨ k = 14 ∨ k = 15 ∨ k = 16 ∨ k = 17 ∨ k = 18 ∨ k = 19 ∨ k = 20 by omega) with rfl | rfl | rfl | rfl | rfl | rfl | rfl | rfl | rfl | rfl | rfl | rfl | rfl | rfl | rfl | rfl | rfl | rfl | rfl | rfl | rfl
  · simp only [entP, e]; rfl
  · rw [iniP_1]; rfl
  · simp only [entP, e]; rfl
  · rw [iniP_0 3 (by decide) (by decide)]; rfl
  · rw [iniP_0 4 (by decide) (by decide)]; rfl
  · rw [iniP_0 5 (by decide) (by decide)]; rfl
  · rw [iniP_0 6 (by decide) (by decide)]; rfl
  · rw [iniP_0 7 (by decide) (by decide)]; rfl
  · rw [iniP_0 8 (by decide) (by decide)]; rfl
  · rw [iniP_0 9 (by decide) (by decide)]; rfl
  · simp only [entP, e]; rfl
  · rw [iniP_0 11 (by decide) (by decide)]; rfl
  · rw [iniP_0 12 (by decide) (by decide)]; rfl
  · rw [iniP_0 13 (by decide) (by decide)]; rfl
  · rw [iniP_0 14 (by decide) (by decide)]; rfl
  · rw [iniP_0 15 (by decide) (by decide)]; rfl
  · rw [iniP_0 16 (by decide) (by decide)]; rfl
  · rw [iniP_0 17 (by decide) (by decide)]; rfl
  · rw [iniP_0 18 (by decide) (by decide)]; rfl
  · rw [iniP_0 19 (by decide) (by decide)]; rfl
  · rw [iniP_0 20 (by decide) (by decide)]; rfl
theorem entM_ns (G : GG) (n1 n2 k : Nat) (hk : k < 13) (h : k ≠ 2) (m : Nat → Int32) : entM G n1 k m = entM G n2 k m := by
  rcases (show k = 0 ∨ k = 1 ∨ k = 2 ∨ k = 3 ∨ k = 4 ∨ k = 5 ∨ k = 6 ∨ k = 7 ∨ k = 8 ∨ k = 9 ∨ k = 10 ∨ k = 11 ∨ k = 12 by omega) with rfl | rfl | rfl | rfl | rfl | rfl | rfl | rfl | rfl | rfl | rfl | rfl | rfl <;> first | rfl | exact absurd rfl h
theorem adC_lt (G : GG) {ns g k : Nat} (h : dmC ns g k) : adC G g k < szC G ns := by
  unfold dmC pg at h
  unfold adC szC
  by_cases c1 : g = 0 <;> simp only [c1, if_true, if_false]
  · by_cases d1 : k = 0 <;> simp only [d1, if_true, if_false] <;> omega
  · by_cases d1 : g ≤ 2 <;> simp only [d1, if_true, if_false] <;> omega
def stA (G : GG) (ns : Nat) : Nat → Option Nat := fun i => if i < ns then some (adC G (3 + i) 0) else none
theorem PW_grow {G : GG} {ns : Nat} {M : Mem} {s : State} {H0 H1 H2 : Heap} (hP : PW G (AC G) (XC G ns) (szC G ns) M s H0) (h1 : PLW G (szC G ns) (fi_X5_init G (szC G ns)) s H1) (hk : ∀ q : Nat, q < H0.size → H1[q]? = H0[q]?)
    (e : H2[adC G 0 2]? = some (vp_cell G.2.1.2.2.2 (4, .inr (.inr (.inr (.inr (va_up (stA G ns) ns (some (adC G (3 + ns) 0)))))))) ) (z : H2.size = H1.size) (oq : ∀ q : Nat, q ≠ adC G 0 2 → H2[q]? = H1[q]?) : PW G (AC G) (XC G (ns + 1)) (szC G (ns + 1)) (newP M (3 + ns)) s H2 := by
  have hH0 : H0.size = szC G ns := hP.2.2.1
  have h02 : adC G 0 2 < szC G ns := adC_lt G (dm0 (by decide))
  have hkeep : ∀ g k, dmC ns g k → ¬ (g = 0 ∧ k = 2) → H2[adC G g k]? = H0[adC G g k]? := by
    intro g k hd hne
    rw [oq _ (fun h => hne ((XC_ok G ns).1 g k 0 2 hd (dm0 (by decide)) h)), hk _ (by rw [hH0]; exact adC_lt G hd)]
  refine ⟨XC_ok G (ns + 1), fun g k hd => ?_, by rw [z, h1.1.1]; show szC G ns + 21 = szC G (ns + 1); unfold szC; omega, hP.2.2.2.kept (fun a ha hA => ?_)⟩
  · have hd : dmC (ns + 1) g k := hd
    show va_at G.1 vwCl (adC G g k, entC G (ns + 1) g k (newP M (3 + ns) g k)) H2
    by_cases hnew : g = 3 + ns
    · subst hnew
      have hk21 : k < 21 := by
        unfold dmC at hd
        omega
      rw [newP_new]
      have h2 := h1.1.2 k _ (fi_new G ns k hk21)
      rw [← adC_new] at h2
      have e3 : entC G (ns + 1) (3 + ns) k (iniP k) = entP G (3 + ns) k (iniP k) := by
        rw [show 3 + ns = (2 + ns) + 1 by omega]
        rfl
      rw [e3]
      refine h2.kept ?_
      refine oq _ (fun h => ?_)
      have h : adC G (3 + ns) k = adC G 0 2 := h
      rw [adC_new] at h
      omega
    · rw [newP_old M k hnew]
      have hd0 : dmC ns g k := by
        unfold dmC pg at hd ⊢
        omega
      by_cases h2 : g = 0 ∧ k = 2
      · obtain ⟨rfl, rfl⟩ := h2
        show H2[adC G 0 2]? = some (vp_cell _ _)
        rw [e]
        congr 7
        funext i
        by_cases hi : i = ns
        · subst hi
          simp [va_up]
        · simp only [va_up, stA, if_neg hi]
          by_cases hl : i < ns
          · rw [if_pos hl, if_pos (Nat.lt_succ_of_lt hl)]
          · rw [if_neg hl, if_neg (by omega)]
      · have h3 := (hP.2.1 g k hd0).kept (hkeep g k hd0 h2)
        have e3 : entC G (ns + 1) g k (M g k) = entC G ns g k (M g k) := by
          cases g with
          | zero =>
            have hk13 : k < 13 := by
              unfold dmC pg at hd0
              omega
            exact entM_ns G (ns + 1) ns k hk13 (fun h => h2 ⟨rfl, h⟩) _
          | succ g => rfl
        rw [e3]
        exact h3
  · rw [oq a (fun h => hA (by rw [h]; exact (XC_ok G ns).2 0 2 (dm0 (by decide)))), hk a ha]
section HI
variable {p : Program} {l : Launch} {e : Env} {R : Room} {s : State} {m : MethodId} {args : Array Value} {below : List Frame} {meth : Method} {c : Code} {H H0 : Heap} {locs : List Loc} {cells slots : Nat} {Q : State → Prop}
variable {cc : ByteArray} {pc nL : Nat} {ls : Array Slot} {rest : List Value} {G : GG} {own : String} {ret : Option FieldType} {ns sz : Nat} {M : Mem}
theorem kr_sts (hP : PW G (AC G) (XC G ns) sz M s H) : H[adC G 0 2]? = some (vp_cell G.2.1.2.2.2 (4, .inr (.inr (.inr (.inr (stA G ns)))))) := hP.2.1 0 2 (dm0 (by decide))
theorem kr_aald (E : Cx p s m args meth c cc ret nL own G) (hP : PW G (AC G) (XC G ns) sz M s H) {i : Int32} (hi : ibd i 4 = true) (hdg : decode cc pc = .ok (.aaload, 1))
    (kk : W p l e R s m args below meth c H locs cells slots Q (F0 m (pc + 1) ls (va_rf (stA G ns (ix i)) :: rest))) : W p l e R s m args below meth c H locs cells slots Q (F0 m pc ls (.int i :: .ref (adC G 0 2) :: rest)) := by
  obtain ⟨hx, hb, hr, hlocks, hml, hown, hts, hK⟩ := E
  exact va_aldq (ws := [(adC G 0 2, .inl (G.2.1.2.2.2, 4, .inr (.inr (.inr (.inr (stA G ns))))))]) hx hb hK.1 (kn_one (kr_sts hP)) 0 3 rfl rfl (ibd_in hi) hdg kk
/-- a plotter goes into the history's row -/
theorem kr_aast (E : Cx p s m args meth c cc ret nL own G) (hP : PW G (AC G) (XC G ns) sz M s H) (hS : va_S (AC G) H0 H locs) {i : Int32} (hi : ibd i 4 = true) {v : Nat} {vs : List Value} (hv : va_at G.1 vwCl (v, .inr (5, vs)) H) (hdg : decode cc pc = .ok (.aastore, 1))
    (kk : ∀ (H1 : Heap) (locs1 : List Loc), H1[adC G 0 2]? = some (vp_cell G.2.1.2.2.2 (4, .inr (.inr (.inr (.inr (va_up (stA G ns) (ix i) (some v))))))) → H1.size = H.size → (∀ q : Nat, q ≠ adC G 0 2 → H1[q]? = H[q]?) → va_S (AC G) H0 H1 locs1 → W p l e R s m args below meth c H1 locs1 cells slots Q (F0 m (pc + 1) ls rest)) : W p l e R s m args below meth c H locs cells slots Q (F0 m pc ls (.ref v :: .int i :: .ref (adC G 0 2) :: rest)) := by
  obtain ⟨hx, hb, hr, hlocks, hml, hown, hts, hK⟩ := E
  have hin := ibd_in hi
  have hlt : i.toNatClampNeg < 4 := Nat.not_le.mp fun q => hin (Or.inr q)
  have h0 : ¬ i < 0 := fun q => hin (Or.inl q)
  obtain ⟨r', hr', cellV, g1, g2, g3, -⟩ := hv
  have hr1 : r' = (RX5, TX5, 9) := Option.some.inj (hr'.symm.trans rfl)
  subst hr1
  have hcls := (hK.1.1 5 _ rfl).2
  obtain ⟨kA, comp, k1, k2, k3, -⟩ := (hK.1.2 3 _ rfl).2
  have hcomp : comp = G.1.1 5 := Option.some.inj (k3.symm.trans hcls.1)
  subst hcomp
  obtain ⟨kC, hkC, -⟩ := hcls.2
  refine W.aast hx hb (kr_sts hP) (fun q h => by cases h) (fun h => by cases h) k1 k2 rfl hkC ⟨h0, by show _ < (arrV _ _ _).slots.size; rw [arrV_size]; exact hlt⟩ g1 (fun q h => by rw [g3] at h; cases h) (by rw [g2]; exact hkC) (by rw [g2]; exact va_assign hcls) rfl rfl hdg fun H1 e1 z oq => ?_
  refine kk H1 _ ?_ z oq (hS.put z oq ((XC_ok G ns).2 0 2 (dm0 (by decide))))
  rw [e1]
  rw [vp_cell_q, vp_cell_q, arrV_store]
  congr 2
  funext q
  by_cases hq : q = i.toNatClampNeg
  · subst hq
    simp [updV, va_up, va_rf, ix]
  · simp [updV, va_up, hq, ix]
end HI
/-- behind the plotter's making: it takes the state, the places go on -/
def f_X1_record_b32 (g g2 ns : Nat) (M : Mem) : Option (Nat × Mem) :=
  ob (f_X5_copyFrom g2 g M) fun _ M1 =>
  lt (up3 M1 0 1 1 ((M1 0 1 1 + 1) - (M1 0 1 1 + 1) / 4 * 4)) fun M2 =>
  lt (up3 M2 0 1 2 (mn (M2 0 1 2 + 1) 4)) fun M3 =>
  some (ns, M3)
def f_X1_record (g ns : Nat) (M : Mem) : Option (Nat × Mem) :=
  ck (ibd (M 0 1 1) 4) <|
  (if ix (M 0 1 1) < ns then
    f_X1_record_b32 g (3 + ix (M 0 1 1)) ns M
  else
    ck (decide (ix (M 0 1 1) = ns)) <|
    f_X1_record_b32 g (3 + ns) (ns + 1) (newP M (3 + ns)))
def f_X1_restoreTo (g ns : Nat) (M : Mem) : Option (Unit × Mem) :=
  lt ((M 0 1 1 + 4 - 1) - (M 0 1 1 + 4 - 1) / 4 * 4) fun x2 =>
  ck (ibd x2 4) <|
  (if M 0 1 2 = 0 then
    some ((), M)
  else
    (if ix x2 < ns then
      ob (f_X5_copyFrom g (3 + ix x2) M) fun _ M1 =>
      lt (up3 M1 0 1 1 x2) fun M2 =>
      lt (up3 M2 0 1 2 (M2 0 1 2 - 1)) fun M3 =>
      some ((), M3)
    else
      some ((), M)))
theorem en_va {r ns : Nat} {p : Program} {l : Launch} {e : Env} {R : Room} {s : State} {m : MethodId} {args : Array Value} {below : List Frame} {meth : Method} {c : Code} {H : Heap} {locs : List Loc} {cells slots : Nat} {cc : ByteArray} {pc : Nat} {ls : Array Slot} {G : GG} {M M' : Mem} (hf : some (ns, M) = some (r, M')) (hx : p.tables.exec = Jvm.exec) (hb : c.code = cc) (hr : meth.sig.returnType = none) (hlocks : meth.locks = false) (hP : PW G (AC G) (XC G ns) (szC G ns) M s H) (hS : va_S (AC G) s.heap H locs) (hdg : decode cc pc = .ok (.return_, 1)) :
    W p l e R s m args below meth c H locs cells slots (MQ below (va_Qv (fun (_ : Unit) => True) (fun _ t => PW G (AC G) (XC G r) (szC G r) M' t t.heap) (AC G)) args s cells slots (AC G)) (F0 m pc ls []) := by
  cases hf
  exact W.vret hx hb hr (fun t ht hW => ⟨⟨(), rfl, trivial, by show PW G (AC G) (XC G r) (szC G r) _ t t.heap; rw [ht]; exact hP.moved hW.alike⟩, hS.F ht⟩) hS.2.2 hdg hlocks
abbrev rm_X1_record : Room := { frames := 4, cells := 21, slots := 228, locals := 123 }
set_option maxHeartbeats 4000000 in
set_option maxRecDepth 100000 in
theorem w_X1_record_b32 {p : Program} {l : Launch} {e : Env} {s : State} {m : MethodId} {args : Array Value} {below : List Frame} {meth : Method} {c : Code} {G : GG} {ns g g2 : Nat} {r : Nat} {M' : Mem} (E : Cx p s m args meth c cX1_record none 3 RX1 G) (hg : pg ns g) (hg2 : pg ns g2) {M : Mem} {H : Heap} {locs : List Loc} {ls : Array Slot} (hf : f_X1_record_b32 g g2 ns M = some (r, M')) (hP : PW G (AC G) (XC G ns) (szC G ns) M s H) (hS : va_S (AC G) s.heap H locs) (hl : lv_has ls 3 [(0, .ref (adC G 0 1)), (1, .ref (adC G g 0)), (2, .ref (adC G g2 0))]) : W p l e rm_X1_record s m args below meth c H locs 21 228 (MQ below (va_Qv (fun (_ : Unit) => True) (fun _ t => PW G (AC G) (XC G r) (szC G r) M' t t.heap) (AC G)) args s 21 228 (AC G)) (F0 m 32 ls []) := by
  obtain ⟨hx, hb, hr, hlocks, hml, hown, hts, hK⟩ := id E
  unfold f_X1_record_b32 at hf
  refine lv_aload_n hx hb dX1_record_32 rfl (lv_at hl 2 rfl) ?_
  refine lv_aload_n hx hb dX1_record_33 rfl (lv_at hl 1 rfl) ?_
  refine ob_e hf (fun r_1 M1 hq hf => ?_)
  refine cv_X5_copyFrom E hP hS hg2 hg hq w_292 ⟨(Nat.le_of_ble_eq_true rfl), (Nat.le_of_ble_eq_true rfl)⟩ hl (Nat.le_of_ble_eq_true rfl) dX1_record_34 ⟨(Nat.le_of_ble_eq_true rfl), (Nat.le_of_ble_eq_true rfl)⟩ (fun H locs hP hS => ?_)
  refine lv_aload_n hx hb dX1_record_37 rfl (lv_at hl 0 rfl) ?_
  refine lv_aload_n hx hb dX1_record_38 rfl (lv_at hl 0 rfl) ?_
  refine gf_X1_next E hP w_180 dX1_record_39 ?_
  refine lv_iconst (v := 1) hx hb dX1_record_42 (by decide) ?_
  refine lv_iadd hx hb dX1_record_43 ?_
  refine lv_iconst (v := 4) hx hb dX1_record_44 (by decide) ?_
  refine lv_irem hx hb dX1_record_45 (by decide) ?_
  refine lt_e hf (fun M2 hM2 hf => ?_)
  refine pf_X1_next E hP hS hM2 w_180 dX1_record_46 (fun H locs hP hS => ?_)
  refine lv_aload_n hx hb dX1_record_49 rfl (lv_at hl 0 rfl) ?_
  refine lv_aload_n hx hb dX1_record_50 rfl (lv_at hl 0 rfl) ?_
  refine gf_X1_many E hP w_181 dX1_record_51 ?_
  refine lv_iconst (v := 1) hx hb dX1_record_54 (by decide) ?_
  refine lv_iadd hx hb dX1_record_55 ?_
  refine lv_iconst (v := 4) hx hb dX1_record_56 (by decide) ?_
  refine va_mmin hx hb (hml.trans hl.1.symm) hown (hts _ w_315) (hts _ w_300) (hts _ w_9) (hts _ w_301) (Nat.le_of_ble_eq_true rfl) (Nat.le_of_ble_eq_true rfl) (Nat.le_of_ble_eq_true rfl) (Nat.le_of_ble_eq_true rfl) dX1_record_57 ?_
  refine kr_nm (y := (mn (M2 0 1 2 + 1) 4)) rfl ?_
  refine lt_e hf (fun M3 hM3 hf => ?_)
  refine pf_X1_many E hP hS hM3 w_181 dX1_record_60 (fun H locs hP hS => ?_)
  exact en_va hf hx hb hr hlocks hP hS dX1_record_63
set_option maxHeartbeats 4000000 in
set_option maxRecDepth 100000 in
theorem w_X1_record {p : Program} {l : Launch} {e : Env} {s : State} {m : MethodId} {args : Array Value} {below : List Frame} {meth : Method} {c : Code} {G : GG} {ns g : Nat} {r : Nat} {M' : Mem} (E : Cx p s m args meth c cX1_record none 3 RX1 G) (hg : pg ns g) {M : Mem} {ls : Array Slot} (hf : f_X1_record g ns M = some (r, M')) (hP : PW G (AC G) (XC G ns) (szC G ns) M s s.heap) (hl : lv_has ls 3 [(0, .ref (adC G 0 1)), (1, .ref (adC G g 0))]) : W p l e rm_X1_record s m args below meth c s.heap [] 0 0 (MQ below (va_Qv (fun (_ : Unit) => True) (fun _ t => PW G (AC G) (XC G r) (szC G r) M' t t.heap) (AC G)) args s 21 228 (AC G)) (F0 m 0 ls []) := by
  obtain ⟨hx, hb, hr, hlocks, hml, hown, hts, hK⟩ := id E
  unfold f_X1_record at hf
  refine lv_aload_n hx hb dX1_record_0 rfl (lv_at hl 0 rfl) ?_
  refine gf_X1_states E hP w_179 dX1_record_1 ?_
  refine lv_aload_n hx hb dX1_record_4 rfl (lv_at hl 0 rfl) ?_
  refine gf_X1_next E hP w_180 dX1_record_5 ?_
  refine ck_e hf (fun hi hf => ?_)
  refine kr_aald E hP hi dX1_record_8 ?_
  by_cases hlt : ix (M 0 1 1) < ns
  · have hf := if_t hf hlt
    have e1 : va_rf (stA G ns (ix (M 0 1 1))) = .ref (adC G (3 + ix (M 0 1 1)) 0) := by
      unfold stA
      rw [if_pos hlt]
      rfl
    rw [e1]
    refine lv_astore_n (lv' := [(2, .ref (adC G (3 + ix (M 0 1 1)) 0)), (0, .ref (adC G 0 1)), (1, .ref (adC G g 0))]) hx hb dX1_record_9 rfl hl (by decide) rfl (fun ls hl => ?_)
    refine lv_aload_n hx hb dX1_record_10 rfl (lv_at hl 0 rfl) ?_
    refine lv_ifnonnull (tgt := 32) hx hb dX1_record_11 (by decide) ?_
    refine W.widen (k := 21) (n := 228) (Nat.le_of_ble_eq_true rfl) (Nat.le_of_ble_eq_true rfl) ?_
    exact w_X1_record_b32 E hg ⟨by omega, by omega⟩ hf hP va_S.rf (lv_sub hl [1, 2, 0] rfl)
  · have hf := if_f hf hlt
    refine ck_e hf (fun he hf => ?_)
    have he : ix (M 0 1 1) = ns := of_decide_eq_true he
    have e1 : va_rf (stA G ns (ix (M 0 1 1))) = .null := by
      unfold stA
      rw [if_neg hlt]
      rfl
    rw [e1]
    refine lv_astore_nN (lv' := [(2, .null), (0, .ref (adC G 0 1)), (1, .ref (adC G g 0))]) hx hb dX1_record_9 rfl hl (by decide) rfl (fun ls hl => ?_)
    refine lv_aload_nN hx hb dX1_record_10 rfl (lv_at hl 0 rfl) ?_
    refine lv_ifnonnullN hx hb dX1_record_11 ?_
    have hsub : ∀ q, AO (szC G ns) q → AC G q := fun q h => Or.inr (Nat.le_trans (by show G.2.2.2 + 55 ≤ szC G ns; unfold szC; omega) h)
    have hL : PLW G (szC G ns) [] s s.heap := ⟨⟨hP.2.2.1, fun i x hx => by cases hx⟩, hP.2.2.2.narrow hsub⟩
    refine kn_new E hL va_S.rf (ci := 5) (fs := [.null, .null, .null, .int 0, .int 0, .int 0, .int 0, .int 0, .int 0]) rfl inX5 tyX5 tyX5_ok w_177 w_20 w_2 (by decide +kernel) (Nat.le_of_ble_eq_true rfl) (Nat.le_of_ble_eq_true rfl) dX1_record_14 (a := szC G ns) rfl (fun H hL hS => ?_)
    refine lv_dup hx hb dX1_record_17 rfl ?_
    refine kn_ctor (ws := []) (fin := fi_X5_init G (szC G ns)) E hl hL hS (oo := szC G ns) rfl (c_X5_init l (szC G ns)) w_291 w_22 w_2 w_23 rfl (by decide +kernel) ⟨(Nat.le_of_ble_eq_true rfl), (Nat.le_of_ble_eq_true rfl)⟩ (Nat.le_of_ble_eq_true rfl) dX1_record_18 ⟨(Nat.le_of_ble_eq_true rfl), (Nat.le_of_ble_eq_true rfl)⟩ (fun H locs hL hS => ?_)
    have hk : ∀ q : Nat, q < s.heap.size → H[q]? = s.heap[q]? := fun q hq => hS.2.1 q hq (fun h => by have h : szC G ns ≤ q := h; rw [hP.2.2.1] at hq; omega)
    have hS : va_S (AC G) s.heap H locs := ⟨hS.1, fun q h1 h2 => hk q h1, fun q hq => hsub _ (hS.2.2 q hq)⟩
    have hP1 : PW G (AC G) (XC G ns) (szC G ns + 21) M s H := ⟨hP.1, hP.2.1.kept (fun g k hd => hk _ (by rw [hP.2.2.1]; exact adC_lt G hd)), hL.1.1, hP.2.2.2.kept (fun q hq _ => hk q hq)⟩
    refine lv_astore_n (lv' := [(2, .ref (szC G ns)), (0, .ref (adC G 0 1)), (1, .ref (adC G g 0))]) hx hb dX1_record_21 rfl hl (by decide) rfl (fun ls hl => ?_)
    refine lv_aload_n hx hb dX1_record_22 rfl (lv_at hl 1 rfl) ?_
    refine gf_X1_states E hP1 w_179 dX1_record_23 ?_
    refine lv_aload_n hx hb dX1_record_26 rfl (lv_at hl 1 rfl) ?_
    refine gf_X1_next E hP1 w_180 dX1_record_27 ?_
    refine lv_aload_n hx hb dX1_record_30 rfl (lv_at hl 0 rfl) ?_
    refine kr_aast E hP1 hS hi (hL.1.2 0 _ rfl) dX1_record_31 (fun H2 locs2 e2 z2 oq2 hS => ?_)
    rw [he] at e2
    have e2 : H2[adC G 0 2]? = some (vp_cell G.2.1.2.2.2 (4, .inr (.inr (.inr (.inr (va_up (stA G ns) ns (some (adC G (3 + ns) 0)))))))) := by
      rw [adC_new]
      exact e2
    have hP2 := PW_grow hP hL hk e2 z2 oq2
    have hl2 : lv_has ls 3 [(0, .ref (adC G 0 1)), (1, .ref (adC G g 0)), (2, .ref (adC G (3 + ns) 0))] := by
      rw [adC_new]
      exact lv_sub hl [1, 2, 0] rfl
    exact w_X1_record_b32 E ⟨hg.1, by have := hg.2; omega⟩ ⟨by omega, by omega⟩ hf hP2 hS hl2
theorem c_X1_record (l : Launch) {G : GG} {ns g : Nat} (hg : pg ns g) {M : Mem} {r : Nat} {M' : Mem} (hf : f_X1_record g ns M = some (r, M')) : CtV l yX1_record cX1_record 3 none rm_X1_record [.ref (adC G 0 1), .ref (adC G g 0)] G (AC G) (XC G ns) (szC G ns) M () (XC G r) (szC G r) M' := by
  refine Ct_of (by decide) (Nat.le_of_ble_eq_true rfl) (fun p e s m below meth c ls hx hb hr hlocks hml hown hts hK hP hl => ?_)
  exact w_X1_record ⟨hx, hb, hr, hlocks, hml, hown, hts, hK⟩ hg hf hP hl
set_option maxRecDepth 100000 in
theorem cv_X1_record {p : Program} {l : Launch} {e : Env} {R : Room} {s : State} {m : MethodId} {args : Array Value} {below : List Frame} {meth : Method} {c : Code} {H : Heap} {locs : List Loc} {cells slots : Nat} {Q : State → Prop} {cc : ByteArray} {pc nL index : Nat} {ret : Option FieldType} {own : String} {ls : Array Slot} {rest : List Value} {l' : List (Nat × Value)} {G : GG} {ns : Nat} {g : Nat} {M : Mem} (E : Cx p s m args meth c cc ret nL own G) (hP : PW G (AC G) (XC G ns) (szC G ns) M s H) (hS : va_S (AC G) s.heap H locs) (hg : pg ns g) {r : Nat} {M' : Mem} (hq : f_X1_record g ns M = some (r, M')) (w1 : Cond.methodLink own index yX1_record ∈ lw_all) (hR : 5 ≤ R.frames ∧ 145 ≤ R.locals) (hl : lv_has ls nL l') (hrest : (rest.map fun v => v.category).sum ≤ 8) (hdg : decode cc pc = .ok (.invokevirtual index, 3)) (hcs : cells + 21 ≤ R.cells ∧ slots + 228 ≤ R.slots)
    (kk : ∀ (H1 : Heap) (locs1 : List Loc), PW G (AC G) (XC G r) (szC G r) M' s H1 → va_S (AC G) s.heap H1 locs1 → W p l e R s m args below meth c H1 locs1 (cells + 21) (slots + 228) Q (F0 m (pc + 3) ls (rest))) : W p l e R s m args below meth c H locs cells slots Q (F0 m pc ls (.ref (adC G g 0) :: .ref (adC G 0 1) :: rest)) := by
  obtain ⟨hx, hb, hr, hlocks, hml, hown, hts, hK⟩ := E
  exact kc_v (kc_runV (na := 1) (q := (RX1, TX1, 3)) hx hb hml hts hown hK hP 0 1 (dm0 (by decide)) rfl rfl rfl (c_X1_record l hg hq) w1 w_288 w_289 w_5 w_290 (by decide +kernel) hR rfl hl rfl hrest hdg hcs) hS kk
abbrev rm_X1_restoreTo : Room := { frames := 4, cells := 0, slots := 0, locals := 123 }
set_option maxHeartbeats 4000000 in
set_option maxRecDepth 100000 in
theorem w_X1_restoreTo {p : Program} {l : Launch} {e : Env} {s : State} {m : MethodId} {args : Array Value} {below : List Frame} {meth : Method} {c : Code} {G : GG} {sz ns g : Nat} {r : Unit} {M' : Mem} (E : Cx p s m args meth c cX1_restoreTo none 4 RX1 G) (hg : pg ns g) {M : Mem} {H : Heap} {locs : List Loc} {ls : Array Slot} (hf : f_X1_restoreTo g ns M = some (r, M')) (hP : PW G (AC G) (XC G ns) sz M s H) (hS : va_S (AC G) s.heap H locs) (hl : lv_has ls 4 [(0, .ref (adC G 0 1)), (1, .ref (adC G g 0))]) : W p l e rm_X1_restoreTo s m args below meth c H locs 0 0 (MQ below (va_Qv (fun (_ : Unit) => True) (fun _ t => PW G (AC G) (XC G ns) sz M' t t.heap) (AC G)) args s 0 0 (AC G)) (F0 m 0 ls []) := by
  obtain ⟨hx, hb, hr, hlocks, hml, hown, hts, hK⟩ := id E
  unfold f_X1_restoreTo at hf
  refine lv_aload_n hx hb dX1_restoreTo_0 rfl (lv_at hl 0 rfl) ?_
  refine gf_X1_next E hP w_180 dX1_restoreTo_1 ?_
  refine lv_iconst (v := 4) hx hb dX1_restoreTo_4 (by decide) ?_
  refine lv_iadd hx hb dX1_restoreTo_5 ?_
  refine lv_iconst (v := 1) hx hb dX1_restoreTo_6 (by decide) ?_
  refine lv_isub hx hb dX1_restoreTo_7 ?_
  refine lv_iconst (v := 4) hx hb dX1_restoreTo_8 (by decide) ?_
  refine lv_irem hx hb dX1_restoreTo_9 (by decide) ?_
  refine lt_e hf (fun x2 hx2 hf => ?_)
  refine kr_nm hx2 ?_
  refine lv_istore_n (lv' := [(2, .int x2), (0, .ref (adC G 0 1)), (1, .ref (adC G g 0))]) hx hb dX1_restoreTo_10 rfl hl (by decide) rfl (fun ls hl => ?_)
  refine lv_aload_n hx hb dX1_restoreTo_11 rfl (lv_at hl 1 rfl) ?_
  refine gf_X1_states E hP w_179 dX1_restoreTo_12 ?_
  refine lv_iload_n hx hb dX1_restoreTo_15 rfl (lv_at hl 0 rfl) ?_
  refine ck_e hf (fun hi hf => ?_)
  refine kr_aald E hP hi dX1_restoreTo_16 ?_
  by_cases hlt : ix x2 < ns
  · have e1 : va_rf (stA G ns (ix x2)) = .ref (adC G (3 + ix x2) 0) := by
      unfold stA
      rw [if_pos hlt]
      rfl
    rw [e1]
    refine lv_astore_n (lv' := [(3, .ref (adC G (3 + ix x2) 0)), (2, .int x2), (0, .ref (adC G 0 1)), (1, .ref (adC G g 0))]) hx hb dX1_restoreTo_17 rfl hl (by decide) rfl (fun ls hl => ?_)
    refine lv_aload_n hx hb dX1_restoreTo_18 rfl (lv_at hl 2 rfl) ?_
    refine gf_X1_many E hP w_181 dX1_restoreTo_19 ?_
    refine lv_if_eq (tgt := 29) hx hb dX1_restoreTo_22 (by decide) (fun hc => ?_) (fun hc => ?_)
    · have hf := if_t hf hc
      exact en_v hf hx hb hr hlocks hP hS dX1_restoreTo_29
    · have hf := if_f hf hc
      have hf := if_t hf hlt
      refine lv_aload_n hx hb dX1_restoreTo_25 rfl (lv_at hl 0 rfl) ?_
      refine lv_ifnonnull (tgt := 30) hx hb dX1_restoreTo_26 (by decide) ?_
      refine lv_aload_n hx hb dX1_restoreTo_30 rfl (lv_at hl 3 rfl) ?_
      refine lv_aload_n hx hb dX1_restoreTo_31 rfl (lv_at hl 0 rfl) ?_
      refine ob_e hf (fun r_1 M1 hq hf => ?_)
      refine cv_X5_copyFrom E hP hS hg (g2 := 3 + ix x2) ⟨by omega, by omega⟩ hq w_292 ⟨(Nat.le_of_ble_eq_true rfl), (Nat.le_of_ble_eq_true rfl)⟩ hl (Nat.le_of_ble_eq_true rfl) dX1_restoreTo_32 ⟨(Nat.le_of_ble_eq_true rfl), (Nat.le_of_ble_eq_true rfl)⟩ (fun H locs hP hS => ?_)
      refine lv_aload_n hx hb dX1_restoreTo_35 rfl (lv_at hl 2 rfl) ?_
      refine lv_iload_n hx hb dX1_restoreTo_36 rfl (lv_at hl 1 rfl) ?_
      refine lt_e hf (fun M2 hM2 hf => ?_)
      refine pf_X1_next E hP hS hM2 w_180 dX1_restoreTo_37 (fun H locs hP hS => ?_)
      refine lv_aload_n hx hb dX1_restoreTo_40 rfl (lv_at hl 2 rfl) ?_
      refine lv_dup hx hb dX1_restoreTo_41 rfl ?_
      refine gf_X1_many E hP w_181 dX1_restoreTo_42 ?_
      refine lv_iconst (v := 1) hx hb dX1_restoreTo_45 (by decide) ?_
      refine lv_isub hx hb dX1_restoreTo_46 ?_
      refine lt_e hf (fun M3 hM3 hf => ?_)
      refine pf_X1_many E hP hS hM3 w_181 dX1_restoreTo_47 (fun H locs hP hS => ?_)
      exact en_v hf hx hb hr hlocks hP hS dX1_restoreTo_50
  · have e1 : va_rf (stA G ns (ix x2)) = .null := by
      unfold stA
      rw [if_neg hlt]
      rfl
    rw [e1]
    refine lv_astore_nN (lv' := [(3, .null), (2, .int x2), (0, .ref (adC G 0 1)), (1, .ref (adC G g 0))]) hx hb dX1_restoreTo_17 rfl hl (by decide) rfl (fun ls hl => ?_)
    refine lv_aload_n hx hb dX1_restoreTo_18 rfl (lv_at hl 2 rfl) ?_
    refine gf_X1_many E hP w_181 dX1_restoreTo_19 ?_
    refine lv_if_eq (tgt := 29) hx hb dX1_restoreTo_22 (by decide) (fun hc => ?_) (fun hc => ?_)
    · have hf := if_t hf hc
      exact en_v hf hx hb hr hlocks hP hS dX1_restoreTo_29
    · have hf := if_f hf hc
      have hf := if_f hf hlt
      refine lv_aload_nN hx hb dX1_restoreTo_25 rfl (lv_at hl 0 rfl) ?_
      refine lv_ifnonnullN hx hb dX1_restoreTo_26 ?_
      exact en_v hf hx hb hr hlocks hP hS dX1_restoreTo_29
theorem c_X1_restoreTo (l : Launch) {G : GG} {sz : Nat} {ns : Nat} {g : Nat} (hg : pg ns g) {M : Mem} {r : Unit} {M' : Mem} (hf : f_X1_restoreTo g ns M = some (r, M')) : CtV l yX1_restoreTo cX1_restoreTo 4 none rm_X1_restoreTo [.ref (adC G 0 1), .ref (adC G g 0)] G (AC G) (XC G ns) sz M r (XC G ns) sz M' := by
  refine Ct_of (by decide) (Nat.le_of_ble_eq_true rfl) (fun p e s m below meth c ls hx hb hr hlocks hml hown hts hK hP hl => ?_)
  exact w_X1_restoreTo ⟨hx, hb, hr, hlocks, hml, hown, hts, hK⟩ hg hf hP va_S.rf hl
set_option maxRecDepth 100000 in
theorem cv_X1_restoreTo {p : Program} {l : Launch} {e : Env} {R : Room} {s : State} {m : MethodId} {args : Array Value} {below : List Frame} {meth : Method} {c : Code} {H : Heap} {locs : List Loc} {cells slots : Nat} {Q : State → Prop} {cc : ByteArray} {pc nL index : Nat} {ret : Option FieldType} {own : String} {ls : Array Slot} {rest : List Value} {l' : List (Nat × Value)} {G : GG} {sz : Nat} {ns : Nat} {g : Nat} {M : Mem} (E : Cx p s m args meth c cc ret nL own G) (hP : PW G (AC G) (XC G ns) sz M s H) (hS : va_S (AC G) s.heap H locs) (hg : pg ns g) {r : Unit} {M' : Mem} (hq : f_X1_restoreTo g ns M = some (r, M')) (w1 : Cond.methodLink own index yX1_restoreTo ∈ lw_all) (hR : 5 ≤ R.frames ∧ 146 ≤ R.locals) (hl : lv_has ls nL l') (hrest : (rest.map fun v => v.category).sum ≤ 8) (hdg : decode cc pc = .ok (.invokevirtual index, 3)) (hcs : cells ≤ R.cells ∧ slots ≤ R.slots)
    (kk : ∀ (H1 : Heap) (locs1 : List Loc), PW G (AC G) (XC G ns) sz M' s H1 → va_S (AC G) s.heap H1 locs1 → W p l e R s m args below meth c H1 locs1 cells slots Q (F0 m (pc + 3) ls (rest))) : W p l e R s m args below meth c H locs cells slots Q (F0 m pc ls (.ref (adC G g 0) :: .ref (adC G 0 1) :: rest)) := by
  obtain ⟨hx, hb, hr, hlocks, hml, hown, hts, hK⟩ := E
  exact kc_v (kc_runV (na := 1) (q := (RX1, TX1, 3)) hx hb hml hts hown hK hP 0 1 (dm0 (by decide)) rfl rfl rfl (c_X1_restoreTo l hg hq) w1 w_449 w_450 w_5 w_451 (by decide +kernel) hR rfl hl rfl hrest hdg hcs) hS kk
